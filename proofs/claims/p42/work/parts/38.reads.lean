/-! The reference's reader as a whole; what its row is bounded by. -/
def pb (k : Nat) : Int × Int := if k = 0 then (0, 9) else if k = 1 then (0, 3) else if k = 2 then (0, 6) else if k < 9 then (0, 2) else if k < 27 then (if k % 3 = 0 then (0, 5) else (0, 9)) else if k < 29 then (0, 9) else if k < 31 then (0, 0) else if k < 33 then (1, 1) else if k < 36 then (0, 0) else if k = 36 then (0, 6) else (0, 0)
def PI (g : Nat → Int) : Prop := ∀ k, k < 38 → (pb k).1 ≤ g k ∧ g k ≤ (pb k).2
theorem PI.ui {g : Nat → Int} (h : PI g) {k : Nat} {v : Int} (hv : (pb k).1 ≤ v ∧ v ≤ (pb k).2) : PI (rg_ui g k v) := by
  intro j hj
  by_cases e : j = k
  · subst e
    rw [rg_ui_s]
    exact hv
  · rw [rg_ui_n e]
    exact h j hj
section PSP
variable {x : Nat → Int} {n : Nat}
theorem PI.f {to : Nat} {lo hi : Int} {q : PS} (h : PI q.2) (hb : (pb to).1 ≤ lo ∧ hi ≤ (pb to).2) : PI (ps_f x n to lo hi q).2.2 := by
  unfold ps_f
  by_cases a : lo ≤ ps_c x n q.1 - 48 ∧ ps_c x n q.1 - 48 ≤ hi
  · rw [if_pos a]
    exact h.ui ⟨by omega, by omega⟩
  · rw [if_neg a]
    exact h
theorem PI.eng {q : PS} (h : PI q.2) : PI (ps_eng x n q).2.2 := by
  unfold ps_eng
  split
  · unfold ps_e1
    have h1 := PI.f (x := x) (n := n) (to := 0) (lo := 1) (hi := 9) (q := (q.1 + 1, q.2)) h (by decide)
    split
    · unfold ps_e2
      have h2 := PI.f (x := x) (n := n) (to := 27) (lo := 0) (hi := 9) h1 (by decide)
      split
      · unfold ps_e3
        have h3 := PI.f (x := x) (n := n) (to := 28) (lo := 0) (hi := 9) h2 (by decide)
        split
        · unfold ps_e4
          exact PI.f h3 (by decide)
        · exact h3
      · exact h2
    · exact h1
  · exact h
theorem ps_rail_02 {c : Int} (h : ps_rail c ≠ -9) : 0 ≤ ps_rail c ∧ ps_rail c ≤ 2 := by
  unfold ps_rail at *
  split
  · omega
  · split
    · omega
    · split
      · omega
      · rename_i a b c
        rw [if_neg a, if_neg b, if_neg c] at h
        exact absurd rfl h
theorem ps_kind_05 {c : Int} (h : ps_kind c ≠ -9) : 0 ≤ ps_kind c ∧ ps_kind c ≤ 5 := by
  unfold ps_kind at *
  repeat' split
  all_goals first | omega | (simp_all)
theorem PI.rl : ∀ (k : Nat) (q : PS), PI q.2 → PI (ps_rl x n k q).2
  | 0, q, h => h
  | k + 1, q, h => by
    show PI (if ps_rail (ps_c x n q.1) ≠ -9 ∧ q.2 2 < 6 then ps_rl x n k (q.1 + 1, rg_ui (rg_ui q.2 (3 + q.2 2).toNat (ps_rail (ps_c x n q.1))) 2 (q.2 2 + 1)) else q).2
    by_cases a : ps_rail (ps_c x n q.1) ≠ -9 ∧ q.2 2 < 6
    · rw [if_pos a]
      have h2 := h 2 (by decide)
      have e2 : pb 2 = (0, 6) := rfl
      rw [e2] at h2
      have h2 : 0 ≤ q.2 2 ∧ q.2 2 ≤ 6 := h2
      have hr := ps_rail_02 a.1
      refine PI.rl k _ (PI.ui (PI.ui h ?_) ?_)
      · have e : pb (3 + q.2 2).toNat = (0, 2) := by
          unfold pb
          rw [if_neg (by omega), if_neg (by omega), if_neg (by omega), if_pos (by omega)]
        rw [e]
        exact hr
      · rw [e2]
        show 0 ≤ q.2 2 + 1 ∧ q.2 2 + 1 ≤ 6
        omega
    · rw [if_neg a]
      exact h
theorem pb_k {m : Int} (m0 : 0 ≤ m) (m5 : m < 6) : pb (9 + 3 * m).toNat = (0, 5) ∧ pb (9 + 3 * m + 1).toNat = (0, 9) ∧ pb (9 + 3 * m + 2).toNat = (0, 9) := by
  refine ⟨?_, ?_, ?_⟩ <;> unfold pb
  · rw [if_neg (by omega), if_neg (by omega), if_neg (by omega), if_neg (by omega), if_pos (by omega), if_pos (by omega)]
  · rw [if_neg (by omega), if_neg (by omega), if_neg (by omega), if_neg (by omega), if_pos (by omega), if_neg (by omega)]
  · rw [if_neg (by omega), if_neg (by omega), if_neg (by omega), if_neg (by omega), if_pos (by omega), if_neg (by omega)]
theorem PI.g36 {g : Nat → Int} (h : PI g) : 0 ≤ g 36 ∧ g 36 ≤ 6 := h 36 (by decide)
theorem PI.wag {q : PS} (h : PI q.2) : PI (ps_wag x n q).2.2 := by
  have h36 := h.g36
  unfold ps_wag
  by_cases a : ps_kind (ps_c x n q.1) = -9 ∨ q.2 36 = 6
  · rw [if_pos a]
    exact h
  · rw [if_neg a]
    generalize q.2 36 = m at *
    have hk := ps_kind_05 (c := ps_c x n q.1) (fun z => a (Or.inl z))
    have hp := pb_k (m := m) h36.1 (by omega)
    unfold ps_w1
    have h1 : PI (rg_ui q.2 (9 + 3 * m).toNat (ps_kind (ps_c x n q.1))) := h.ui (by rw [hp.1]; exact hk)
    have h2 := PI.f (x := x) (n := n) (to := (9 + 3 * m + 1).toNat) (lo := 1) (hi := 9) (q := (q.1 + 1, rg_ui q.2 (9 + 3 * m).toNat (ps_kind (ps_c x n q.1)))) h1 (by rw [hp.2.1]; decide)
    split
    · unfold ps_w2
      have h3 := PI.f (x := x) (n := n) (to := (9 + 3 * m + 2).toNat) (lo := 1) (hi := 9) h2 (by rw [hp.2.2]; decide)
      split
      · refine PI.ui h3 ?_
        show 0 ≤ m + 1 ∧ m + 1 ≤ 6
        omega
      · exact h3
    · exact h2
theorem ps_f_keep {to : Nat} {lo hi : Int} {q : PS} {k : Nat} (h : k ≠ to) : (ps_f x n to lo hi q).2.2 k = q.2 k := by
  unfold ps_f
  split
  · exact rg_ui_n h
  · rfl
theorem ps_wag_ok {q : PS} (hq : q.1 ≤ n) (m0 : 0 ≤ q.2 36) (h : (ps_wag x n q).1 = true) : (ps_wag x n q).2.2 36 = q.2 36 + 1 ∧ q.2 36 ≠ 6 ∧ (ps_wag x n q).2.1 ≤ n := by
  unfold ps_wag at *
  by_cases a : ps_kind (ps_c x n q.1) = -9 ∨ q.2 36 = 6
  · rw [if_pos a] at h
    cases h
  · rw [if_neg a] at h ⊢
    have hp1 := ps_kind_n (x := x) (n := n) (p := q.1) (fun z => a (Or.inl z))
    refine ⟨?_, fun z => a (Or.inr z), ?_⟩
    · unfold ps_w1 at *
      split at h
      · rename_i b
        rw [if_pos b]
        unfold ps_w2 at *
        split at h
        · rename_i b2
          rw [if_pos b2]
          dsimp only
          exact rg_ui_s _ _ _
        · rename_i b2
          exact absurd h b2
      · rename_i b
        exact absurd h b
    · unfold ps_w1 at *
      split at h
      · rename_i b
        rw [if_pos b]
        unfold ps_w2 at *
        split at h
        · rename_i b2
          rw [if_pos b2]
          exact ps_f_le (ps_f_le hp1 (by omega)) (by omega)
        · rename_i b2
          exact absurd h b2
      · rename_i b
        exact absurd h b
theorem PI.lp : ∀ (k : Nat) (q : PS), PI q.2 → PI (ps_lp x n k q).2.2
  | 0, q, h => h
  | k + 1, q, h => by
    unfold ps_lp
    split
    · exact h
    · have h1 := PI.wag (x := x) (n := n) (q := (ps_sk x n 60 q.1, q.2)) h
      split
      · exact PI.lp k _ h1
      · exact h1
theorem ps_sk_n (k : Nat) : ps_sk x n k n = n := by
  cases k with
  | zero => rfl
  | succ k =>
    unfold ps_sk
    rw [if_neg (by unfold ps_c; rw [if_neg (Nat.lt_irrefl _)]; decide)]
end PSP
section RGMP2
variable {X : rf_X} {x : Nat → Int} {n t : Nat}
def ps_g0 (A : Nat → Int) : Nat → Int := rg_ui (rg_ui (fun j => if j < 638 then 0 else A j) 31 1) 32 1
theorem ps_g0_PI (A : Nat → Int) : PI (ps_g0 A) := by
  intro k hk
  have d : ∀ k, k < 38 → (pb k).1 ≤ (if k = 31 ∨ k = 32 then (1 : Int) else 0) ∧ (if k = 31 ∨ k = 32 then (1 : Int) else 0) ≤ (pb k).2 := by decide +kernel
  have e : ps_g0 A k = (if k = 31 ∨ k = 32 then (1 : Int) else 0) := by
    unfold ps_g0 rg_ui
    by_cases a : k = 32
    · rw [if_pos a, if_pos (Or.inr a)]
    · rw [if_neg a]
      by_cases b : k = 31
      · rw [if_pos b, if_pos (Or.inl b)]
      · rw [if_neg b, if_neg (by omega)]
        show (if k < 638 then (0 : Int) else A k) = 0
        rw [if_pos (by omega)]
  rw [e]
  exact d k hk
end RGMP2
