/-! The reference's reader as a whole; what its row is bounded by. -/
def pb (k : Nat) : Int × Int := if k = 0 then (0, 9) else if k = 1 then (0, 3) else if k = 2 then (0, 6) else if k < 9 then (0, 2) else if k < 27 then (if k % 3 = 0 then (0, 5) else (0, 9)) else if k < 29 then (0, 9) else if k < 31 then (0, 0) else if k < 33 then (1, 1) else if k < 36 then (0, 0) else if k = 36 then (0, 6) else (0, 0)
def PI (g : Nat → Int) : Prop := ∀ k, k < 38 → (pb k).1 ≤ g k ∧ g k ≤ (pb k).2
theorem PI.ui {g : Nat → Int} (h : PI g) {k : Nat} {v : Int} (hv : (pb k).1 ≤ v ∧ v ≤ (pb k).2) : PI (rg_ui g k v) := by
  intro j hj
  by_cases e : j = k
  · subst e
    rw [rg_ui_s]
    exact hv
  · rw [rg_ui_n e]
    exact h j hj
section PSP
variable {x : Nat → Int} {n : Nat}
theorem PI.f {to : Nat} {lo hi : Int} {q : PS} (h : PI q.2) (hb : (pb to).1 ≤ lo ∧ hi ≤ (pb to).2) : PI (ps_f x n to lo hi q).2.2 := by
  unfold ps_f
  by_cases a : lo ≤ ps_c x n q.1 - 48 ∧ ps_c x n q.1 - 48 ≤ hi
  · rw [if_pos a]
    exact h.ui ⟨by omega, by omega⟩
  · rw [if_neg a]
    exact h
theorem PI.eng {q : PS} (h : PI q.2) : PI (ps_eng x n q).2.2 := by
  unfold ps_eng
  split
  · unfold ps_e1
    have h1 := PI.f (x := x) (n := n) (to := 0) (lo := 1) (hi := 9) (q := (q.1 + 1, q.2)) h (by decide)
    split
    · unfold ps_e2
      have h2 := PI.f (x := x) (n := n) (to := 27) (lo := 0) (hi := 9) h1 (by decide)
      split
      · unfold ps_e3
        have h3 := PI.f (x := x) (n := n) (to := 28) (lo := 0) (hi := 9) h2 (by decide)
        split
        · unfold ps_e4
          exact PI.f h3 (by decide)
        · exact h3
      · exact h2
    · exact h1
  · exact h
theorem ps_rail_02 {c : Int} (h : ps_rail c ≠ -9) : 0 ≤ ps_rail c ∧ ps_rail c ≤ 2 := by
  unfold ps_rail at *
  split
  · omega
  · split
    · omega
    · split
      · omega
      · rename_i a b c
        rw [if_neg a, if_neg b, if_neg c] at h
        exact absurd rfl h
theorem ps_kind_05 {c : Int} (h : ps_kind c ≠ -9) : 0 ≤ ps_kind c ∧ ps_kind c ≤ 5 := by
  unfold ps_kind at *
  repeat' split
  all_goals first | omega | (simp_all)
theorem PI.rl : ∀ (k : Nat) (q : PS), PI q.2 → PI (ps_rl x n k q).2
  | 0, q, h => h
  | k + 1, q, h => by
    show PI (if ps_rail (ps_c x n q.1) ≠ -9 ∧ q.2 2 < 6 then ps_rl x n k (q.1 + 1, rg_ui (rg_ui q.2 (3 + q.2 2).toNat (ps_rail (ps_c x n q.1))) 2 (q.2 2 + 1)) else q).2
    by_cases a : ps_rail (ps_c x n q.1) ≠ -9 ∧ q.2 2 < 6
    · rw [if_pos a]
      have h2 := h 2 (by decide)
      have e2 : pb 2 = (0, 6) := rfl
      rw [e2] at h2
      have h2 : 0 ≤ q.2 2 ∧ q.2 2 ≤ 6 := h2
      have hr := ps_rail_02 a.1
      refine PI.rl k _ (PI.ui (PI.ui h ?_) ?_)
      · have e : pb (3 + q.2 2).toNat = (0, 2) := by
          unfold pb
          rw [if_neg (by omega), if_neg (by omega), if_neg (by omega), if_pos (by omega)]
        rw [e]
        exact hr
      · rw [e2]
        show 0 ≤ q.2 2 + 1 ∧ q.2 2 + 1 ≤ 6
        omega
    · rw [if_neg a]
      exact h
theorem pb_k {m : Int} (m0 : 0 ≤ m) (m5 : m < 6) : pb (9 + 3 * m).toNat = (0, 5) ∧ pb (9 + 3 * m + 1).toNat = (0, 9) ∧ pb (9 + 3 * m + 2).toNat = (0, 9) := by
  refine ⟨?_, ?_, ?_⟩ <;> unfold pb
  · rw [if_neg (by omega), if_neg (by omega), if_neg (by omega), if_neg (by omega), if_pos (by omega), if_pos (by omega)]
  · rw [if_neg (by omega), if_neg (by omega), if_neg (by omega), if_neg (by omega), if_pos (by omega), if_neg (by omega)]
  · rw [if_neg (by omega), if_neg (by omega), if_neg (by omega), if_neg (by omega), if_pos (by omega), if_neg (by omega)]
theorem PI.g36 {g : Nat → Int} (h : PI g) : 0 ≤ g 36 ∧ g 36 ≤ 6 := h 36 (by decide)
theorem PI.wag {q : PS} (h : PI q.2) : PI (ps_wag x n q).2.2 := by
  have h36 := h.g36
  unfold ps_wag
  by_cases a : ps_kind (ps_c x n q.1) = -9 ∨ q.2 36 = 6
  · rw [if_pos a]
    exact h
  · rw [if_neg a]
    generalize q.2 36 = m at *
    have hk := ps_kind_05 (c := ps_c x n q.1) (fun z => a (Or.inl z))
    have hp := pb_k (m := m) h36.1 (by omega)
    unfold ps_w1
    have h1 : PI (rg_ui q.2 (9 + 3 * m).toNat (ps_kind (ps_c x n q.1))) := h.ui (by rw [hp.1]; exact hk)
    have h2 := PI.f (x := x) (n := n) (to := (9 + 3 * m + 1).toNat) (lo := 1) (hi := 9) (q := (q.1 + 1, rg_ui q.2 (9 + 3 * m).toNat (ps_kind (ps_c x n q.1)))) h1 (by rw [hp.2.1]; decide)
    split
    · unfold ps_w2
      have h3 := PI.f (x := x) (n := n) (to := (9 + 3 * m + 2).toNat) (lo := 1) (hi := 9) h2 (by rw [hp.2.2]; decide)
      split
      · refine PI.ui h3 ?_
        show 0 ≤ m + 1 ∧ m + 1 ≤ 6
        omega
      · exact h3
    · exact h2
theorem ps_f_keep {to : Nat} {lo hi : Int} {q : PS} {k : Nat} (h : k ≠ to) : (ps_f x n to lo hi q).2.2 k = q.2 k := by
  unfold ps_f
  split
  · exact rg_ui_n h
  · rfl
theorem ps_wag_ok {q : PS} (hq : q.1 ≤ n) (m0 : 0 ≤ q.2 36) (h : (ps_wag x n q).1 = true) : (ps_wag x n q).2.2 36 = q.2 36 + 1 ∧ q.2 36 ≠ 6 ∧ (ps_wag x n q).2.1 ≤ n := by
  unfold ps_wag at *
  by_cases a : ps_kind (ps_c x n q.1) = -9 ∨ q.2 36 = 6
  · rw [if_pos a] at h
    cases h
  · rw [if_neg a] at h ⊢
    have hp1 := ps_kind_n (x := x) (n := n) (p := q.1) (fun z => a (Or.inl z))
    refine ⟨?_, fun z => a (Or.inr z), ?_⟩
    · unfold ps_w1 at *
      split at h
      · rename_i b
        rw [if_pos b]
        unfold ps_w2 at *
        split at h
        · rename_i b2
          rw [if_pos b2]
          dsimp only
          exact rg_ui_s _ _ _
        · rename_i b2
          exact absurd h b2
      · rename_i b
        exact absurd h b
    · unfold ps_w1 at *
      split at h
      · rename_i b
        rw [if_pos b]
        unfold ps_w2 at *
        split at h
        · rename_i b2
          rw [if_pos b2]
          exact ps_f_le (ps_f_le hp1 (by omega)) (by omega)
        · rename_i b2
          exact absurd h b2
      · rename_i b
        exact absurd h b
theorem PI.lp : ∀ (k : Nat) (q : PS), PI q.2 → PI (ps_lp x n k q).2.2
  | 0, q, h => h
  | k + 1, q, h => by
    unfold ps_lp
    split
    · exact h
    · have h1 := PI.wag (x := x) (n := n) (q := (ps_sk x n 60 q.1, q.2)) h
      split
      · exact PI.lp k _ h1
      · exact h1
theorem ps_sk_n (k : Nat) : ps_sk x n k n = n := by
  cases k with
  | zero => rfl
  | succ k =>
    unfold ps_sk
    rw [if_neg (by unfold ps_c; rw [if_neg (Nat.lt_irrefl _)]; decide)]
end PSP
section RGMP2
variable {X : rf_X} {x : Nat → Int} {n t : Nat}
theorem rg_M_reads_132 (ht : t ≤ 3) (hn : n ≤ 60) (hb : ∀ k, k < n → -128 ≤ x k ∧ x k ≤ 127) (d : Nat) : ∀ (k : Nat) (D : rf_D) (q : PS), MP D x n t q → q.1 ≤ n → 0 ≤ q.2 36 → q.2 36 ≤ 6 → 7 ≤ q.2 36 + (k : Int) → rf_j_M_reads_132 (d + 3) 77 1 (hp X D) = some (some (.inl (if (ps_lp x n k q).1 = true then 1 else 0)), hp X (mp_to D (ps_lp x n k q).2))
  | 0, D, q, h, hq, m0, m6, hk => by omega
  | k + 1, D, q, h, hq, m0, m6, hk => by
    rw [rf_e_M_reads_132, if_neg (by decide)]
    simp only [rg_hp1, rg_o_77, rg_gI_77, rg_pI_77, rg_gR_77_0, rg_gR_77_1, rg_gR_77_2, rg_gR_77_3, rg_gR_77_4, rg_gR_77_5, rg_gR_77_6, rg_gR_77_7, rg_gR_77_12, rg_gR_77_16, rg_gR_77_17, rg_gR_77_18, rg_gR_77_19, rg_aI_78, rg_aI_79, rg_aI_80, rg_aI_81, rg_aI_82, rg_aI_83, rg_aI_85, rg_aI_86, rg_aI_87, rg_aI_88, rg_aI_89, rg_aI_90, rg_sI_78, rg_sI_79, rg_sI_80, rg_sI_81, rg_sI_82, rg_sI_83, rg_sI_85, rg_sI_86, rg_sI_87, rg_sI_88, rg_sI_89, rg_sI_90, rg_aZ_84, rg_sZ_84, Int.reduceToNat, rg_kIs, rg_kLs, rg_kRs, rg_kVs, rg_nns, rg_bs, cond_true, cond_false]
    rw [h.2.2.2.1, h.2.2.1]
    unfold ps_lp
    by_cases a : q.1 < n
    · rw [if_pos (by omega), rg_M_skips h ht hn hq (d + 1)]
      simp only [rg_hp1, rg_o_77, rg_gI_77, rg_pI_77, rg_gR_77_0, rg_gR_77_1, rg_gR_77_2, rg_gR_77_3, rg_gR_77_4, rg_gR_77_5, rg_gR_77_6, rg_gR_77_7, rg_gR_77_12, rg_gR_77_16, rg_gR_77_17, rg_gR_77_18, rg_gR_77_19, rg_aI_78, rg_aI_79, rg_aI_80, rg_aI_81, rg_aI_82, rg_aI_83, rg_aI_85, rg_aI_86, rg_aI_87, rg_aI_88, rg_aI_89, rg_aI_90, rg_sI_78, rg_sI_79, rg_sI_80, rg_sI_81, rg_sI_82, rg_sI_83, rg_sI_85, rg_sI_86, rg_sI_87, rg_sI_88, rg_sI_89, rg_sI_90, rg_aZ_84, rg_sZ_84, Int.reduceToNat, rg_kIs, rg_kLs, rg_kRs, rg_kVs, rg_nns, rg_bs, cond_true, cond_false]
      have h1 := h.to (r := (ps_sk x n 60 q.1, q.2))
      have s1 := ps_sk_le (x := x) (n := n) 60 q.1 hq
      rw [h1.2.2.2.1, h1.2.2.1]
      by_cases b : ps_sk x n 60 q.1 = n
      · rw [if_pos (by show ((ps_sk x n 60 q.1 : Nat) : Int) = (n : Int); omega), if_pos b, rf_e_M_reads_132, if_neg (by decide)]
        simp only [rg_hp1, rg_o_77, rg_gI_77, rg_pI_77, rg_gR_77_0, rg_gR_77_1, rg_gR_77_2, rg_gR_77_3, rg_gR_77_4, rg_gR_77_5, rg_gR_77_6, rg_gR_77_7, rg_gR_77_12, rg_gR_77_16, rg_gR_77_17, rg_gR_77_18, rg_gR_77_19, rg_aI_78, rg_aI_79, rg_aI_80, rg_aI_81, rg_aI_82, rg_aI_83, rg_aI_85, rg_aI_86, rg_aI_87, rg_aI_88, rg_aI_89, rg_aI_90, rg_sI_78, rg_sI_79, rg_sI_80, rg_sI_81, rg_sI_82, rg_sI_83, rg_sI_85, rg_sI_86, rg_sI_87, rg_sI_88, rg_sI_89, rg_sI_90, rg_aZ_84, rg_sZ_84, Int.reduceToNat, rg_kIs, rg_kLs, rg_kRs, rg_kVs, rg_nns, rg_bs, cond_true, cond_false]
        rw [h1.2.2.2.1, h1.2.2.1, if_neg (by show ¬ ((ps_sk x n 60 q.1 : Nat) : Int) < (n : Int); omega)]
        simp only [or_true, if_true]
        rw [b]
      · rw [if_neg (by show ¬ ((ps_sk x n 60 q.1 : Nat) : Int) = (n : Int); omega), if_neg b, rg_M_wag h1 ht hn s1.2 hb d m0 m6]
        simp only [Int.reduceToNat, rg_kIs, rg_kLs, rg_kRs, rg_kVs, rg_nns, rg_bs, cond_true, cond_false, mp_to_to]
        by_cases e : (ps_wag x n (ps_sk x n 60 q.1, q.2)).1 = true
        · have w := ps_wag_ok (q := (ps_sk x n 60 q.1, q.2)) s1.2 m0 e
          have w1 : (ps_wag x n (ps_sk x n 60 q.1, q.2)).2.2 36 = q.2 36 + 1 := w.1
          have w2 : q.2 36 ≠ 6 := w.2.1
          rw [if_pos e, if_pos e, if_neg (by decide), rg_M_reads_132 ht hn hb d k _ _ (h.to (r := (ps_wag x n (ps_sk x n 60 q.1, q.2)).2)) w.2.2 (by omega) (by omega) (by omega), mp_to_to]
        · rw [if_neg e, if_neg e, if_pos rfl, rf_e_M_reads_132, if_pos rfl, if_pos (Or.inl rfl), if_neg e]
    · rw [if_neg (by omega)]
      have e : q.1 = n := by omega
      rw [e, ps_sk_n, if_pos rfl]
      simp only [or_true, if_true]
      rw [← e, show ((q.1, q.2) : PS) = q from rfl, h.self]
theorem rg_M_figK {D : rf_D} {q : PS} (h : MP D x n t q) (ht : t ≤ 3) (hn : n ≤ 60) (hq : q.1 ≤ n) (hb : ∀ k, k < n → -128 ≤ x k ∧ x k ≤ 127) (d : Nat) {to : Int} (k : Nat) (hk : to.toNat = k) (lo hi : Int) (t1 : 0 ≤ to) (t2 : to < 638) : rf_call (d + 2) 135 [.inr (.inr (some 77)), .inl to, .inl lo, .inl hi] (hp X D) = some (some (.inl (if (ps_f x n k lo hi q).1 = true then 1 else 0)), hp X (mp_to D (ps_f x n k lo hi q).2)) := by
  subst hk
  exact rg_M_figure h ht hn hq hb d lo hi t1 t2
def ps_g0 (A : Nat → Int) : Nat → Int := rg_ui (rg_ui (fun j => if j < 638 then 0 else A j) 31 1) 32 1
theorem ps_g0_PI (A : Nat → Int) : PI (ps_g0 A) := by
  intro k hk
  have d : ∀ k, k < 38 → (pb k).1 ≤ (if k = 31 ∨ k = 32 then (1 : Int) else 0) ∧ (if k = 31 ∨ k = 32 then (1 : Int) else 0) ≤ (pb k).2 := by decide +kernel
  have e : ps_g0 A k = (if k = 31 ∨ k = 32 then (1 : Int) else 0) := by
    unfold ps_g0 rg_ui
    by_cases a : k = 32
    · rw [if_pos a, if_pos (Or.inr a)]
    · rw [if_neg a]
      by_cases b : k = 31
      · rw [if_pos b, if_pos (Or.inl b)]
      · rw [if_neg b, if_neg (by omega)]
        show (if k < 638 then (0 : Int) else A k) = 0
        rw [if_pos (by omega)]
  rw [e]
  exact d k hk
theorem rg_M_reads_101 {D : rf_D} {q : PS} (h : MP D x n t q) (ht : t ≤ 3) (hn : n ≤ 60) (hq : q.1 ≤ n) (hb : ∀ k, k < n → -128 ≤ x k ∧ x k ≤ 127) (hP : PI q.2) (d : Nat) : rf_j_M_reads_101 (d + 3) 77 1 (hp X D) = some (some (.inl (if (ps_r1 x n (ps_sk x n 60 q.1, q.2)).1 = true then 1 else 0)), hp X (mp_to D (ps_r1 x n (ps_sk x n 60 q.1, q.2)).2)) := by
  have s1 := ps_sk_le (x := x) (n := n) 60 q.1 hq
  rw [rf_e_M_reads_101, if_neg (by decide)]
  simp only [rg_hp1, rg_o_77, Int.reduceToNat, rg_kIs, rg_kLs, rg_kRs, rg_kVs, rg_nns, rg_bs, cond_true, cond_false]
  rw [rg_M_skips h ht hn hq (d + 1)]
  simp only [rg_hp1, rg_o_77, Int.reduceToNat, rg_kIs, rg_kLs, rg_kRs, rg_kVs, rg_nns, rg_bs, cond_true, cond_false]
  have h1 := h.to (r := (ps_sk x n 60 q.1, q.2))
  rw [rg_M_letter h1 ht hn s1.2 (d + 1) 105]
  unfold ps_r1
  by_cases a : ps_c x n (ps_sk x n 60 q.1) = 105
  · have a' : ps_c x n ((ps_sk x n 60 q.1, q.2) : PS).1 = 105 := a
    have hp1 : ps_sk x n 60 q.1 < n := by
      unfold ps_c at a
      by_cases z : ps_sk x n 60 q.1 < n
      · exact z
      · rw [if_neg z] at a
        omega
    rw [if_pos a', if_pos a']
    simp only [rg_hp1, rg_o_77, Int.reduceToNat, rg_kIs, rg_kLs, rg_kRs, rg_kVs, rg_nns, rg_bs, cond_true, cond_false, mp_to_to]
    rw [if_neg (by decide), rf_e_M_readsRails]
    have h2 := h.to (r := (ps_sk x n 60 q.1 + 1, q.2))
    have b2 : 0 ≤ q.2 2 ∧ q.2 2 ≤ 6 := hP 2 (by decide)
    rw [rg_M_rails_0 ht hn (d + 1) 6 _ (ps_sk x n 60 q.1 + 1, q.2) h2 hp1 b2.1 (by show (6 : Int) ≤ q.2 2 + 6; omega), mp_to_to]
    generalize hR : ps_rl x n 6 (ps_sk x n 60 q.1 + 1, q.2) = R
    have hPR : PI R.2 := by rw [← hR]; exact PI.rl 6 _ hP
    have R1 : R.1 ≤ n := by rw [← hR]; exact ps_rl_le 6 _ hp1
    have h3 := h.to (r := R)
    rw [rg_M_rails_66 h3 ht hn R1 (d + 1)]
    simp only [Int.reduceToNat, rg_kIs, rg_kLs, rg_kRs, rg_kVs, rg_nns, rg_bs, cond_true, cond_false]
    unfold ps_r2
    by_cases b : 0 < R.2 2 ∧ ps_c x n R.1 ≠ 100 ∧ ps_c x n R.1 ≠ 108
    · rw [if_pos b, if_pos b, if_neg (by decide)]
      have g36 := hPR.g36
      rw [rg_M_reads_132 ht hn hb d 7 _ R h3 R1 g36.1 g36.2 (by omega), mp_to_to]
    · rw [if_neg b, if_neg b, if_pos rfl, rf_e_M_reads_132, if_pos rfl, if_pos (Or.inl rfl)]
      try rfl
  · have a' : ¬ ps_c x n ((ps_sk x n 60 q.1, q.2) : PS).1 = 105 := a
    rw [if_neg a', if_neg a']
    simp only [Int.reduceToNat, rg_kIs, rg_kLs, rg_kRs, rg_kVs, rg_nns, rg_bs, cond_true, cond_false]
    rw [if_pos True.intro, rf_e_M_reads_132, if_pos rfl, if_pos (Or.inl rfl)]
    try rfl
theorem rg_M_reads_2 (d : Nat) : ∀ (k i : Nat) (D : rf_D), i + k = 638 → rf_j_M_reads_2 d 77 (i : Int) (hp X D) = rf_j_M_reads_2 d 77 638 (hp X (rg_up D 87 (fun j => if i ≤ j ∧ j < 638 then 0 else D 87 j)))
  | 0, i, D, hk => by
    have e : (fun j => if i ≤ j ∧ j < 638 then 0 else D 87 j) = D 87 := by
      funext j
      rw [if_neg (by omega)]
    rw [e, rg_up_i, show i = 638 by omega]
    try rfl
  | k + 1, i, D, hk => by
    rw [rf_e_M_reads_2, if_pos (by omega)]
    simp (disch := omega) only [rg_hp1, rg_o_77, rg_gI_77, rg_pI_77, rg_gR_77_0, rg_gR_77_1, rg_gR_77_2, rg_gR_77_3, rg_gR_77_4, rg_gR_77_5, rg_gR_77_6, rg_gR_77_7, rg_gR_77_12, rg_gR_77_16, rg_gR_77_17, rg_gR_77_18, rg_gR_77_19, rg_aI_78, rg_aI_79, rg_aI_80, rg_aI_81, rg_aI_82, rg_aI_83, rg_aI_85, rg_aI_86, rg_aI_87, rg_aI_88, rg_aI_89, rg_aI_90, rg_sI_78, rg_sI_79, rg_sI_80, rg_sI_81, rg_sI_82, rg_sI_83, rg_sI_85, rg_sI_86, rg_sI_87, rg_sI_88, rg_sI_89, rg_sI_90, rg_aZ_84, rg_sZ_84, Int.reduceToNat, rg_kIs, rg_kLs, rg_kRs, rg_kVs, rg_nns, rg_bs, cond_true, cond_false]
    rw [rg_w (by omega) (by omega), show ((i : Int) + 1) = ((i + 1 : Nat) : Int) by omega, rg_M_reads_2 d k (i + 1) _ (by omega)]
    rw [rg_up_u, rg_up_s]
    congr 3
    funext j
    unfold rg_ui
    rw [show ((i : Int)).toNat = i by omega]
    by_cases h1 : i + 1 ≤ j ∧ j < 638
    · rw [if_pos h1, if_pos (by omega)]
    · rw [if_neg h1]
      by_cases h2 : j = i
      · rw [if_pos h2, if_pos (by omega)]
      · rw [if_neg h2, if_neg (by omega)]
theorem rg_M_reads {D : rf_D} {q : PS} (h : MP D x n t q) (hq0 : q.1 = 0) (ht : t ≤ 3) (hn : n ≤ 60) (hb : ∀ k, k < n → -128 ≤ x k ∧ x k ≤ 127) (d : Nat) : rf_call (d + 4) 131 [.inr (.inr (some 77))] (hp X D) = some (some (.inl (if (ps_all x n (ps_g0 q.2)).1 = true then 1 else 0)), hp X (mp_to D (ps_all x n (ps_g0 q.2)).2)) := by
  rw [rf_e_M_reads]
  have k := rg_M_reads_2 (X := X) (d + 3) 638 0 D (by omega)
  rw [show ((0 : Nat) : Int) = 0 from rfl] at k
  rw [k, rf_e_M_reads_2, if_neg (by decide)]
  simp (disch := omega) only [rg_hp1, rg_o_77, rg_gI_77, rg_pI_77, rg_gR_77_0, rg_gR_77_1, rg_gR_77_2, rg_gR_77_3, rg_gR_77_4, rg_gR_77_5, rg_gR_77_6, rg_gR_77_7, rg_gR_77_12, rg_gR_77_16, rg_gR_77_17, rg_gR_77_18, rg_gR_77_19, rg_aI_78, rg_aI_79, rg_aI_80, rg_aI_81, rg_aI_82, rg_aI_83, rg_aI_85, rg_aI_86, rg_aI_87, rg_aI_88, rg_aI_89, rg_aI_90, rg_sI_78, rg_sI_79, rg_sI_80, rg_sI_81, rg_sI_82, rg_sI_83, rg_sI_85, rg_sI_86, rg_sI_87, rg_sI_88, rg_sI_89, rg_sI_90, rg_aZ_84, rg_sZ_84, Int.reduceToNat, rg_kIs, rg_kLs, rg_kRs, rg_kVs, rg_nns, rg_bs, cond_true, cond_false, rg_up_s, rg_up_n, rg_up_u, rg_ui_s, rg_ui_n, rg_ui_u]
  have e0 : rg_up D 87 (rg_ui (rg_ui (fun j => if 0 ≤ j ∧ j < 638 then 0 else D 87 j) 31 1) 32 1) = mp_to D (0, ps_g0 q.2) := by
    have e1 : (fun j => if 0 ≤ j ∧ j < 638 then 0 else D 87 j) = (fun j => if j < 638 then 0 else q.2 j) := by
      funext j
      rw [h.2.2.2.2]
      by_cases z : j < 638
      · rw [if_pos (by omega), if_pos z]
      · rw [if_neg (by omega), if_neg z]
    rw [e1]
    have := mp_sI h (ps_g0 q.2)
    rw [hq0] at this
    exact this
  rw [e0]
  have h0 := h.to (r := (0, ps_g0 q.2))
  rw [rg_M_skips h0 ht hn (Nat.zero_le _) (d + 1)]
  simp only [rg_hp1, rg_o_77, Int.reduceToNat, rg_kIs, rg_kLs, rg_kRs, rg_kVs, rg_nns, rg_bs, cond_true, cond_false, mp_to_to]
  have s0 := ps_sk_le (x := x) (n := n) 60 0 (Nat.zero_le _)
  have h1 := h.to (r := (ps_sk x n 60 0, ps_g0 q.2))
  rw [rg_M_letter h1 ht hn s0.2 (d + 1) 101]
  have hP := ps_g0_PI q.2
  have f0 : ∀ D : rf_D, rf_j_M_reads_101 (d + 3) 77 0 (hp X D) = some (some (.inl 0), hp X D) := by
    intro D
    rw [rf_e_M_reads_101, if_pos rfl, rf_e_M_reads_132, if_pos rfl, if_pos (Or.inl rfl)]
  generalize ps_g0 q.2 = g at *
  have hPe := PI.eng (x := x) (n := n) (q := (ps_sk x n 60 0, g)) hP
  obtain ⟨F, hF⟩ : ∃ F : Bool × PS → Option rf_R, ∀ E, F E = some (some (.inl (if (if E.1 = true then ps_r1 x n (ps_sk x n 60 E.2.1, E.2.2) else E).1 = true then 1 else 0)), hp X (mp_to D (if E.1 = true then ps_r1 x n (ps_sk x n 60 E.2.1, E.2.2) else E).2)) := ⟨_, fun _ => rfl⟩
  have hF1 : ∀ E : Bool × PS, E.1 = true → F E = some (some (.inl (if (ps_r1 x n (ps_sk x n 60 E.2.1, E.2.2)).1 = true then 1 else 0)), hp X (mp_to D (ps_r1 x n (ps_sk x n 60 E.2.1, E.2.2)).2)) := fun E hE => by rw [hF, if_pos hE]
  have hF0 : ∀ E : Bool × PS, ¬ E.1 = true → F E = some (some (.inl 0), hp X (mp_to D E.2)) := fun E hE => by rw [hF, if_neg hE, if_neg hE]
  have hFg : (some (some (.inl (if (ps_all x n g).1 = true then 1 else 0)), hp X (mp_to D (ps_all x n g).2)) : Option rf_R) = F (ps_eng x n (ps_sk x n 60 0, g)) := (hF _).symm
  rw [hFg]
  clear hFg
  unfold ps_eng at *
  by_cases a : ps_c x n (ps_sk x n 60 0) = 101
  · have a' : ps_c x n ((ps_sk x n 60 0, g) : PS).1 = 101 := a
    have p1 : ps_sk x n 60 0 < n := by
      unfold ps_c at a
      by_cases z : ps_sk x n 60 0 < n
      · exact z
      · rw [if_neg z] at a
        omega
    rw [if_pos a'] at hPe
    have hPe : PI (ps_e1 x n (ps_sk x n 60 0 + 1, g)).2.2 := hPe
    rw [if_pos a', if_pos a']
    show _ = F (ps_e1 x n (ps_sk x n 60 0 + 1, g))
    simp only [rg_hp1, rg_o_77, Int.reduceToNat, rg_kIs, rg_kLs, rg_kRs, rg_kVs, rg_nns, rg_bs, cond_true, cond_false, mp_to_to]
    rw [if_neg (by decide)]
    unfold ps_e1 at *
    have h2 := h.to (r := (ps_sk x n 60 0 + 1, g))
    rw [rg_M_figK h2 ht hn p1 hb (d + 1) 0 rfl 1 9 (by omega) (by omega)]
    simp only [rg_hp1, rg_o_77, Int.reduceToNat, rg_kIs, rg_kLs, rg_kRs, rg_kVs, rg_nns, rg_bs, cond_true, cond_false, mp_to_to]
    generalize hA : ps_f x n 0 1 9 (ps_sk x n 60 0 + 1, g) = A at *
    have A1 : A.2.1 ≤ n := by rw [← hA]; exact ps_f_le p1 (by omega)
    by_cases b : A.1 = true
    · rw [if_pos b] at hPe
      rw [if_pos b, if_pos b, if_neg (by decide)]
      unfold ps_e2 at *
      have h3 := h.to (r := A.2)
      rw [rg_M_figK h3 ht hn A1 hb (d + 1) 27 rfl 0 9 (by omega) (by omega)]
      simp only [rg_hp1, rg_o_77, Int.reduceToNat, rg_kIs, rg_kLs, rg_kRs, rg_kVs, rg_nns, rg_bs, cond_true, cond_false, mp_to_to]
      generalize hB : ps_f x n 27 0 9 A.2 = B at *
      have B1 : B.2.1 ≤ n := by rw [← hB]; exact ps_f_le A1 (by omega)
      by_cases b : B.1 = true
      · rw [if_pos b] at hPe
        rw [if_pos b, if_pos b, if_neg (by decide)]
        unfold ps_e3 at *
        have h4 := h.to (r := B.2)
        rw [rg_M_figK h4 ht hn B1 hb (d + 1) 28 rfl 0 9 (by omega) (by omega)]
        simp only [rg_hp1, rg_o_77, Int.reduceToNat, rg_kIs, rg_kLs, rg_kRs, rg_kVs, rg_nns, rg_bs, cond_true, cond_false, mp_to_to]
        generalize hC : ps_f x n 28 0 9 B.2 = C at *
        have C1 : C.2.1 ≤ n := by rw [← hC]; exact ps_f_le B1 (by omega)
        by_cases b : C.1 = true
        · rw [if_pos b] at hPe
          rw [if_pos b, if_pos b, if_neg (by decide)]
          unfold ps_e4 at *
          have h5 := h.to (r := C.2)
          rw [rg_M_figK h5 ht hn C1 hb (d + 1) 1 rfl 0 3 (by omega) (by omega)]
          simp only [rg_hp1, rg_o_77, Int.reduceToNat, rg_kIs, rg_kLs, rg_kRs, rg_kVs, rg_nns, rg_bs, cond_true, cond_false, mp_to_to]
          generalize hE : ps_f x n 1 0 3 C.2 = E at *
          have E1 : E.2.1 ≤ n := by rw [← hE]; exact ps_f_le C1 (by omega)
          by_cases b : E.1 = true
          · rw [if_pos b, if_neg (by decide), rg_M_reads_101 (h.to (r := E.2)) ht hn E1 hb hPe d, mp_to_to, hF1 E b]
          · rw [if_neg b, if_pos rfl, f0, hF0 E b]
        · rw [if_neg b, if_neg b, if_pos rfl, f0, hF0 C b]
      · rw [if_neg b, if_neg b, if_pos rfl, f0, hF0 B b]
    · rw [if_neg b, if_neg b, if_pos rfl, f0, hF0 A b]
  · have a' : ¬ ps_c x n ((ps_sk x n 60 0, g) : PS).1 = 101 := a
    rw [if_neg a', if_neg a', hF0 _ (fun z => by cases z)]
    simp only [Int.reduceToNat, rg_kIs, rg_kLs, rg_kRs, rg_kVs, rg_nns, rg_bs, cond_true, cond_false]
    rw [if_pos True.intro, f0]
/-- the fault of a text, by the reference -/
theorem rg_M_faultOf {D : rf_D} (hx : ∀ k, k < n → D 81 (60 * t + k) = x k) (hz : D 80 t = (n : Int)) (ht : t ≤ 3) (hn : n ≤ 60) (hb : ∀ k, k < n → -128 ≤ x k ∧ x k ≤ 127) (d : Nat) : ∃ f', rf_call (d + 5) 130 [.inr (.inr (some 77)), .inl (t : Int)] (hp X D) = some (some (.inl (if (ps_all x n (ps_g0 (D 87))).1 = true then -9 else ((ps_all x n (ps_g0 (D 87))).2.1 : Int))), hp X (rg_up (rg_up D 77 f') 87 (ps_all x n (ps_g0 (D 87))).2.2)) ∧ ∀ j, j ≠ 13 → j ≠ 14 → j ≠ 15 → f' j = D 77 j := by
  rw [rf_e_M_faultOf]
  simp (disch := omega) only [rg_hp1, rg_o_77, rg_gI_77, rg_pI_77, rg_gR_77_0, rg_gR_77_1, rg_gR_77_2, rg_gR_77_3, rg_gR_77_4, rg_gR_77_5, rg_gR_77_6, rg_gR_77_7, rg_gR_77_12, rg_gR_77_16, rg_gR_77_17, rg_gR_77_18, rg_gR_77_19, rg_aI_78, rg_aI_79, rg_aI_80, rg_aI_81, rg_aI_82, rg_aI_83, rg_aI_85, rg_aI_86, rg_aI_87, rg_aI_88, rg_aI_89, rg_aI_90, rg_sI_78, rg_sI_79, rg_sI_80, rg_sI_81, rg_sI_82, rg_sI_83, rg_sI_85, rg_sI_86, rg_sI_87, rg_sI_88, rg_sI_89, rg_sI_90, rg_aZ_84, rg_sZ_84, Int.reduceToNat, rg_kIs, rg_kLs, rg_kRs, rg_kVs, rg_nns, rg_bs, cond_true, cond_false, rg_up_s, rg_up_n, rg_up_u, rg_ui_s, rg_ui_n, rg_ui_u]
  rw [show ((t : Int)).toNat = t by omega, hz, rg_w (by omega) (by omega)]
  generalize hf : rg_ui (rg_ui (rg_ui (D 77) 13 (60 * (t : Int))) 14 (n : Int)) 15 0 = f
  have hM : MP (rg_up D 77 f) x n t (0, D 87) := ⟨hx, by rw [rg_up_s, ← hf]; rfl, by rw [rg_up_s, ← hf]; rfl, by rw [rg_up_s, ← hf]; rfl, rfl⟩
  rw [rg_M_reads hM rfl ht hn hb d]
  have hM2 := hM.to (r := (ps_all x n (ps_g0 (D 87))).2)
  refine ⟨rg_ui f 15 ((ps_all x n (ps_g0 (D 87))).2.1 : Int), ?_, fun j h1 h2 h3 => ?_⟩
  · simp only [rg_hp1, rg_o_77, rg_gI_77, rg_pI_77, rg_gR_77_0, rg_gR_77_1, rg_gR_77_2, rg_gR_77_3, rg_gR_77_4, rg_gR_77_5, rg_gR_77_6, rg_gR_77_7, rg_gR_77_12, rg_gR_77_16, rg_gR_77_17, rg_gR_77_18, rg_gR_77_19, rg_aI_78, rg_aI_79, rg_aI_80, rg_aI_81, rg_aI_82, rg_aI_83, rg_aI_85, rg_aI_86, rg_aI_87, rg_aI_88, rg_aI_89, rg_aI_90, rg_sI_78, rg_sI_79, rg_sI_80, rg_sI_81, rg_sI_82, rg_sI_83, rg_sI_85, rg_sI_86, rg_sI_87, rg_sI_88, rg_sI_89, rg_sI_90, rg_aZ_84, rg_sZ_84, Int.reduceToNat, rg_kIs, rg_kLs, rg_kRs, rg_kVs, rg_nns, rg_bs, cond_true, cond_false]
    rw [hM2.2.2.2.1]
    have e : mp_to (rg_up D 77 f) (ps_all x n (ps_g0 (D 87))).2 = rg_up (rg_up D 77 (rg_ui f 15 ((ps_all x n (ps_g0 (D 87))).2.1 : Int))) 87 (ps_all x n (ps_g0 (D 87))).2.2 := by
      unfold mp_to
      rw [rg_up_u, rg_up_s]
    rw [e]
    by_cases a : (ps_all x n (ps_g0 (D 87))).1 = true
    · rw [if_pos a, if_pos a, if_neg (by decide)]
    · rw [if_neg a, if_neg a, if_pos rfl]
  · rw [rg_ui_n h3, ← hf, rg_ui_n h3, rg_ui_n h2, rg_ui_n h1]
end RGMP2
