/-! The fault of a text, by the class; what a text without fault gives. -/
section RGFO
variable {X : rf_X} {x : Nat → Int} {n o c : Nat}
theorem ps_sk_32 : ∀ (k p : Nat), n ≤ p + k → ps_c x n (ps_sk x n k p) ≠ 32
  | 0, p, h => by
    show ps_c x n p ≠ 32
    unfold ps_c
    rw [if_neg (by omega)]
    decide
  | k + 1, p, h => by
    unfold ps_sk
    by_cases a : ps_c x n p = 32
    · rw [if_pos a]
      exact ps_sk_32 k (p + 1) (by omega)
    · rw [if_neg a]
      exact a
theorem ps_sk_id {p : Nat} (h : ps_c x n p ≠ 32) (k : Nat) : ps_sk x n k p = p := by
  cases k with
  | zero => rfl
  | succ k =>
    unfold ps_sk
    rw [if_neg h]
theorem ps_wag_keep {q : PS} (m0 : 0 ≤ q.2 36) (m6 : q.2 36 ≤ 6) : (∀ j : Nat, j < 9 → (ps_wag x n q).2.2 j = q.2 j) ∧ (ps_wag x n q).2.2 27 = q.2 27 ∧ (ps_wag x n q).2.2 28 = q.2 28 := by
  unfold ps_wag
  by_cases a : ps_kind (ps_c x n q.1) = -9 ∨ q.2 36 = 6
  · rw [if_pos a]
    exact ⟨fun _ _ => rfl, rfl, rfl⟩
  · rw [if_neg a]
    have ws := ps_w_step (x := x) (n := n) (m := q.2 36) m0 (by omega) (q := (q.1 + 1, rg_ui q.2 (9 + 3 * q.2 36).toNat (ps_kind (ps_c x n q.1))))
    refine ⟨fun j hj => ?_, ?_, ?_⟩
    · rw [ws.1 j (by omega)]
      exact rg_ui_n (by omega)
    · rw [ws.2.2.1]
      exact rg_ui_n (by omega)
    · rw [ws.2.2.2.1]
      exact rg_ui_n (by omega)
theorem ps_lp_keep : ∀ (k : Nat) (q : PS), q.1 ≤ n → PI q.2 → (∀ j : Nat, j < 9 → (ps_lp x n k q).2.2 j = q.2 j) ∧ (ps_lp x n k q).2.2 27 = q.2 27 ∧ (ps_lp x n k q).2.2 28 = q.2 28
  | 0, q, hq, h => ⟨fun _ _ => rfl, rfl, rfl⟩
  | k + 1, q, hq, h => by
    have s1 := ps_sk_le (x := x) (n := n) 60 q.1 hq
    have w := ps_wag_keep (x := x) (n := n) (q := (ps_sk x n 60 q.1, q.2)) h.g36.1 h.g36.2
    unfold ps_lp
    by_cases a : ps_sk x n 60 q.1 = n
    · rw [if_pos a]
      exact ⟨fun _ _ => rfl, rfl, rfl⟩
    · rw [if_neg a]
      by_cases b : (ps_wag x n (ps_sk x n 60 q.1, q.2)).1 = true
      · rw [if_pos b]
        have wo := ps_wag_ok (q := (ps_sk x n 60 q.1, q.2)) s1.2 h.g36.1 b
        have ih := ps_lp_keep k (ps_wag x n (ps_sk x n 60 q.1, q.2)).2 wo.2.2 (PI.wag (q := (ps_sk x n 60 q.1, q.2)) h)
        exact ⟨fun j hj => (ih.1 j hj).trans (w.1 j hj), ih.2.1.trans w.2.1, ih.2.2.trans w.2.2⟩
      · rw [if_neg b]
        exact w
theorem rg_E_loop (hX : XL X) (hc : rg_con c) (c1 : c = 13 ∨ c = 28) (hr : rg_row o 60) (ho : 56 ≤ o) (hn : n ≤ 60) (hb : ∀ k, k < n → -128 ≤ x k ∧ x k ≤ 127) (d : Nat) : ∀ (k i : Nat) (D : rf_D) (q : PS), i + k = 6 → EP D x n o q.1 → q.1 ≤ n → ps_c x n q.1 ≠ 32 → q.2 36 = (i : Int) → CR D c q.2 (i : Int) → PI q.2 → ∃ D', rf_j_E_faultOf_54 (d + 5) 12 (some o) (some c) (i : Int) (hp X D) = some (some (.inl (if (ps_lp x n (k + 1) q).1 = true then -9 else ((ps_lp x n (k + 1) q).2.1 : Int))), hp X D') ∧ (∀ a, a ≠ 12 → (a < c + 3 ∨ c + 14 < a) → D' a = D a) ∧ ((ps_lp x n (k + 1) q).1 = true → CR D' c (ps_lp x n (k + 1) q).2.2 ((ps_lp x n (k + 1) q).2.2 36))
  | 0, i, D, q, hk, h, hq, h32, h36, hC, hP => by
    rw [rf_e_E_faultOf_54, if_neg (by omega)]
    simp only [rg_gI_12, rg_row_gI hr, Int.reduceToNat, rg_kIs, rg_kLs, rg_kRs, rg_kVs, rg_nns, rg_bs, cond_true, cond_false]
    rw [h.2.2, h.2.1]
    unfold ps_lp
    rw [ps_sk_id h32]
    by_cases a : q.1 = n
    · rw [if_pos a, if_neg (show ¬ (q.1 : Int) < (n : Int) by omega)]
      refine ⟨D, rfl, fun _ _ _ => rfl, fun _ => ?_⟩
      show CR D c q.2 (q.2 36)
      rw [h36]
      exact hC
    · rw [if_neg a, if_pos (show (q.1 : Int) < (n : Int) by omega)]
      have e : ps_wag x n (q.1, q.2) = (false, q) := by
        unfold ps_wag
        rw [if_pos (Or.inr (by show q.2 36 = 6; omega))]
      rw [e]
      exact ⟨D, rfl, fun _ _ _ => rfl, fun z => by cases z⟩
  | k + 1, i, D, q, hk, h, hq, h32, h36, hC, hP => by
    rw [rf_e_E_faultOf_54, if_pos (by omega)]
    simp only [rg_gI_12, rg_row_gI hr, Int.reduceToNat, rg_kIs, rg_kLs, rg_kRs, rg_kVs, rg_nns, rg_bs, cond_true, cond_false]
    rw [h.2.2, h.2.1]
    show ∃ D', _ = (some (some (.inl (if (if ps_sk x n 60 q.1 = n then (true, n, q.2) else if (ps_wag x n (ps_sk x n 60 q.1, q.2)).1 = true then ps_lp x n (k + 1) (ps_wag x n (ps_sk x n 60 q.1, q.2)).2 else ps_wag x n (ps_sk x n 60 q.1, q.2)).1 = true then -9 else ((if ps_sk x n 60 q.1 = n then (true, n, q.2) else if (ps_wag x n (ps_sk x n 60 q.1, q.2)).1 = true then ps_lp x n (k + 1) (ps_wag x n (ps_sk x n 60 q.1, q.2)).2 else ps_wag x n (ps_sk x n 60 q.1, q.2)).2.1 : Int))), hp X D') : Option rf_R) ∧ (∀ a, a ≠ 12 → (a < c + 3 ∨ c + 14 < a) → D' a = D a) ∧ ((if ps_sk x n 60 q.1 = n then (true, n, q.2) else if (ps_wag x n (ps_sk x n 60 q.1, q.2)).1 = true then ps_lp x n (k + 1) (ps_wag x n (ps_sk x n 60 q.1, q.2)).2 else ps_wag x n (ps_sk x n 60 q.1, q.2)).1 = true → CR D' c (if ps_sk x n 60 q.1 = n then (true, n, q.2) else if (ps_wag x n (ps_sk x n 60 q.1, q.2)).1 = true then ps_lp x n (k + 1) (ps_wag x n (ps_sk x n 60 q.1, q.2)).2 else ps_wag x n (ps_sk x n 60 q.1, q.2)).2.2 ((if ps_sk x n 60 q.1 = n then (true, n, q.2) else if (ps_wag x n (ps_sk x n 60 q.1, q.2)).1 = true then ps_lp x n (k + 1) (ps_wag x n (ps_sk x n 60 q.1, q.2)).2 else ps_wag x n (ps_sk x n 60 q.1, q.2)).2.2 36))
    rw [ps_sk_id h32]
    by_cases a : q.1 = n
    · rw [if_pos a, if_neg (show ¬ (q.1 : Int) < (n : Int) by omega), if_neg (show ¬ (q.1 : Int) < (n : Int) by omega)]
      refine ⟨D, rfl, fun _ _ _ => rfl, fun _ => ?_⟩
      show CR D c q.2 (q.2 36)
      rw [h36]
      exact hC
    · rw [if_neg a, if_pos (show (q.1 : Int) < (n : Int) by omega)]
      simp only [rg_hp1, rg_o_12, Int.reduceToNat, rg_kIs, rg_kLs, rg_kRs, rg_kVs, rg_nns, rg_bs, cond_true, cond_false]
      have b1 : 0 ≤ q.2 1 ∧ q.2 1 ≤ 3 := hP 1 (by decide)
      have b2 : 0 ≤ q.2 2 ∧ q.2 2 ≤ 6 := hP 2 (by decide)
      rw [show ((q.1, q.2) : PS) = q from rfl]
      obtain ⟨D1, r1, r2, r3, r4⟩ := rg_E_wag (X := X) hX hc c1 hr ho hn hb d (D := D) (q := q) h hq h36 (by omega) hC b1.1 b1.2 b2.2
      rw [r1]
      simp only [Int.reduceToNat, rg_kIs, rg_kLs, rg_kRs, rg_kVs, rg_nns, rg_bs, cond_true, cond_false]
      by_cases b : (ps_wag x n q).1 = true
      · have wo := ps_wag_ok (x := x) (n := n) (q := q) hq (by omega) b
        rw [if_pos b, if_pos b, if_neg (by decide)]
        simp only [rg_hp1, rg_o_12, Int.reduceToNat, rg_kIs, rg_kLs, rg_kRs, rg_kVs, rg_nns, rg_bs, cond_true, cond_false]
        rw [rg_E_skip r2 hr ho hn wo.2.2 (d + 2)]
        simp only [Int.reduceToNat, rg_kIs, rg_kLs, rg_kRs, rg_kVs, rg_nns, rg_bs, cond_true, cond_false]
        rw [rg_w (by omega) (by omega), show ((i : Int) + 1) = ((i + 1 : Nat) : Int) by omega]
        have s2 := ps_sk_le (x := x) (n := n) 60 (ps_wag x n q).2.1 wo.2.2
        have D2a : ∀ a, a ≠ 12 → ep_to D1 (ps_sk x n 60 (ps_wag x n q).2.1) a = D1 a := fun a z => by unfold ep_to; rw [rg_up_n z]
        have e36 : (ps_wag x n q).2.2 36 = ((i + 1 : Nat) : Int) := by rw [wo.1, h36]; omega
        have hC2 : CR (ep_to D1 (ps_sk x n 60 (ps_wag x n q).2.1)) c (ps_wag x n q).2.2 ((i + 1 : Nat) : Int) := by
          have := r4 b
          rw [show ((i : Int) + 1) = ((i + 1 : Nat) : Int) by omega] at this
          exact this.of fun a z1 z2 => D2a a (by omega)
        obtain ⟨D', t1, t2, t3⟩ := rg_E_loop hX hc c1 hr ho hn hb d k (i + 1) (ep_to D1 (ps_sk x n 60 (ps_wag x n q).2.1)) (ps_sk x n 60 (ps_wag x n q).2.1, (ps_wag x n q).2.2) (by omega) (r2.to ho) s2.2 (ps_sk_32 60 _ (by omega)) e36 hC2 (PI.wag hP)
        have el : ps_lp x n (k + 1) (ps_sk x n 60 (ps_wag x n q).2.1, (ps_wag x n q).2.2) = ps_lp x n (k + 1) (ps_wag x n q).2 := by
          show (if ps_sk x n 60 (ps_sk x n 60 (ps_wag x n q).2.1) = n then _ else _) = (if ps_sk x n 60 (ps_wag x n q).2.1 = n then _ else _)
          rw [ps_sk_id (ps_sk_32 60 _ (by omega)) 60]
        rw [el] at t1 t3
        exact ⟨D', t1, fun a z1 z2 => by rw [t2 a z1 z2, D2a a z1, r3 a z1 z2], t3⟩
      · rw [if_neg b, if_neg b, if_pos rfl, if_neg b]
        simp only [rg_gI_12, Int.reduceToNat, rg_kIs, rg_kLs, rg_kRs, rg_kVs, rg_nns, rg_bs, cond_true, cond_false]
        rw [r2.2.2]
        exact ⟨D1, rfl, r3, fun z => absurd z b⟩
/-- the class's reader on a text and a consist -/
theorem rg_E_faultOf (hX : XL X) (hc : rg_con c) (c1 : c = 13 ∨ c = 28) (hr : rg_row o 60) (ho : 56 ≤ o) (hn : n ≤ 60) (hb : ∀ k, k < n → -128 ≤ x k ∧ x k ≤ 127) (d : Nat) {D : rf_D} (g : Nat → Int) (hP : PI g) (g2 : g 2 = 0) (g36 : g 36 = 0) (hx : ∀ k, k < n → D (o + 1) k = x k) (hz : D o 1 = (n : Int)) : ∃ D', rf_call (d + 6) 28 [.inr (.inr (some 12)), .inr (.inr (some o)), .inr (.inr (some c))] (hp X D) = some (some (.inl (if (ps_all x n g).1 = true then -9 else ((ps_all x n g).2.1 : Int))), hp X D') ∧ (∀ a, a ≠ 12 → (a < c ∨ c + 14 < a) → D' a = D a) ∧ ((ps_all x n g).1 = true → CR D' c (ps_all x n g).2.2 ((ps_all x n g).2.2 36) ∧ CE D' c (ps_all x n g).2.2) := by
  have oc : o ≠ 12 ∧ o + 1 ≠ 12 ∧ c + 14 < o := by omega
  rw [rf_e_E_faultOf]
  try simp only [rg_pI_12, rg_hp1, hc.1, Int.reduceToNat, rg_kIs, rg_kLs, rg_kRs, rg_kVs, rg_nns, rg_bs, cond_true, cond_false]
  have h0 : EP (ep_to D 0) x n o 0 := by
    refine ⟨fun k hk => ?_, ?_, ?_⟩
    · unfold ep_to
      rw [rg_up_n oc.2.1]
      exact hx k hk
    · unfold ep_to
      rw [rg_up_n oc.1]
      exact hz
    · unfold ep_to
      rw [rg_up_s, rg_ui_s]
  rw [show rg_up D 12 (rg_ui (D 12) 0 0) = ep_to D 0 from rfl]
  obtain ⟨D1, q1, f1, ⟨s1, s3, s5, s7, s9, s11, s13⟩, v12, v14⟩ := rg_C_clear (X := X) hc (d + 1) (ep_to D 0)
  rw [q1]
  try simp only [rg_hp1, rg_o_12, Int.reduceToNat, rg_kIs, rg_kLs, rg_kRs, rg_kVs, rg_nns, rg_bs, cond_true, cond_false]
  have h1 : EP D1 x n o 0 := h0.of (f1 _ (by omega)) (f1 _ (by omega)) (f1 _ (by omega))
  rw [rg_E_skip h1 hr ho hn (Nat.zero_le _) (d + 2)]
  try simp only [rg_hp1, rg_o_12, Int.reduceToNat, rg_kIs, rg_kLs, rg_kRs, rg_kVs, rg_nns, rg_bs, cond_true, cond_false]
  have sk0 := ps_sk_le (x := x) (n := n) 60 0 (Nat.zero_le _)
  have h2 := h1.to (q := ps_sk x n 60 0) ho
  have D2a : ∀ a, a ≠ 12 → ep_to D1 (ps_sk x n 60 0) a = D1 a := fun a z => by unfold ep_to; rw [rg_up_n z]
  generalize ep_to D1 (ps_sk x n 60 0) = D2 at *
  obtain ⟨D3, q3, h3, f3, e3⟩ := rg_E_eng (X := X) hc c1 hr ho hn hb (d + 1) (g := g) h2 sk0.2
  rw [q3]
  try simp only [rg_hp1, rg_o_12, Int.reduceToNat, rg_kIs, rg_kLs, rg_kRs, rg_kVs, rg_nns, rg_bs, cond_true, cond_false]
  have fr3 : ∀ a, a ≠ 12 → (a < c ∨ c + 14 < a) → D3 a = D a := fun a z1 z2 => by
    rw [f3 a z1 (by omega), D2a a z1, f1 a (by omega)]
    unfold ep_to
    rw [rg_up_n z1]
  have fc3 : ∀ a, a ≠ 12 → a ≠ c → D3 a = D1 a := fun a z1 z2 => by rw [f3 a z1 z2, D2a a z1]
  unfold ps_all
  have hPe := PI.eng (x := x) (n := n) (q := (ps_sk x n 60 0, g)) hP
  have eng_le : (ps_eng x n (ps_sk x n 60 0, g)).1 = true → (ps_eng x n (ps_sk x n 60 0, g)).2.1 ≤ n ∧ ∀ j, (j = 2 ∨ j = 36) → (ps_eng x n (ps_sk x n 60 0, g)).2.2 j = g j := by
    intro _
    unfold ps_eng
    split
    · rename_i e
      have p1 : ps_sk x n 60 0 + 1 ≤ n := by
        unfold ps_c at e
        by_cases z : ps_sk x n 60 0 < n
        · exact z
        · have e' : (if ps_sk x n 60 0 < n then x (ps_sk x n 60 0) else -1) = 101 := e
          rw [if_neg z] at e'
          omega
      have st : ∀ (to : Nat) (lo hi : Int) (q : PS), q.1 ≤ n → 0 ≤ lo → (to = 0 ∨ to = 1 ∨ to = 27 ∨ to = 28) → (∀ j, (j = 2 ∨ j = 36) → q.2 j = g j) → (ps_f x n to lo hi q).2.1 ≤ n ∧ ∀ j, (j = 2 ∨ j = 36) → (ps_f x n to lo hi q).2.2 j = g j := by
        intro to lo hi q hq l0 ht hj
        exact ⟨ps_f_le hq l0, fun j hj2 => by rw [ps_f_keep (by omega)]; exact hj j hj2⟩
      have a1 := st 0 1 9 (ps_sk x n 60 0 + 1, g) p1 (by omega) (by omega) (fun _ _ => rfl)
      unfold ps_e1
      split
      · have a2 := st 27 0 9 _ a1.1 (by omega) (by omega) a1.2
        unfold ps_e2
        split
        · have a3 := st 28 0 9 _ a2.1 (by omega) (by omega) a2.2
          unfold ps_e3
          split
          · exact st 1 0 3 _ a3.1 (by omega) (by omega) a3.2
          · exact a3
        · exact a2
      · exact a1
    · exact ⟨sk0.2, fun _ _ => rfl⟩
  generalize ps_eng x n (ps_sk x n 60 0, g) = E at *
  by_cases b : E.1 = true
  · obtain ⟨E1, E2⟩ := eng_le b
    have E2a : E.2.2 2 = 0 := (E2 2 (Or.inl rfl)).trans g2
    have E2b : E.2.2 36 = 0 := (E2 36 (Or.inr rfl)).trans g36
    have ce := e3 b
    rw [if_pos b, if_pos b, if_neg (by decide)]
    try simp only [rg_hp1, rg_o_12, Int.reduceToNat, rg_kIs, rg_kLs, rg_kRs, rg_kVs, rg_nns, rg_bs, cond_true, cond_false]
    rw [rg_E_skip h3 hr ho hn E1 (d + 2)]
    try simp only [rg_hp1, rg_o_12, Int.reduceToNat, rg_kIs, rg_kLs, rg_kRs, rg_kVs, rg_nns, rg_bs, cond_true, cond_false]
    have sk1 := ps_sk_le (x := x) (n := n) 60 E.2.1 E1
    have h4 := h3.to (q := ps_sk x n 60 E.2.1) ho
    have D4a : ∀ a, a ≠ 12 → ep_to D3 (ps_sk x n 60 E.2.1) a = D3 a := fun a z => by unfold ep_to; rw [rg_up_n z]
    generalize ep_to D3 (ps_sk x n 60 E.2.1) = D4 at *
    rw [rf_e_E_readsRails]
    try simp only [rg_hp1, rg_o_12, Int.reduceToNat, rg_kIs, rg_kLs, rg_kRs, rg_kVs, rg_nns, rg_bs, cond_true, cond_false]
    rw [rg_E_letter h4 hr hn sk1.2 (d + 1) (c := 105) (by decide) (by decide)]
    unfold ps_r1
    by_cases e : ps_c x n (ps_sk x n 60 E.2.1) = 105
    · have e' : ps_c x n ((ps_sk x n 60 E.2.1, E.2.2) : PS).1 = 105 := e
      have p1 : ps_sk x n 60 E.2.1 + 1 ≤ n := by
        unfold ps_c at e
        by_cases z : ps_sk x n 60 E.2.1 < n
        · exact z
        · rw [if_neg z] at e
          omega
      rw [if_pos e, if_pos e']
      simp only [Int.reduceToNat, rg_kIs, rg_kLs, rg_kRs, rg_kVs, rg_nns, rg_bs, cond_true, cond_false]
      rw [if_neg (by decide)]
      have h5 := h4.to (q := ps_sk x n 60 E.2.1 + 1) ho
      have D5a : ∀ a, a ≠ 12 → ep_to D4 (ps_sk x n 60 E.2.1 + 1) a = D4 a := fun a z => by unfold ep_to; rw [rg_up_n z]
      generalize ep_to D4 (ps_sk x n 60 E.2.1 + 1) = D5 at *
      have hL5 : CL D5 c E.2.2 := by
        unfold CL
        rw [D5a _ (by omega), D4a _ (by omega), fc3 _ (by omega) (by omega), E2a]
        exact ⟨s1, fun i hi => absurd hi (by omega)⟩
      obtain ⟨D6, q6, h6, f6, L6⟩ := rg_E_rails (X := X) hX hc c1 hr ho hn (d + 1) 6 0 D5 (ps_sk x n 60 E.2.1 + 1, E.2.2) rfl h5 p1 E2a hL5
      rw [show ((0 : Nat) : Int) = 0 from rfl] at q6
      rw [q6]
      try simp only [rg_hp1, rg_o_12, Int.reduceToNat, rg_kIs, rg_kLs, rg_kRs, rg_kVs, rg_nns, rg_bs, cond_true, cond_false]
      have hPR : PI (ps_rl x n 6 (ps_sk x n 60 E.2.1 + 1, E.2.2)).2 := PI.rl 6 _ hPe
      have kR := fun j hj => ps_rl_keep (x := x) (n := n) 6 (ps_sk x n 60 E.2.1 + 1, E.2.2) j (by show 0 ≤ E.2.2 2; omega) hj
      have R1 : (ps_rl x n 6 (ps_sk x n 60 E.2.1 + 1, E.2.2)).1 ≤ n := ps_rl_le 6 _ p1
      generalize ps_rl x n 6 (ps_sk x n 60 E.2.1 + 1, E.2.2) = R at *
      have fr6 : ∀ a, a ≠ 12 → (a < c ∨ c + 14 < a) → D6 a = D a := fun a z1 z2 => by rw [f6 a z1 (by omega) (by omega), D5a a z1, D4a a z1, fr3 a z1 z2]
      unfold ps_r2
      by_cases b2 : 0 < R.2 2
      · rw [if_pos b2, if_neg (by decide)]
        try simp only [rg_hp1, rg_o_12, Int.reduceToNat, rg_kIs, rg_kLs, rg_kRs, rg_kVs, rg_nns, rg_bs, cond_true, cond_false]
        rw [rg_E_skip h6 hr ho hn R1 (d + 2)]
        try simp only [rg_hp1, rg_o_12, Int.reduceToNat, rg_kIs, rg_kLs, rg_kRs, rg_kVs, rg_nns, rg_bs, cond_true, cond_false]
        have sk2 := ps_sk_le (x := x) (n := n) 60 R.1 R1
        have h7 := h6.to (q := ps_sk x n 60 R.1) ho
        have D7a : ∀ a, a ≠ 12 → ep_to D6 (ps_sk x n 60 R.1) a = D6 a := fun a z => by unfold ep_to; rw [rg_up_n z]
        generalize ep_to D6 (ps_sk x n 60 R.1) = D7 at *
        have r36 : R.2 36 = 0 := (kR 36 (by omega)).trans E2b
        have c7 : D7 c = D3 c := by rw [D7a c (by omega), f6 c (by omega) (by omega) (by omega), D5a c (by omega), D4a c (by omega)]
        have cl : ∀ j, 3 ≤ j → j ≤ 14 → D7 (c + j) = D1 (c + j) := fun j z1 z2 => by rw [D7a _ (by omega), f6 _ (by omega) (by omega) (by omega), D5a _ (by omega), D4a _ (by omega), fc3 _ (by omega) (by omega)]
        have hC7 : CR D7 c R.2 0 := by
          refine ⟨⟨?_, ?_, ?_⟩, fun i hi => ?_, ⟨?_, ?_, ?_, ?_, ?_, ?_⟩, by omega, fun i hi => absurd hi (by omega), fun j hj => ?_⟩
          · rw [c7, kR 0 (by omega)]; exact ce.1
          · rw [c7, kR 1 (by omega)]; exact ce.2.2.2
          · rw [D7a _ (by omega)]; exact L6.1
          · rw [D7a _ (by omega)]; exact L6.2 i hi
          · rw [cl 3 (by omega) (by omega)]; exact s3
          · rw [cl 5 (by omega) (by omega)]; exact s5
          · rw [cl 7 (by omega) (by omega)]; exact s7
          · rw [cl 9 (by omega) (by omega)]; exact s9
          · rw [cl 11 (by omega) (by omega)]; exact s11
          · rw [cl 13 (by omega) (by omega)]; exact s13
          · have : j = 0 := by omega
            subst this
            rw [cl 12 (by omega) (by omega), cl 14 (by omega) (by omega), v12, v14]
            exact ⟨rfl, rfl⟩
        obtain ⟨D8, t1, t2, t3⟩ := rg_E_loop (X := X) hX hc c1 hr ho hn hb d 6 0 D7 (ps_sk x n 60 R.1, R.2) rfl h7 sk2.2 (ps_sk_32 60 _ (by omega)) r36 hC7 hPR
        rw [show ((0 : Nat) : Int) = 0 from rfl] at t1
        rw [t1]
        have el : ps_lp x n 7 (ps_sk x n 60 R.1, R.2) = ps_lp x n 7 R := by
          show (if ps_sk x n 60 (ps_sk x n 60 R.1) = n then _ else _) = (if ps_sk x n 60 R.1 = n then _ else _)
          rw [ps_sk_id (ps_sk_32 60 _ (by omega)) 60]
        have fr8 : ∀ a, a ≠ 12 → (a < c ∨ c + 14 < a) → D8 a = D a := fun a z1 z2 => by rw [t2 a z1 (by omega), D7a a z1, fr6 a z1 z2]
        rw [el] at t3 ⊢
        by_cases b3 : ps_c x n R.1 ≠ 100 ∧ ps_c x n R.1 ≠ 108
        · rw [if_pos (show 0 < R.2 2 ∧ ps_c x n R.1 ≠ 100 ∧ ps_c x n R.1 ≠ 108 from ⟨b2, b3⟩)]
          refine ⟨D8, rfl, fr8, fun z => ⟨t3 z, ?_⟩⟩
          have lk := ps_lp_keep (x := x) (n := n) 7 R R1 hPR
          exact ce.of ((t2 c (by omega) (by omega)).trans c7) ((lk.1 0 (by omega)).trans (kR 0 (by omega))) ((lk.1 1 (by omega)).trans (kR 1 (by omega))) (lk.2.1.trans (kR 27 (by omega))) (lk.2.2.trans (kR 28 (by omega)))
        · rw [if_neg (show ¬ (0 < R.2 2 ∧ ps_c x n R.1 ≠ 100 ∧ ps_c x n R.1 ≠ 108) from fun z => b3 z.2)]
          have hs : ps_c x n R.1 = 100 ∨ ps_c x n R.1 = 108 := by
            by_cases z : ps_c x n R.1 = 100
            · exact Or.inl z
            · by_cases z2 : ps_c x n R.1 = 108
              · exact Or.inr z2
              · exact absurd ⟨z, z2⟩ b3
          have n32 : ps_c x n R.1 ≠ 32 := by omega
          have nn : R.1 ≠ n := by
            intro z
            unfold ps_c at hs
            rw [if_neg (by omega)] at hs
            omega
          have e9 : ps_wag x n R = (false, R) := by
            unfold ps_wag
            rw [if_pos (Or.inl (by rcases hs with z | z <;> rw [z] <;> rfl))]
          have e7 : ps_lp x n 7 R = (false, R) := by
            show (if ps_sk x n 60 R.1 = n then _ else if (ps_wag x n (ps_sk x n 60 R.1, R.2)).1 = true then ps_lp x n 6 (ps_wag x n (ps_sk x n 60 R.1, R.2)).2 else ps_wag x n (ps_sk x n 60 R.1, R.2)) = _
            rw [ps_sk_id n32, if_neg nn, show ((R.1, R.2) : PS) = R from rfl, e9]
            try rfl
          rw [e7]
          exact ⟨D8, rfl, fr8, fun z => by cases z⟩
      · rw [if_neg b2, if_pos rfl, if_neg (show ¬ (0 < R.2 2 ∧ ps_c x n R.1 ≠ 100 ∧ ps_c x n R.1 ≠ 108) from fun z => b2 z.1)]
        try simp only [rg_gI_12, Int.reduceToNat, rg_kIs, rg_kLs, rg_kRs, rg_kVs, rg_nns, rg_bs, cond_true, cond_false]
        rw [h6.2.2]
        exact ⟨D6, rfl, fr6, fun z => by cases z⟩
    · have e' : ¬ ps_c x n ((ps_sk x n 60 E.2.1, E.2.2) : PS).1 = 105 := e
      rw [if_neg e, if_neg e']
      simp only [Int.reduceToNat, rg_kIs, rg_kLs, rg_kRs, rg_kVs, rg_nns, rg_bs, cond_true, cond_false]
      rw [if_pos True.intro]
      try simp only [rg_gI_12, Int.reduceToNat, rg_kIs, rg_kLs, rg_kRs, rg_kVs, rg_nns, rg_bs, cond_true, cond_false]
      rw [if_pos True.intro, h4.2.2]
      exact ⟨D4, rfl, fun a z1 z2 => by rw [D4a a z1, fr3 a z1 z2], fun z => by cases z⟩
  · rw [if_neg b, if_pos rfl, if_neg b]
    try simp only [rg_gI_12, Int.reduceToNat, rg_kIs, rg_kLs, rg_kRs, rg_kVs, rg_nns, rg_bs, cond_true, cond_false]
    rw [h3.2.2, if_neg b]
    exact ⟨D3, rfl, fr3, fun z => absurd z b⟩
end RGFO
