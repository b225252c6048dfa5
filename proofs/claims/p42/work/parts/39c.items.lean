/-! The class's reader, item by item. -/
section RGF
variable {X : rf_X} {x : Nat → Int} {n o c : Nat}
theorem ps_f_val {to : Nat} {lo hi : Int} {q : PS} (h : (ps_f x n to lo hi q).1 = true) (l0 : 0 ≤ lo) : (ps_f x n to lo hi q).2.2 to ≠ -1 := by
  unfold ps_f at *
  by_cases a : lo ≤ ps_c x n q.1 - 48 ∧ ps_c x n q.1 - 48 ≤ hi
  · rw [if_pos a]
    dsimp only
    rw [rg_ui_s]
    omega
  · rw [if_neg a] at h
    cases h
theorem ps_f_no {to : Nat} {lo hi : Int} {q : PS} (h : ¬ (ps_f x n to lo hi q).1 = true) : ps_f x n to lo hi q = (false, q) := by
  unfold ps_f at *
  by_cases a : lo ≤ ps_c x n q.1 - 48 ∧ ps_c x n q.1 - 48 ≤ hi
  · rw [if_pos a] at h
    exact absurd rfl h
  · rw [if_neg a]
/-- what the engine's item leaves in the consist -/
def CE (D : rf_D) (c : Nat) (g : Nat → Int) : Prop := D c 7 = g 0 ∧ D c 8 = g 27 ∧ D c 9 = g 28 ∧ D c 10 = g 1
theorem CE.of {D D' : rf_D} {g u : Nat → Int} (h : CE D c g) (e : D' c = D c) (e0 : u 0 = g 0) (e1 : u 1 = g 1) (e27 : u 27 = g 27) (e28 : u 28 = g 28) : CE D' c u := by
  unfold CE
  rw [e, e0, e1, e27, e28]
  exact h
theorem rg_E_e69 (hc : rg_con c) (c1 : c = 13 ∨ c = 28) (hr : rg_row o 60) (ho : 56 ≤ o) (hn : n ≤ 60) (hb : ∀ k, k < n → -128 ≤ x k ∧ x k ≤ 127) (d : Nat) {D : rf_D} {p : Nat} {g : Nat → Int} (h : EP D x n o p) (hp1 : p ≤ n) {v : Int} (hv : v ≠ -1) (e7 : D c 7 = g 0) (e8 : D c 8 = g 27) (e9 : v = g 28) : ∃ D', rf_j_E_readsEngine_69 (d + 3) 12 (some o) (some c) (some c) v (hp X D) = some (some (.inl (if (ps_e4 x n (p, g)).1 = true then 1 else 0)), hp X D') ∧ EP D' x n o (ps_e4 x n (p, g)).2.1 ∧ (∀ a, a ≠ 12 → a ≠ c → D' a = D a) ∧ ((ps_e4 x n (p, g)).1 = true → CE D' c (ps_e4 x n (p, g)).2.2) := by
  have oc : o ≠ c ∧ o + 1 ≠ c ∧ (12 : Nat) ≠ c := by omega
  rw [rf_e_E_readsEngine_69]
  simp only [rg_C_pI hc, rg_C_gI hc, rg_up_s, rg_ui_s, Int.reduceToNat, rg_kIs, rg_kLs, rg_kRs, rg_kVs, rg_nns, rg_bs, cond_true, cond_false, rg_hp1, rg_o_12]
  rw [if_neg hv]
  have h2 : EP (rg_up D c (rg_ui (D c) 9 v)) x n o p := h.of (rg_up_n oc.2.1) (rg_up_n oc.1) (rg_up_n oc.2.2)
  rw [rg_E_fig h2 hr hn hp1 hb d (by omega) (by omega) 1 g]
  simp only [Int.reduceToNat, rg_kIs, rg_kLs, rg_kRs, rg_kVs, rg_nns, rg_bs, cond_true, cond_false]
  unfold ps_e4
  have h3 := h2.to (q := (ps_f x n 1 0 3 (p, g)).2.1) ho
  generalize hE : (ep_to (rg_up D c (rg_ui (D c) 9 v)) (ps_f x n 1 0 3 (p, g)).2.1) = D3 at *
  have D3c : D3 c = rg_ui (D c) 9 v := by rw [← hE]; unfold ep_to; rw [rg_up_n (Ne.symm oc.2.2), rg_up_s]
  have D3a : ∀ a, a ≠ 12 → a ≠ c → D3 a = D a := fun a z1 z2 => by rw [← hE]; unfold ep_to; rw [rg_up_n z1, rg_up_n z2]
  simp only [rg_C_pI hc, rg_C_gI hc, rg_up_s, rg_ui_s, Int.reduceToNat, rg_kIs, rg_kLs, rg_kRs, rg_kVs, rg_nns, rg_bs, cond_true, cond_false]
  by_cases a : (ps_f x n 1 0 3 (p, g)).1 = true
  · have av := ps_f_val a (by omega)
    rw [if_pos a, if_neg av, if_pos a]
    refine ⟨_, rfl, h3.of (rg_up_n oc.2.1) (rg_up_n oc.1) (rg_up_n oc.2.2), fun b z1 z2 => by rw [rg_up_n z2]; exact D3a b z1 z2, fun _ => ?_⟩
    unfold CE
    rw [rg_up_s, D3c]
    refine ⟨?_, ?_, ?_, rfl⟩
    · rw [ps_f_keep (k := 0) (by decide)]; exact e7
    · rw [ps_f_keep (k := 27) (by decide)]; exact e8
    · rw [ps_f_keep (k := 28) (by decide)]; exact e9
  · rw [if_neg a, if_pos rfl, if_neg a]
    exact ⟨_, rfl, h3.of (rg_up_n oc.2.1) (rg_up_n oc.1) (rg_up_n oc.2.2), fun b z1 z2 => by rw [rg_up_n z2]; exact D3a b z1 z2, fun z => absurd z a⟩
/-- no steam or no sand could be read: the rest is none -/
theorem rg_E_e69n (hc : rg_con c) (c1 : c = 13 ∨ c = 28) (ho : 56 ≤ o) (d : Nat) {D : rf_D} {p : Nat} (h : EP D x n o p) : ∃ D', rf_j_E_readsEngine_69 (d + 3) 12 (some o) (some c) (some c) (-1) (hp X D) = some (some (.inl 0), hp X D') ∧ EP D' x n o p ∧ (∀ a, a ≠ 12 → a ≠ c → D' a = D a) := by
  have oc : o ≠ c ∧ o + 1 ≠ c ∧ (12 : Nat) ≠ c := by omega
  rw [rf_e_E_readsEngine_69]
  simp only [rg_C_pI hc, rg_C_gI hc, rg_up_s, rg_up_u, rg_ui_s, Int.reduceToNat, rg_kIs, rg_kLs, rg_kRs, rg_kVs, rg_nns, rg_bs, cond_true, cond_false]
  rw [if_pos True.intro]
  rw [if_pos True.intro]
  exact ⟨_, rfl, h.of (rg_up_n oc.2.1) (rg_up_n oc.1) (rg_up_n oc.2.2), fun b z1 z2 => rg_up_n z2⟩
theorem rg_E_e45 (hc : rg_con c) (c1 : c = 13 ∨ c = 28) (hr : rg_row o 60) (ho : 56 ≤ o) (hn : n ≤ 60) (hb : ∀ k, k < n → -128 ≤ x k ∧ x k ≤ 127) (d : Nat) {D : rf_D} {p : Nat} {g : Nat → Int} (h : EP D x n o p) (hp1 : p ≤ n) {v : Int} (hv : v ≠ -1) (e7 : D c 7 = g 0) (e8 : v = g 27) : ∃ D', rf_j_E_readsEngine_45 (d + 3) 12 (some o) (some c) (some c) v (hp X D) = some (some (.inl (if (ps_e3 x n (p, g)).1 = true then 1 else 0)), hp X D') ∧ EP D' x n o (ps_e3 x n (p, g)).2.1 ∧ (∀ a, a ≠ 12 → a ≠ c → D' a = D a) ∧ ((ps_e3 x n (p, g)).1 = true → CE D' c (ps_e3 x n (p, g)).2.2) := by
  have oc : o ≠ c ∧ o + 1 ≠ c ∧ (12 : Nat) ≠ c := by omega
  rw [rf_e_E_readsEngine_45]
  simp only [rg_C_pI hc, rg_C_gI hc, rg_up_s, rg_ui_s, Int.reduceToNat, rg_kIs, rg_kLs, rg_kRs, rg_kVs, rg_nns, rg_bs, cond_true, cond_false, rg_hp1, rg_o_12]
  rw [if_neg hv]
  have h2 : EP (rg_up D c (rg_ui (D c) 8 v)) x n o p := h.of (rg_up_n oc.2.1) (rg_up_n oc.1) (rg_up_n oc.2.2)
  rw [rg_E_fig h2 hr hn hp1 hb d (by omega) (by omega) 28 g]
  simp only [Int.reduceToNat, rg_kIs, rg_kLs, rg_kRs, rg_kVs, rg_nns, rg_bs, cond_true, cond_false]
  unfold ps_e3
  have hle : (ps_f x n 28 0 9 (p, g)).2.1 ≤ n := ps_f_le hp1 (by omega)
  have h3 := h2.to (q := (ps_f x n 28 0 9 (p, g)).2.1) ho
  generalize hE : (ep_to (rg_up D c (rg_ui (D c) 8 v)) (ps_f x n 28 0 9 (p, g)).2.1) = D3 at *
  have D3c : D3 c = rg_ui (D c) 8 v := by rw [← hE]; unfold ep_to; rw [rg_up_n (Ne.symm oc.2.2), rg_up_s]
  have D3a : ∀ a, a ≠ 12 → a ≠ c → D3 a = D a := fun a z1 z2 => by rw [← hE]; unfold ep_to; rw [rg_up_n z1, rg_up_n z2]
  by_cases a : (ps_f x n 28 0 9 (p, g)).1 = true
  · have av := ps_f_val a (by omega)
    rw [if_pos a, if_pos a]
    obtain ⟨D', q1, q2, q3, q4⟩ := rg_E_e69 (X := X) hc c1 hr ho hn hb d (D := D3) (p := (ps_f x n 28 0 9 (p, g)).2.1) (g := (ps_f x n 28 0 9 (p, g)).2.2) h3 hle av (by rw [D3c, ps_f_keep (k := 0) (by decide)]; exact e7) (by rw [D3c, ps_f_keep (k := 27) (by decide)]; exact e8) rfl
    exact ⟨D', q1, q2, fun b z1 z2 => (q3 b z1 z2).trans (D3a b z1 z2), q4⟩
  · rw [if_neg a, if_neg a]
    obtain ⟨D', q1, q2, q3⟩ := rg_E_e69n (X := X) hc c1 ho d (D := D3) h3
    rw [if_neg a]
    exact ⟨D', q1, q2, fun b z1 z2 => (q3 b z1 z2).trans (D3a b z1 z2), fun z => absurd z a⟩
theorem rg_E_e45n (hc : rg_con c) (c1 : c = 13 ∨ c = 28) (ho : 56 ≤ o) (d : Nat) {D : rf_D} {p : Nat} (h : EP D x n o p) : ∃ D', rf_j_E_readsEngine_45 (d + 3) 12 (some o) (some c) (some c) (-1) (hp X D) = some (some (.inl 0), hp X D') ∧ EP D' x n o p ∧ (∀ a, a ≠ 12 → a ≠ c → D' a = D a) := by
  have oc : o ≠ c ∧ o + 1 ≠ c ∧ (12 : Nat) ≠ c := by omega
  rw [rf_e_E_readsEngine_45]
  simp only [rg_C_pI hc, rg_C_gI hc, rg_up_s, rg_up_u, rg_ui_s, Int.reduceToNat, rg_kIs, rg_kLs, rg_kRs, rg_kVs, rg_nns, rg_bs, cond_true, cond_false]
  rw [if_pos True.intro]
  have h2 : EP (rg_up D c (rg_ui (D c) 8 (-1))) x n o p := h.of (rg_up_n oc.2.1) (rg_up_n oc.1) (rg_up_n oc.2.2)
  obtain ⟨D', q1, q2, q3⟩ := rg_E_e69n (X := X) hc c1 ho d h2
  exact ⟨D', q1, q2, fun b z1 z2 => by rw [q3 b z1 z2, rg_up_n z2]⟩
theorem rg_E_eng (hc : rg_con c) (c1 : c = 13 ∨ c = 28) (hr : rg_row o 60) (ho : 56 ≤ o) (hn : n ≤ 60) (hb : ∀ k, k < n → -128 ≤ x k ∧ x k ≤ 127) (d : Nat) {D : rf_D} {p : Nat} {g : Nat → Int} (h : EP D x n o p) (hp1 : p ≤ n) : ∃ D', rf_call (d + 4) 31 [.inr (.inr (some 12)), .inr (.inr (some o)), .inr (.inr (some c))] (hp X D) = some (some (.inl (if (ps_eng x n (p, g)).1 = true then 1 else 0)), hp X D') ∧ EP D' x n o (ps_eng x n (p, g)).2.1 ∧ (∀ a, a ≠ 12 → a ≠ c → D' a = D a) ∧ ((ps_eng x n (p, g)).1 = true → CE D' c (ps_eng x n (p, g)).2.2) := by
  have oc : o ≠ c ∧ o + 1 ≠ c ∧ (12 : Nat) ≠ c := by omega
  rw [rf_e_E_readsEngine]
  simp only [rg_hp1, rg_o_12, Int.reduceToNat, rg_kIs, rg_kLs, rg_kRs, rg_kVs, rg_nns, rg_bs, cond_true, cond_false]
  rw [rg_E_letter h hr hn hp1 d (c := 101) (by decide) (by decide)]
  unfold ps_eng
  by_cases e : ps_c x n p = 101
  · have e' : ps_c x n ((p, g) : PS).1 = 101 := e
    have p1 : p + 1 ≤ n := by
      unfold ps_c at e
      by_cases z : p < n
      · exact z
      · rw [if_neg z] at e
        omega
    rw [if_pos e, if_pos e']
    simp only [rg_hp1, rg_o_12, Int.reduceToNat, rg_kIs, rg_kLs, rg_kRs, rg_kVs, rg_nns, rg_bs, cond_true, cond_false]
    rw [if_neg (by decide)]
    have h2 := h.to (q := p + 1) ho
    rw [rg_E_fig h2 hr hn p1 hb d (by omega) (by omega) 0 g]
    simp only [rg_hp1, rg_o_12, rg_C_pI hc, rg_C_gI hc, rg_up_s, rg_ui_s, Int.reduceToNat, rg_kIs, rg_kLs, rg_kRs, rg_kVs, rg_nns, rg_bs, cond_true, cond_false, ep_to_to]
    unfold ps_e1
    have hle : (ps_f x n 0 1 9 (p + 1, g)).2.1 ≤ n := ps_f_le p1 (by omega)
    have h3 := h.to (q := (ps_f x n 0 1 9 (p + 1, g)).2.1) ho
    have D3a : ∀ a, a ≠ 12 → ep_to D (ps_f x n 0 1 9 (p + 1, g)).2.1 a = D a := fun a z1 => by unfold ep_to; rw [rg_up_n z1]
    generalize hE : (ep_to D (ps_f x n 0 1 9 (p + 1, g)).2.1) = D3 at *
    by_cases a : (ps_f x n 0 1 9 (p + 1, g)).1 = true
    · have av := ps_f_val a (by omega)
      rw [if_pos a, if_pos a, if_neg av]
      have h4 : EP (rg_up D3 c (rg_ui (D3 c) 7 ((ps_f x n 0 1 9 (p + 1, g)).2.2 0))) x n o (ps_f x n 0 1 9 (p + 1, g)).2.1 := h3.of (rg_up_n oc.2.1) (rg_up_n oc.1) (rg_up_n oc.2.2)
      rw [rg_E_fig h4 hr hn hle hb d (by omega) (by omega) 27 (ps_f x n 0 1 9 (p + 1, g)).2.2]
      simp only [Int.reduceToNat, rg_kIs, rg_kLs, rg_kRs, rg_kVs, rg_nns, rg_bs, cond_true, cond_false]
      have D4c : rg_up D3 c (rg_ui (D3 c) 7 ((ps_f x n 0 1 9 (p + 1, g)).2.2 0)) c 7 = (ps_f x n 0 1 9 (p + 1, g)).2.2 0 := by rw [rg_up_s, rg_ui_s]
      have D4a : ∀ b, b ≠ 12 → b ≠ c → rg_up D3 c (rg_ui (D3 c) 7 ((ps_f x n 0 1 9 (p + 1, g)).2.2 0)) b = D b := fun b z1 z2 => by rw [rg_up_n z2, D3a b z1]
      generalize hF : rg_up D3 c (rg_ui (D3 c) 7 ((ps_f x n 0 1 9 (p + 1, g)).2.2 0)) = D4 at *
      generalize hA : (ps_f x n 0 1 9 (p + 1, g)).2 = A at *
      show ∃ D', _ = (some (some (.inl (if (ps_e2 x n (A.1, A.2)).1 = true then 1 else 0)), hp X D') : Option rf_R) ∧ EP D' x n o (ps_e2 x n (A.1, A.2)).2.1 ∧ (∀ a, a ≠ 12 → a ≠ c → D' a = D a) ∧ ((ps_e2 x n (A.1, A.2)).1 = true → CE D' c (ps_e2 x n (A.1, A.2)).2.2)
      unfold ps_e2
      have h5 := h4.to (q := (ps_f x n 27 0 9 (A.1, A.2)).2.1) ho
      have hle2 : (ps_f x n 27 0 9 (A.1, A.2)).2.1 ≤ n := ps_f_le hle (by omega)
      have D5a : ∀ b, b ≠ 12 → b ≠ c → ep_to D4 (ps_f x n 27 0 9 (A.1, A.2)).2.1 b = D b := fun b z1 z2 => by unfold ep_to; rw [rg_up_n z1, D4a b z1 z2]
      have D5c : ep_to D4 (ps_f x n 27 0 9 (A.1, A.2)).2.1 c = D4 c := by unfold ep_to; rw [rg_up_n (Ne.symm oc.2.2)]
      generalize hG : ep_to D4 (ps_f x n 27 0 9 (A.1, A.2)).2.1 = D5 at *
      by_cases b : (ps_f x n 27 0 9 (A.1, A.2)).1 = true
      · have bv := ps_f_val b (by omega)
        rw [if_pos b, if_pos b]
        obtain ⟨D', q1, q2, q3, q4⟩ := rg_E_e45 (X := X) hc c1 hr ho hn hb d (D := D5) (p := (ps_f x n 27 0 9 (A.1, A.2)).2.1) (g := (ps_f x n 27 0 9 (A.1, A.2)).2.2) h5 hle2 bv (by rw [D5c, D4c, ps_f_keep (k := 0) (by decide)]) rfl
        exact ⟨D', q1, q2, fun b z1 z2 => (q3 b z1 z2).trans (D5a b z1 z2), q4⟩
      · rw [if_neg b, if_neg b]
        obtain ⟨D', q1, q2, q3⟩ := rg_E_e45n (X := X) hc c1 ho d (D := D5) h5
        rw [if_neg b]
        exact ⟨D', q1, q2, fun b z1 z2 => (q3 b z1 z2).trans (D5a b z1 z2), fun z => absurd z b⟩
    · rw [if_neg a, if_neg a, if_pos rfl]
      have h4 : EP (rg_up D3 c (rg_ui (D3 c) 7 (-1))) x n o (ps_f x n 0 1 9 (p + 1, g)).2.1 := h3.of (rg_up_n oc.2.1) (rg_up_n oc.1) (rg_up_n oc.2.2)
      obtain ⟨D', q1, q2, q3⟩ := rg_E_e45n (X := X) hc c1 ho d h4
      rw [if_neg a]
      exact ⟨D', q1, q2, fun b z1 z2 => by rw [q3 b z1 z2, rg_up_n z2, D3a b z1], fun z => absurd z a⟩
  · have e' : ¬ ps_c x n ((p, g) : PS).1 = 101 := e
    rw [if_neg e, if_neg e']
    simp only [Int.reduceToNat, rg_kIs, rg_kLs, rg_kRs, rg_kVs, rg_nns, rg_bs, cond_true, cond_false]
    rw [if_pos True.intro]
    exact ⟨D, rfl, h, fun _ _ _ => rfl, fun z => by cases z⟩
theorem rg_C_clear (hc : rg_con c) (d : Nat) (D : rf_D) : ∃ D', rf_call (d + 4) 19 [.inr (.inr (some c))] (hp X D) = some (none, hp X D') ∧ (∀ a, (a < c + 1 ∨ c + 14 < a) → D' a = D a) ∧ (D' (c + 1) 1 = 0 ∧ D' (c + 3) 1 = 0 ∧ D' (c + 5) 1 = 0 ∧ D' (c + 7) 1 = 0 ∧ D' (c + 9) 1 = 0 ∧ D' (c + 11) 1 = 1 ∧ D' (c + 13) 1 = 1) ∧ D' (c + 12) 0 = 0 ∧ D' (c + 14) 0 = 0 := by
  rw [rf_e_C_clear]
  simp only [rg_C_g0 hc, rg_hp1, rg_row_o hc.r1, Int.reduceToNat, rg_kIs, rg_kLs, rg_kRs, rg_kVs, rg_nns, rg_bs, cond_true, cond_false]
  obtain ⟨D1, q1, f1, s1, v1⟩ := rg_R_renewE (X := X) (D := D) hc.r1 d (z := 0) (f := 0) (by decide) (by decide) (by decide)
  rw [q1]
  simp only [rg_C_g1 hc, rg_hp1, rg_row_o hc.r3, Int.reduceToNat, rg_kIs, rg_kLs, rg_kRs, rg_kVs, rg_nns, rg_bs, cond_true, cond_false]
  obtain ⟨D2, q2, f2, s2, v2⟩ := rg_R_renewE (X := X) (D := D1) hc.r3 d (z := 0) (f := 0) (by decide) (by decide) (by decide)
  rw [q2]
  simp only [rg_C_g2 hc, rg_hp1, rg_row_o hc.r5, Int.reduceToNat, rg_kIs, rg_kLs, rg_kRs, rg_kVs, rg_nns, rg_bs, cond_true, cond_false]
  obtain ⟨D3, q3, f3, s3, v3⟩ := rg_R_renewE (X := X) (D := D2) hc.r5 d (z := 0) (f := 0) (by decide) (by decide) (by decide)
  rw [q3]
  simp only [rg_C_g3 hc, rg_hp1, rg_row_o hc.r7, Int.reduceToNat, rg_kIs, rg_kLs, rg_kRs, rg_kVs, rg_nns, rg_bs, cond_true, cond_false]
  obtain ⟨D4, q4, f4, s4, v4⟩ := rg_R_renewE (X := X) (D := D3) hc.r7 d (z := 0) (f := 0) (by decide) (by decide) (by decide)
  rw [q4]
  simp only [rg_C_g4 hc, rg_hp1, rg_row_o hc.r9, Int.reduceToNat, rg_kIs, rg_kLs, rg_kRs, rg_kVs, rg_nns, rg_bs, cond_true, cond_false]
  obtain ⟨D5, q5, f5, s5, v5⟩ := rg_R_renewE (X := X) (D := D4) hc.r9 d (z := 0) (f := 0) (by decide) (by decide) (by decide)
  rw [q5]
  simp only [rg_C_g5 hc, rg_hp1, rg_row_o hc.r11, Int.reduceToNat, rg_kIs, rg_kLs, rg_kRs, rg_kVs, rg_nns, rg_bs, cond_true, cond_false]
  obtain ⟨D6, q6, f6, s6, v6⟩ := rg_R_renewE (X := X) (D := D5) hc.r11 d (z := 1) (f := 0) (by decide) (by decide) (by decide)
  rw [q6]
  simp only [rg_C_g6 hc, rg_hp1, rg_row_o hc.r13, Int.reduceToNat, rg_kIs, rg_kLs, rg_kRs, rg_kVs, rg_nns, rg_bs, cond_true, cond_false]
  obtain ⟨D7, q7, f7, s7, v7⟩ := rg_R_renewE (X := X) (D := D6) hc.r13 d (z := 1) (f := 0) (by decide) (by decide) (by decide)
  rw [q7]
  simp only [Int.reduceToNat, rg_kIs, rg_kLs, rg_kRs, rg_kVs, rg_nns, rg_bs, cond_true, cond_false]
  refine ⟨D7, rfl, fun a ha => by rw [f7 a (by omega) (by omega), f6 a (by omega) (by omega), f5 a (by omega) (by omega), f4 a (by omega) (by omega), f3 a (by omega) (by omega), f2 a (by omega) (by omega), f1 a (by omega) (by omega)], ⟨by rw [f7 (c + 1) (by omega) (by omega), f6 (c + 1) (by omega) (by omega), f5 (c + 1) (by omega) (by omega), f4 (c + 1) (by omega) (by omega), f3 (c + 1) (by omega) (by omega), f2 (c + 1) (by omega) (by omega)]; exact s1, by rw [f7 (c + 3) (by omega) (by omega), f6 (c + 3) (by omega) (by omega), f5 (c + 3) (by omega) (by omega), f4 (c + 3) (by omega) (by omega), f3 (c + 3) (by omega) (by omega)]; exact s2, by rw [f7 (c + 5) (by omega) (by omega), f6 (c + 5) (by omega) (by omega), f5 (c + 5) (by omega) (by omega), f4 (c + 5) (by omega) (by omega)]; exact s3, by rw [f7 (c + 7) (by omega) (by omega), f6 (c + 7) (by omega) (by omega), f5 (c + 7) (by omega) (by omega)]; exact s4, by rw [f7 (c + 9) (by omega) (by omega), f6 (c + 9) (by omega) (by omega)]; exact s5, by rw [f7 (c + 11) (by omega) (by omega)]; exact s6, s7⟩, ?_, v7 0 (by decide)⟩
  rw [f7 (c + 12) (by omega) (by omega)]
  exact v6 0 (by decide)
theorem ps_rl_keep : ∀ (k : Nat) (q : PS) (j : Nat), 0 ≤ q.2 2 → (j = 0 ∨ j = 1 ∨ 8 < j) → (ps_rl x n k q).2 j = q.2 j
  | 0, q, j, h0, hj => rfl
  | k + 1, q, j, h0, hj => by
    show (if ps_rail (ps_c x n q.1) ≠ -9 ∧ q.2 2 < 6 then ps_rl x n k (q.1 + 1, rg_ui (rg_ui q.2 (3 + q.2 2).toNat (ps_rail (ps_c x n q.1))) 2 (q.2 2 + 1)) else q).2 j = q.2 j
    by_cases a : ps_rail (ps_c x n q.1) ≠ -9 ∧ q.2 2 < 6
    · rw [if_pos a, ps_rl_keep k _ j (by show 0 ≤ q.2 2 + 1; omega) hj]
      show rg_ui (rg_ui q.2 (3 + q.2 2).toNat (ps_rail (ps_c x n q.1))) 2 (q.2 2 + 1) j = q.2 j
      rw [rg_ui_n (by omega), rg_ui_n (by omega)]
    · rw [if_neg a]
/-- the rails read so far -/
def CL (D : rf_D) (c : Nat) (g : Nat → Int) : Prop := D (c + 1) 1 = g 2 ∧ ∀ i : Nat, (i : Int) < g 2 → D (c + 2) i = g (3 + i)
theorem rg_E_rails (hX : XL X) (hc : rg_con c) (c1 : c = 13 ∨ c = 28) (hr : rg_row o 60) (ho : 56 ≤ o) (hn : n ≤ 60) (d : Nat) : ∀ (k i : Nat) (D : rf_D) (q : PS), i + k = 6 → EP D x n o q.1 → q.1 ≤ n → q.2 2 = (i : Int) → CL D c q.2 → ∃ D', rf_j_E_readsRails_14 (d + 3) 12 (some o) (some c) (i : Int) (hp X D) = some (some (.inl (if 0 < (ps_rl x n k q).2 2 then 1 else 0)), hp X D') ∧ EP D' x n o (ps_rl x n k q).1 ∧ (∀ a, a ≠ 12 → a ≠ c + 1 → a ≠ c + 2 → D' a = D a) ∧ CL D' c (ps_rl x n k q).2
  | 0, i, D, q, hk, h, hq, h2, hL => by
    rw [rf_e_E_readsRails_14, if_neg (by omega)]
    simp only [rg_C_g0 hc, rg_row_gI hc.r1, Int.reduceToNat, rg_kIs, rg_kLs, rg_kRs, rg_kVs, rg_nns, rg_bs, cond_true, cond_false]
    rw [show ps_rl x n 0 q = q from rfl]
    rw [hL.1]
    refine ⟨D, ?_, h, fun _ _ _ _ => rfl, hL⟩
    split <;> rfl
  | k + 1, i, D, q, hk, h, hq, h2, hL => by
    rw [rf_e_E_readsRails_14, if_pos (by omega)]
    simp only [rg_hp1, rg_o_12, Int.reduceToNat, rg_kIs, rg_kLs, rg_kRs, rg_kVs, rg_nns, rg_bs, cond_true, cond_false]
    rw [rg_E_here h hr hn (d + 1)]
    simp only [Int.reduceToNat, rg_kIs, rg_kLs, rg_kRs, rg_kVs, rg_nns, rg_bs, cond_true, cond_false]
    rw [rg_E_ixR hX]
    simp only [Int.reduceToNat, rg_kIs, rg_kLs, rg_kRs, rg_kVs, rg_nns, rg_bs, cond_true, cond_false, ps_h_rail]
    unfold ps_rl
    by_cases a : ps_rail (ps_c x n q.1) = -9
    · rw [if_pos a, if_neg (show ¬ (ps_rail (ps_c x n q.1) ≠ -9 ∧ q.2 2 < 6) from fun z => z.1 a)]
      simp only [rg_C_g0 hc, rg_row_gI hc.r1, Int.reduceToNat, rg_kIs, rg_kLs, rg_kRs, rg_kVs, rg_nns, rg_bs, cond_true, cond_false]
      rw [hL.1]
      refine ⟨D, ?_, h, fun _ _ _ _ => rfl, hL⟩
      split <;> rfl
    · have p1 := ps_rail_n 0 q.1 a
      rw [if_neg a, if_pos (show ps_rail (ps_c x n q.1) ≠ -9 ∧ q.2 2 < 6 from ⟨a, by omega⟩)]
      simp only [rg_C_g0 hc, rg_hp1, rg_row_o hc.r1, Int.reduceToNat, rg_kIs, rg_kLs, rg_kRs, rg_kVs, rg_nns, rg_bs, cond_true, cond_false]
      obtain ⟨D1, q1, f1, s1, v1, o1⟩ := rg_R_addE (X := X) (D := D) hc.r1 d (v := ps_rail (ps_c x n q.1)) (hL.1.trans h2) (by omega) (by omega) (by omega)
      rw [q1]
      simp only [rg_gI_12, rg_pI_12, Int.reduceToNat, rg_kIs, rg_kLs, rg_kRs, rg_kVs, rg_nns, rg_bs, cond_true, cond_false]
      have e12 : D1 12 = D 12 := f1 12 (by omega) (by omega)
      rw [e12, h.2.2, rg_w (by omega) (by omega), rg_w (by omega) (by omega), show ((q.1 : Int) + 1) = ((q.1 + 1 : Nat) : Int) by omega, show ((i : Int) + 1) = ((i + 1 : Nat) : Int) by omega]
      have h1 : EP D1 x n o q.1 := h.of (f1 _ (by omega) (by omega)) (f1 _ (by omega) (by omega)) e12
      have h3 := h1.to (q := q.1 + 1) ho
      have D3e : rg_up D1 12 (rg_ui (D 12) 0 ((q.1 + 1 : Nat) : Int)) = ep_to D1 (q.1 + 1) := by unfold ep_to; rw [e12]
      rw [D3e]
      have it : ((i : Int)).toNat = i := by omega
      rw [it] at v1 o1
      have hL3 : CL (ep_to D1 (q.1 + 1)) c (rg_ui (rg_ui q.2 (3 + q.2 2).toNat (ps_rail (ps_c x n q.1))) 2 (q.2 2 + 1)) := by
        unfold CL ep_to
        rw [rg_up_n (show c + 1 ≠ 12 by omega), rg_up_n (show c + 2 ≠ 12 by omega), rg_ui_s]
        refine ⟨by rw [s1, h2], fun j hj => ?_⟩
        rw [h2] at hj ⊢
        rw [rg_ui_n (show 3 + j ≠ 2 by omega), show (3 + (i : Int)).toNat = 3 + i by omega]
        by_cases z : j = i
        · subst z
          rw [rg_ui_s]
          exact v1
        · rw [rg_ui_n (by omega)]
          rw [show c + 2 = c + 1 + 1 from rfl, o1 j z]
          exact hL.2 j (by omega)
      obtain ⟨D', r1, r2, r3, r4⟩ := rg_E_rails hX hc c1 hr ho hn d k (i + 1) (ep_to D1 (q.1 + 1)) (q.1 + 1, rg_ui (rg_ui q.2 (3 + q.2 2).toNat (ps_rail (ps_c x n q.1))) 2 (q.2 2 + 1)) (by omega) h3 p1 (by show q.2 2 + 1 = ((i + 1 : Nat) : Int); omega) hL3
      refine ⟨D', r1, r2, fun b z1 z2 z3 => ?_, r4⟩
      rw [r3 b z1 z2 z3]
      unfold ep_to
      rw [rg_up_n z1, f1 b z2 z3]
theorem ps_w_step {m : Int} (m0 : 0 ≤ m) (m5 : m < 6) {q : PS} : (∀ j : Nat, (j : Int) < 9 + 3 * m → (ps_w1 x n m q).2.2 j = q.2 j) ∧ (ps_w1 x n m q).2.2 (9 + 3 * m).toNat = q.2 (9 + 3 * m).toNat ∧ (ps_w1 x n m q).2.2 27 = q.2 27 ∧ (ps_w1 x n m q).2.2 28 = q.2 28 ∧ ((ps_w1 x n m q).1 = true → (1 ≤ (ps_w1 x n m q).2.2 (9 + 3 * m + 1).toNat ∧ (ps_w1 x n m q).2.2 (9 + 3 * m + 1).toNat ≤ 9) ∧ (1 ≤ (ps_w1 x n m q).2.2 (9 + 3 * m + 2).toNat ∧ (ps_w1 x n m q).2.2 (9 + 3 * m + 2).toNat ≤ 9) ∧ (ps_w1 x n m q).2.2 36 = m + 1) := by
  have fv : ∀ {to : Nat} {q : PS}, (ps_f x n to 1 9 q).1 = true → 1 ≤ (ps_f x n to 1 9 q).2.2 to ∧ (ps_f x n to 1 9 q).2.2 to ≤ 9 := by
    intro to q h
    unfold ps_f at *
    by_cases a : 1 ≤ ps_c x n q.1 - 48 ∧ ps_c x n q.1 - 48 ≤ 9
    · rw [if_pos a]
      dsimp only
      rw [rg_ui_s]
      exact a
    · rw [if_neg a] at h
      cases h
  unfold ps_w1
  by_cases a : (ps_f x n (9 + 3 * m + 1).toNat 1 9 q).1 = true
  · rw [if_pos a]
    unfold ps_w2
    have av := fv a
    have k1 : ∀ j, j ≠ (9 + 3 * m + 1).toNat → (ps_f x n (9 + 3 * m + 1).toNat 1 9 q).2.2 j = q.2 j := fun j hj => ps_f_keep hj
    generalize (ps_f x n (9 + 3 * m + 1).toNat 1 9 q).2 = A at *
    have k2 : ∀ j, j ≠ (9 + 3 * m + 2).toNat → (ps_f x n (9 + 3 * m + 2).toNat 1 9 A).2.2 j = A.2 j := fun j hj => ps_f_keep hj
    by_cases b : (ps_f x n (9 + 3 * m + 2).toNat 1 9 A).1 = true
    · rw [if_pos b]
      have bv := fv b
      generalize (ps_f x n (9 + 3 * m + 2).toNat 1 9 A).2 = B at *
      dsimp only
      refine ⟨fun j hj => ?_, ?_, ?_, ?_, fun _ => ⟨?_, ?_, rg_ui_s _ _ _⟩⟩
      · rw [rg_ui_n (by omega), k2 j (by omega), k1 j (by omega)]
      · rw [rg_ui_n (by omega), k2 _ (by omega), k1 _ (by omega)]
      · rw [rg_ui_n (by omega), k2 _ (by omega), k1 _ (by omega)]
      · rw [rg_ui_n (by omega), k2 _ (by omega), k1 _ (by omega)]
      · rw [rg_ui_n (by omega), k2 _ (by omega)]
        exact av
      · rw [rg_ui_n (by omega)]
        exact bv
    · rw [if_neg b]
      refine ⟨fun j hj => ?_, ?_, ?_, ?_, fun z => absurd z b⟩
      · rw [k2 j (by omega), k1 j (by omega)]
      · rw [k2 _ (by omega), k1 _ (by omega)]
      · rw [k2 _ (by omega), k1 _ (by omega)]
      · rw [k2 _ (by omega), k1 _ (by omega)]
  · rw [if_neg a]
    have k1 : ∀ j, j ≠ (9 + 3 * m + 1).toNat → (ps_f x n (9 + 3 * m + 1).toNat 1 9 q).2.2 j = q.2 j := fun j hj => ps_f_keep hj
    exact ⟨fun j hj => k1 j (by omega), k1 _ (by omega), k1 _ (by omega), k1 _ (by omega), fun z => absurd z a⟩
theorem rg_E_wag (hX : XL X) (hc : rg_con c) (c1 : c = 13 ∨ c = 28) (hr : rg_row o 60) (ho : 56 ≤ o) (hn : n ≤ 60) (hb : ∀ k, k < n → -128 ≤ x k ∧ x k ≤ 127) (d : Nat) {D : rf_D} {q : PS} {W : Int} (h : EP D x n o q.1) (hq : q.1 ≤ n) (hW : q.2 36 = W) (W5 : W < 6) (hC : CR D c q.2 W) (l0 : 0 ≤ q.2 1) (l3 : q.2 1 ≤ 3) (hz : q.2 2 ≤ 6) : ∃ D', rf_call (d + 5) 36 [.inr (.inr (some 12)), .inr (.inr (some o)), .inr (.inr (some c))] (hp X D) = some (some (.inl (if (ps_wag x n q).1 = true then 1 else 0)), hp X D') ∧ EP D' x n o (ps_wag x n q).2.1 ∧ (∀ a, a ≠ 12 → (a < c + 3 ∨ c + 14 < a) → D' a = D a) ∧ ((ps_wag x n q).1 = true → CR D' c (ps_wag x n q).2.2 (W + 1)) := by
  have W0 := hC.2.2.2.1.1
  rw [rf_e_E_readsWagon]
  simp only [rg_hp1, rg_o_12, Int.reduceToNat, rg_kIs, rg_kLs, rg_kRs, rg_kVs, rg_nns, rg_bs, cond_true, cond_false]
  rw [rg_E_here h hr hn (d + 2)]
  simp only [Int.reduceToNat, rg_kIs, rg_kLs, rg_kRs, rg_kVs, rg_nns, rg_bs, cond_true, cond_false]
  rw [rg_E_ixK hX]
  simp only [Int.reduceToNat, rg_kIs, rg_kLs, rg_kRs, rg_kVs, rg_nns, rg_bs, cond_true, cond_false, ps_h_kind]
  unfold ps_wag
  rw [hW]
  by_cases a : ps_kind (ps_c x n q.1) = -9
  · rw [if_pos a, if_pos (show ps_kind (ps_c x n q.1) = -9 ∨ W = 6 from Or.inl a)]
    exact ⟨D, rfl, h, fun _ _ _ => rfl, fun z => by cases z⟩
  · have p1 := ps_kind_n (x := x) (n := n) (p := q.1) a
    have k05 := ps_kind_05 a
    rw [if_neg a, if_neg (show ¬ (ps_kind (ps_c x n q.1) = -9 ∨ W = 6) by omega)]
    simp only [rg_gI_12, rg_pI_12, rg_hp1, rg_o_12, Int.reduceToNat, rg_kIs, rg_kLs, rg_kRs, rg_kVs, rg_nns, rg_bs, cond_true, cond_false]
    rw [h.2.2, rg_w (by omega) (by omega), show ((q.1 : Int) + 1) = ((q.1 + 1 : Nat) : Int) by omega]
    have h1 := h.to (q := q.1 + 1) ho
    have D1a : ∀ b, b ≠ 12 → ep_to D (q.1 + 1) b = D b := fun b z => by unfold ep_to; rw [rg_up_n z]
    rw [show rg_up D 12 (rg_ui (D 12) 0 ((q.1 + 1 : Nat) : Int)) = ep_to D (q.1 + 1) from rfl]
    have ws := ps_w_step (x := x) (n := n) (m := W) W0 W5 (q := (q.1 + 1, rg_ui q.2 (9 + 3 * W).toNat (ps_kind (ps_c x n q.1))))
    rw [rg_E_fig h1 hr hn p1 hb (d + 1) (by omega) (by omega) (9 + 3 * W + 1).toNat (rg_ui q.2 (9 + 3 * W).toNat (ps_kind (ps_c x n q.1)))]
    simp only [rg_hp1, rg_o_12, Int.reduceToNat, rg_kIs, rg_kLs, rg_kRs, rg_kVs, rg_nns, rg_bs, cond_true, cond_false, ep_to_to]
    unfold ps_w1 at *
    generalize hA : ps_f x n (9 + 3 * W + 1).toNat 1 9 (q.1 + 1, rg_ui q.2 (9 + 3 * W).toNat (ps_kind (ps_c x n q.1))) = A at *
    have A1 : A.2.1 ≤ n := by rw [← hA]; exact ps_f_le p1 (by omega)
    have h2 := h.to (q := A.2.1) ho
    have D2a : ∀ b, b ≠ 12 → ep_to D A.2.1 b = D b := fun b z => by unfold ep_to; rw [rg_up_n z]
    by_cases b : A.1 = true
    · have bv : A.2.2 (9 + 3 * W + 1).toNat ≠ -1 := by
        rw [← hA] at b ⊢
        exact ps_f_val b (by omega)
      rw [if_pos b] at ws
      rw [if_pos b, if_pos b, if_neg bv]
      rw [rg_E_fig h2 hr hn A1 hb (d + 1) (by omega) (by omega) (9 + 3 * W + 2).toNat A.2.2]
      simp only [Int.reduceToNat, rg_kIs, rg_kLs, rg_kRs, rg_kVs, rg_nns, rg_bs, cond_true, cond_false, ep_to_to]
      unfold ps_w2 at *
      rw [show ((A.2.1, A.2.2) : PS) = A.2 from rfl]
      have Bk : ∀ j, j ≠ (9 + 3 * W + 2).toNat → (ps_f x n (9 + 3 * W + 2).toNat 1 9 A.2).2.2 j = A.2.2 j := fun j hj => ps_f_keep hj
      generalize hB : ps_f x n (9 + 3 * W + 2).toNat 1 9 A.2 = B at *
      have h3 := h.to (q := B.2.1) ho
      have D3a : ∀ b, b ≠ 12 → ep_to D B.2.1 b = D b := fun b z => by unfold ep_to; rw [rg_up_n z]
      by_cases b2 : B.1 = true
      · have b2v : B.2.2 (9 + 3 * W + 2).toNat ≠ -1 := by
          rw [← hB] at b2 ⊢
          exact ps_f_val b2 (by omega)
        rw [if_pos b2] at ws
        rw [if_pos b2, if_pos b2, rf_e_E_readsWagon_58, if_neg b2v]
        obtain ⟨w1, w2, w27, w28, w4⟩ := ws
        obtain ⟨w5, w6, w7⟩ := w4 rfl
        dsimp only at w1 w2 w5 w6 w7
        simp only [rg_hp1, hc.1, Int.reduceToNat, rg_kIs, rg_kLs, rg_kRs, rg_kVs, rg_nns, rg_bs, cond_true, cond_false]
        have eA : A.2.2 (9 + 3 * W + 1).toNat = rg_ui B.2.2 36 (W + 1) (9 + 3 * W + 1).toNat := by rw [rg_ui_n (by omega), Bk _ (by omega)]
        have eB : B.2.2 (9 + 3 * W + 2).toNat = rg_ui B.2.2 36 (W + 1) (9 + 3 * W + 2).toNat := by rw [rg_ui_n (by omega)]
        have hC3 : CR (ep_to D B.2.1) c q.2 W := hC.of fun a z1 z2 => D3a a (by omega)
        obtain ⟨D', r1, r2, r3⟩ := rg_C_add (X := X) (D := ep_to D B.2.1) (g := q.2) (g' := rg_ui B.2.2 36 (W + 1)) hc hC3 W5 (d := d) (k := ps_kind (ps_c x n q.1)) (t := A.2.2 (9 + 3 * W + 1).toNat) (u := B.2.2 (9 + 3 * W + 2).toNat) (by rw [eA]; exact w5.1) (by rw [eA]; exact w5.2) (by rw [eB]; exact w6.1) (by rw [eB]; exact w6.2) l0 l3 (fun j hj => by rw [w1 j (by omega), rg_ui_n (by omega)]) hz (fun j h9 hj => by rw [w1 j hj, rg_ui_n (by omega)]) (by rw [w2, rg_ui_s]) eA.symm eB.symm
        rw [r1]
        simp only [Int.reduceToNat, rg_kIs, rg_kLs, rg_kRs, rg_kVs, rg_nns, rg_bs, cond_true, cond_false]
        refine ⟨D', rfl, h3.of (r2 _ (by omega)) (r2 _ (by omega)) (r2 _ (by omega)), fun b z1 z2 => by rw [r2 b z2, D3a b z1], fun _ => r3⟩
      · rw [if_neg b2, if_neg b2, rf_e_E_readsWagon_58, if_pos rfl, if_neg b2]
        exact ⟨_, rfl, h3, fun b z1 z2 => D3a b z1, fun z => absurd z b2⟩
    · rw [if_neg b, if_neg b, if_pos rfl, rf_e_E_readsWagon_58, if_pos rfl, if_neg b]
      exact ⟨_, rfl, h2, fun b z1 z2 => D2a b z1, fun z => absurd z b⟩
end RGF
