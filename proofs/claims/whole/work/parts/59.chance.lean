/-! odds: the heaps -/
theorem xs_wl {z : Int} (h0 : 0 ≤ z) (h1 : z ≤ 1000000000) : rf_wl z = z := rg_wl (by omega) (by omega)
theorem xs_m (c : Nat) : Int.tmod (c : Int) 3 = ((c % 3 : Nat) : Int) := by
  rw [Int.tmod_eq_emod_of_nonneg (by omega)]
  omega
theorem xs_d {c : Nat} (h : c ≤ 1000) : rf_w (Int.tdiv (c : Int) 3) = ((c / 3 : Nat) : Int) := by
  rw [Int.tdiv_eq_ediv_of_nonneg (by omega), rg_w (by omega) (by omega)]
  omega
theorem xs_tw {i : Nat} (h : i < 6) : rf_wl (tw i * 12) = tw (i + 1) := by
  have t1 := tw_b (k := i) (by omega)
  rw [rg_wl (by omega) (by omega)]
  show tw i * 12 = 12 * tw i
  omega
theorem xs_t3 {i : Nat} (h : i < 6) : rf_w (((t3 i : Nat) : Int) * 3) = ((t3 (i + 1) : Nat) : Int) := by
  have t2 := t3_b (k := i) (by omega)
  rw [rg_w (by omega) (by omega)]
  show ((t3 i : Nat) : Int) * 3 = ((3 * t3 i : Nat) : Int)
  omega
section RGS29
variable {X : rf_X} {D : rf_D} {s : Nat → Int} {W g m : Int}
theorem rg_T_nx {j : Nat} (h : j < 6) : rf_gR (hp X D) 3 (71 + j) 1 = some (some (70 + j)) := by
  have e : j = 0 ∨ j = 1 ∨ j = 2 ∨ j = 3 ∨ j = 4 ∨ j = 5 := by omega
  rcases e with e | e | e | e | e | e <;> subst e
  · exact rg_gR_71_1 X D
  · exact rg_gR_72_1 X D
  · exact rg_gR_73_1 X D
  · exact rg_gR_74_1 X D
  · exact rg_gR_75_1 X D
  · exact rg_gR_76_1 X D
theorem rg_tr_71 {j : Nat} (h : j < 6) : rg_tr (71 + j) := by
  have e := rg_tr_70 (j := j + 1) (by omega)
  rw [show 70 + (j + 1) = 71 + j by omega] at e
  exact e
/-- one thing more, on the next train of the chain -/
theorem rg_P_step {j : Nat} (hj : j < 6) (hC : CR D 28 s W) (hd : sp_hd s) (hT : TR (D (71 + j)) s g) (hs : sp_st m s) (hm : m ≤ 1000000) (hg : 0 ≤ g ∧ g ≤ 1000000) (hW : s 36 ≤ W) (d : Nat) {t r : Int} (t0 : 0 ≤ t) (t14 : t ≤ 14) (hr : t < 10 → 0 ≤ r ∧ r ≤ 2) : ∃ D1 D2, rf_call (d + 6) 48 [.inr (.inr (some (70 + j))), .inr (.inr (some (71 + j)))] (hp X D) = some (none, hp X D1) ∧ rf_call (d + 6) 40 [.inr (.inr (some (70 + j))), .inl t, .inl r] (hp X D1) = some (some (.inl (sp_does s t r).1), hp X D2) ∧ (∀ a, a ≠ 70 + j → D1 a = D a) ∧ (∀ a, a ≠ 70 + j → D2 a = D a) ∧ TR (D2 (70 + j)) (sp_does s t r).2 g := by
  have z := hT.zo hs
  obtain ⟨f1, r1, r2⟩ := rg_T_becomes (X := X) (D := D) (rg_tr_70 (j := j) (by omega)) (rg_tr_71 hj) (by omega) (d + 5) z.1 z.2.1 z.2.2
  have hT1 : TR (rg_up D (70 + j) f1 (70 + j)) s g := by
    rw [rg_up_s]
    exact hT.of r2
  obtain ⟨f2, w1, w2⟩ := rg_T_does (X := X) (D := rg_up D (70 + j) f1) (rg_tr_70 (j := j) (by omega)) (hC.up (by omega)) hd hT1 hs hm hg hW (d + 1) t0 t14 hr
  refine ⟨rg_up D (70 + j) f1, rg_up (rg_up D (70 + j) f1) (70 + j) f2, r1, w1, fun a y => rg_up_n y, fun a y => ?_, ?_⟩
  · rw [rg_up_n y, rg_up_n y]
  · rw [rg_up_s]
    exact w2
theorem sp_does_W {t r : Int} (hs : sp_st m s) (hW : s 36 ≤ W) : (sp_does s t r).2 36 ≤ W := Int.le_trans (sp_does_36 hs t r) hW
theorem rg_P_ch {o n Z : Nat} (hr : rg_row o n) (ho : 42 < o ∧ o + 1 < 70) (hn : Z ≤ n) (n1 : n ≤ 1000) (Z6 : Z ≤ 6) {f p : Nat → Int} (hp' : PP p) (hg : 0 ≤ g ∧ g ≤ 1000000) (hf : ∀ j, j < Z → 0 ≤ f j ∧ f j < 15) : ∀ (k i j : Nat) (d : Nat) (D : rf_D) (s : Nat → Int) (m : Int), i + k = Z → k ≤ j → j ≤ 6 → CR D 28 s W → sp_hd s → TR (D (70 + j)) s g → sp_st m s → m + (k : Int) ≤ 1000000 → s 36 ≤ W → D o 1 = (Z : Int) → (∀ q, q < Z → D (o + 1) q = f q) → D 10 1 = 3 → (∀ q, q < 3 → D 11 q = p q) → ∃ D', rf_call (d + 7 + k) 52 [.inr (.inr (some (70 + j))), .inr (.inr (some o)), .inl (i : Int), .inr (.inr (some 10))] (hp X D) = some (some (.inr (.inl (od_v f p g k i s))), hp X D') ∧ ∀ a, (a < 70 ∨ 70 + j ≤ a) → D' a = D a
  | 0, i, j, d, D, s, m, hk, hkj, hj, hC, hd, hT, hs, hm, hW, hZ, hF, h10, h11 => by
    refine ⟨D, ?_, fun _ _ => rfl⟩
    rw [rf_e_P_startingChances]
    try simp only [rg_gR (rg_tr_70 (j := j) (show j < 7 by omega)).1, rg_row_gI hr, Int.reduceToNat, rg_kIs, rg_kLs, rg_kRs, rg_kVs, rg_nns, rg_bs, cond_true, cond_false]
    rw [hZ, if_neg (by omega), rf_e_P_startingChances_25]
    try simp only [rg_T_gI (rg_tr_70 (j := j) (show j < 7 by omega)), Int.reduceToNat, rg_kIs, rg_kLs, rg_kRs, rg_kVs, rg_nns, rg_bs, cond_true, cond_false]
    rw [hT.2.2.2.2.1]
    have e : od_v f p g 0 i s = (if g < s 35 then 1 else 0) := rfl
    rw [e]
    by_cases c : g < s 35
    · rw [if_pos c, if_pos (by omega)]
    · rw [if_neg c, if_neg (by omega)]
  | k + 1, i, 0, d, D, s, m, hk, hkj, hj, hC, hd, hT, hs, hm, hW, hZ, hF, h10, h11 => by omega
  | k + 1, i, j + 1, d, D, s, m, hk, hkj, hj, hC, hd, hT, hs, hm, hW, hZ, hF, h10, h11 => by
    have j6 : j < 6 := by omega
    have fb := hf i (by omega)
    have z1 : 1 ≤ s 2 ∧ s 2 ≤ 6 := hd.2.2.1
    have tj := rg_tr_71 j6
    have tk := rg_tr_70 (j := j) (show j < 7 by omega)
    have yi : i ≤ 1000 := by omega
    rw [show 70 + (j + 1) = 71 + j by omega] at hT ⊢
    have c0 := rg_R_cellI (X := X) (D := D) hr (d + 6 + k) (i := (i : Int)) (by omega) (by omega) (by omega)
    rw [rg_tN, hF i (by omega)] at c0
    have cb := rg_T_canBe (X := X) (D := D) tj hT hs (d + 6 + k) (th := f i) fb.1 (by omega)
    have tb := tw_b (k := k) (by omega)
    have e : od_v f p g (k + 1) i s = (if sp_can s (f i) = true then (if 9 < f i then 12 * od_v f p g k (i + 1) (sp_does s (f i) 0).2 else (p 0 * od_v f p g k (i + 1) (sp_does s (f i) 0).2 + p 1 * od_v f p g k (i + 1) (sp_does s (f i) 1).2) + p 2 * od_v f p g k (i + 1) (sp_does s (f i) 2).2) else 12 * od_v f p g k (i + 1) s) := rfl
    -- one step on the next train, and what comes of it
    have st : ∀ (r : Int) (D0 : rf_D), (f i < 10 → 0 ≤ r ∧ r ≤ 2) → (∀ a, (a < 70 ∨ 71 + j ≤ a) → D0 a = D a) → ∃ D1 D2 D3, rf_call (d + 7 + k) 48 [.inr (.inr (some (70 + j))), .inr (.inr (some (71 + j)))] (hp X D0) = some (none, hp X D1) ∧ rf_call (d + 7 + k) 40 [.inr (.inr (some (70 + j))), .inl (f i), .inl r] (hp X D1) = some (some (.inl (sp_does s (f i) r).1), hp X D2) ∧ rf_call (d + 7 + k) 52 [.inr (.inr (some (70 + j))), .inr (.inr (some o)), .inl ((i + 1 : Nat) : Int), .inr (.inr (some 10))] (hp X D2) = some (some (.inr (.inl (od_v f p g k (i + 1) (sp_does s (f i) r).2))), hp X D3) ∧ (∀ a, (a < 70 ∨ 71 + j ≤ a) → D2 a = D a) ∧ ∀ a, (a < 70 ∨ 71 + j ≤ a) → D3 a = D a := fun r D0 hr0 h0 => by
      obtain ⟨D1, D2, a1, a2, a3, a4, a5⟩ := rg_P_step (X := X) (D := D0) j6 (hC.of fun a _ _ => h0 a (by omega)) hd (by rw [h0 (71 + j) (by omega)]; exact hT) hs (by omega) hg hW (d + 1 + k) (t := f i) (r := r) fb.1 (by omega) hr0
      have n2 : ∀ a, (a < 70 ∨ 71 + j ≤ a) → D2 a = D a := fun a y => by rw [a4 a (by omega), h0 a y]
      have hh : ∀ q, q < 27 → (sp_does s (f i) r).2 q = s q := fun q hq => sp_does_hd s _ _ q hq
      obtain ⟨D3, b1, b2⟩ := rg_P_ch hr ho hn n1 Z6 hp' hg hf k (i + 1) j d D2 (sp_does s (f i) r).2 (m + 1) (by omega) (by omega) (by omega) ((hC.ofs z1.2 hh).of fun a _ _ => n2 a (by omega)) (sp_hd_of hd hh) a5 (sp_does_st hs (by have := hs.2.2.2.2.2.2.2.1; omega) (f i) r).1 (by omega) (sp_does_W hs hW) (by rw [n2 o (by omega)]; exact hZ) (fun q hq => by rw [n2 (o + 1) (by omega)]; exact hF q hq) (by rw [n2 10 (by omega)]; exact h10) (fun q hq => by rw [n2 11 (by omega)]; exact h11 q hq)
      refine ⟨D1, D2, D3, ?_, ?_, b1, n2, fun a y => by rw [b2 a (by omega), n2 a y]⟩
      · rw [show d + 7 + k = d + 1 + k + 6 by omega]
        exact a1
      · rw [show d + 7 + k = d + 1 + k + 6 by omega]
        exact a2
    rw [show d + 7 + (k + 1) = (d + 7 + k) + 1 by omega, rf_e_P_startingChances]
    try simp only [rg_T_nx j6, rg_row_gI hr, Int.reduceToNat, rg_kIs, rg_kLs, rg_kRs, rg_kVs, rg_nns, rg_bs, cond_true, cond_false]
    rw [hZ, if_pos (by omega), if_pos (by omega)]
    try simp only [rg_hp1, rg_row_o hr, rg_nzs, Int.reduceToNat, rg_kIs, rg_kLs, rg_kRs, rg_kVs, rg_nns, rg_bs, cond_true, cond_false]
    rw [show d + 7 + k = d + 6 + k + 1 by omega, c0]
    try simp only [rg_hp1, tj.1, Int.reduceToNat, rg_kIs, rg_kLs, rg_kRs, rg_kVs, rg_nns, rg_bs, cond_true, cond_false]
    rw [cb, show d + 6 + k + 1 = d + 7 + k by omega]
    try simp only [Int.reduceToNat, rg_kIs, rg_kLs, rg_kRs, rg_kVs, rg_nns, rg_bs, cond_true, cond_false]
    by_cases y : sp_can s (f i) = true
    · rw [if_pos y] at e ⊢
      rw [if_neg (by decide)]
      by_cases y9 : 9 < f i
      · rw [if_pos y9] at e ⊢
        obtain ⟨D1, D2, D3, q1, q2, q3, q4, q5⟩ := st 0 D (fun q => by omega) (fun _ _ => rfl)
        have ob := od_b (f := f) (g := g) hp' k (i + 1) (sp_does s (f i) 0).2
        refine ⟨D3, ?_, q5⟩
        try simp only [rg_hp1, tk.1, Int.reduceToNat, rg_kIs, rg_kLs, rg_kRs, rg_kVs, rg_nns, rg_bs, cond_true, cond_false]
        rw [q1]
        try simp only [rg_hp1, tk.1, Int.reduceToNat, rg_kIs, rg_kLs, rg_kRs, rg_kVs, rg_nns, rg_bs, cond_true, cond_false]
        rw [q2]
        try simp only [Int.reduceToNat, rg_kIs, rg_kLs, rg_kRs, rg_kVs, rg_nns, rg_bs, cond_true, cond_false, xs_1 yi]
        rw [q3, e]
        try simp only [Int.reduceToNat, rg_kIs, rg_kLs, rg_kRs, rg_kVs, rg_nns, rg_bs, cond_true, cond_false]
        rw [rg_wl (by omega) (by omega)]
      · rw [if_neg y9] at e ⊢
        obtain ⟨A1, A2, A3, a1, a2, a3, a4, a5⟩ := st 0 D (fun _ => by decide) (fun _ _ => rfl)
        obtain ⟨B1, B2, B3, b1, b2, b3, b4, b5⟩ := st 1 A3 (fun _ => by decide) a5
        obtain ⟨C1, C2, C3, c1, c2, c3, c4, c5⟩ := st 2 B3 (fun _ => by decide) b5
        have oa := od_b (f := f) (g := g) hp' k (i + 1) (sp_does s (f i) 0).2
        have ob := od_b (f := f) (g := g) hp' k (i + 1) (sp_does s (f i) 1).2
        have oc := od_b (f := f) (g := g) hp' k (i + 1) (sp_does s (f i) 2).2
        have pb := pp_3 hp' oa.1 ob.1 oc.1 oa.2 ob.2 oc.2
        have pc : ∀ (D0 : rf_D), (∀ a, (a < 70 ∨ 71 + j ≤ a) → D0 a = D a) → ∀ q : Nat, q < 3 → rf_call (d + 7 + k) 4 [.inr (.inr (some 10)), .inl (q : Int)] (hp X D0) = some (some (.inl (p q)), hp X D0) := fun D0 h0 q hq => by
          have r := rg_R_cellI (X := X) (D := D0) rg_row_10 (d + 6 + k) (i := (q : Int)) (by omega) (by rw [h0 10 (by omega), h10]; omega) (by rw [h0 10 (by omega), h10]; decide)
          rw [rg_tN, h0 (10 + 1) (by omega), h11 q hq, show d + 6 + k + 1 = d + 7 + k by omega] at r
          exact r
        have p0 := pc A2 a4 0 (by decide)
        have p1 := pc B2 b4 1 (by decide)
        have p2' := pc C2 c4 2 (by decide)
        rw [show ((0 : Nat) : Int) = 0 from rfl] at p0
        rw [show ((1 : Nat) : Int) = 1 from rfl] at p1
        rw [show ((2 : Nat) : Int) = 2 from rfl] at p2'
        refine ⟨C3, ?_, c5⟩
        rw [rf_e_P_startingChances_111, if_neg (by decide)]
        try simp only [rg_hp1, tk.1, Int.reduceToNat, rg_kIs, rg_kLs, rg_kRs, rg_kVs, rg_nns, rg_bs, cond_true, cond_false]
        rw [a1]
        try simp only [rg_hp1, tk.1, Int.reduceToNat, rg_kIs, rg_kLs, rg_kRs, rg_kVs, rg_nns, rg_bs, cond_true, cond_false]
        rw [a2]
        try simp only [rg_hp1, rg_row_o rg_row_10, Int.reduceToNat, rg_kIs, rg_kLs, rg_kRs, rg_kVs, rg_nns, rg_bs, cond_true, cond_false]
        rw [p0]
        try simp only [Int.reduceToNat, rg_kIs, rg_kLs, rg_kRs, rg_kVs, rg_nns, rg_bs, cond_true, cond_false, xs_1 yi]
        rw [a3]
        try simp only [Int.reduceToNat, rg_kIs, rg_kLs, rg_kRs, rg_kVs, rg_nns, rg_bs, cond_true, cond_false]
        generalize od_v f p g k (i + 1) (sp_does s (f i) 0).2 = va at *
        generalize od_v f p g k (i + 1) (sp_does s (f i) 1).2 = vb at *
        generalize od_v f p g k (i + 1) (sp_does s (f i) 2).2 = vc at *
        generalize hwa : p 0 * va = wa at e pb ⊢
        generalize hwb : p 1 * vb = wb at e pb
        generalize hwc : p 2 * vc = wc at e pb
        rw [rg_wl (z := wa) (by omega) (by omega), rg_wl (z := 0 + wa) (by omega) (by omega), show rf_w (0 + 1) = 1 from rfl]
        rw [rf_e_P_startingChances_111, if_neg (by decide)]
        try simp only [rg_hp1, tk.1, Int.reduceToNat, rg_kIs, rg_kLs, rg_kRs, rg_kVs, rg_nns, rg_bs, cond_true, cond_false]
        rw [b1]
        try simp only [rg_hp1, tk.1, Int.reduceToNat, rg_kIs, rg_kLs, rg_kRs, rg_kVs, rg_nns, rg_bs, cond_true, cond_false]
        rw [b2]
        try simp only [rg_hp1, rg_row_o rg_row_10, Int.reduceToNat, rg_kIs, rg_kLs, rg_kRs, rg_kVs, rg_nns, rg_bs, cond_true, cond_false]
        rw [p1]
        try simp only [Int.reduceToNat, rg_kIs, rg_kLs, rg_kRs, rg_kVs, rg_nns, rg_bs, cond_true, cond_false, xs_1 yi]
        rw [b3]
        try simp only [Int.reduceToNat, rg_kIs, rg_kLs, rg_kRs, rg_kVs, rg_nns, rg_bs, cond_true, cond_false]
        rw [hwb, rg_wl (z := wb) (by omega) (by omega), rg_wl (z := 0 + wa + wb) (by omega) (by omega), show rf_w (1 + 1) = 2 from rfl]
        rw [rf_e_P_startingChances_111, if_neg (by decide)]
        try simp only [rg_hp1, tk.1, Int.reduceToNat, rg_kIs, rg_kLs, rg_kRs, rg_kVs, rg_nns, rg_bs, cond_true, cond_false]
        rw [c1]
        try simp only [rg_hp1, tk.1, Int.reduceToNat, rg_kIs, rg_kLs, rg_kRs, rg_kVs, rg_nns, rg_bs, cond_true, cond_false]
        rw [c2]
        try simp only [rg_hp1, rg_row_o rg_row_10, Int.reduceToNat, rg_kIs, rg_kLs, rg_kRs, rg_kVs, rg_nns, rg_bs, cond_true, cond_false]
        rw [p2']
        try simp only [Int.reduceToNat, rg_kIs, rg_kLs, rg_kRs, rg_kVs, rg_nns, rg_bs, cond_true, cond_false, xs_1 yi]
        rw [c3]
        try simp only [Int.reduceToNat, rg_kIs, rg_kLs, rg_kRs, rg_kVs, rg_nns, rg_bs, cond_true, cond_false]
        rw [hwc, rg_wl (z := wc) (by omega) (by omega), rg_wl (z := 0 + wa + wb + wc) (by omega) (by omega), show rf_w (2 + 1) = 3 from rfl]
        rw [rf_e_P_startingChances_111, if_pos (by decide), e, Int.zero_add]
    · rw [if_neg y] at e ⊢
      rw [if_pos (by decide)]
      obtain ⟨D3, b1, b2⟩ := rg_P_ch hr ho hn n1 Z6 hp' hg hf k (i + 1) (j + 1) d D s m (by omega) (by omega) hj hC hd (by rw [show 70 + (j + 1) = 71 + j by omega]; exact hT) hs (by omega) hW hZ hF h10 h11
      rw [show 70 + (j + 1) = 71 + j by omega] at b1 b2
      have ob := od_b (f := f) (g := g) hp' k (i + 1) s
      refine ⟨D3, ?_, b2⟩
      rw [xs_1 yi, b1, e]
      try simp only [Int.reduceToNat, rg_kIs, rg_kLs, rg_kRs, rg_kVs, rg_nns, rg_bs, cond_true, cond_false]
      rw [rg_wl (by omega) (by omega)]
end RGS29
section RGS30
variable {X : rf_X} {D : rf_D} {m g : Int} {R Z : Nat} {f p : Nat → Int}
theorem rg_M_od_133 (hp' : PP p) {dd w0 : Int} (e0 : p 0 = dd) (e1 : p 1 = w0) (e2 : p 2 = rf_w (rf_w (12 - dd) - w0)) (Z6 : Z ≤ 6) (hf : ∀ j, j < Z → 0 ≤ f j ∧ f j < 15) (d : Nat) (l5 l7 l9 l10 : Int) (h5 : 0 ≤ l5) : ∀ (k i c : Nat) (w : Int) (D : rf_D) (s : Nat → Int) (m : Int), i + k = Z → MR D R f Z → E37 (D 88) s → sp_st m s → 0 ≤ m → m + (k : Int) ≤ 1000000 → D 82 35 = g → 0 ≤ w → w ≤ tw i → c ≤ 1000 → l5 + w * oc_v f p g k i c s ≤ 1000000000 → ∃ f', rf_j_M_odds_133 (d + 6) 77 (R : Int) dd w0 l5 l7 l9 l10 (c : Int) w (i : Int) (hp X D) = rf_j_M_odds_112 (d + 6) 77 (R : Int) dd w0 (l5 + w * oc_v f p g k i c s) l7 l9 (rf_w (l10 + 1)) (hp X (rg_up D 88 f'))
  | 0, i, c, w, D, s, m, hk, h, hu, hs, m0, hm, h82, w0', w1, hc, hb => by
    refine ⟨D 88, ?_⟩
    rw [rf_e_M_odds_133]
    try simp only [rg_gR_77_0, Int.reduceToNat, rg_kIs, rg_kLs, rg_kRs, rg_kVs, rg_nns, rg_bs, cond_true, cond_false]
    rw [h.sz]
    try simp only [Int.reduceToNat, rg_kIs, rg_kLs, rg_kRs, rg_kVs, rg_nns, rg_bs, cond_true, cond_false]
    rw [if_neg (by omega)]
    try simp only [rg_gR_77_17, rg_gR_77_4, Int.reduceToNat, rg_kIs, rg_kLs, rg_kRs, rg_kVs, rg_nns, rg_bs, cond_true, cond_false]
    rw [rg_aI_88 (by decide) (by decide)]
    try simp only [Int.reduceToNat, rg_kIs, rg_kLs, rg_kRs, rg_kVs, rg_nns, rg_bs, cond_true, cond_false]
    rw [rg_aI_82 (by decide) (by decide)]
    try simp only [Int.reduceToNat, rg_kIs, rg_kLs, rg_kRs, rg_kVs, rg_nns, rg_bs, cond_true, cond_false]
    rw [hu 35 (by decide), h82, rg_up_i]
    have e : oc_v f p g 0 i c s = (if g < s 35 then 1 else 0) := rfl
    have tb := tw_b (k := i) (by omega)
    rw [e] at hb ⊢
    by_cases y : g < s 35
    · rw [if_pos y] at hb ⊢
      rw [if_pos y]
      rw [Int.mul_one] at hb ⊢
      rw [rg_wl (by omega) (by omega)]
    · rw [if_neg y] at hb ⊢
      rw [if_neg y]
      rw [Int.mul_zero] at hb ⊢
      rw [rg_wl (by omega) (by omega)]
  | k + 1, i, c, w, D, s, m, hk, h, hu, hs, m0, hm, h82, w0', w1, hc, hb => by
    have R6 := h.1
    have Z40 := h.2.1
    have fb := hf i (by omega)
    have b33 := hs.2.2.2.2.2.2.1
    have tb := tw_b (k := i) (by omega)
    have yi : i ≤ 1000 := by omega
    have yj : i ≤ 40 := by omega
    have pn := hp'.n (c % 3) (by omega)
    have pm := hp'.m (c % 3) (by omega)
    have wp0 := Int.mul_nonneg w0' pn
    have wp1 := Int.mul_le_mul_of_nonneg_left pm w0'
    have e : oc_v f p g (k + 1) i c s = p (c % 3) * oc_v f p g k (i + 1) (c / 3) (oc_s s (f i) ((c % 3 : Nat) : Int)) := rfl
    have wp2 : w * p (c % 3) ≤ 1000000000 := by omega
    have tws : tw (i + 1) = 12 * tw i := rfl
    rw [e, ← Int.mul_assoc] at hb ⊢
    have J : ∃ f', rf_j_M_odds_186 (d + 6) 77 (R : Int) dd w0 l5 l7 l9 l10 ((c / 3 : Nat) : Int) (i : Int) ((c % 3 : Nat) : Int) w (p (c % 3)) (hp X D) = rf_j_M_odds_112 (d + 6) 77 (R : Int) dd w0 (l5 + w * p (c % 3) * oc_v f p g k (i + 1) (c / 3) (oc_s s (f i) ((c % 3 : Nat) : Int))) l7 l9 (rf_w (l10 + 1)) (hp X (rg_up D 88 f')) := by
      rw [rf_e_M_odds_186]
      try simp only [rg_gR_77_1, Int.reduceToNat, rg_kIs, rg_kLs, rg_kRs, rg_kVs, rg_nns, rg_bs, cond_true, cond_false, xs_40 R6 yj]
      rw [h.at (j := i) (by omega) rfl]
      try simp only [rg_hp1, rg_o_77, Int.reduceToNat, rg_kIs, rg_kLs, rg_kRs, rg_kVs, rg_nns, rg_bs, cond_true, cond_false]
      rw [rg_M_can, hu.can]
      try simp only [Int.reduceToNat, rg_kIs, rg_kLs, rg_kRs, rg_kVs, rg_nns, rg_bs, cond_true, cond_false, xs_1 yi, xs_wl wp0 wp2]
      unfold oc_s at hb ⊢
      by_cases y : sp_can s (f i) = true
      · rw [if_pos y] at hb ⊢
        rw [if_pos y, if_neg (by decide)]
        have dd' := hu.does b33.1 (by omega) (f i) ((c % 3 : Nat) : Int)
        obtain ⟨f', q⟩ := rg_M_od_133 hp' e0 e1 e2 Z6 hf d l5 l7 l9 l10 h5 k (i + 1) (c / 3) (w * p (c % 3)) (rg_up D 88 (sp_does (D 88) (f i) ((c % 3 : Nat) : Int)).2) (sp_does s (f i) ((c % 3 : Nat) : Int)).2 (m + 1) (by omega) ⟨h.1, h.2.1, by rw [rg_up_n (by decide)]; exact h.2.2.1, fun j hj => by rw [rg_up_n (by decide)]; exact h.2.2.2 j hj⟩ (by rw [rg_up_s]; exact dd'.2) (sp_does_st hs (by omega) (f i) ((c % 3 : Nat) : Int)).1 (by omega) (by omega) (by rw [rg_up_n (by decide)]; exact h82) wp0 (by omega) (by omega) hb
        rw [rg_up_u] at q
        refine ⟨f', ?_⟩
        try simp only [rg_hp1, rg_o_77, Int.reduceToNat, rg_kIs, rg_kLs, rg_kRs, rg_kVs, rg_nns, rg_bs, cond_true, cond_false]
        rw [rg_M_does (d + 1) _ _ (by rw [hu 33 (by decide)]; exact b33.1) (by rw [hu 33 (by decide), hu 36 (by decide)]; exact b33.2.1) (by rw [hu 36 (by decide)]; exact b33.2.2)]
        try simp only [Int.reduceToNat, rg_kIs, rg_kLs, rg_kRs, rg_kVs, rg_nns, rg_bs, cond_true, cond_false]
        exact q
      · rw [if_neg y] at hb ⊢
        rw [if_neg y, if_pos (by decide)]
        exact rg_M_od_133 hp' e0 e1 e2 Z6 hf d l5 l7 l9 l10 h5 k (i + 1) (c / 3) (w * p (c % 3)) D s m (by omega) h hu hs m0 (by omega) h82 wp0 (by omega) (by omega) hb
    obtain ⟨f', q⟩ := J
    refine ⟨f', ?_⟩
    rw [← q, rf_e_M_odds_133]
    try simp only [rg_gR_77_0, Int.reduceToNat, rg_kIs, rg_kLs, rg_kRs, rg_kVs, rg_nns, rg_bs, cond_true, cond_false]
    rw [h.sz]
    try simp only [Int.reduceToNat, rg_kIs, rg_kLs, rg_kRs, rg_kVs, rg_nns, rg_bs, cond_true, cond_false]
    rw [if_pos (by omega), xs_m c, xs_d hc]
    have r3 : c % 3 = 0 ∨ c % 3 = 1 ∨ c % 3 = 2 := by omega
    rcases r3 with r | r | r
    · rw [r, e0, if_pos (by decide)]
    · rw [r, e1, if_neg (by decide), if_pos (by decide)]
    · rw [r, e2, if_neg (by decide), if_neg (by decide)]
theorem rg_M_od_112 (hp' : PP p) {dd w0 : Int} (e0 : p 0 = dd) (e1 : p 1 = w0) (e2 : p 2 = rf_w (rf_w (12 - dd) - w0)) (Z6 : Z ≤ 6) (hf : ∀ j, j < Z → 0 ≤ f j ∧ f j < 15) (d : Nat) {s : Nat → Int} (hs : sp_st m s) (m0 : 0 ≤ m) (hm : m ≤ 1000) : ∀ (k M : Nat) (D : rf_D), M + k = t3 Z → MR D R f Z → D 82 = s → ∃ f', rf_j_M_odds_112 (d + 6) 77 (R : Int) dd w0 (os_v f p (s 35) Z 0 s M) (tw Z) ((t3 Z : Nat) : Int) (M : Int) (hp X D) = rf_j_M_odds_112 (d + 6) 77 (R : Int) dd w0 (od_v f p (s 35) Z 0 s) (tw Z) ((t3 Z : Nat) : Int) ((t3 Z : Nat) : Int) (hp X (rg_up D 88 f'))
  | 0, M, D, hk, h, h82 => by
    refine ⟨D 88, ?_⟩
    rw [show M = t3 Z by omega, os_od hp', rg_up_i]
  | k + 1, M, D, hk, h, h82 => by
    have tb := t3_b Z6
    have wb := tw_b Z6
    have yM : M ≤ 1000 := by omega
    obtain ⟨u, hu⟩ : ∃ u, u = sp_first (D 88) (D 82) 37 := ⟨_, rfl⟩
    have E1 : E37 u s := by
      rw [hu, ← h82]
      exact sp_first_E _ _
    have om := os_m (f := f) (p := p) (g := s 35) hp'.n (k := Z) (i := 0) (s := s) k (M + 1)
    have om0 := os_m (f := f) (p := p) (g := s 35) hp'.n (k := Z) (i := 0) (s := s) 0 M
    rw [show M + 1 + k = t3 Z by omega, os_od hp'] at om
    have ob := od_b (f := f) (g := s 35) hp' Z 0 s
    have e : os_v f p (s 35) Z 0 s (M + 1) = os_v f p (s 35) Z 0 s M + 1 * oc_v f p (s 35) Z 0 M s := by
      rw [Int.one_mul]
      try rfl
    obtain ⟨f1, q1⟩ := rg_M_od_133 (X := X) (R := R) (Z := Z) (g := s 35) hp' e0 e1 e2 Z6 hf d (os_v f p (s 35) Z 0 s M) (tw Z) ((t3 Z : Nat) : Int) (M : Int) om0.1 Z 0 M 1 (rg_up D 88 u) s m (by omega) ⟨h.1, h.2.1, by rw [rg_up_n (by decide)]; exact h.2.2.1, fun j hj => by rw [rg_up_n (by decide)]; exact h.2.2.2 j hj⟩ (by rw [rg_up_s]; exact E1) hs m0 (by omega) (by rw [rg_up_n (by decide), h82]) (by decide) (by decide) (by omega) (by rw [← e]; omega)
    rw [← e, rg_up_u, xs_1 yM, show ((0 : Nat) : Int) = 0 from rfl] at q1
    obtain ⟨f2, q2⟩ := rg_M_od_112 hp' e0 e1 e2 Z6 hf d hs m0 hm k (M + 1) (rg_up D 88 f1) (by omega) ⟨h.1, h.2.1, by rw [rg_up_n (by decide)]; exact h.2.2.1, fun j hj => by rw [rg_up_n (by decide)]; exact h.2.2.2 j hj⟩ (by rw [rg_up_n (by decide)]; exact h82)
    rw [rg_up_u] at q2
    refine ⟨f2, ?_⟩
    rw [rf_e_M_odds_112, if_pos (by omega)]
    try simp only [rg_hp1, rg_o_77, Int.reduceToNat, rg_kIs, rg_kLs, rg_kRs, rg_kVs, rg_nns, rg_bs, cond_true, cond_false]
    rw [rg_M_take, ← hu]
    try simp only [Int.reduceToNat, rg_kIs, rg_kLs, rg_kRs, rg_kVs, rg_nns, rg_bs, cond_true, cond_false]
    exact q1.trans q2
theorem rg_M_od_78 (Z6 : Z ≤ 6) (d : Nat) (dd w0 l5 : Int) : ∀ (k i : Nat), i + k = Z → MR D R f Z → rf_j_M_odds_78 d 77 (R : Int) dd w0 l5 (tw i) ((t3 i : Nat) : Int) (i : Int) (hp X D) = rf_j_M_odds_112 d 77 (R : Int) dd w0 l5 (tw Z) ((t3 Z : Nat) : Int) 0 (hp X D)
  | 0, i, hk, h => by
    rw [rf_e_M_odds_78]
    try simp only [rg_gR_77_0, Int.reduceToNat, rg_kIs, rg_kLs, rg_kRs, rg_kVs, rg_nns, rg_bs, cond_true, cond_false]
    rw [h.sz]
    try simp only [Int.reduceToNat, rg_kIs, rg_kLs, rg_kRs, rg_kVs, rg_nns, rg_bs, cond_true, cond_false]
    rw [if_neg (by omega), show i = Z by omega]
  | k + 1, i, hk, h => by
    have yi : i ≤ 1000 := by omega
    have y6 : i < 6 := by omega
    rw [rf_e_M_odds_78]
    try simp only [rg_gR_77_0, Int.reduceToNat, rg_kIs, rg_kLs, rg_kRs, rg_kVs, rg_nns, rg_bs, cond_true, cond_false]
    rw [h.sz]
    try simp only [Int.reduceToNat, rg_kIs, rg_kLs, rg_kRs, rg_kVs, rg_nns, rg_bs, cond_true, cond_false]
    rw [if_pos (by omega), xs_1 yi, xs_tw y6, xs_t3 y6]
    exact rg_M_od_78 Z6 d dd w0 l5 k (i + 1) (by omega) h
theorem rg_W_od_100 {o n : Nat} (hr : rg_row o n) (hZ : D o 1 = (Z : Int)) (Z6 : Z ≤ 6) (d : Nat) : ∀ (k i : Nat), i + k = Z → rf_j_W_odds_100 d 0 (some o) (tw i) (i : Int) (hp X D) = rf_j_W_odds_100 d 0 (some o) (tw Z) (Z : Int) (hp X D)
  | 0, i, hk => by rw [show i = Z by omega]
  | k + 1, i, hk => by
    have yi : i ≤ 1000 := by omega
    have y6 : i < 6 := by omega
    have ih := rg_W_od_100 hr hZ Z6 d k (i + 1) (by omega)
    rw [← ih, rf_e_W_odds_100]
    clear ih
    try simp only [rg_row_gI hr, Int.reduceToNat, rg_kIs, rg_kLs, rg_kRs, rg_kVs, rg_nns, rg_bs, cond_true, cond_false]
    rw [hZ, if_pos (by omega), xs_1 yi, xs_tw y6]
end RGS30
section RGS31
variable {X : rf_X} {D : rf_D}
def wud (a b : Int) (D : rf_D) : rf_D := rg_up D 0 (rg_ui (rg_ui (D 0) 14 a) 15 b)
def mud (a b : Int) (D : rf_D) : rf_D := rg_up D 77 (rg_ui (rg_ui (D 77) 10 a) 11 b)
theorem Inv.ud {D : rf_D} (h : Inv D) (a b : Int) : Inv (mud a b (wud a b D)) := by
  obtain ⟨h1, h2, h3, h4, h5⟩ := h
  have e : ∀ k, k ≠ 0 → k ≠ 77 → mud a b (wud a b D) k = D k := fun k z1 z2 => by unfold mud wud; rw [rg_up_n z2, rg_up_n z1]
  have e0 : ∀ i, i ≠ 14 → i ≠ 15 → mud a b (wud a b D) 0 i = D 0 i := fun i z y => by unfold mud wud; rw [rg_up_n (by decide), rg_up_s, rg_ui_n y, rg_ui_n z]
  have e7 : ∀ i, i ≠ 10 → i ≠ 11 → mud a b (wud a b D) 77 i = D 77 i := fun i z y => by unfold mud wud; rw [rg_up_s, rg_ui_n y, rg_ui_n z, rg_up_n (by decide)]
  refine ⟨h1.of (e _ (by decide) (by decide)) (e _ (by decide) (by decide)) fun k z1 z2 => e k (by omega) (by omega), h2.of (e _ (by decide) (by decide)) (e _ (by decide) (by decide)) fun k z1 z2 => e k (by omega) (by omega), ?_, h4.of (e _ (by decide) (by decide)) (e _ (by decide) (by decide)), h5.of (e0 12 (by decide) (by decide)) fun k z => e k (by omega) (by omega)⟩
  obtain ⟨b1, b2, b3, b4, b5, b6⟩ := h3
  refine ⟨fun i hi => ?_, ?_, ?_, ?_, ?_, ?_⟩
  · rw [e 85 (by decide) (by decide), e 7 (by decide) (by decide)]
    exact b1 i hi
  · rw [e 6 (by decide) (by decide)]
    exact b2
  · rw [e7 8 (by decide) (by decide), e0 16 (by decide) (by decide)]
    exact b3
  · rw [e7 9 (by decide) (by decide), e0 13 (by decide) (by decide)]
    exact b4
  · unfold mud wud
    rw [rg_up_s, rg_ui_n (by decide), rg_ui_s, rg_up_n (by decide), rg_up_s, rg_ui_n (by decide), rg_ui_s]
  · unfold mud wud
    rw [rg_up_s, rg_ui_s, rg_up_n (by decide), rg_up_s, rg_ui_s]
theorem rg_W_tc {a b gv : Int} (d : Nat) (h1 : 1 ≤ gv) (hg : ∀ D : rf_D, rf_j_W_commonDivisor_9 (d + 1) a b 0 (hp X D) = some (some (.inr (.inl gv)), hp X D)) : rf_call (d + 3) 95 [.inr (.inr (some 0)), .inr (.inl a), .inr (.inl b)] (hp X D) = some (none, hp X (wud (rf_wl (Int.tdiv a gv)) (rf_wl (Int.tdiv b gv)) D)) := by
  rw [rf_e_W_tellChances, rf_e_W_commonDivisor, hg]
  try simp only [Int.reduceToNat, rg_kIs, rg_kLs, rg_kRs, rg_kVs, rg_nns, rg_bs, cond_true, cond_false]
  rw [rf_e_JM_maxJ]
  have e : (if rf_cmp 1 gv < 0 then some (some (.inr (.inl gv)), hp X D) else some (some (.inr (.inl 1)), hp X D) : Option rf_R) = some (some (.inr (.inl gv)), hp X D) := by
    by_cases c : rf_cmp 1 gv < 0
    · rw [if_pos c]
    · rw [if_neg c]
      have c2 : ¬ 1 < gv := fun q => c ((rg_cmpn 1 gv).2 q)
      rw [show gv = 1 by omega]
  rw [e]
  try simp only [Int.reduceToNat, rg_kIs, rg_kLs, rg_kRs, rg_kVs, rg_nns, rg_bs, cond_true, cond_false]
  rw [if_neg (by omega)]
  try simp only [rg_pI_0, Int.reduceToNat, rg_kIs, rg_kLs, rg_kRs, rg_kVs, rg_nns, rg_bs, cond_true, cond_false]
  rw [if_neg (by omega), rg_up_s, rg_up_u]
  try simp only [Int.reduceToNat, rg_kIs, rg_kLs, rg_kRs, rg_kVs, rg_nns, rg_bs, cond_true, cond_false]
  try rfl
theorem st_odds (hI : Inv D) (d : Nat) (r dd w : Int) : Ag X D (d + 15) 94 180 [.inl r, .inl dd, .inl w] := by
  unfold Ag
  have h6 := hI.2.2.1.2.1
  have h10 := hI.2.2.2.1.2
  by_cases hr : 0 ≤ r ∧ r < 6
  · obtain ⟨R, rfl⟩ := Int.eq_ofNat_of_zero_le hr.1
    have hR : R < 6 := by omega
    have row := rg_rowN (X := X) (D := D) hR
    obtain ⟨q1, q2, q3, q4⟩ := hI.1 R hR
    by_cases hw : (0 ≤ dd ∧ dd ≤ 12) ∧ 0 ≤ w ∧ w ≤ 12 - dd
    · have x12 : rf_w (12 - dd) = 12 - dd := rg_w (by omega) (by omega)
      have x13 : rf_w (12 - dd - w) = 12 - dd - w := rg_w (by omega) (by omega)
      rcases hI.2.2.2.2 with ⟨h12, hN⟩ | ⟨h12, hY⟩
      · refine ⟨-4, D, D, ?_, ?_, hI⟩
        · rw [rf_e_W_odds]
          try simp only [rg_gR_0_0, Int.reduceToNat, rg_kIs, rg_kLs, rg_kRs, rg_kVs, rg_nns, rg_bs, cond_true, cond_false]
          rw [rg_W_pick_y (n := 6) (d + 13) (rg_aL_1 X D) hr row.2]
          try simp only [rg_hp1, rg_o_0, rg_row_o row.1, rg_nzs, Int.reduceToNat, rg_kIs, rg_kLs, rg_kRs, rg_kVs, rg_nns, rg_bs, cond_true, cond_false]
          rw [if_neg (by omega), if_neg (by omega), if_neg (by omega), x12, if_neg (by omega), rf_e_W_refusedPlan]
          try simp only [rg_gI_0, Int.reduceToNat, rg_kIs, rg_kLs, rg_kRs, rg_kVs, rg_nns, rg_bs, cond_true, cond_false]
          rw [if_pos h12]
          try simp only [Int.reduceToNat, rg_kIs, rg_kLs, rg_kRs, rg_kVs, rg_nns, rg_bs, cond_true, cond_false]
          rw [if_neg (by decide)]
        · rw [rf_e_M_odds, rg_M_isRow]
          try simp only [if_pos hr, Int.reduceToNat, rg_kIs, rg_kLs, rg_kRs, rg_kVs, rg_nns, rg_bs, cond_true, cond_false]
          rw [if_neg (by decide), rg_M_in]
          try simp only [Int.reduceToNat, rg_kIs, rg_kLs, rg_kRs, rg_kVs, rg_nns, rg_bs, cond_true, cond_false]
          rw [if_pos hw.1, if_neg (by decide), rg_M_in]
          try simp only [Int.reduceToNat, rg_kIs, rg_kLs, rg_kRs, rg_kVs, rg_nns, rg_bs, cond_true, cond_false]
          rw [x12, if_pos hw.2, if_neg (by decide)]
          try simp only [rg_hp1, rg_o_77, Int.reduceToNat, rg_kIs, rg_kLs, rg_kRs, rg_kVs, rg_nns, rg_bs, cond_true, cond_false]
          rw [rg_M_isTrain, hN.1 0 (by decide)]
          try simp only [Int.reduceToNat, rg_kIs, rg_kLs, rg_kRs, rg_kVs, rg_nns, rg_bs, cond_true, cond_false]
          rw [if_pos (by decide)]
      · obtain ⟨hd, hC, ha, hb, hT, ⟨n, h4, hDE, hL⟩, -⟩ := hY
        have st := hL.st hDE.1 ha hb hC.2.2.2.1
        have n60 := hDE.1
        have b33 := st.1.2.2.2.2.2.2.1
        have b35 := st.1.2.2.2.2.2.2.2.2
        have h0 : 0 < D 82 0 := by
          have := hd.1.1
          omega
        have wb := rg_W_rp (X := X) (D := D) row.1 q2 q3 (by decide) h6 h12 (d + 10) 6
        have bb := pl_b (D (44 + 2 * R + 1)) (D (44 + 2 * R) 1) 6
        by_cases z : pl_v (D (44 + 2 * R + 1)) (D (44 + 2 * R) 1) 6 = 0
        · have z0 : ¬ D (44 + 2 * R) 1 < 0 := fun y => by
            unfold pl_v at z
            rw [if_pos y] at z
            omega
          have z6 : ¬ 6 < D (44 + 2 * R) 1 := fun y => by
            unfold pl_v at z
            rw [if_neg z0, if_pos y] at z
            omega
          have z3 : pl_all (D (44 + 2 * R + 1)) 0 (D (44 + 2 * R) 1).toNat = true := by
            unfold pl_v at z
            rw [if_neg z0, if_neg z6] at z
            by_cases x : pl_all (D (44 + 2 * R + 1)) 0 (D (44 + 2 * R) 1).toNat = true
            · exact x
            · rw [if_neg x] at z
              omega
          obtain ⟨Z, hZ⟩ := Int.eq_ofNat_of_zero_le (show 0 ≤ D (44 + 2 * R) 1 by omega)
          have Z6 : Z ≤ 6 := by omega
          obtain ⟨f, hF⟩ : ∃ f, f = D (44 + 2 * R + 1) := ⟨_, rfl⟩
          have hf : ∀ j, j < Z → 0 ≤ f j ∧ f j < 15 := fun j hj => by
            rw [hF]
            exact pl_at (D (44 + 2 * R) 1).toNat 0 z3 j (by omega) (by omega)
          obtain ⟨p, hp'⟩ : ∃ p : Nat → Int, p = rg_ui (rg_ui (rg_ui (D 11) 0 dd) 1 w) 2 (12 - dd - w) := ⟨_, rfl⟩
          have p0 : p 0 = dd := by rw [hp']; rfl
          have p1 : p 1 = w := by rw [hp']; rfl
          have p2' : p 2 = 12 - dd - w := by rw [hp']; rfl
          have pp : PP p := ⟨by omega, by omega, by omega, by omega⟩
          obtain ⟨E, hE⟩ : ∃ E, E = rg_up D 11 p := ⟨_, rfl⟩
          have En : ∀ a, a ≠ 11 → E a = D a := fun a y => by rw [hE, rg_up_n y]
          have s1 := rg_R_setI (X := X) (D := D) rg_row_10 (d + 12) (i := 0) (v := dd) (by decide) (by omega) (by omega)
          have s2 := rg_R_setI (X := X) (D := rg_up D 11 (rg_ui (D 11) 0 dd)) rg_row_10 (d + 12) (i := 1) (v := w) (by decide) (by rw [rg_up_n (by decide)]; omega) (by rw [rg_up_n (by decide)]; omega)
          have s3 := rg_R_setI (X := X) (D := rg_up D 11 (rg_ui (rg_ui (D 11) 0 dd) 1 w)) rg_row_10 (d + 12) (i := 2) (v := 12 - dd - w) (by decide) (by rw [rg_up_n (by decide)]; omega) (by rw [rg_up_n (by decide)]; omega)
          rw [show (10 + 1 : Nat) = 11 from rfl] at s1 s2 s3
          rw [rg_up_s, rg_up_u] at s2 s3
          rw [show (0 : Int).toNat = 0 from rfl] at s1
          rw [show (1 : Int).toNat = 1 from rfl] at s2
          rw [show (2 : Int).toNat = 2 from rfl, ← hp', ← hE] at s3
          have hT1 : TR (E 43) (D 82) 0 := by rw [En 43 (by decide)]; exact hT
          obtain ⟨f1, a1, a2⟩ := rg_W_aside (X := X) (D := E) hT1 st.1 (d + 12) (k := 0) (by decide) (by omega)
          rw [sy_0 b33.2.1] at a2
          obtain ⟨F, hFF⟩ : ∃ F, F = rg_up E 76 f1 := ⟨_, rfl⟩
          have Fn : ∀ a, a ≠ 11 → a ≠ 76 → F a = D a := fun a y1 y2 => by rw [hFF, rg_up_n y2, En a y1]
          have F11 : F 11 = p := by rw [hFF, rg_up_n (by decide), hE, rg_up_s]
          obtain ⟨G, g1, g2⟩ := rg_P_ch (X := X) (W := D 31 1) (g := D 82 35) row.1 (by omega) (Z := Z) (by omega) (by decide) Z6 (f := f) pp (by omega) hf Z 0 6 (d + 7 - Z) F (D 82) (n : Int) (by omega) Z6 (by decide) (hC.of fun a _ _ => Fn a (by omega) (by omega)) hd (by rw [hFF]; show TR (rg_up E 76 f1 76) (D 82) (D 82 35); rw [rg_up_s]; exact a2) st.1 (by omega) st.2.1 (by rw [Fn (44 + 2 * R) (by omega) (by omega)]; exact hZ) (fun q _ => by rw [Fn (44 + 2 * R + 1) (by omega) (by omega), hF]) (by rw [Fn 10 (by decide) (by decide)]; exact h10) (fun q _ => by rw [F11])
          rw [show d + 7 - Z + 7 + Z = d + 14 by omega, show ((0 : Nat) : Int) = 0 from rfl, show (70 + 6 : Nat) = 76 from rfl] at g1
          have ob := od_b (f := f) (g := D 82 35) pp Z 0 (D 82)
          have tb := tw_b Z6
          obtain ⟨gv, v1, v2, v3⟩ := gc_all (a := od_v f p (D 82 35) Z 0 (D 82)) (b := tw Z) ob.1 tb.1 tb.2 (d + 12) (hp X G)
          obtain ⟨gv', v1', v2', v3'⟩ := gc_all (a := od_v f p (D 82 35) Z 0 (D 82)) (b := tw Z) ob.1 tb.1 tb.2 (d + 12) (hp X D)
          have vW : ∀ D0 : rf_D, rf_j_W_commonDivisor_9 (d + 12) (od_v f p (D 82 35) Z 0 (D 82)) (tw Z) 0 (hp X D0) = some (some (.inr (.inl gv)), hp X D0) := fun D0 => by
            obtain ⟨gw, u1, u2, u3⟩ := gc_all (a := od_v f p (D 82 35) Z 0 (D 82)) (b := tw Z) ob.1 tb.1 tb.2 (d + 12) (hp X D0)
            have e := (v3 0 (hp X D0)).symm.trans (u3 0 (hp X D0))
            have e2 : gv = gw := by
              injection e with e
              injection e with e
              injection e with e
              injection e with e
              injection e with e
            rw [e2]
            exact u2
          obtain ⟨u, hu⟩ : ∃ u, u = rf_wl (Int.tdiv (od_v f p (D 82 35) Z 0 (D 82)) gv) := ⟨_, rfl⟩
          obtain ⟨v, hv⟩ : ∃ v, v = rf_wl (Int.tdiv (tw Z) gv) := ⟨_, rfl⟩
          have tc := rg_W_tc (X := X) (D := G) (d + 11) v1 vW
          rw [← hu, ← hv] at tc
          have Gn : ∀ a, a ≠ 11 → (a < 70 ∨ 77 ≤ a) → G a = D a := fun a y1 y2 => by rw [g2 a (by omega), Fn a y1 (by omega)]
          have wn : ∀ a, a ≠ 0 → wud u v G a = G a := fun a y => rg_up_n y
          have mr : MR (wud u v G) R f Z := ⟨hR, by omega, by rw [wn 78 (by decide), Gn 78 (by decide) (by decide), q1, hZ], fun j hj => by rw [wn 79 (by decide), Gn 79 (by decide) (by decide), hF]; exact (q4 j (by omega)).1⟩
          have m82 : wud u v G 82 = D 82 := by rw [wn 82 (by decide), Gn 82 (by decide) (by decide)]
          have mb := rg_M_pl (X := X) (D := wud u v G) (f := f) (z := D (44 + 2 * R) 1) hR (by rw [wn 78 (by decide), Gn 78 (by decide) (by decide)]; exact q1) q2 (by omega) (fun j hj => by rw [wn 79 (by decide), Gn 79 (by decide) (by decide), hF]; exact (q4 j hj).1) (d + 11) 6
          rw [← hF] at z
          rw [z] at mb
          have l1 := rg_M_od_78 (X := X) Z6 (d + 14) dd w 0 Z 0 (by omega) mr
          obtain ⟨f3, l2⟩ := rg_M_od_112 (X := X) (R := R) (Z := Z) pp p0 p1 (by rw [x12, x13]; exact p2') Z6 hf (d + 8) st.1 (by omega) (by omega) (t3 Z) 0 (wud u v G) (by omega) mr m82
          rw [show tw 0 = 1 from rfl, show ((t3 0 : Nat) : Int) = 1 from rfl, show ((0 : Nat) : Int) = 0 from rfl] at l1
          rw [show os_v f p (D 82 35) Z 0 (D 82) 0 = 0 from rfl, show ((0 : Nat) : Int) = 0 from rfl] at l2
          have l3 := l1.trans l2
          have wl1 := rg_W_od_100 (X := X) (D := F) row.1 (Z := Z) (by rw [Fn (44 + 2 * R) (by omega) (by omega)]; exact hZ) Z6 (d + 14) Z 0 (by omega)
          rw [show tw 0 = 1 from rfl, show ((0 : Nat) : Int) = 0 from rfl] at wl1
          rw [← hF, if_pos z] at wb
          refine ⟨1, wud u v G, mud u v (rg_up (wud u v G) 88 f3), ?_, ?_, ?_⟩
          · rw [rf_e_W_odds]
            try simp only [rg_gR_0_0, Int.reduceToNat, rg_kIs, rg_kLs, rg_kRs, rg_kVs, rg_nns, rg_bs, cond_true, cond_false]
            rw [rg_W_pick_y (n := 6) (d + 13) (rg_aL_1 X D) hr row.2]
            try simp only [rg_hp1, rg_o_0, rg_row_o row.1, rg_nzs, Int.reduceToNat, rg_kIs, rg_kLs, rg_kRs, rg_kVs, rg_nns, rg_bs, cond_true, cond_false]
            rw [if_neg (by omega), if_neg (by omega), if_neg (by omega), x12, if_neg (by omega), wb]
            try simp only [Int.reduceToNat, rg_kIs, rg_kLs, rg_kRs, rg_kVs, rg_nns, rg_bs, cond_true, cond_false]
            rw [if_pos (by decide)]
            try simp only [rg_gR_0_6, rg_hp1, rg_row_o rg_row_10, Int.reduceToNat, rg_kIs, rg_kLs, rg_kRs, rg_kVs, rg_nns, rg_bs, cond_true, cond_false]
            rw [s1]
            try simp only [rg_gR_0_6, rg_hp1, rg_row_o rg_row_10, Int.reduceToNat, rg_kIs, rg_kLs, rg_kRs, rg_kVs, rg_nns, rg_bs, cond_true, cond_false]
            rw [s2]
            try simp only [rg_gR_0_6, rg_hp1, rg_row_o rg_row_10, Int.reduceToNat, rg_kIs, rg_kLs, rg_kRs, rg_kVs, rg_nns, rg_bs, cond_true, cond_false]
            rw [x13, s3]
            try simp only [rg_hp1, rg_o_0, Int.reduceToNat, rg_kIs, rg_kLs, rg_kRs, rg_kVs, rg_nns, rg_bs, cond_true, cond_false]
            rw [a1, ← hFF]
            try simp only [Int.reduceToNat, rg_kIs, rg_kLs, rg_kRs, rg_kVs, rg_nns, rg_bs, cond_true, cond_false]
            rw [wl1, rf_e_W_odds_100]
            try simp only [rg_row_gI row.1, Int.reduceToNat, rg_kIs, rg_kLs, rg_kRs, rg_kVs, rg_nns, rg_bs, cond_true, cond_false]
            rw [Fn (44 + 2 * R) (by omega) (by omega), hZ, if_neg (by omega)]
            try simp only [rg_gR_0_6, rg_gR_0_11, Int.reduceToNat, rg_kIs, rg_kLs, rg_kRs, rg_kVs, rg_nns, rg_bs, cond_true, cond_false]
            rw [g1]
            try simp only [rg_hp1, rg_o_0, Int.reduceToNat, rg_kIs, rg_kLs, rg_kRs, rg_kVs, rg_nns, rg_bs, cond_true, cond_false]
            rw [tc]
            try simp only [Int.reduceToNat, rg_kIs, rg_kLs, rg_kRs, rg_kVs, rg_nns, rg_bs, cond_true, cond_false]
          · rw [rf_e_M_odds, rg_M_isRow]
            try simp only [if_pos hr, Int.reduceToNat, rg_kIs, rg_kLs, rg_kRs, rg_kVs, rg_nns, rg_bs, cond_true, cond_false]
            rw [if_neg (by decide), rg_M_in]
            try simp only [Int.reduceToNat, rg_kIs, rg_kLs, rg_kRs, rg_kVs, rg_nns, rg_bs, cond_true, cond_false]
            rw [if_pos hw.1, if_neg (by decide), rg_M_in]
            try simp only [Int.reduceToNat, rg_kIs, rg_kLs, rg_kRs, rg_kVs, rg_nns, rg_bs, cond_true, cond_false]
            rw [x12, if_pos hw.2, if_neg (by decide)]
            try simp only [rg_hp1, rg_o_77, Int.reduceToNat, rg_kIs, rg_kLs, rg_kRs, rg_kVs, rg_nns, rg_bs, cond_true, cond_false]
            rw [rg_M_isTrain, m82, if_pos h0]
            try simp only [Int.reduceToNat, rg_kIs, rg_kLs, rg_kRs, rg_kVs, rg_nns, rg_bs, cond_true, cond_false]
            rw [if_neg (by decide)]
            try simp only [rg_hp1, rg_o_77, Int.reduceToNat, rg_kIs, rg_kLs, rg_kRs, rg_kVs, rg_nns, rg_bs, cond_true, cond_false]
            rw [mb]
            try simp only [Int.reduceToNat, rg_kIs, rg_kLs, rg_kRs, rg_kVs, rg_nns, rg_bs, cond_true, cond_false]
            rw [if_neg (by decide)]
            refine l3.trans ?_
            rw [rf_e_M_odds_112, if_neg (by omega), rf_e_M_divisor, v3]
            try simp only [Int.reduceToNat, rg_kIs, rg_kLs, rg_kRs, rg_kVs, rg_nns, rg_bs, cond_true, cond_false]
            rw [if_neg (by omega), ← hu, ← hv]
            try simp only [rg_pI_77, Int.reduceToNat, rg_kIs, rg_kLs, rg_kRs, rg_kVs, rg_nns, rg_bs, cond_true, cond_false]
            rw [if_neg (by omega), rg_up_s, rg_up_u]
            try simp only [Int.reduceToNat, rg_kIs, rg_kLs, rg_kRs, rg_kVs, rg_nns, rg_bs, cond_true, cond_false]
            try rfl
          · have e : mud u v (rg_up (wud u v G) 88 f3) = rg_up (mud u v (wud u v G)) 88 f3 := by
              unfold mud
              rw [rg_up_c (show (88 : Nat) ≠ 77 by decide), rg_up_n (show (77 : Nat) ≠ 88 by decide)]
            have iG : Inv G := hI.scr (fun a y1 y2 y3 y4 y5 y6 y7 => Gn a y4 (by omega)) (by rw [Gn 8 (by decide) (by decide)]) (by rw [Gn 10 (by decide) (by decide)]) (fun j _ _ => by rw [Gn 77 (by decide) (by decide)])
            rw [e]
            exact (iG.ud u v).s88 f3
        · have mb := rg_M_pl (X := X) (D := wfd (pl_v (D (44 + 2 * R + 1)) (D (44 + 2 * R) 1) 6) D) (f := D (44 + 2 * R + 1)) hR (by rw [wfd_n (by decide) (by decide)]; exact q1) q2 (by omega) (fun j hj => by rw [wfd_n (by decide) (by decide)]; exact (q4 j hj).1) (d + 11) 6
          rw [if_neg z] at wb
          generalize pl_v (D (44 + 2 * R + 1)) (D (44 + 2 * R) 1) 6 = a at wb mb z bb
          refine ⟨-3, wfd a D, mfd a (wfd a D), ?_, ?_, hI.fd bb.1 bb.2⟩
          · rw [rf_e_W_odds]
            try simp only [rg_gR_0_0, Int.reduceToNat, rg_kIs, rg_kLs, rg_kRs, rg_kVs, rg_nns, rg_bs, cond_true, cond_false]
            rw [rg_W_pick_y (n := 6) (d + 13) (rg_aL_1 X D) hr row.2]
            try simp only [rg_hp1, rg_o_0, rg_row_o row.1, rg_nzs, Int.reduceToNat, rg_kIs, rg_kLs, rg_kRs, rg_kVs, rg_nns, rg_bs, cond_true, cond_false]
            rw [if_neg (by omega), if_neg (by omega), if_neg (by omega), x12, if_neg (by omega), wb]
            try simp only [Int.reduceToNat, rg_kIs, rg_kLs, rg_kRs, rg_kVs, rg_nns, rg_bs, cond_true, cond_false]
            rw [if_neg (by decide)]
          · rw [rf_e_M_odds, rg_M_isRow]
            try simp only [if_pos hr, Int.reduceToNat, rg_kIs, rg_kLs, rg_kRs, rg_kVs, rg_nns, rg_bs, cond_true, cond_false]
            rw [if_neg (by decide), rg_M_in]
            try simp only [Int.reduceToNat, rg_kIs, rg_kLs, rg_kRs, rg_kVs, rg_nns, rg_bs, cond_true, cond_false]
            rw [if_pos hw.1, if_neg (by decide), rg_M_in]
            try simp only [Int.reduceToNat, rg_kIs, rg_kLs, rg_kRs, rg_kVs, rg_nns, rg_bs, cond_true, cond_false]
            rw [x12, if_pos hw.2, if_neg (by decide)]
            try simp only [rg_hp1, rg_o_77, Int.reduceToNat, rg_kIs, rg_kLs, rg_kRs, rg_kVs, rg_nns, rg_bs, cond_true, cond_false]
            rw [rg_M_isTrain, wfd_n (by decide) (by decide), if_pos h0]
            try simp only [Int.reduceToNat, rg_kIs, rg_kLs, rg_kRs, rg_kVs, rg_nns, rg_bs, cond_true, cond_false]
            rw [if_neg (by decide)]
            try simp only [rg_hp1, rg_o_77, Int.reduceToNat, rg_kIs, rg_kLs, rg_kRs, rg_kVs, rg_nns, rg_bs, cond_true, cond_false]
            rw [mb]
            try simp only [Int.reduceToNat, rg_kIs, rg_kLs, rg_kRs, rg_kVs, rg_nns, rg_bs, cond_true, cond_false]
            rw [if_pos (by omega)]
            try simp only [rg_hp1, rg_o_77, Int.reduceToNat, rg_kIs, rg_kLs, rg_kRs, rg_kVs, rg_nns, rg_bs, cond_true, cond_false]
            rw [rg_M_finds (d + 13) bb.1 bb.2]
            try simp only [Int.reduceToNat, rg_kIs, rg_kLs, rg_kRs, rg_kVs, rg_nns, rg_bs, cond_true, cond_false]
    · refine ⟨-1, D, D, ?_, ?_, hI⟩
      · rw [rf_e_W_odds]
        try simp only [rg_gR_0_0, Int.reduceToNat, rg_kIs, rg_kLs, rg_kRs, rg_kVs, rg_nns, rg_bs, cond_true, cond_false]
        rw [rg_W_pick_y (n := 6) (d + 13) (rg_aL_1 X D) hr row.2]
        try simp only [rg_hp1, rg_o_0, rg_row_o row.1, rg_nzs, Int.reduceToNat, rg_kIs, rg_kLs, rg_kRs, rg_kVs, rg_nns, rg_bs, cond_true, cond_false]
        by_cases b1 : dd < 0
        · rw [if_pos b1]
        · rw [if_neg b1]
          by_cases b2 : 12 < dd
          · rw [if_pos b2]
          · rw [if_neg b2]
            by_cases b3 : w < 0
            · rw [if_pos b3]
            · rw [if_neg b3, rg_w (by omega) (by omega), if_pos (by omega)]
      · rw [rf_e_M_odds, rg_M_isRow]
        try simp only [if_pos hr, Int.reduceToNat, rg_kIs, rg_kLs, rg_kRs, rg_kVs, rg_nns, rg_bs, cond_true, cond_false]
        rw [if_neg (by decide), rg_M_in]
        try simp only [Int.reduceToNat, rg_kIs, rg_kLs, rg_kRs, rg_kVs, rg_nns, rg_bs, cond_true, cond_false]
        by_cases b : 0 ≤ dd ∧ dd ≤ 12
        · rw [if_pos b, if_neg (by decide), rg_w (by omega) (by omega), rg_M_in]
          try simp only [Int.reduceToNat, rg_kIs, rg_kLs, rg_kRs, rg_kVs, rg_nns, rg_bs, cond_true, cond_false]
          rw [if_neg (fun q => hw ⟨b, q⟩), if_pos (by decide)]
        · rw [if_neg b, if_pos (by decide)]
  · refine ⟨-1, D, D, ?_, ?_, hI⟩
    · rw [rf_e_W_odds]
      try simp only [rg_gR_0_0, Int.reduceToNat, rg_kIs, rg_kLs, rg_kRs, rg_kVs, rg_nns, rg_bs, cond_true, cond_false]
      rw [rg_W_pick_n (n := 6) (d + 13) (rg_aL_1 X D) hr]
      try simp only [rg_hp1, rg_o_0, rg_nzn, Int.reduceToNat, rg_kIs, rg_kLs, rg_kRs, rg_kVs, rg_nns, rg_bs, cond_true, cond_false]
    · rw [rf_e_M_odds, rg_M_isRow]
      try simp only [if_neg hr, Int.reduceToNat, rg_kIs, rg_kLs, rg_kRs, rg_kVs, rg_nns, rg_bs, cond_true, cond_false]
      rw [if_pos (by decide)]
end RGS31
