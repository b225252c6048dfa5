/-! odds: the heaps -/
theorem xs_wl {z : Int} (h0 : 0 ≤ z) (h1 : z ≤ 1000000000) : rf_wl z = z := rg_wl (by omega) (by omega)
theorem xs_m (c : Nat) : Int.tmod (c : Int) 3 = ((c % 3 : Nat) : Int) := by
  rw [Int.tmod_eq_emod_of_nonneg (by omega)]
  omega
theorem xs_d {c : Nat} (h : c ≤ 1000) : rf_w (Int.tdiv (c : Int) 3) = ((c / 3 : Nat) : Int) := by
  rw [Int.tdiv_eq_ediv_of_nonneg (by omega), rg_w (by omega) (by omega)]
  omega
theorem xs_tw {i : Nat} (h : i < 6) : rf_wl (tw i * 12) = tw (i + 1) := by
  have t1 := tw_b (k := i) (by omega)
  rw [rg_wl (by omega) (by omega)]
  show tw i * 12 = 12 * tw i
  omega
theorem xs_t3 {i : Nat} (h : i < 6) : rf_w (((t3 i : Nat) : Int) * 3) = ((t3 (i + 1) : Nat) : Int) := by
  have t2 := t3_b (k := i) (by omega)
  rw [rg_w (by omega) (by omega)]
  show ((t3 i : Nat) : Int) * 3 = ((3 * t3 i : Nat) : Int)
  omega
section RGS29
variable {X : rf_X} {D : rf_D} {s : Nat → Int} {W g m : Int}
theorem rg_T_nx {j : Nat} (h : j < 6) : rf_gR (hp X D) 3 (71 + j) 1 = some (some (70 + j)) := by
  have e : j = 0 ∨ j = 1 ∨ j = 2 ∨ j = 3 ∨ j = 4 ∨ j = 5 := by omega
  rcases e with e | e | e | e | e | e <;> subst e
  · exact rg_gR_71_1 X D
  · exact rg_gR_72_1 X D
  · exact rg_gR_73_1 X D
  · exact rg_gR_74_1 X D
  · exact rg_gR_75_1 X D
  · exact rg_gR_76_1 X D
theorem rg_tr_71 {j : Nat} (h : j < 6) : rg_tr (71 + j) := by
  have e := rg_tr_70 (j := j + 1) (by omega)
  rw [show 70 + (j + 1) = 71 + j by omega] at e
  exact e
/-- one thing more, on the next train of the chain -/
theorem rg_P_step {j : Nat} (hj : j < 6) (hC : CR D 28 s W) (hd : sp_hd s) (hT : TR (D (71 + j)) s g) (hs : sp_st m s) (hm : m ≤ 1000000) (hg : 0 ≤ g ∧ g ≤ 1000000) (hW : s 36 ≤ W) (d : Nat) {t r : Int} (t0 : 0 ≤ t) (t14 : t ≤ 14) (hr : t < 10 → 0 ≤ r ∧ r ≤ 2) : ∃ D1 D2, rf_call (d + 6) 48 [.inr (.inr (some (70 + j))), .inr (.inr (some (71 + j)))] (hp X D) = some (none, hp X D1) ∧ rf_call (d + 6) 40 [.inr (.inr (some (70 + j))), .inl t, .inl r] (hp X D1) = some (some (.inl (sp_does s t r).1), hp X D2) ∧ (∀ a, a ≠ 70 + j → D1 a = D a) ∧ (∀ a, a ≠ 70 + j → D2 a = D a) ∧ TR (D2 (70 + j)) (sp_does s t r).2 g := by
  have z := hT.zo hs
  obtain ⟨f1, r1, r2⟩ := rg_T_becomes (X := X) (D := D) (rg_tr_70 (j := j) (by omega)) (rg_tr_71 hj) (by omega) (d + 5) z.1 z.2.1 z.2.2
  have hT1 : TR (rg_up D (70 + j) f1 (70 + j)) s g := by
    rw [rg_up_s]
    exact hT.of r2
  obtain ⟨f2, w1, w2⟩ := rg_T_does (X := X) (D := rg_up D (70 + j) f1) (rg_tr_70 (j := j) (by omega)) (hC.up (by omega)) hd hT1 hs hm hg hW (d + 1) t0 t14 hr
  refine ⟨rg_up D (70 + j) f1, rg_up (rg_up D (70 + j) f1) (70 + j) f2, r1, w1, fun a y => rg_up_n y, fun a y => ?_, ?_⟩
  · rw [rg_up_n y, rg_up_n y]
  · rw [rg_up_s]
    exact w2
theorem sp_does_W {t r : Int} (hs : sp_st m s) (hW : s 36 ≤ W) : (sp_does s t r).2 36 ≤ W := Int.le_trans (sp_does_36 hs t r) hW
theorem rg_P_ch {o n Z : Nat} (hr : rg_row o n) (ho : 42 < o ∧ o + 1 < 70) (hn : Z ≤ n) (n1 : n ≤ 1000) (Z6 : Z ≤ 6) {f p : Nat → Int} (hp' : PP p) (hg : 0 ≤ g ∧ g ≤ 1000000) (hf : ∀ j, j < Z → 0 ≤ f j ∧ f j < 15) : ∀ (k i j : Nat) (d : Nat) (D : rf_D) (s : Nat → Int) (m : Int), i + k = Z → k ≤ j → j ≤ 6 → CR D 28 s W → sp_hd s → TR (D (70 + j)) s g → sp_st m s → m + (k : Int) ≤ 1000000 → s 36 ≤ W → D o 1 = (Z : Int) → (∀ q, q < Z → D (o + 1) q = f q) → D 10 1 = 3 → (∀ q, q < 3 → D 11 q = p q) → ∃ D', rf_call (d + 7 + k) 52 [.inr (.inr (some (70 + j))), .inr (.inr (some o)), .inl (i : Int), .inr (.inr (some 10))] (hp X D) = some (some (.inr (.inl (od_v f p g k i s))), hp X D') ∧ ∀ a, (a < 70 ∨ 70 + j ≤ a) → D' a = D a
  | 0, i, j, d, D, s, m, hk, hkj, hj, hC, hd, hT, hs, hm, hW, hZ, hF, h10, h11 => by
    refine ⟨D, ?_, fun _ _ => rfl⟩
    rw [rf_e_P_startingChances]
    try simp only [rg_gR (rg_tr_70 (j := j) (show j < 7 by omega)).1, rg_row_gI hr, Int.reduceToNat, rg_kIs, rg_kLs, rg_kRs, rg_kVs, rg_nns, rg_bs, cond_true, cond_false]
    rw [hZ, if_neg (by omega), rf_e_P_startingChances_25]
    try simp only [rg_T_gI (rg_tr_70 (j := j) (show j < 7 by omega)), Int.reduceToNat, rg_kIs, rg_kLs, rg_kRs, rg_kVs, rg_nns, rg_bs, cond_true, cond_false]
    rw [hT.2.2.2.2.1]
    have e : od_v f p g 0 i s = (if g < s 35 then 1 else 0) := rfl
    rw [e]
    by_cases c : g < s 35
    · rw [if_pos c, if_pos (by omega)]
    · rw [if_neg c, if_neg (by omega)]
  | k + 1, i, 0, d, D, s, m, hk, hkj, hj, hC, hd, hT, hs, hm, hW, hZ, hF, h10, h11 => by omega
  | k + 1, i, j + 1, d, D, s, m, hk, hkj, hj, hC, hd, hT, hs, hm, hW, hZ, hF, h10, h11 => by
    have j6 : j < 6 := by omega
    have fb := hf i (by omega)
    have z1 : 1 ≤ s 2 ∧ s 2 ≤ 6 := hd.2.2.1
    have tj := rg_tr_71 j6
    have tk := rg_tr_70 (j := j) (show j < 7 by omega)
    have yi : i ≤ 1000 := by omega
    rw [show 70 + (j + 1) = 71 + j by omega] at hT ⊢
    have c0 := rg_R_cellI (X := X) (D := D) hr (d + 6 + k) (i := (i : Int)) (by omega) (by omega) (by omega)
    rw [rg_tN, hF i (by omega)] at c0
    have cb := rg_T_canBe (X := X) (D := D) tj hT hs (d + 6 + k) (th := f i) fb.1 (by omega)
    have tb := tw_b (k := k) (by omega)
    have e : od_v f p g (k + 1) i s = (if sp_can s (f i) = true then (if 9 < f i then 12 * od_v f p g k (i + 1) (sp_does s (f i) 0).2 else (p 0 * od_v f p g k (i + 1) (sp_does s (f i) 0).2 + p 1 * od_v f p g k (i + 1) (sp_does s (f i) 1).2) + p 2 * od_v f p g k (i + 1) (sp_does s (f i) 2).2) else 12 * od_v f p g k (i + 1) s) := rfl
    -- one step on the next train, and what comes of it
    have st : ∀ (r : Int) (D0 : rf_D), (f i < 10 → 0 ≤ r ∧ r ≤ 2) → (∀ a, (a < 70 ∨ 71 + j ≤ a) → D0 a = D a) → ∃ D1 D2 D3, rf_call (d + 7 + k) 48 [.inr (.inr (some (70 + j))), .inr (.inr (some (71 + j)))] (hp X D0) = some (none, hp X D1) ∧ rf_call (d + 7 + k) 40 [.inr (.inr (some (70 + j))), .inl (f i), .inl r] (hp X D1) = some (some (.inl (sp_does s (f i) r).1), hp X D2) ∧ rf_call (d + 7 + k) 52 [.inr (.inr (some (70 + j))), .inr (.inr (some o)), .inl ((i + 1 : Nat) : Int), .inr (.inr (some 10))] (hp X D2) = some (some (.inr (.inl (od_v f p g k (i + 1) (sp_does s (f i) r).2))), hp X D3) ∧ (∀ a, (a < 70 ∨ 71 + j ≤ a) → D2 a = D a) ∧ ∀ a, (a < 70 ∨ 71 + j ≤ a) → D3 a = D a := fun r D0 hr0 h0 => by
      obtain ⟨D1, D2, a1, a2, a3, a4, a5⟩ := rg_P_step (X := X) (D := D0) j6 (hC.of fun a _ _ => h0 a (by omega)) hd (by rw [h0 (71 + j) (by omega)]; exact hT) hs (by omega) hg hW (d + 1 + k) (t := f i) (r := r) fb.1 (by omega) hr0
      have n2 : ∀ a, (a < 70 ∨ 71 + j ≤ a) → D2 a = D a := fun a y => by rw [a4 a (by omega), h0 a y]
      have hh : ∀ q, q < 27 → (sp_does s (f i) r).2 q = s q := fun q hq => sp_does_hd s _ _ q hq
      obtain ⟨D3, b1, b2⟩ := rg_P_ch hr ho hn n1 Z6 hp' hg hf k (i + 1) j d D2 (sp_does s (f i) r).2 (m + 1) (by omega) (by omega) (by omega) ((hC.ofs z1.2 hh).of fun a _ _ => n2 a (by omega)) (sp_hd_of hd hh) a5 (sp_does_st hs (by have := hs.2.2.2.2.2.2.2.1; omega) (f i) r).1 (by omega) (sp_does_W hs hW) (by rw [n2 o (by omega)]; exact hZ) (fun q hq => by rw [n2 (o + 1) (by omega)]; exact hF q hq) (by rw [n2 10 (by omega)]; exact h10) (fun q hq => by rw [n2 11 (by omega)]; exact h11 q hq)
      refine ⟨D1, D2, D3, ?_, ?_, b1, n2, fun a y => by rw [b2 a (by omega), n2 a y]⟩
      · rw [show d + 7 + k = d + 1 + k + 6 by omega]
        exact a1
      · rw [show d + 7 + k = d + 1 + k + 6 by omega]
        exact a2
    rw [show d + 7 + (k + 1) = (d + 7 + k) + 1 by omega, rf_e_P_startingChances]
    try simp only [rg_T_nx j6, rg_row_gI hr, Int.reduceToNat, rg_kIs, rg_kLs, rg_kRs, rg_kVs, rg_nns, rg_bs, cond_true, cond_false]
    rw [hZ, if_pos (by omega), if_pos (by omega)]
    try simp only [rg_hp1, rg_row_o hr, rg_nzs, Int.reduceToNat, rg_kIs, rg_kLs, rg_kRs, rg_kVs, rg_nns, rg_bs, cond_true, cond_false]
    rw [show d + 7 + k = d + 6 + k + 1 by omega, c0]
    try simp only [rg_hp1, tj.1, Int.reduceToNat, rg_kIs, rg_kLs, rg_kRs, rg_kVs, rg_nns, rg_bs, cond_true, cond_false]
    rw [cb, show d + 6 + k + 1 = d + 7 + k by omega]
    try simp only [Int.reduceToNat, rg_kIs, rg_kLs, rg_kRs, rg_kVs, rg_nns, rg_bs, cond_true, cond_false]
    by_cases y : sp_can s (f i) = true
    · rw [if_pos y] at e ⊢
      rw [if_neg (by decide)]
      by_cases y9 : 9 < f i
      · rw [if_pos y9] at e ⊢
        obtain ⟨D1, D2, D3, q1, q2, q3, q4, q5⟩ := st 0 D (fun q => by omega) (fun _ _ => rfl)
        have ob := od_b (f := f) (g := g) hp' k (i + 1) (sp_does s (f i) 0).2
        refine ⟨D3, ?_, q5⟩
        try simp only [rg_hp1, tk.1, Int.reduceToNat, rg_kIs, rg_kLs, rg_kRs, rg_kVs, rg_nns, rg_bs, cond_true, cond_false]
        rw [q1]
        try simp only [rg_hp1, tk.1, Int.reduceToNat, rg_kIs, rg_kLs, rg_kRs, rg_kVs, rg_nns, rg_bs, cond_true, cond_false]
        rw [q2]
        try simp only [Int.reduceToNat, rg_kIs, rg_kLs, rg_kRs, rg_kVs, rg_nns, rg_bs, cond_true, cond_false, xs_1 yi]
        rw [q3, e]
        try simp only [Int.reduceToNat, rg_kIs, rg_kLs, rg_kRs, rg_kVs, rg_nns, rg_bs, cond_true, cond_false]
        rw [rg_wl (by omega) (by omega)]
      · rw [if_neg y9] at e ⊢
        obtain ⟨A1, A2, A3, a1, a2, a3, a4, a5⟩ := st 0 D (fun _ => by decide) (fun _ _ => rfl)
        obtain ⟨B1, B2, B3, b1, b2, b3, b4, b5⟩ := st 1 A3 (fun _ => by decide) a5
        obtain ⟨C1, C2, C3, c1, c2, c3, c4, c5⟩ := st 2 B3 (fun _ => by decide) b5
        have oa := od_b (f := f) (g := g) hp' k (i + 1) (sp_does s (f i) 0).2
        have ob := od_b (f := f) (g := g) hp' k (i + 1) (sp_does s (f i) 1).2
        have oc := od_b (f := f) (g := g) hp' k (i + 1) (sp_does s (f i) 2).2
        have pb := pp_3 hp' oa.1 ob.1 oc.1 oa.2 ob.2 oc.2
        have pc : ∀ (D0 : rf_D), (∀ a, (a < 70 ∨ 71 + j ≤ a) → D0 a = D a) → ∀ q : Nat, q < 3 → rf_call (d + 7 + k) 4 [.inr (.inr (some 10)), .inl (q : Int)] (hp X D0) = some (some (.inl (p q)), hp X D0) := fun D0 h0 q hq => by
          have r := rg_R_cellI (X := X) (D := D0) rg_row_10 (d + 6 + k) (i := (q : Int)) (by omega) (by rw [h0 10 (by omega), h10]; omega) (by rw [h0 10 (by omega), h10]; decide)
          rw [rg_tN, h0 (10 + 1) (by omega), h11 q hq, show d + 6 + k + 1 = d + 7 + k by omega] at r
          exact r
        have p0 := pc A2 a4 0 (by decide)
        have p1 := pc B2 b4 1 (by decide)
        have p2' := pc C2 c4 2 (by decide)
        rw [show ((0 : Nat) : Int) = 0 from rfl] at p0
        rw [show ((1 : Nat) : Int) = 1 from rfl] at p1
        rw [show ((2 : Nat) : Int) = 2 from rfl] at p2'
        refine ⟨C3, ?_, c5⟩
        rw [rf_e_P_startingChances_111, if_neg (by decide)]
        try simp only [rg_hp1, tk.1, Int.reduceToNat, rg_kIs, rg_kLs, rg_kRs, rg_kVs, rg_nns, rg_bs, cond_true, cond_false]
        rw [a1]
        try simp only [rg_hp1, tk.1, Int.reduceToNat, rg_kIs, rg_kLs, rg_kRs, rg_kVs, rg_nns, rg_bs, cond_true, cond_false]
        rw [a2]
        try simp only [rg_hp1, rg_row_o rg_row_10, Int.reduceToNat, rg_kIs, rg_kLs, rg_kRs, rg_kVs, rg_nns, rg_bs, cond_true, cond_false]
        rw [p0]
        try simp only [Int.reduceToNat, rg_kIs, rg_kLs, rg_kRs, rg_kVs, rg_nns, rg_bs, cond_true, cond_false, xs_1 yi]
        rw [a3]
        try simp only [Int.reduceToNat, rg_kIs, rg_kLs, rg_kRs, rg_kVs, rg_nns, rg_bs, cond_true, cond_false]
        generalize od_v f p g k (i + 1) (sp_does s (f i) 0).2 = va at *
        generalize od_v f p g k (i + 1) (sp_does s (f i) 1).2 = vb at *
        generalize od_v f p g k (i + 1) (sp_does s (f i) 2).2 = vc at *
        generalize hwa : p 0 * va = wa at e pb ⊢
        generalize hwb : p 1 * vb = wb at e pb
        generalize hwc : p 2 * vc = wc at e pb
        rw [rg_wl (z := wa) (by omega) (by omega), rg_wl (z := 0 + wa) (by omega) (by omega), show rf_w (0 + 1) = 1 from rfl]
        rw [rf_e_P_startingChances_111, if_neg (by decide)]
        try simp only [rg_hp1, tk.1, Int.reduceToNat, rg_kIs, rg_kLs, rg_kRs, rg_kVs, rg_nns, rg_bs, cond_true, cond_false]
        rw [b1]
        try simp only [rg_hp1, tk.1, Int.reduceToNat, rg_kIs, rg_kLs, rg_kRs, rg_kVs, rg_nns, rg_bs, cond_true, cond_false]
        rw [b2]
        try simp only [rg_hp1, rg_row_o rg_row_10, Int.reduceToNat, rg_kIs, rg_kLs, rg_kRs, rg_kVs, rg_nns, rg_bs, cond_true, cond_false]
        rw [p1]
        try simp only [Int.reduceToNat, rg_kIs, rg_kLs, rg_kRs, rg_kVs, rg_nns, rg_bs, cond_true, cond_false, xs_1 yi]
        rw [b3]
        try simp only [Int.reduceToNat, rg_kIs, rg_kLs, rg_kRs, rg_kVs, rg_nns, rg_bs, cond_true, cond_false]
        rw [hwb, rg_wl (z := wb) (by omega) (by omega), rg_wl (z := 0 + wa + wb) (by omega) (by omega), show rf_w (1 + 1) = 2 from rfl]
        rw [rf_e_P_startingChances_111, if_neg (by decide)]
        try simp only [rg_hp1, tk.1, Int.reduceToNat, rg_kIs, rg_kLs, rg_kRs, rg_kVs, rg_nns, rg_bs, cond_true, cond_false]
        rw [c1]
        try simp only [rg_hp1, tk.1, Int.reduceToNat, rg_kIs, rg_kLs, rg_kRs, rg_kVs, rg_nns, rg_bs, cond_true, cond_false]
        rw [c2]
        try simp only [rg_hp1, rg_row_o rg_row_10, Int.reduceToNat, rg_kIs, rg_kLs, rg_kRs, rg_kVs, rg_nns, rg_bs, cond_true, cond_false]
        rw [p2']
        try simp only [Int.reduceToNat, rg_kIs, rg_kLs, rg_kRs, rg_kVs, rg_nns, rg_bs, cond_true, cond_false, xs_1 yi]
        rw [c3]
        try simp only [Int.reduceToNat, rg_kIs, rg_kLs, rg_kRs, rg_kVs, rg_nns, rg_bs, cond_true, cond_false]
        rw [hwc, rg_wl (z := wc) (by omega) (by omega), rg_wl (z := 0 + wa + wb + wc) (by omega) (by omega), show rf_w (2 + 1) = 3 from rfl]
        rw [rf_e_P_startingChances_111, if_pos (by decide), e, Int.zero_add]
    · rw [if_neg y] at e ⊢
      rw [if_pos (by decide)]
      obtain ⟨D3, b1, b2⟩ := rg_P_ch hr ho hn n1 Z6 hp' hg hf k (i + 1) (j + 1) d D s m (by omega) (by omega) hj hC hd (by rw [show 70 + (j + 1) = 71 + j by omega]; exact hT) hs (by omega) hW hZ hF h10 h11
      rw [show 70 + (j + 1) = 71 + j by omega] at b1 b2
      have ob := od_b (f := f) (g := g) hp' k (i + 1) s
      refine ⟨D3, ?_, b2⟩
      rw [xs_1 yi, b1, e]
      try simp only [Int.reduceToNat, rg_kIs, rg_kLs, rg_kRs, rg_kVs, rg_nns, rg_bs, cond_true, cond_false]
      rw [rg_wl (by omega) (by omega)]
end RGS29
section RGS30
variable {X : rf_X} {D : rf_D} {m g : Int} {R Z : Nat} {f p : Nat → Int}
theorem rg_W_od_100 {o n : Nat} (hr : rg_row o n) (hZ : D o 1 = (Z : Int)) (Z6 : Z ≤ 6) (d : Nat) : ∀ (k i : Nat), i + k = Z → rf_j_W_odds_100 d 0 (some o) (tw i) (i : Int) (hp X D) = rf_j_W_odds_100 d 0 (some o) (tw Z) (Z : Int) (hp X D)
  | 0, i, hk => by rw [show i = Z by omega]
  | k + 1, i, hk => by
    have yi : i ≤ 1000 := by omega
    have y6 : i < 6 := by omega
    have ih := rg_W_od_100 hr hZ Z6 d k (i + 1) (by omega)
    rw [← ih, rf_e_W_odds_100]
    clear ih
    try simp only [rg_row_gI hr, Int.reduceToNat, rg_kIs, rg_kLs, rg_kRs, rg_kVs, rg_nns, rg_bs, cond_true, cond_false]
    rw [hZ, if_pos (by omega), xs_1 yi, xs_tw y6]
end RGS30
section RGS31
variable {X : rf_X} {D : rf_D}
def wud (a b : Int) (D : rf_D) : rf_D := rg_up D 0 (rg_ui (rg_ui (D 0) 14 a) 15 b)
theorem rg_W_tc {a b gv : Int} (d : Nat) (h1 : 1 ≤ gv) (hg : ∀ D : rf_D, rf_j_W_commonDivisor_9 (d + 1) a b 0 (hp X D) = some (some (.inr (.inl gv)), hp X D)) : rf_call (d + 3) 95 [.inr (.inr (some 0)), .inr (.inl a), .inr (.inl b)] (hp X D) = some (none, hp X (wud (rf_wl (Int.tdiv a gv)) (rf_wl (Int.tdiv b gv)) D)) := by
  rw [rf_e_W_tellChances, rf_e_W_commonDivisor, hg]
  try simp only [Int.reduceToNat, rg_kIs, rg_kLs, rg_kRs, rg_kVs, rg_nns, rg_bs, cond_true, cond_false]
  rw [rf_e_JM_maxJ]
  have e : (if rf_cmp 1 gv < 0 then some (some (.inr (.inl gv)), hp X D) else some (some (.inr (.inl 1)), hp X D) : Option rf_R) = some (some (.inr (.inl gv)), hp X D) := by
    by_cases c : rf_cmp 1 gv < 0
    · rw [if_pos c]
    · rw [if_neg c]
      have c2 : ¬ 1 < gv := fun q => c ((rg_cmpn 1 gv).2 q)
      rw [show gv = 1 by omega]
  rw [e]
  try simp only [Int.reduceToNat, rg_kIs, rg_kLs, rg_kRs, rg_kVs, rg_nns, rg_bs, cond_true, cond_false]
  rw [if_neg (by omega)]
  try simp only [rg_pI_0, Int.reduceToNat, rg_kIs, rg_kLs, rg_kRs, rg_kVs, rg_nns, rg_bs, cond_true, cond_false]
  rw [if_neg (by omega), rg_up_s, rg_up_u]
  try simp only [Int.reduceToNat, rg_kIs, rg_kLs, rg_kRs, rg_kVs, rg_nns, rg_bs, cond_true, cond_false]
  try rfl
end RGS31
