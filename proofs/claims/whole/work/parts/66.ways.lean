/-! plans counted by the reference: all levels; ways -/
section RGS37
variable {X : rf_X} {g M : Int}
theorem FR.up {D D' : rf_D} {a : Nat} (h : FR D D' (a + 1)) : FR D D' a := ⟨h.1, h.2.1, fun p y => h.2.2.1 p (by omega), fun q y => h.2.2.2 q (by omega)⟩
/-- one level deeper -/
theorem rg_M_deep {s : Nat → Int} {m : Int} {n a t : Nat} (hna : a + 1 < n) (hn : n ≤ 4) (ht : t < 15) (cn : sp_can s (t : Int) = true) (hs : sp_st m s) (z2 : 1 ≤ s 2 ∧ s 2 ≤ 6) {D : rf_D} (hr : ∀ q, q < 37 → D 89 (37 * a + q) = s q) (d : Nat) (f : Int) : ∃ D4, rf_j_M_plans_89 (d + 5) 77 (n : Int) f g M (a : Int) (some 90) (a : Int) (t : Int) (hp X D) = rf_j_M_plans_38 (d + 5) 77 (n : Int) f g M ((a + 1 : Nat) : Int) (hp X D4) ∧ D4 77 = D 77 ∧ FR D D4 a ∧ D4 90 a = (t : Int) ∧ D4 90 (a + 1) = -9 ∧ ∀ q, q < 37 → D4 89 (37 * (a + 1) + q) = pn_st s t q := by
  obtain ⟨u, u1, u2⟩ := rg_M_pl_t (X := X) (D := D) (show a ≤ 4 by omega) ht hs z2 hr d (n : Int) f g M
  have b33 := hs.2.2.2.2.2.2.1
  have dd := u1.does b33.1 (by omega) (t : Int) (sp_rail s)
  obtain ⟨w, hw⟩ : ∃ w, w = (sp_does u (t : Int) (sp_rail s)).2 := ⟨_, rfl⟩
  have wE : ∀ q, q < 37 → w q = pn_st s t q := fun q hq => by
    rw [hw]
    exact dd.2 q hq
  rw [if_pos cn, if_neg (show ¬ ((a + 1 : Nat) : Int) = (n : Int) by omega), ← hw] at u2
  obtain ⟨D1, hD1⟩ : ∃ D1, D1 = rg_up (rg_up D 90 (rg_ui (D 90) a (t : Int))) 88 w := ⟨_, rfl⟩
  have f1 : FR D D1 a := by
    rw [hD1]
    exact FR.pk (t : Int) w
  have d77 : D1 77 = D 77 := by rw [hD1, rg_up_n (by decide), rg_up_n (by decide)]
  have d88 : D1 88 = w := by rw [hD1, rg_up_s]
  have d90 : D1 90 a = (t : Int) := by rw [hD1, rg_up_n (by decide), rg_up_s, rg_ui_s]
  rw [← hD1] at u2
  obtain ⟨D2, hD2⟩ : ∃ D2, D2 = rg_up D1 89 (ly_r (D1 89) (D1 88) (a + 1)) := ⟨_, rfl⟩
  obtain ⟨D4, hD4⟩ : ∃ D4, D4 = rg_up D2 90 (rg_ui (D2 90) (a + 1) (-9)) := ⟨_, rfl⟩
  have d289 : ∀ p, p < 37 * (a + 1) → D2 89 p = D1 89 p := fun p y => by
    rw [hD2, rg_up_s]
    show (if 37 * (a + 1) ≤ p ∧ p < 37 * (a + 1) + 37 then D1 88 (p - 37 * (a + 1)) else D1 89 p) = D1 89 p
    rw [if_neg (by omega)]
  have e89 : D4 89 = D2 89 := by rw [hD4, rg_up_n (by decide)]
  refine ⟨D4, ?_, ?_, ⟨fun x y1 y2 y3 y4 => ?_, fun q y1 y2 => ?_, fun p y => ?_, fun q y => ?_⟩, ?_, ?_, fun q hq => ?_⟩
  · rw [u2, rg_M_lies (d + 4) (show a + 1 ≤ 4 by omega), ← hD2]
    try simp only [rg_gR_77_19, Int.reduceToNat, rg_kIs, rg_kLs, rg_kRs, rg_kVs, rg_nns, rg_bs, cond_true, cond_false]
    rw [rg_sI_90 (by omega) (by omega), rg_tN, ← hD4]
    try simp only [Int.reduceToNat, rg_kIs, rg_kLs, rg_kRs, rg_kVs, rg_nns, rg_bs, cond_true, cond_false]
  · rw [hD4, rg_up_n (by decide), hD2, rg_up_n (by decide), d77]
  · rw [hD4, rg_up_n y4, hD2, rg_up_n y3]
    exact f1.1 x y1 y2 y3 y4
  · rw [hD4, rg_up_n (by decide), hD2, rg_up_n (by decide), d77]
  · rw [e89, d289 p y]
    exact f1.2.2.1 p y
  · rw [hD4, rg_up_s, rg_ui_n (by omega), hD2, rg_up_n (by decide)]
    exact f1.2.2.2 q y
  · rw [hD4, rg_up_s, rg_ui_n (by omega), hD2, rg_up_n (by decide)]
    exact d90
  · rw [hD4, rg_up_s, rg_ui_s]
  · rw [e89, hD2, rg_up_s]
    show (if 37 * (a + 1) ≤ 37 * (a + 1) + q ∧ 37 * (a + 1) + q < 37 * (a + 1) + 37 then D1 88 (37 * (a + 1) + q - 37 * (a + 1)) else D1 89 (37 * (a + 1) + q)) = pn_st s t q
    rw [if_pos (by omega), show 37 * (a + 1) + q - 37 * (a + 1) = q by omega, d88]
    exact wE q hq
theorem pn_st_2 {s : Nat → Int} (t : Nat) : pn_st s t 2 = s 2 := sp_does_hd s (t : Int) (sp_rail s) 2 (by decide)
theorem rg_M_ct {n : Nat} (hn : n ≤ 4) (d : Nat) : ∀ (r a : Nat) (s : Nat → Int) (m : Int), a + r + 1 = n → sp_st m s → 0 ≤ m → m + (r : Int) ≤ 1000 → (1 ≤ s 2 ∧ s 2 ≤ 6) → CT X (d + 5) n g M r a s
  | 0, a, s, m, hk, hs, m0, hm, z2 => rg_M_ct_0 (by omega) (by omega) hs z2 d
  | r + 1, a, s, m, hk, hs, m0, hm, z2 => by
    intro t D ht cn hr hA hB
    obtain ⟨D4, e1, e2, e3, e4, e5, e6⟩ := rg_M_deep (X := X) (g := g) (M := M) (show a + 1 < n by omega) hn ht cn hs z2 hr d 0
    obtain ⟨u0, hu0⟩ : ∃ u0, u0 = pn_st s t := ⟨_, rfl⟩
    have st0 : sp_st (m + 1) u0 := by rw [hu0]; exact (sp_does_st hs ⟨m0, show m ≤ 1000000 by omega⟩ (t : Int) (sp_rail s)).1
    have z20 : 1 ≤ u0 2 ∧ u0 2 ≤ 6 := by rw [hu0, pn_st_2]; exact z2
    rw [← hu0] at e6 hA hB ⊢
    have H := rg_M_ct hn d r (a + 1) u0 (m + 1) (by omega) st0 (by omega) (by omega) z20
    have pb := pw_b (k := r + 1) (by omega)
    have b1 := pn_ct_b (g := g) (r + 1) u0
    have b2 := pn_cw_b (g := g) (M := M) (r + 1) u0
    obtain ⟨v, hv⟩ : ∃ v, v = pn_ct g (r + 1) u0 := ⟨_, rfl⟩
    obtain ⟨w, hw⟩ : ∃ w, w = pn_cw g M (r + 1) u0 := ⟨_, rfl⟩
    rw [← hv] at b1 hA ⊢
    rw [← hw] at b2 hB ⊢
    obtain ⟨D5, p1, p2, p3, p4⟩ := rg_M_pl_ci (X := X) (show a + 1 ≤ 4 by omega) (show 0 < n by omega) st0 z20 d H 15 0 D4 (D 77 20) (D 77 21) v w (by omega) (Or.inl ⟨rfl, e5⟩) e6 (by rw [e2]) (by rw [e2]) hA.1 hB.1 hv hw (by omega) (by omega)
    rw [show ((a + 1 : Nat) : Int) - 1 = (a : Int) by omega] at p1
    exact ⟨D5, e1.trans p1, p2, p3, e3.trans p4 (by omega), by rw [p4.2.2.2 a (by omega)]; exact e4⟩
/-- all plans of just n things -/
theorem rg_M_plans_c {s : Nat → Int} {m : Int} {n : Nat} (hn : n ≤ 4) (hs : sp_st m s) (m0 : 0 ≤ m) (hm : m ≤ 900) (z2 : 1 ≤ s 2 ∧ s 2 ≤ 6) {D : rf_D} (hr : ∀ q, q < 37 → D 89 q = s q) (h35 : s 35 = g) (h36 : s 36 = M) (d : Nat) : ∃ D', rf_call (d + 6) 175 [.inr (.inr (some 77)), .inl (n : Int), .inl 0] (hp X D) = some (none, hp X D') ∧ D' 77 20 = (if n = 0 then 0 else pn_ct g n s) ∧ D' 77 21 = (if n = 0 then 0 else pn_cw g M n s) ∧ (∀ x, x ≠ 77 → x ≠ 88 → x ≠ 89 → x ≠ 90 → D' x = D x) ∧ ∀ q, q ≠ 20 → q ≠ 21 → D' 77 q = D 77 q := by
  obtain ⟨D1, hD1⟩ : ∃ D1, D1 = rg_up (rg_up D 77 (rg_ui (rg_ui (D 77) 20 0) 21 0)) 90 (rg_ui (D 90) 0 (-9)) := ⟨_, rfl⟩
  have go : rf_call (d + 6) 175 [.inr (.inr (some 77)), .inl (n : Int), .inl 0] (hp X D) = rf_j_M_plans_38 (d + 5) 77 (n : Int) 0 g M 0 (hp X D1) := by
    rw [rf_e_M_plans]
    try simp only [rg_gR_77_18, Int.reduceToNat, rg_kIs, rg_kLs, rg_kRs, rg_kVs, rg_nns, rg_bs, cond_true, cond_false]
    rw [rg_aI_89 (by decide) (by decide)]
    try simp only [Int.reduceToNat, rg_kIs, rg_kLs, rg_kRs, rg_kVs, rg_nns, rg_bs, cond_true, cond_false]
    rw [rg_aI_89 (by decide) (by decide)]
    try simp only [rg_pI_77, rg_gR_77_19, Int.reduceToNat, rg_kIs, rg_kLs, rg_kRs, rg_kVs, rg_nns, rg_bs, cond_true, cond_false]
    rw [rg_sI_90 (by decide) (by decide), hr 35 (by decide), hr 36 (by decide), h35, h36, rg_up_s, rg_up_u, rg_up_n (show (90 : Nat) ≠ 77 by decide)]
    try simp only [Int.reduceToNat, rg_kIs, rg_kLs, rg_kRs, rg_kVs, rg_nns, rg_bs, cond_true, cond_false]
    rw [hD1]
    try rfl
  have a77 : ∀ q, q ≠ 20 → q ≠ 21 → D1 77 q = D 77 q := fun q y1 y2 => by rw [hD1, rg_up_n (by decide), rg_up_s, rg_ui_n y2, rg_ui_n y1]
  have a20 : D1 77 20 = 0 := by rw [hD1, rg_up_n (by decide), rg_up_s, rg_ui_n (by decide), rg_ui_s]
  have a21 : D1 77 21 = 0 := by rw [hD1, rg_up_n (by decide), rg_up_s, rg_ui_s]
  have ax : ∀ x, x ≠ 77 → x ≠ 90 → D1 x = D x := fun x y1 y2 => by rw [hD1, rg_up_n y2, rg_up_n y1]
  have a90 : D1 90 0 = -9 := by rw [hD1, rg_up_s, rg_ui_s]
  by_cases n0 : n = 0
  · refine ⟨D1, ?_, by rw [if_pos n0]; exact a20, by rw [if_pos n0]; exact a21, fun x y1 _ _ y4 => ax x y1 y4, a77⟩
    rw [go, rf_e_M_plans_38, if_neg (by decide), if_neg (by omega)]
  · obtain ⟨r, hr'⟩ : ∃ r, n = r + 1 := ⟨n - 1, by omega⟩
    have H := rg_M_ct (X := X) (g := g) (M := M) hn d r 0 s m (by omega) hs m0 (by omega) z2
    have pb := pw_b (k := n) hn
    have b1 := pn_ct_b (g := g) n s
    have b2 := pn_cw_b (g := g) (M := M) n s
    obtain ⟨v, hv⟩ : ∃ v, v = pn_ct g n s := ⟨_, rfl⟩
    obtain ⟨w, hw⟩ : ∃ w, w = pn_cw g M n s := ⟨_, rfl⟩
    rw [← hv] at b1 ⊢
    rw [← hw] at b2 ⊢
    obtain ⟨D5, p1, p2, p3, p4⟩ := rg_M_pl_ci (X := X) (show 0 ≤ 4 by decide) (show 0 < n by omega) hs z2 d H 15 0 D1 0 0 v w (by omega) (Or.inl ⟨rfl, a90⟩) (fun q hq => by rw [ax 89 (by decide) (by decide), show 37 * 0 + q = q by omega]; exact hr q hq) a20 a21 (by decide) (by decide) (by rw [hv, hr']; rfl) (by rw [hw, hr']; rfl) (by omega) (by omega)
    rw [show ((0 : Nat) : Int) = 0 from rfl] at p1
    refine ⟨D5, ?_, by rw [if_neg n0, p2, Int.zero_add], by rw [if_neg n0, p3, Int.zero_add], fun x y1 y2 y3 y4 => by rw [p4.1 x y1 y2 y3 y4, ax x y1 y4], fun q y1 y2 => by rw [p4.2.1 q y1 y2, a77 q y1 y2]⟩
    rw [go, p1, rf_e_M_plans_38, if_pos (by decide)]
end RGS37
section RGS38
variable {X : rf_X} {D : rf_D}
theorem st_ways (hI : Inv D) (d : Nat) (n0 : Int) : Ag X D (d + 15) 91 177 [.inl n0] := by
  unfold Ag
  by_cases hn : 0 ≤ n0 ∧ n0 ≤ 4
  · obtain ⟨n, hnn⟩ := Int.eq_ofNat_of_zero_le hn.1
    rcases hI.2.2.2.2 with ⟨h12, hN⟩ | ⟨h12, hY⟩
    · refine ⟨-4, D, D, ?_, ?_, hI⟩
      · rw [rf_e_W_ways, if_neg (by omega), if_neg (by omega)]
        try simp only [rg_gI_0, Int.reduceToNat, rg_kIs, rg_kLs, rg_kRs, rg_kVs, rg_nns, rg_bs, cond_true, cond_false]
        rw [if_pos h12]
      · rw [rf_e_M_ways, rg_M_in]
        try simp only [Int.reduceToNat, rg_kIs, rg_kLs, rg_kRs, rg_kVs, rg_nns, rg_bs, cond_true, cond_false]
        rw [if_pos hn, if_neg (by decide)]
        try simp only [rg_hp1, rg_o_77, Int.reduceToNat, rg_kIs, rg_kLs, rg_kRs, rg_kVs, rg_nns, rg_bs, cond_true, cond_false]
        rw [rg_M_isTrain, hN.1 0 (by decide)]
        try simp only [Int.reduceToNat, rg_kIs, rg_kLs, rg_kRs, rg_kVs, rg_nns, rg_bs, cond_true, cond_false]
        rw [if_pos (by decide)]
    · obtain ⟨hd, hC, ha, hb, hT, ⟨k, h4, hDE, hL⟩, -⟩ := hY
      have st := hL.st hDE.1 ha hb hC.2.2.2.1
      have k60 := hDE.1
      have b33 := st.1.2.2.2.2.2.2.1
      have b35 := st.1.2.2.2.2.2.2.2.2
      have z2 : 1 ≤ D 82 2 ∧ D 82 2 ≤ 6 := hd.2.2.1
      have h0 : 0 < D 82 0 := by
        have := hd.1.1
        omega
      have n4 : n ≤ 4 := by omega
      obtain ⟨f1, a1, a2⟩ := rg_W_aside (X := X) hT st.1 (d + 12) (k := 0) (by decide) (by omega)
      rw [sy_0 b33.2.1] at a2
      obtain ⟨F, hF⟩ : ∃ F, F = rg_up D 76 f1 := ⟨_, rfl⟩
      have Fn : ∀ a, a ≠ 76 → F a = D a := fun a y => by rw [hF, rg_up_n y]
      have F76 : TR (F (70 + 6)) (D 82) (D 82 35) := by
        rw [hF]
        show TR (rg_up D 76 f1 76) (D 82) (D 82 35)
        rw [rg_up_s]
        exact a2
      obtain ⟨G, g1, g2⟩ := rg_P_sy (X := X) (W := D 31 1) (g := D 82 35) (b := 0) (by omega) (Or.inl rfl) (d + 7 - n) n 6 F (D 82) (k : Int) n4 (by omega) (by decide) (hC.of fun a _ _ => Fn a (by omega)) hd F76 st.1 (by omega) (by omega) st.2.1
      have Gn : ∀ a, (a < 70 ∨ 77 ≤ a) → G a = D a := fun a y => by rw [g2 a (by omega), Fn a (by omega)]
      have G76 : G 76 = F 76 := g2 76 (by omega)
      obtain ⟨G2, c1, c2⟩ := rg_P_sy (X := X) (W := D 31 1) (g := D 82 35) (b := 1) (by omega) (Or.inr rfl) (d + 7 - n) n 6 G (D 82) (k : Int) n4 (by omega) (by decide) (hC.of fun a _ _ => Gn a (by omega)) hd (by show TR (G 76) (D 82) (D 82 35); rw [G76]; exact F76) st.1 (by omega) (by omega) st.2.1
      have G2n : ∀ a, (a < 70 ∨ 77 ≤ a) → G2 a = D a := fun a y => by rw [c2 a (by omega), Gn a y]
      rw [show d + 7 - n + 7 + n = d + 14 by omega, show (70 + 6 : Nat) = 76 from rfl] at g1 c1
      obtain ⟨v0, hv0⟩ : ∃ v0, v0 = pn_v 0 (D 82 35) n (D 82) := ⟨_, rfl⟩
      obtain ⟨v1, hv1⟩ : ∃ v1, v1 = pn_v 1 (D 82 35) n (D 82) := ⟨_, rfl⟩
      rw [← hv0] at g1
      rw [← hv1] at c1
      have t0 : pn_v 0 (D 82 35) n (D 82) = (if n = 0 then 0 else pn_cw (D 82 35) (D 82 36) n (D 82)) := by
        unfold pn_v
        rw [if_pos rfl]
        by_cases z : n = 0
        · rw [if_pos z, z]
          show (if D 82 35 < D 82 35 then (1 : Int) else 0) = 0
          rw [if_neg (by omega)]
        · rw [if_neg z, pn_cw_cn n (D 82) (k : Int) st.1 (by omega) (by omega) rfl]
      have t1 : pn_v 1 (D 82 35) n (D 82) = (if n = 0 then 0 else pn_ct (D 82 35) n (D 82)) := by
        unfold pn_v
        rw [if_neg (by decide)]
        by_cases z : n = 0
        · rw [if_pos z, z]
          show (if D 82 35 < D 82 35 then (1 : Int) else 0) = 0
          rw [if_neg (by omega)]
        · rw [if_neg z]
      obtain ⟨u, hu⟩ : ∃ u, u = sp_first (D 88) (D 82) 37 := ⟨_, rfl⟩
      have E1 : E37 u (D 82) := by
        rw [hu]
        exact sp_first_E _ _
      have wn : ∀ a, a ≠ 0 → wtl v0 G2 a = G2 a := fun a y => wtl_n y
      have w82 : wtl v0 G2 82 = D 82 := by rw [wn 82 (by decide), G2n 82 (by decide)]
      have w88 : wtl v0 G2 88 = D 88 := by rw [wn 88 (by decide), G2n 88 (by decide)]
      obtain ⟨H1, hH1⟩ : ∃ H1, H1 = rg_up (wtl v0 G2) 88 u := ⟨_, rfl⟩
      obtain ⟨H2, hH2⟩ : ∃ H2, H2 = rg_up H1 89 (ly_r (H1 89) (H1 88) 0) := ⟨_, rfl⟩
      have H289 : ∀ q, q < 37 → H2 89 q = D 82 q := fun q hq => by
        rw [hH2, rg_up_s]
        show (if 37 * 0 ≤ q ∧ q < 37 * 0 + 37 then H1 88 (q - 37 * 0) else H1 89 q) = D 82 q
        rw [if_pos (by omega), show q - 37 * 0 = q by omega, hH1, rg_up_s]
        exact E1 q hq
      obtain ⟨H3, p1, p2, p3, p4, p5⟩ := rg_M_plans_c (X := X) (D := H2) n4 st.1 (by omega) (by omega) z2 H289 rfl rfl (d + 8)
      rw [← t1, ← hv1] at p2
      rw [← t0, ← hv0] at p3
      have H2n : ∀ a, a ≠ 88 → a ≠ 89 → H2 a = wtl v0 G2 a := fun a y1 y2 => by rw [hH2, rg_up_n y2, hH1, rg_up_n y1]
      refine ⟨v1, wtl v0 G2, mtl v0 H3, ?_, ?_, ?_⟩
      · rw [rf_e_W_ways, if_neg (by omega), if_neg (by omega)]
        try simp only [rg_gI_0, Int.reduceToNat, rg_kIs, rg_kLs, rg_kRs, rg_kVs, rg_nns, rg_bs, cond_true, cond_false]
        rw [if_neg (by omega)]
        try simp only [rg_hp1, rg_o_0, Int.reduceToNat, rg_kIs, rg_kLs, rg_kRs, rg_kVs, rg_nns, rg_bs, cond_true, cond_false]
        rw [a1, ← hF]
        try simp only [rg_gR_0_11, Int.reduceToNat, rg_kIs, rg_kLs, rg_kRs, rg_kVs, rg_nns, rg_bs, cond_true, cond_false]
        rw [hnn, g1]
        try simp only [rg_gR_0_11, Int.reduceToNat, rg_kIs, rg_kLs, rg_kRs, rg_kVs, rg_nns, rg_bs, cond_true, cond_false]
        rw [c1]
        try simp only [rg_hp1, rg_o_0, Int.reduceToNat, rg_kIs, rg_kLs, rg_kRs, rg_kVs, rg_nns, rg_bs, cond_true, cond_false]
        rw [rg_W_tell]
        try simp only [Int.reduceToNat, rg_kIs, rg_kLs, rg_kRs, rg_kVs, rg_nns, rg_bs, cond_true, cond_false]
      · rw [rf_e_M_ways, rg_M_in]
        try simp only [Int.reduceToNat, rg_kIs, rg_kLs, rg_kRs, rg_kVs, rg_nns, rg_bs, cond_true, cond_false]
        rw [if_pos hn, if_neg (by decide)]
        try simp only [rg_hp1, rg_o_77, Int.reduceToNat, rg_kIs, rg_kLs, rg_kRs, rg_kVs, rg_nns, rg_bs, cond_true, cond_false]
        rw [rg_M_isTrain, w82, if_pos h0]
        try simp only [Int.reduceToNat, rg_kIs, rg_kLs, rg_kRs, rg_kVs, rg_nns, rg_bs, cond_true, cond_false]
        rw [if_neg (by decide)]
        try simp only [rg_hp1, rg_o_77, Int.reduceToNat, rg_kIs, rg_kLs, rg_kRs, rg_kVs, rg_nns, rg_bs, cond_true, cond_false]
        rw [rg_M_take, w82, w88, ← hu, ← hH1]
        try simp only [rg_hp1, rg_o_77, Int.reduceToNat, rg_kIs, rg_kLs, rg_kRs, rg_kVs, rg_nns, rg_bs, cond_true, cond_false]
        have ly := rg_M_lies (X := X) (D := H1) (d + 13) (a := 0) (by decide)
        rw [show ((0 : Nat) : Int) = 0 from rfl] at ly
        rw [ly, ← hH2]
        try simp only [rg_hp1, rg_o_77, Int.reduceToNat, rg_kIs, rg_kLs, rg_kRs, rg_kVs, rg_nns, rg_bs, cond_true, cond_false]
        rw [hnn, p1]
        try simp only [rg_gI_77, rg_hp1, rg_o_77, Int.reduceToNat, rg_kIs, rg_kLs, rg_kRs, rg_kVs, rg_nns, rg_bs, cond_true, cond_false]
        rw [p2, p3, rf_e_M_answers, rg_pI_77]
        try simp only [Int.reduceToNat, rg_kIs, rg_kLs, rg_kRs, rg_kVs, rg_nns, rg_bs, cond_true, cond_false]
        try rfl
      · have iG : Inv G2 := hI.scr (fun a y1 y2 y3 y4 y5 y6 y7 => G2n a (by omega)) (by rw [G2n 8 (by decide)]) (by rw [G2n 10 (by decide)]) (fun j _ _ => by rw [G2n 77 (by decide)])
        have iT := iG.tl v0
        have e : ∀ a, a ≠ 77 → a ≠ 88 → a ≠ 89 → a ≠ 90 → mtl v0 H3 a = mtl v0 (wtl v0 G2) a := fun a y1 y2 y3 y4 => by
          unfold mtl
          rw [rg_up_n y1, rg_up_n y1, p4 a y1 y2 y3 y4, H2n a y2 y3]
        refine iT.scr (fun a _ _ _ _ _ y6 y7 => e a (by omega) (by omega) (by omega) (by omega)) (by rw [e 8 (by decide) (by decide) (by decide) (by decide)]) (by rw [e 10 (by decide) (by decide) (by decide) (by decide)]) (fun j j1 j2 => ?_)
        unfold mtl
        rw [rg_up_s, rg_up_s]
        by_cases j9 : j = 9
        · rw [j9, rg_ui_s, rg_ui_s]
        · rw [rg_ui_n j9, rg_ui_n j9, p5 j (by omega) (by omega), H2n 77 (by decide) (by decide)]
  · refine ⟨-1, D, D, ?_, ?_, hI⟩
    · rw [rf_e_W_ways]
      by_cases b : n0 < 0
      · rw [if_pos b]
      · rw [if_neg b, if_pos (by omega)]
    · rw [rf_e_M_ways, rg_M_in]
      try simp only [Int.reduceToNat, rg_kIs, rg_kLs, rg_kRs, rg_kVs, rg_nns, rg_bs, cond_true, cond_false]
      rw [if_neg hn, if_pos (by decide)]
end RGS38
