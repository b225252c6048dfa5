/-! A thing done: class and reference. -/
theorem Inv.tr {D D' : rf_D} (hI : Inv D) (e : ∀ a, (a = 6 ∨ a = 7 ∨ a = 8 ∨ a = 10 ∨ (44 ≤ a ∧ a < 64) ∨ (78 ≤ a ∧ a < 82) ∨ a = 85) → D' a = D a) (e0 : ∀ j, 13 ≤ j → j ≤ 16 → D' 0 j = D 0 j) (e77 : ∀ j, 8 ≤ j → j ≤ 11 → D' 77 j = D 77 j) (hT : ITr D') : Inv D' := by
  obtain ⟨h1, h2, h3, h4, -⟩ := hI
  refine ⟨h1.of (e _ (by decide)) (e _ (by decide)) fun k z1 z2 => e k (by omega), h2.of (e _ (by decide)) (e _ (by decide)) fun k z1 z2 => e k (by omega), ?_, h4.of (e _ (by decide)) (e _ (by decide)), hT⟩
  exact h3.of (e _ (by decide)) (e _ (by decide)) (e _ (by decide)) (e77 8 (by decide) (by decide)) (e0 16 (by decide) (by decide)) (by rw [e77 9 (by decide) (by decide), e0 13 (by decide) (by decide)]; exact h3.2.2.2.1) (e77 10 (by decide) (by decide)) (e0 14 (by decide) (by decide)) (e77 11 (by decide) (by decide)) (e0 15 (by decide) (by decide))
theorem E37.can {u s : Nat → Int} (h : E37 u s) (t : Int) : sp_can u t = sp_can s t := by
  have e := pt_can (s := s) (w := u) (t := t)
  rw [← pt_E h] at e
  exact e
theorem sp_first_E (f g : Nat → Int) : E37 (sp_first f g 37) g := fun _ hj => if_pos hj
theorem Inv.s88 {D : rf_D} (hI : Inv D) (f : Nat → Int) : Inv (rg_up D 88 f) := hI.scr (fun a _ _ _ _ _ _ h => rg_up_n (by omega)) (by rw [rg_up_n (by decide)]) (by rw [rg_up_n (by decide)]) (fun j _ _ => by rw [rg_up_n (by decide)])
theorem sp_log_hd {A s' : Nat → Int} {n j : Nat} (h : j < 27) : sp_log A s' n j = A j := by
  unfold sp_log
  rw [if_neg (by omega), if_neg (by omega), if_neg (by omega)]
theorem sp_log_st {A s' : Nat → Int} {n j : Nat} (h1 : 27 ≤ j) (h2 : j ≤ 36) : sp_log A s' n j = s' j := by
  unfold sp_log
  rw [if_neg (by omega), if_pos (by omega)]
/-- the train's part of the invariant behind a thing done -/
theorem IYes.go {D D' : rf_D} (h : IYes D) {n : Nat} (hn : n ≤ 59) (h4 : D 4 1 = (n : Int)) {t : Int} (t0 : 0 ≤ t) (t14 : t ≤ 14) {s : Nat → Int} (hs : E37 s (D 82)) (e : ∀ a, ((28 ≤ a ∧ a ≤ 42) ∨ (64 ≤ a ∧ a ≤ 69) ∨ a = 83 ∨ a = 84) → D' a = D a) (e4 : D' 4 1 = (n : Int) + 1) (e5 : D' 5 = rg_ui (D 5) n t) (e43 : TR (D' 43) (sp_does (D 82) t (sp_rail (D 82))).2 0) (e82 : D' 82 = sp_log (D 82) (sp_does s t (sp_rail s)).2 n) : IYes D' := by
  obtain ⟨hd, hC, ha, hb, hT, ⟨m, hm, hDE, hL⟩, hk⟩ := h
  have mn : m = n := by omega
  subst mn
  have hW := hC.2.2.2.1
  have z1 : 1 ≤ D 82 2 ∧ D 82 2 ≤ 6 := hd.2.2.1
  have st := hL.st (by omega) ha hb hW
  have b33 := st.1.2.2.2.2.2.2.1
  have r := hs.rail (by rw [st.2.2]; omega) z1.1 z1.2
  have dd := hs.does b33.1 (by omega) t (sp_rail s)
  have hh : ∀ j, j < 27 → D' 82 j = D 82 j := fun j hj => by rw [e82, sp_log_hd hj]
  have LN := hL.next hn ha hb hW hd hs rfl (e' := D' 5) (t := t) (fun k hk => by rw [e5, rg_ui_n (by omega)]) (by rw [e5, rg_ui_s])
  unfold IYes
  rw [e 28 (by omega), e 31 (by omega), e4]
  refine ⟨sp_hd_of hd hh, (hC.ofs z1.2 hh).of fun a z2 z3 => e a (by omega), ha, hb, ?_, ⟨m + 1, by omega, ⟨by omega, fun k hk2 => ?_⟩, ?_⟩, fun k hk3 => ?_⟩
  · refine e43.ofs fun j j1 j2 => ?_
    rw [e82, sp_log_st j1 j2, dd.2 j (by omega), r]
  · rw [e5]
    by_cases kn : k = m
    · rw [kn, rg_ui_s]
      exact ⟨t0, t14⟩
    · rw [rg_ui_n kn]
      exact hDE.2 k (by omega)
  · rw [e82]
    exact LN
  · unfold IKp
    rw [e 28 (by omega), e 31 (by omega), e 83 (by omega), e 84 (by omega), e (64 + 2 * k) (by omega), e (64 + 2 * k + 1) (by omega)]
    rcases hk k hk3 with z | ⟨z, q, k1, k2, k3, k4⟩
    · exact Or.inl z
    · exact Or.inr ⟨z, q, k1, k2, fun j hj => by rw [hh j hj]; exact k3 j hj, k4⟩
section RGS6
variable {X : rf_X} {D : rf_D}
theorem rg_M_isTrain (d : Nat) : rf_call (d + 1) 150 [.inr (.inr (some 77))] (hp X D) = some (some (.inl (if 0 < D 82 0 then 1 else 0)), hp X D) := by
  rw [rf_e_M_isTrain]
  try simp only [rg_gR_77_4, Int.reduceToNat, rg_kIs, rg_kLs, rg_kRs, rg_kVs, rg_nns, rg_bs, cond_true, cond_false]
  rw [rg_aI_82 (by decide) (by decide)]
  try simp only [Int.reduceToNat, rg_kIs, rg_kLs, rg_kRs, rg_kVs, rg_nns, rg_bs, cond_true, cond_false]
  by_cases h : 0 < D 82 0
  · rw [if_pos h, if_pos h]
  · rw [if_neg h, if_neg h]
theorem st_go (hI : Inv D) (d : Nat) (t : Int) : Ag X D (d + 10) 77 151 [.inl t] := by
  unfold Ag
  by_cases ht : 0 ≤ t ∧ t ≤ 14
  · have mi := rg_M_in (d + 8) t 0 14
    rcases hI.2.2.2.2 with ⟨h12, hN⟩ | ⟨h12, hY⟩
    · refine ⟨-4, D, rg_up D 88 (sp_first (D 88) (D 82) 37), ?_, ?_, hI.s88 _⟩
      · rw [rf_e_W_go, if_neg (by omega), if_pos (by omega)]
        try simp only [rg_gI_0, Int.reduceToNat, rg_kIs, rg_kLs, rg_kRs, rg_kVs, rg_nns, rg_bs, cond_true, cond_false]
        rw [if_pos h12]
      · rw [rf_e_M_go, mi]
        try simp only [Int.reduceToNat, rg_kIs, rg_kLs, rg_kRs, rg_kVs, rg_nns, rg_bs, cond_true, cond_false]
        rw [if_pos ht, if_neg (by decide)]
        try simp only [rg_hp1, rg_o_77, Int.reduceToNat, rg_kIs, rg_kLs, rg_kRs, rg_kVs, rg_nns, rg_bs, cond_true, cond_false]
        rw [rg_M_take]
        try simp only [rg_hp1, rg_o_77, Int.reduceToNat, rg_kIs, rg_kLs, rg_kRs, rg_kVs, rg_nns, rg_bs, cond_true, cond_false]
        rw [rg_M_isTrain, rg_up_n (by decide), hN.1 0 (by decide)]
        try simp only [Int.reduceToNat, rg_kIs, rg_kLs, rg_kRs, rg_kVs, rg_nns, rg_bs, cond_true, cond_false]
        rw [if_pos (by decide)]
    · have hY2 := hY
      obtain ⟨hd, hC, ha, hb, hT, ⟨n, h4, hDE, hL⟩, hk⟩ := hY2
      have hW := hC.2.2.2.1
      have z1 : 1 ≤ D 82 2 ∧ D 82 2 ≤ 6 := hd.2.2.1
      have st := hL.st hDE.1 ha hb hW
      have b33 := st.1.2.2.2.2.2.2.1
      have h0 : 0 < D 82 0 := by
        have := hd.1.1
        omega
      have cb := rg_T_canBe (X := X) (D := D) rg_tr_43 hT st.1 (d + 8) ht.1 ht.2
      have E1 := sp_first_E (D 88) (D 82)
      by_cases c : sp_can (D 82) t = true
      · by_cases n60 : n = 60
        · refine ⟨-2, D, rg_up D 88 (sp_first (D 88) (D 82) 37), ?_, ?_, hI.s88 _⟩
          · rw [rf_e_W_go, if_neg (by omega), if_pos (by omega)]
            try simp only [rg_gI_0, Int.reduceToNat, rg_kIs, rg_kLs, rg_kRs, rg_kVs, rg_nns, rg_bs, cond_true, cond_false]
            rw [if_neg (by omega)]
            try simp only [rg_gR_0_10, rg_hp1, rg_tr_43.1, Int.reduceToNat, rg_kIs, rg_kLs, rg_kRs, rg_kVs, rg_nns, rg_bs, cond_true, cond_false]
            rw [cb, if_pos c]
            try simp only [Int.reduceToNat, rg_kIs, rg_kLs, rg_kRs, rg_kVs, rg_nns, rg_bs, cond_true, cond_false]
            rw [if_neg (by decide)]
            try simp only [rg_gR_0_3, rg_row_gI rg_row_4, Int.reduceToNat, rg_kIs, rg_kLs, rg_kRs, rg_kVs, rg_nns, rg_bs, cond_true, cond_false]
            rw [if_neg (by omega)]
          · rw [rf_e_M_go, mi]
            try simp only [Int.reduceToNat, rg_kIs, rg_kLs, rg_kRs, rg_kVs, rg_nns, rg_bs, cond_true, cond_false]
            rw [if_pos ht, if_neg (by decide)]
            try simp only [rg_hp1, rg_o_77, Int.reduceToNat, rg_kIs, rg_kLs, rg_kRs, rg_kVs, rg_nns, rg_bs, cond_true, cond_false]
            rw [rg_M_take]
            try simp only [rg_hp1, rg_o_77, Int.reduceToNat, rg_kIs, rg_kLs, rg_kRs, rg_kVs, rg_nns, rg_bs, cond_true, cond_false]
            rw [rg_M_isTrain, rg_up_n (by decide), if_pos h0]
            try simp only [Int.reduceToNat, rg_kIs, rg_kLs, rg_kRs, rg_kVs, rg_nns, rg_bs, cond_true, cond_false]
            rw [if_neg (by decide)]
            try simp only [rg_hp1, rg_o_77, Int.reduceToNat, rg_kIs, rg_kLs, rg_kRs, rg_kVs, rg_nns, rg_bs, cond_true, cond_false]
            rw [rg_M_can, rg_up_s, E1.can, if_pos c]
            try simp only [Int.reduceToNat, rg_kIs, rg_kLs, rg_kRs, rg_kVs, rg_nns, rg_bs, cond_true, cond_false]
            rw [if_neg (by decide)]
            try simp only [rg_gR_77_4, Int.reduceToNat, rg_kIs, rg_kLs, rg_kRs, rg_kVs, rg_nns, rg_bs, cond_true, cond_false]
            rw [rg_aI_82 (by decide) (by decide)]
            try simp only [Int.reduceToNat, rg_kIs, rg_kLs, rg_kRs, rg_kVs, rg_nns, rg_bs, cond_true, cond_false]
            rw [rg_up_n (by decide), if_pos (by have := hL.1; show D 82 37 = 60; omega)]
        · have n59 : n ≤ 59 := by
            have := hDE.1
            omega
          obtain ⟨D1, hD1⟩ : ∃ D1, D1 = rg_up (rg_up D 4 (rg_ui (D 4) 1 (D 4 1 + 1))) (4 + 1) (rg_ui (D (4 + 1)) (D 4 1).toNat t) := ⟨_, rfl⟩
          have D1n : ∀ a, a ≠ 4 → a ≠ 5 → D1 a = D a := fun a y1 y2 => by rw [hD1, rg_up_n y2, rg_up_n y1]
          have hC1 : CR D1 28 (D 82) (D 31 1) := hC.of fun a y1 y2 => D1n a (by omega) (by omega)
          have rl := sp_rail_02 hd st.1
          have w2 := rg_T_rail (X := X) (D := D1) rg_tr_43 hC1 hd st.1 (by omega) (d + 5) (by rw [D1n 43 (by decide) (by decide)]; exact hT.2.2.2.1)
          obtain ⟨f', w3, w4⟩ := rg_T_does (X := X) (D := D1) rg_tr_43 hC1 hd (by rw [D1n 43 (by decide) (by decide)]; exact hT) st.1 (by omega) ⟨Int.le_refl 0, by decide⟩ st.2.1 (d + 3) ht.1 ht.2 (fun _ => rl)
          obtain ⟨D2, hD2⟩ : ∃ D2, D2 = rg_up D1 43 f' := ⟨_, rfl⟩
          have D2n : ∀ a, a ≠ 4 → a ≠ 5 → a ≠ 43 → D2 a = D a := fun a y1 y2 y3 => by rw [hD2, rg_up_n y3, D1n a y1 y2]
          obtain ⟨D3, hD3⟩ : ∃ D3, D3 = rg_up D2 88 (sp_first (D 88) (D 82) 37) := ⟨_, rfl⟩
          have D3n : ∀ a, a ≠ 88 → D3 a = D2 a := fun a y1 => by rw [hD3, rg_up_n y1]
          have e82 : D3 82 = D 82 := by rw [D3n 82 (by decide), D2n 82 (by decide) (by decide) (by decide)]
          have ac := rg_M_acts (X := X) (D := D3) (d + 3) t n n59 (by rw [e82]; exact hL.1) (by rw [e82]; exact b33.1) (by rw [e82]; exact b33.2.1) (by rw [e82]; exact b33.2.2) (by rw [e82, st.2.2]; omega) (by rw [e82]; exact z1.1) (by rw [e82]; exact z1.2) rfl
          have Es : E37 (sp_first (D3 88) (D3 82) 37) (D 82) := by
            rw [e82]
            exact sp_first_E _ _
          generalize sp_first (D3 88) (D3 82) 37 = s at ac Es
          have ry := Es.rail (by rw [st.2.2]; omega) z1.1 z1.2
          have dy := Es.does b33.1 (by omega) t (sp_rail s)
          rw [ry] at dy
          refine ⟨(sp_does (D 82) t (sp_rail (D 82))).1, D2, rg_up (rg_up D3 82 (sp_log (D 82) (sp_does s t (sp_rail s)).2 n)) 88 (sp_does s t (sp_rail s)).2, ?_, ?_, ?_⟩
          · rw [rf_e_W_go, if_neg (by omega), if_pos (by omega)]
            try simp only [rg_gI_0, Int.reduceToNat, rg_kIs, rg_kLs, rg_kRs, rg_kVs, rg_nns, rg_bs, cond_true, cond_false]
            rw [if_neg (by omega)]
            try simp only [rg_gR_0_10, rg_hp1, rg_tr_43.1, Int.reduceToNat, rg_kIs, rg_kLs, rg_kRs, rg_kVs, rg_nns, rg_bs, cond_true, cond_false]
            rw [cb, if_pos c]
            try simp only [Int.reduceToNat, rg_kIs, rg_kLs, rg_kRs, rg_kVs, rg_nns, rg_bs, cond_true, cond_false]
            rw [if_neg (by decide)]
            try simp only [rg_gR_0_3, rg_row_gI rg_row_4, rg_hp1, rg_o_0, Int.reduceToNat, rg_kIs, rg_kLs, rg_kRs, rg_kVs, rg_nns, rg_bs, cond_true, cond_false]
            rw [if_pos (by omega), rf_e_W_doDeed]
            try simp only [rg_gR_0_3, rg_hp1, rg_row_o rg_row_4, Int.reduceToNat, rg_kIs, rg_kLs, rg_kRs, rg_kVs, rg_nns, rg_bs, cond_true, cond_false]
            rw [rg_R_add rg_row_4 (d + 5) (by omega) (by omega) (by decide), ← hD1]
            try simp only [rg_gR_0_10, rg_hp1, rg_tr_43.1, Int.reduceToNat, rg_kIs, rg_kLs, rg_kRs, rg_kVs, rg_nns, rg_bs, cond_true, cond_false]
            rw [w2]
            try simp only [rg_hp1, rg_tr_43.1, Int.reduceToNat, rg_kIs, rg_kLs, rg_kRs, rg_kVs, rg_nns, rg_bs, cond_true, cond_false]
            rw [w3]
            try simp only [Int.reduceToNat, rg_kIs, rg_kLs, rg_kRs, rg_kVs, rg_nns, rg_bs, cond_true, cond_false]
            rw [hD2]
          · rw [rf_e_M_go, mi]
            try simp only [Int.reduceToNat, rg_kIs, rg_kLs, rg_kRs, rg_kVs, rg_nns, rg_bs, cond_true, cond_false]
            rw [if_pos ht, if_neg (by decide)]
            try simp only [rg_hp1, rg_o_77, Int.reduceToNat, rg_kIs, rg_kLs, rg_kRs, rg_kVs, rg_nns, rg_bs, cond_true, cond_false]
            rw [rg_M_take, D2n 88 (by decide) (by decide) (by decide), D2n 82 (by decide) (by decide) (by decide), ← hD3]
            try simp only [rg_hp1, rg_o_77, Int.reduceToNat, rg_kIs, rg_kLs, rg_kRs, rg_kVs, rg_nns, rg_bs, cond_true, cond_false]
            rw [rg_M_isTrain, e82, if_pos h0]
            try simp only [Int.reduceToNat, rg_kIs, rg_kLs, rg_kRs, rg_kVs, rg_nns, rg_bs, cond_true, cond_false]
            rw [if_neg (by decide)]
            try simp only [rg_hp1, rg_o_77, Int.reduceToNat, rg_kIs, rg_kLs, rg_kRs, rg_kVs, rg_nns, rg_bs, cond_true, cond_false]
            rw [rg_M_can, show D3 88 = sp_first (D 88) (D 82) 37 by rw [hD3, rg_up_s], E1.can, if_pos c]
            try simp only [Int.reduceToNat, rg_kIs, rg_kLs, rg_kRs, rg_kVs, rg_nns, rg_bs, cond_true, cond_false]
            rw [if_neg (by decide)]
            try simp only [rg_gR_77_4, Int.reduceToNat, rg_kIs, rg_kLs, rg_kRs, rg_kVs, rg_nns, rg_bs, cond_true, cond_false]
            rw [rg_aI_82 (by decide) (by decide)]
            try simp only [Int.reduceToNat, rg_kIs, rg_kLs, rg_kRs, rg_kVs, rg_nns, rg_bs, cond_true, cond_false]
            rw [e82, if_neg (by have := hL.1; show ¬ D 82 37 = 60; omega)]
            try simp only [rg_hp1, rg_o_77, Int.reduceToNat, rg_kIs, rg_kLs, rg_kRs, rg_kVs, rg_nns, rg_bs, cond_true, cond_false]
            rw [ac]
            try simp only [Int.reduceToNat, rg_kIs, rg_kLs, rg_kRs, rg_kVs, rg_nns, rg_bs, cond_true, cond_false]
            rw [e82, ry, dy.1]
          · have hY3 : IYes (rg_up (rg_up D3 82 (sp_log (D 82) (sp_does s t (sp_rail s)).2 n)) 88 (sp_does s t (sp_rail s)).2) := by
              refine hY.go n59 h4 ht.1 ht.2 Es (fun a y => ?_) ?_ ?_ ?_ ?_
              · rw [rg_up_n (by omega), rg_up_n (by omega), D3n a (by omega), D2n a (by omega) (by omega) (by omega)]
              · rw [rg_up_n (by decide), rg_up_n (by decide), D3n 4 (by decide), hD2, rg_up_n (by decide), hD1, rg_up_n (by decide), rg_up_s, rg_ui_s, h4]
              · rw [rg_up_n (by decide), rg_up_n (by decide), D3n 5 (by decide), hD2, rg_up_n (by decide), hD1, rg_up_s, h4, rg_tN]
              · rw [rg_up_n (by decide), rg_up_n (by decide), D3n 43 (by decide), hD2, rg_up_s]
                exact w4
              · rw [rg_up_n (by decide), rg_up_s]
            refine hI.tr (fun a y => ?_) (fun j _ _ => ?_) (fun j _ _ => ?_) (Or.inr ⟨?_, hY3⟩)
            · rw [rg_up_n (by omega), rg_up_n (by omega), D3n a (by omega), D2n a (by omega) (by omega) (by omega)]
            · rw [rg_up_n (by decide), rg_up_n (by decide), D3n 0 (by decide), D2n 0 (by decide) (by decide) (by decide)]
            · rw [rg_up_n (by decide), rg_up_n (by decide), D3n 77 (by decide), D2n 77 (by decide) (by decide) (by decide)]
            · rw [rg_up_n (by decide), rg_up_n (by decide), D3n 0 (by decide), D2n 0 (by decide) (by decide) (by decide)]
              exact h12
      · refine ⟨-4, D, rg_up D 88 (sp_first (D 88) (D 82) 37), ?_, ?_, hI.s88 _⟩
        · rw [rf_e_W_go, if_neg (by omega), if_pos (by omega)]
          try simp only [rg_gI_0, Int.reduceToNat, rg_kIs, rg_kLs, rg_kRs, rg_kVs, rg_nns, rg_bs, cond_true, cond_false]
          rw [if_neg (by omega)]
          try simp only [rg_gR_0_10, rg_hp1, rg_tr_43.1, Int.reduceToNat, rg_kIs, rg_kLs, rg_kRs, rg_kVs, rg_nns, rg_bs, cond_true, cond_false]
          rw [cb, if_neg c]
          try simp only [Int.reduceToNat, rg_kIs, rg_kLs, rg_kRs, rg_kVs, rg_nns, rg_bs, cond_true, cond_false]
          rw [if_pos (by decide)]
        · rw [rf_e_M_go, mi]
          try simp only [Int.reduceToNat, rg_kIs, rg_kLs, rg_kRs, rg_kVs, rg_nns, rg_bs, cond_true, cond_false]
          rw [if_pos ht, if_neg (by decide)]
          try simp only [rg_hp1, rg_o_77, Int.reduceToNat, rg_kIs, rg_kLs, rg_kRs, rg_kVs, rg_nns, rg_bs, cond_true, cond_false]
          rw [rg_M_take]
          try simp only [rg_hp1, rg_o_77, Int.reduceToNat, rg_kIs, rg_kLs, rg_kRs, rg_kVs, rg_nns, rg_bs, cond_true, cond_false]
          rw [rg_M_isTrain, rg_up_n (by decide), if_pos h0]
          try simp only [Int.reduceToNat, rg_kIs, rg_kLs, rg_kRs, rg_kVs, rg_nns, rg_bs, cond_true, cond_false]
          rw [if_neg (by decide)]
          try simp only [rg_hp1, rg_o_77, Int.reduceToNat, rg_kIs, rg_kLs, rg_kRs, rg_kVs, rg_nns, rg_bs, cond_true, cond_false]
          rw [rg_M_can, rg_up_s, E1.can, if_neg c]
          try simp only [Int.reduceToNat, rg_kIs, rg_kLs, rg_kRs, rg_kVs, rg_nns, rg_bs, cond_true, cond_false]
          rw [if_pos (by decide)]
  · refine ⟨-1, D, D, ?_, ?_, hI⟩
    · rw [rf_e_W_go]
      by_cases b : t < 0
      · rw [if_pos b]
      · rw [if_neg b, if_neg (by omega)]
    · rw [rf_e_M_go, rg_M_in]
      try simp only [if_neg ht, Int.reduceToNat, rg_kIs, rg_kLs, rg_kRs, rg_kVs, rg_nns, rg_bs, cond_true, cond_false]
      rw [if_pos (by decide)]
end RGS6
