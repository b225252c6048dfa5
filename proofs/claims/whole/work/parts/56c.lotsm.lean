/-! lots: the reference -/
section RGS22c
variable {X : rf_X} {D : rf_D} {A : Nat → Int} {W : Int}
theorem rg_M_lots_68 (hd : sp_hd A) {a b : Int} (ha : 0 ≤ a ∧ a ≤ 9) (hb : 0 ≤ b ∧ b ≤ 9) (hW : 0 ≤ W ∧ W ≤ 6) {e : Nat → Int} {seed : Int} (h1 : 1 ≤ seed) (h2 : seed < 2147483647) {n N : Nat} {s : Nat → Int} (hN : n + N ≤ 60) (hs : ∀ i, i ≤ N → sp_ch A e a b W (n + i) = lo_s s seed i) (he : ∀ i, i < N → e (n + i) = lt_t (lt_x seed (i + 1)) (lo_s s seed i)) (g : Int) (d : Nat) : ∀ (k i : Nat) (D : rf_D), i + k = N → (∀ j, j < 27 → D 82 j = A j) → LG (D 82) e a b W (n + i) → ∃ D', rf_j_M_lots_68 (d + 6) 77 (N : Int) g (lt_x seed i) (i : Int) (hp X D) = some (some (.inl (rf_w (lo_s s seed N 35 - g))), hp X D') ∧ (∀ a, a ≠ 82 → a ≠ 88 → D' a = D a) ∧ (∀ j, j < 27 → D' 82 j = A j) ∧ LG (D' 82) e a b W (n + N)
  | 0, i, D, hk, hA, hL => by
    have iN : i = N := by omega
    subst iN
    refine ⟨D, ?_, fun _ _ _ => rfl, hA, hL⟩
    rw [rf_e_M_lots_68, if_neg (by omega)]
    try simp only [rg_gR_77_4, Int.reduceToNat, rg_kIs, rg_kLs, rg_kRs, rg_kVs, rg_nns, rg_bs, cond_true, cond_false]
    rw [rg_aI_82 (by decide) (by decide)]
    try simp only [Int.reduceToNat, rg_kIs, rg_kLs, rg_kRs, rg_kVs, rg_nns, rg_bs, cond_true, cond_false]
    have e35 : D 82 35 = lo_s s seed i 35 := by
      rw [hL.2.1 35 (by decide), ← hs i (by omega)]
      exact congrFun (sp_ch_of hA a b W (k := n + i) (fun _ _ => rfl)) 35
    rw [e35]
  | k + 1, i, D, hk, hA, hL => by
    have z1 : 1 ≤ A 2 ∧ A 2 ≤ 6 := hd.2.2.1
    have hdD := sp_hd_of hd hA
    have st := hL.st (by omega) ha hb hW
    have b33 := st.1.2.2.2.2.2.2.1
    have xb := lt_xb h1 h2 (i + 1)
    have tb := lt_tb xb.1 xb.2 (lo_s s seed i)
    have eS : E37 (D 82) (lo_s s seed i) := fun j hj => by
      rw [hL.2.1 j hj, ← hs i (by omega)]
      exact congrFun (sp_ch_of hA a b W (k := n + i) (fun _ _ => rfl)) j
    obtain ⟨D1, hD1⟩ : ∃ D1, D1 = rg_up D 88 (sp_first (D 88) (D 82) 37) := ⟨_, rfl⟩
    have D1n : ∀ a, a ≠ 88 → D1 a = D a := fun a y => by rw [hD1, rg_up_n y]
    have e82 : D1 82 = D 82 := D1n 82 (by decide)
    have E1 : E37 (D1 88) (D 82) := by
      rw [hD1, rg_up_s]
      exact sp_first_E _ _
    obtain ⟨u, hu⟩ : ∃ u, u = sp_first (D1 88) (D1 82) 37 := ⟨_, rfl⟩
    have Eu : E37 u (D 82) := by
      rw [hu, e82]
      exact sp_first_E _ _
    have EuS : E37 u (lo_s s seed i) := fun j hj => (Eu j hj).trans (eS j hj)
    have cn : sp_can (D1 88) (lt_h (lt_x seed (i + 1))) = sp_can (lo_s s seed i) (lt_h (lt_x seed (i + 1))) := by
      rw [E1.can, eS.can]
    have ac := fun t => rg_M_acts (X := X) (D := D1) d t (n + i) (by omega) (by rw [e82]; exact hL.1) (by rw [e82]; exact b33.1) (by rw [e82]; exact b33.2.1) (by rw [e82]; exact b33.2.2) (by rw [e82, st.2.2]; omega) (by rw [e82, hA 2 (by decide)]; exact z1.1) (by rw [e82, hA 2 (by decide)]; exact z1.2) hu
    rw [e82] at ac
    have het : e (n + i) = lt_t (lt_x seed (i + 1)) (lo_s s seed i) := he i (by omega)
    have LN := hL.next (by omega) ha hb hW hdD Eu rfl (e' := e) (t := lt_t (lt_x seed (i + 1)) (lo_s s seed i)) (fun _ _ => rfl) het
    obtain ⟨D2, hD2⟩ : ∃ D2, D2 = rg_up (rg_up D1 82 (sp_log (D 82) (sp_does u (lt_t (lt_x seed (i + 1)) (lo_s s seed i)) (sp_rail u)).2 (n + i))) 88 (sp_does u (lt_t (lt_x seed (i + 1)) (lo_s s seed i)) (sp_rail u)).2 := ⟨_, rfl⟩
    have D2n : ∀ a, a ≠ 82 → a ≠ 88 → D2 a = D a := fun a y1 y2 => by rw [hD2, rg_up_n y2, rg_up_n y1, D1n a y2]
    have D282 : D2 82 = sp_log (D 82) (sp_does u (lt_t (lt_x seed (i + 1)) (lo_s s seed i)) (sp_rail u)).2 (n + i) := by rw [hD2, rg_up_n (by decide), rg_up_s]
    obtain ⟨D', q1, q2, q3, q4⟩ := rg_M_lots_68 hd ha hb hW h1 h2 hN hs he g d k (i + 1) D2 (by omega) (fun j hj => by rw [D282, sp_log_hd hj, hA j hj]) (by rw [D282]; exact LN)
    have x2 : rf_w ((i : Int) + 1) = ((i + 1 : Nat) : Int) := by
      rw [rg_w (by omega) (by omega)]
      omega
    have ex : Int.tmod (rf_wl (lt_x seed i * 48271)) 2147483647 = lt_x seed (i + 1) := (lt_xs seed i).symm
    have eh : rf_w (Int.tmod (rf_wl (Int.tdiv (lt_x seed (i + 1)) 16)) 15) = lt_h (lt_x seed (i + 1)) := lt_hs _
    refine ⟨D', ?_, fun a y1 y2 => by rw [q2 a y1 y2, D2n a y1 y2], q3, q4⟩
    rw [← q1, rf_e_M_lots_68, if_pos (by omega), ex, eh, x2]
    try simp only [rg_hp1, rg_o_77, Int.reduceToNat, rg_kIs, rg_kLs, rg_kRs, rg_kVs, rg_nns, rg_bs, cond_true, cond_false]
    rw [rg_M_take, ← hD1]
    try simp only [rg_hp1, rg_o_77, Int.reduceToNat, rg_kIs, rg_kLs, rg_kRs, rg_kVs, rg_nns, rg_bs, cond_true, cond_false]
    rw [rg_M_can, cn]
    try simp only [rg_hp1, rg_o_77, Int.reduceToNat, rg_kIs, rg_kLs, rg_kRs, rg_kVs, rg_nns, rg_bs, cond_true, cond_false]
    by_cases y : sp_can (lo_s s seed i) (lt_h (lt_x seed (i + 1))) = true
    · have et : lt_t (lt_x seed (i + 1)) (lo_s s seed i) = lt_h (lt_x seed (i + 1)) := if_pos y
      rw [et] at hD2
      rw [if_pos y, if_neg (by decide), ac, ← hD2]
      try simp only [Int.reduceToNat, rg_kIs, rg_kLs, rg_kRs, rg_kVs, rg_nns, rg_bs, cond_true, cond_false]
    · have et : lt_t (lt_x seed (i + 1)) (lo_s s seed i) = 11 := if_neg y
      rw [et] at hD2
      rw [if_neg y, if_pos (by decide), ac, ← hD2]
      try simp only [Int.reduceToNat, rg_kIs, rg_kLs, rg_kRs, rg_kVs, rg_nns, rg_bs, cond_true, cond_false]
end RGS22c
