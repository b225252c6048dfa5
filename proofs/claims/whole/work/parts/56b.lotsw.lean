/-! lots: the class -/
section RGS22b
variable {X : rf_X} {D : rf_D} {A : Nat → Int} {W : Int}
theorem rg_W_lots_67 (hd : sp_hd A) {a b : Int} (ha : 0 ≤ a ∧ a ≤ 9) (hb : 0 ≤ b ∧ b ≤ 9) (hW : 0 ≤ W ∧ W ≤ 6) {e : Nat → Int} {seed : Int} (h1 : 1 ≤ seed) (h2 : seed < 2147483647) {n N : Nat} {s : Nat → Int} (hN : n + N ≤ 60) (hs : ∀ i, i ≤ N → sp_ch A e a b W (n + i) = lo_s s seed i) (he : ∀ i, i < N → e (n + i) = lt_t (lt_x seed (i + 1)) (lo_s s seed i)) (g : Int) (d : Nat) : ∀ (k i : Nat) (D : rf_D), i + k = N → CR D 28 A W → TR (D 43) (lo_s s seed i) 0 → D 4 1 = ((n + i : Nat) : Int) → (∀ j, j < n + i → D 5 j = e j) → ∃ D', rf_j_W_lots_67 (d + 9) 0 (N : Int) g (lt_x seed i) (i : Int) (hp X D) = some (some (.inl (rf_w (lo_s s seed N 35 - g))), hp X D') ∧ (∀ a, a ≠ 4 → a ≠ 5 → a ≠ 43 → D' a = D a) ∧ TR (D' 43) (lo_s s seed N) 0 ∧ D' 4 1 = ((n + N : Nat) : Int) ∧ ∀ j, j < n + N → D' 5 j = e j
  | 0, i, D, hk, hC, hT, h4, h5 => by
    have iN : i = N := by omega
    subst iN
    refine ⟨D, ?_, fun _ _ _ _ => rfl, hT, h4, h5⟩
    rw [rf_e_W_lots_67, if_neg (by omega)]
    try simp only [rg_gR_0_10, rg_T_gI rg_tr_43, Int.reduceToNat, rg_kIs, rg_kLs, rg_kRs, rg_kVs, rg_nns, rg_bs, cond_true, cond_false]
    rw [hT.2.2.2.2.1, Int.sub_zero]
  | k + 1, i, D, hk, hC, hT, h4, h5 => by
    have c := sp_ch_st (A := A) (e := e) ha hb hW (n + i) (by omega)
    rw [hs i (by omega)] at c
    have hd1 : ∀ j, j < 27 → lo_s s seed i j = A j := fun j hj => by rw [← hs i (by omega)]; exact sp_ch_hd _ _ hj
    have z1 : 1 ≤ A 2 ∧ A 2 ≤ 6 := hd.2.2.1
    have hdS := sp_hd_of hd hd1
    have xb := lt_xb h1 h2 (i + 1)
    have hb' := lt_hb xb.1 xb.2
    have tb := lt_tb xb.1 xb.2 (lo_s s seed i)
    obtain ⟨D1, r1, r2, r3, r4, r5⟩ := rg_W_deed (X := X) (hC.ofs z1.2 hd1) hdS hT c.1 (by omega) c.2.1 h4 (by omega) tb.1 tb.2 d
    have cb := rg_T_canBe (X := X) (D := D) rg_tr_43 hT c.1 (d + 8) hb'.1 hb'.2
    obtain ⟨D', q1, q2, q3, q4, q5⟩ := rg_W_lots_67 hd ha hb hW h1 h2 hN hs he g d k (i + 1) D1 (by omega) (hC.of fun a y1 y2 => r2 a (by omega) (by omega) (by omega)) r5 (by rw [r3]; omega) (fun j hj => by
      rw [r4]
      by_cases jn : j = n + i
      · rw [jn, rg_ui_s, he i (by omega)]
      · rw [rg_ui_n jn]
        exact h5 j (by omega))
    have x2 : rf_w ((i : Int) + 1) = ((i + 1 : Nat) : Int) := by
      rw [rg_w (by omega) (by omega)]
      omega
    have ex : Int.tmod (rf_wl (lt_x seed i * 48271)) 2147483647 = lt_x seed (i + 1) := (lt_xs seed i).symm
    have eh : rf_w (Int.tmod (rf_wl (Int.tdiv (lt_x seed (i + 1)) 16)) 15) = lt_h (lt_x seed (i + 1)) := lt_hs _
    refine ⟨D', ?_, fun a y1 y2 y3 => by rw [q2 a y1 y2 y3, r2 a y1 y2 y3], q3, q4, q5⟩
    rw [← q1, rf_e_W_lots_67, if_pos (by omega), ex, eh, x2]
    try simp only [rg_gR_0_10, rg_hp1, rg_tr_43.1, Int.reduceToNat, rg_kIs, rg_kLs, rg_kRs, rg_kVs, rg_nns, rg_bs, cond_true, cond_false]
    rw [cb]
    try simp only [rg_hp1, rg_o_0, Int.reduceToNat, rg_kIs, rg_kLs, rg_kRs, rg_kVs, rg_nns, rg_bs, cond_true, cond_false]
    by_cases y : sp_can (lo_s s seed i) (lt_h (lt_x seed (i + 1))) = true
    · have et : lt_t (lt_x seed (i + 1)) (lo_s s seed i) = lt_h (lt_x seed (i + 1)) := if_pos y
      rw [et] at r1
      rw [if_pos y, if_neg (by decide), r1]
      try simp only [Int.reduceToNat, rg_kIs, rg_kLs, rg_kRs, rg_kVs, rg_nns, rg_bs, cond_true, cond_false]
    · have et : lt_t (lt_x seed (i + 1)) (lo_s s seed i) = 11 := if_neg y
      rw [et] at r1
      rw [if_neg y, if_pos (by decide), r1]
      try simp only [Int.reduceToNat, rg_kIs, rg_kLs, rg_kRs, rg_kVs, rg_nns, rg_bs, cond_true, cond_false]
end RGS22b
