/-! shortest: the reference's loops -/
section RGS44
variable {X : rf_X} {A : Nat → Int} {m : Int}
theorem rg_M_sho_70 (d : Nat) {R N : Nat} (hR : R < 6) (hN : N ≤ 4) : ∀ (k i : Nat) (D : rf_D), i + k = N → rf_j_M_shortest_70 d 77 (R : Int) (N : Int) (i : Int) (hp X D) = some (some (.inl (N : Int)), hp X (rg_up D 79 (fun j => if 40 * R + i ≤ j ∧ j < 40 * R + N then D 90 (j - 40 * R) else D 79 j)))
  | 0, i, D, hk => by
    rw [rf_e_M_shortest_70, if_neg (by omega)]
    have e : (fun j => if 40 * R + i ≤ j ∧ j < 40 * R + N then D 90 (j - 40 * R) else D 79 j) = D 79 := by
      funext j
      rw [if_neg (by omega)]
    rw [e, rg_up_i]
  | k + 1, i, D, hk => by
    have yi : i ≤ 1000 := by omega
    have zi : i ≤ 40 := by omega
    rw [rf_e_M_shortest_70, if_pos (by omega), xs_40 hR zi, xs_1 yi]
    try simp only [rg_gR_77_1, rg_gR_77_19, Int.reduceToNat, rg_kIs, rg_kLs, rg_kRs, rg_kVs, rg_nns, rg_bs, cond_true, cond_false]
    rw [rg_aI_90 (by omega) (by omega)]
    try simp only [Int.reduceToNat, rg_kIs, rg_kLs, rg_kRs, rg_kVs, rg_nns, rg_bs, cond_true, cond_false]
    rw [rg_sI_79 (by omega) (by omega)]
    try simp only [Int.reduceToNat, rg_kIs, rg_kLs, rg_kRs, rg_kVs, rg_nns, rg_bs, cond_true, cond_false]
    rw [rg_M_sho_70 d hR hN k (i + 1) _ (by omega), rg_up_u, rg_up_s, rg_up_n (show (90 : Nat) ≠ 79 by decide), rg_tN, rg_tN]
    refine congrArg (fun f : Nat → Int => (some (some (.inl (N : Int)), hp X (rg_up D 79 f)) : Option rf_R)) (funext fun j => ?_)
    show (if 40 * R + (i + 1) ≤ j ∧ j < 40 * R + N then D 90 (j - 40 * R) else (if j = 40 * R + i then D 90 i else D 79 j)) = (if 40 * R + i ≤ j ∧ j < 40 * R + N then D 90 (j - 40 * R) else D 79 j)
    by_cases h1 : 40 * R + (i + 1) ≤ j ∧ j < 40 * R + N
    · rw [if_pos h1, if_pos (by omega)]
    · rw [if_neg h1]
      by_cases h2 : j = 40 * R + i
      · have h3 : j - 40 * R = i := by omega
        rw [if_pos h2, if_pos (by omega), h3]
      · rw [if_neg h2, if_neg (by omega)]
theorem rg_M_sho_33 {R n : Nat} (hR : R < 6) (hn : n ≤ 4) (hs : sp_st m A) (m0 : 0 ≤ m) (hm : m ≤ 900) (z2 : 1 ≤ A 2 ∧ A 2 ≤ 6) (d : Nat) : ∀ (c j : Nat) (D : rf_D), j + c = n + 1 → 1 ≤ j → D 82 = A → ∃ D', (∀ a, a ≠ 77 → a ≠ 78 → a ≠ 79 → a ≠ 88 → a ≠ 89 → a ≠ 90 → D' a = D a) ∧ (∀ q, q ≠ 20 → q ≠ 21 → D' 77 q = D 77 q) ∧ (sh_v A c j = none → rf_j_M_shortest_33 (d + 14) 77 (n : Int) (R : Int) (j : Int) (hp X D) = some (some (.inl (-9)), hp X D') ∧ D' 78 = D 78 ∧ D' 79 = D 79) ∧ ∀ J l, sh_v A c j = some (J, l) → rf_j_M_shortest_33 (d + 14) 77 (n : Int) (R : Int) (j : Int) (hp X D) = some (some (.inl (J : Int)), hp X D') ∧ D' 78 = rg_ui (D 78) R (J : Int) ∧ (∀ k, (k < 40 * R ∨ 40 * R + 40 ≤ k) → D' 79 k = D 79 k) ∧ ∀ (q : Nat) (v : Int), l[q]? = some v → D' 79 (40 * R + q) = v
  | 0, j, D, hj, j1, hA => by
    refine ⟨D, fun _ _ _ _ _ _ _ => rfl, fun _ _ _ => rfl, fun _ => ⟨?_, rfl, rfl⟩, fun J l h => ?_⟩
    · rw [rf_e_M_shortest_33, if_pos (by omega)]
    · cases h
  | c + 1, j, D, hj, j1, hA => by
    have yj : j ≤ 1000 := by omega
    obtain ⟨u, hu⟩ : ∃ u, u = sp_first (D 88) A 37 := ⟨_, rfl⟩
    have E1 : E37 u A := by
      rw [hu]
      exact sp_first_E _ _
    obtain ⟨D1, hD1⟩ : ∃ D1, D1 = rg_up D 88 u := ⟨_, rfl⟩
    obtain ⟨D2, hD2⟩ : ∃ D2, D2 = rg_up D1 89 (ly_r (D1 89) (D1 88) 0) := ⟨_, rfl⟩
    have D2n : ∀ a, a ≠ 88 → a ≠ 89 → D2 a = D a := fun a y1 y2 => by rw [hD2, rg_up_n y2, hD1, rg_up_n y1]
    have H : ∀ q, q < 37 → D2 89 q = A q := fun q hq => by
      rw [hD2, rg_up_s]
      show (if 37 * 0 ≤ q ∧ q < 37 * 0 + 37 then D1 88 (q - 37 * 0) else D1 89 q) = A q
      rw [if_pos (by omega), show q - 37 * 0 = q by omega, hD1, rg_up_s]
      exact E1 q hq
    obtain ⟨D3, p1, p2, p3, p4, p5⟩ := rg_M_plans_f (X := X) (D := D2) (g := A 35) (n := j) j1 (by omega) hs m0 (by omega) z2 H rfl (d + 8)
    have D3n : ∀ a, a ≠ 77 → a ≠ 88 → a ≠ 89 → a ≠ 90 → D3 a = D a := fun a y1 y2 y3 y4 => by rw [p4 a y1 y2 y3 y4, D2n a y2 y3]
    have D37 : ∀ q, q ≠ 20 → q ≠ 21 → D3 77 q = D 77 q := fun q y1 y2 => by rw [p5 q y1 y2, D2n 77 (by decide) (by decide)]
    obtain ⟨D4, hD4⟩ : ∃ D4, D4 = rg_up D3 78 (rg_ui (D3 78) R (j : Int)) := ⟨_, rfl⟩
    have go : rf_j_M_shortest_33 (d + 14) 77 (n : Int) (R : Int) (j : Int) (hp X D) = (if 0 < D3 77 20 then rf_j_M_shortest_70 (d + 14) 77 (R : Int) (j : Int) 0 (hp X D4) else rf_j_M_shortest_33 (d + 14) 77 (n : Int) (R : Int) ((j + 1 : Nat) : Int) (hp X D3)) := by
      rw [rf_e_M_shortest_33, if_neg (by omega), xs_1 yj]
      try simp only [rg_hp1, rg_o_77, Int.reduceToNat, rg_kIs, rg_kLs, rg_kRs, rg_kVs, rg_nns, rg_bs, cond_true, cond_false]
      rw [rg_M_take, hA, ← hu, ← hD1]
      try simp only [rg_hp1, rg_o_77, Int.reduceToNat, rg_kIs, rg_kLs, rg_kRs, rg_kVs, rg_nns, rg_bs, cond_true, cond_false]
      have ly := rg_M_lies (X := X) (D := D1) (d + 13) (a := 0) (by decide)
      rw [show ((0 : Nat) : Int) = 0 from rfl] at ly
      rw [ly, ← hD2]
      try simp only [rg_hp1, rg_o_77, Int.reduceToNat, rg_kIs, rg_kLs, rg_kRs, rg_kVs, rg_nns, rg_bs, cond_true, cond_false]
      rw [p1]
      try simp only [rg_gI_77, rg_gR_77_0, Int.reduceToNat, rg_kIs, rg_kLs, rg_kRs, rg_kVs, rg_nns, rg_bs, cond_true, cond_false]
      rw [rg_sI_78 (by omega) (by omega)]
      try simp only [Int.reduceToNat, rg_kIs, rg_kLs, rg_kRs, rg_kVs, rg_nns, rg_bs, cond_true, cond_false]
      rw [rg_tN, ← hD4]
    have D4n : ∀ a, a ≠ 77 → a ≠ 78 → a ≠ 88 → a ≠ 89 → a ≠ 90 → D4 a = D a := fun a y1 y2 y3 y4 y5 => by rw [hD4, rg_up_n y2, D3n a y1 y3 y4 y5]
    cases hw : pn_fx (A 35) j A with
    | some l =>
      obtain ⟨q1, q2⟩ := p2 l hw
      have ll := pn_fx_len j A l hw
      rw [q1, if_pos (by decide)] at go
      have cp := rg_M_sho_70 (X := X) (d + 14) hR (show j ≤ 4 by omega) j 0 D4 (by omega)
      rw [show ((0 : Nat) : Int) = 0 from rfl] at cp
      obtain ⟨D5, hD5⟩ : ∃ D5, D5 = rg_up D4 79 (fun k => if 40 * R + 0 ≤ k ∧ k < 40 * R + j then D4 90 (k - 40 * R) else D4 79 k) := ⟨_, rfl⟩
      rw [← hD5] at cp
      have f90 : ∀ k, D4 90 k = D3 90 k := fun k => by rw [hD4, rg_up_n (by decide)]
      have f79 : ∀ k, D5 79 k = (if 40 * R + 0 ≤ k ∧ k < 40 * R + j then D3 90 (k - 40 * R) else D 79 k) := fun k => by
        rw [hD5, rg_up_s]
        show (if 40 * R + 0 ≤ k ∧ k < 40 * R + j then D4 90 (k - 40 * R) else D4 79 k) = _
        rw [f90, D4n 79 (by decide) (by decide) (by decide) (by decide) (by decide)]
      refine ⟨D5, fun a y1 y2 y3 y4 y5 y6 => by rw [hD5, rg_up_n y3, D4n a y1 y2 y4 y5 y6], fun q y1 y2 => by rw [hD5, rg_up_n (by decide), hD4, rg_up_n (by decide), D37 q y1 y2], fun h => ?_, fun J l' h => ?_⟩
      · rw [sh_y hw] at h
        cases h
      · rw [sh_y hw] at h
        injection h with h
        injection h with h1 h2
        rw [← h1, ← h2]
        refine ⟨go.trans cp, by rw [hD5, rg_up_n (by decide), hD4, rg_up_s, D3n 78 (by decide) (by decide) (by decide) (by decide)], fun k hk => ?_, fun q v hv => ?_⟩
        · rw [f79, if_neg (by omega)]
        · have ql : q < j := by
            rw [← ll]
            exact (List.getElem?_eq_some_iff.1 hv).1
          rw [f79, if_pos (by omega), show 40 * R + q - 40 * R = q by omega]
          exact q2 q v hv
    | none =>
      rw [p3 hw, if_neg (by decide)] at go
      obtain ⟨D', r1, r2, r3, r4⟩ := rg_M_sho_33 hR hn hs m0 hm z2 d c (j + 1) D3 (by omega) (by omega) (by rw [D3n 82 (by decide) (by decide) (by decide) (by decide)]; exact hA)
      refine ⟨D', fun a y1 y2 y3 y4 y5 y6 => by rw [r1 a y1 y2 y3 y4 y5 y6, D3n a y1 y4 y5 y6], fun q y1 y2 => by rw [r2 q y1 y2, D37 q y1 y2], fun h => ?_, fun J l h => ?_⟩
      · rw [sh_n hw] at h
        obtain ⟨s1, s2, s3⟩ := r3 h
        exact ⟨go.trans s1, by rw [s2, D3n 78 (by decide) (by decide) (by decide) (by decide)], by rw [s3, D3n 79 (by decide) (by decide) (by decide) (by decide)]⟩
      · rw [sh_n hw] at h
        obtain ⟨s1, s2, s3, s4⟩ := r4 J l h
        exact ⟨go.trans s1, by rw [s2, D3n 78 (by decide) (by decide) (by decide) (by decide)], fun k hk => by rw [s3 k hk, D3n 79 (by decide) (by decide) (by decide) (by decide)], s4⟩
end RGS44
