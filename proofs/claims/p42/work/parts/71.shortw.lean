/-! shortest -/
def sh_v (A : Nat → Int) : Nat → Nat → Option (Nat × List Int)
  | 0, _ => none
  | c + 1, j => match pn_fx (A 35) j A with | some l => some (j, l) | none => sh_v A c (j + 1)
theorem sh_y {A : Nat → Int} {c j : Nat} {l : List Int} (h : pn_fx (A 35) j A = some l) : sh_v A (c + 1) j = some (j, l) := by
  have e : sh_v A (c + 1) j = (match pn_fx (A 35) j A with | some l => some (j, l) | none => sh_v A c (j + 1)) := rfl
  rw [e, h]
theorem sh_n {A : Nat → Int} {c j : Nat} (h : pn_fx (A 35) j A = none) : sh_v A (c + 1) j = sh_v A c (j + 1) := by
  have e : sh_v A (c + 1) j = (match pn_fx (A 35) j A with | some l => some (j, l) | none => sh_v A c (j + 1)) := rfl
  rw [e, h]
theorem sh_len {A : Nat → Int} : ∀ (c j J : Nat) (l : List Int), sh_v A c j = some (J, l) → l.length = J ∧ j ≤ J ∧ J < j + c
  | 0, j, J, l, h => by cases h
  | c + 1, j, J, l, h => by
    cases hw : pn_fx (A 35) j A with
    | some l' =>
      rw [sh_y hw] at h
      injection h with h
      injection h with h1 h2
      rw [← h1, ← h2]
      exact ⟨pn_fx_len j A l' hw, by omega, by omega⟩
    | none =>
      rw [sh_n hw] at h
      have r := sh_len c (j + 1) J l h
      exact ⟨r.1, by omega, by omega⟩
section RGS43
variable {X : rf_X} {A : Nat → Int} {m W : Int}
theorem rg_W_sho_42 {n o : Nat} (hr : rg_row o 40) (ho : 42 < o ∧ o + 1 < 70) (hn : n ≤ 4) (hd : sp_hd A) (hs : sp_st m A) (m0 : 0 ≤ m) (hm : m ≤ 900) (hW : A 36 ≤ W) (hg : 0 ≤ A 35 ∧ A 35 ≤ 1000) (d : Nat) : ∀ (c j : Nat) (D : rf_D), j + c = n + 1 → 1 ≤ j → CR D 28 A W → TR (D 76) A (A 35) → D 8 1 = 4 → (∀ i, 1 ≤ i → i < j → pn_fx (A 35) i A = none) → ∃ D', (∀ a, a ≠ 9 → a ≠ o → a ≠ o + 1 → (a < 70 ∨ 76 ≤ a) → D' a = D a) ∧ (sh_v A c j = none → rf_j_W_shortest_42 (d + 14) 0 (n : Int) (some o) (j : Int) (hp X D) = some (some (.inl (-9)), hp X D') ∧ D' o = D o ∧ D' (o + 1) = D (o + 1)) ∧ ∀ J l, sh_v A c j = some (J, l) → rf_j_W_shortest_42 (d + 14) 0 (n : Int) (some o) (j : Int) (hp X D) = some (some (.inl (J : Int)), hp X D') ∧ D' o 1 = (J : Int) ∧ ∀ (q : Nat) (v : Int), l[q]? = some v → D' (o + 1) q = v
  | 0, j, D, hj, j1, hC, hT, h8, hno => by
    refine ⟨D, fun _ _ _ _ _ => rfl, fun _ => ⟨?_, rfl, rfl⟩, fun J l h => ?_⟩
    · rw [rf_e_W_shortest_42, if_pos (by omega)]
    · cases h
  | c + 1, j, D, hj, j1, hC, hT, h8, hno => by
    have yj : j ≤ 1000 := by omega
    obtain ⟨G, g1, g2, -, g4⟩ := rg_P_sw (X := X) (W := W) (g := A 35) (n := j) (by omega) hg (d + 7 - j) j 0 6 D A m (by omega) (by omega) (by decide) rfl hC hd hT hs m0 (by omega) hW h8
    have ew : pn_wi (A 35) j A = pn_fx (A 35) j A := by
      rw [pn_wi_wu j A m hs m0 (by omega) rfl]
      obtain ⟨k, rfl⟩ : ∃ k, j = k + 1 := ⟨j - 1, by omega⟩
      exact pn_wu_fx k A fun i h1 h2 => hno i h1 (by omega)
    rw [show d + 7 - j + 7 + j = d + 14 by omega, show (70 + 6 : Nat) = 76 from rfl, show ((0 : Nat) : Int) = 0 from rfl, ew] at g1
    have Gn : ∀ a, a ≠ 9 → (a < 70 ∨ 76 ≤ a) → G a = D a := fun a y1 y2 => g2 a y1 (by omega)
    have go : rf_j_W_shortest_42 (d + 14) 0 (n : Int) (some o) (j : Int) (hp X D) = (if (if (pn_fx (A 35) j A).isSome = true then (1 : Int) else 0) = 0 then rf_j_W_shortest_42 (d + 14) 0 (n : Int) (some o) ((j + 1 : Nat) : Int) (hp X G) else (rf_call (d + 14) 1 [.inr (.inr (some o)), .inl (j : Int), .inl 0] (hp X G)).bind fun q8 => rf_kV q8 fun h7 => ((rf_gR h7 4 0 5).bind fun x9 => (bif rf_isO h7.1 o 2 then ((rf_call (d + 14) 7 [.inr (.inr (some o)), .inr (.inr x9), .inl 0, .inl 0, .inl (j : Int)] h7).bind fun q12 => rf_kI q12 fun x13 h11 => some (some (.inl (j : Int)), h11)) else none))) := by
      rw [rf_e_W_shortest_42, if_neg (by omega), xs_1 yj]
      try simp only [rg_gR_0_11, rg_gR_0_5, Int.reduceToNat, rg_kIs, rg_kLs, rg_kRs, rg_kVs, rg_nns, rg_bs, cond_true, cond_false]
      rw [g1]
      try simp only [rg_hp1, rg_row_o hr, Int.reduceToNat, rg_kIs, rg_kLs, rg_kRs, rg_kVs, rg_nns, rg_bs, cond_true, cond_false]
    cases hw : pn_fx (A 35) j A with
    | some l =>
      rw [hw, if_neg (show ¬ (if (some l).isSome = true then (1 : Int) else 0) = 0 from by rw [if_pos (show (some l).isSome = true from rfl)]; decide)] at go
      have ll := pn_fx_len j A l hw
      have e9 := g4 l (by rw [ew]; exact hw)
      rw [rg_R_renew hr (d + 11) (z := (j : Int)) (f := 0) (by omega) (by omega) (by decide)] at go
      obtain ⟨G1, hG1⟩ : ∃ G1, G1 = rg_up (rg_up G o (rg_ui (G o) 1 (j : Int))) (o + 1) (fun i => if (i : Int) < (j : Int) then 0 else G (o + 1) i) := ⟨_, rfl⟩
      rw [← hG1] at go
      have G1n : ∀ a, a ≠ o → a ≠ o + 1 → G1 a = G a := fun a y1 y2 => by rw [hG1, rg_up_n y2, rg_up_n y1]
      have G1o : G1 o 1 = (j : Int) := by rw [hG1, rg_up_n (by omega), rg_up_s, rg_ui_s]
      have G18 : G1 8 1 = 4 := by rw [G1n 8 (by omega) (by omega), Gn 8 (by decide) (by decide)]; exact h8
      have tk := rg_R_takes (X := X) (D := G1) hr rg_row_8 (d + 12) (i := 0) (j := 0) (k := (j : Int)) (by omega) (by omega) (by omega) (by omega) (by decide) (by decide) (by decide) (by decide)
      rw [if_pos (by omega), show (0 : Int).toNat = 0 from rfl, rg_tN, show (8 + 1 : Nat) = 9 from rfl] at tk
      obtain ⟨G2, hG2⟩ : ∃ G2, G2 = rf_cpD G1 9 0 (o + 1) 0 j := ⟨_, rfl⟩
      rw [← hG2] at tk
      try simp only [rg_gR_0_5, rg_hp1, rg_row_o hr, Int.reduceToNat, rg_kIs, rg_kLs, rg_kRs, rg_kVs, rg_nns, rg_bs, cond_true, cond_false] at go
      rw [tk] at go
      try simp only [Int.reduceToNat, rg_kIs, rg_kLs, rg_kRs, rg_kVs, rg_nns, rg_bs, cond_true, cond_false] at go
      have G2n : ∀ a, a ≠ o + 1 → G2 a = G1 a := fun a y => by
        rw [hG2]
        funext i
        show (if a = o + 1 ∧ 0 ≤ i ∧ i < 0 + j then G1 9 (0 + (i - 0)) else G1 a i) = G1 a i
        rw [if_neg (fun q => y q.1)]
      refine ⟨G2, fun a y1 y2 y3 y4 => by rw [G2n a y3, G1n a y2 y3, Gn a y1 y4], fun h => ?_, fun J l' h => ?_⟩
      · rw [sh_y hw] at h
        cases h
      · rw [sh_y hw] at h
        injection h with h
        injection h with h1 h2
        rw [← h1, ← h2]
        refine ⟨go, by rw [G2n o (by omega)]; exact G1o, fun q v hv => ?_⟩
        have ql : q < j := by
          rw [← ll]
          exact (List.getElem?_eq_some_iff.1 hv).1
        have r := e9 q v hv
        rw [hG2]
        show (if o + 1 = o + 1 ∧ 0 ≤ q ∧ q < 0 + j then G1 9 (0 + (q - 0)) else G1 (o + 1) q) = v
        rw [if_pos ⟨rfl, Nat.zero_le _, by omega⟩, show 0 + (q - 0) = 0 + q by omega, G1n 9 (by omega) (by omega)]
        exact r
    | none =>
      rw [hw, if_pos (show (if (none : Option (List Int)).isSome = true then (1 : Int) else 0) = 0 from if_neg (by decide))] at go
      obtain ⟨D', r1, r2, r3⟩ := rg_W_sho_42 hr ho hn hd hs m0 hm hW hg d c (j + 1) G (by omega) (by omega) (hC.of fun a _ _ => Gn a (by omega) (by omega)) (by rw [Gn 76 (by decide) (by decide)]; exact hT) (by rw [Gn 8 (by decide) (by decide)]; exact h8) (fun i h1 h2 => by
        by_cases z : i = j
        · rw [z]
          exact hw
        · exact hno i h1 (by omega))
      refine ⟨D', fun a y1 y2 y3 y4 => by rw [r1 a y1 y2 y3 y4, Gn a y1 y4], fun h => ?_, fun J l h => ?_⟩
      · rw [sh_n hw] at h
        obtain ⟨s1, s2, s3⟩ := r2 h
        exact ⟨go.trans s1, by rw [s2, Gn o (by omega) (by omega)], by rw [s3, Gn (o + 1) (by omega) (by omega)]⟩
      · rw [sh_n hw] at h
        obtain ⟨s1, s2, s3⟩ := r3 J l h
        exact ⟨go.trans s1, s2, s3⟩
end RGS43
