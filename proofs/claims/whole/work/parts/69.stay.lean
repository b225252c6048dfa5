/-! stay -/
section RGS41
variable {X : rf_X} {A : Nat → Int} {m : Int}
/-- with k wagons left behind, some plan of n things at most starts -/
def sf_v (A : Nat → Int) (n k : Nat) : Bool := (pn_wu (A 35) n (sy_r A (k : Int))).isSome
theorem sy_35 (k : Int) : sy_r A k 35 = A 35 := by
  unfold sy_r
  rw [rg_ui_n (by decide), rg_ui_n (by decide)]
theorem sy_36 (k : Int) : sy_r A k 36 = A 36 - k := by
  unfold sy_r
  rw [rg_ui_n (by decide), rg_ui_s]
/-- the class, from k wagons left behind on: the answer -/
def sa_v (A : Nat → Int) (n : Nat) : Nat → Nat → Int
  | 0, _ => -9
  | c + 1, k => if sf_v A n k = true then (k : Int) else sa_v A n c (k + 1)
theorem rg_W_stay_23 {n N : Nat} (hn : n ≤ 4) {W : Int} (hd : sp_hd A) (hs : sp_st m A) (m0 : 0 ≤ m) (hm : m ≤ 900) (hW : A 36 ≤ W) (hg : 0 ≤ A 35 ∧ A 35 ≤ 1000) (hN : A 36 = (N : Int)) (d : Nat) : ∀ (c k : Nat) (D : rf_D), k + c = N + 1 → CR D 28 A W → TR (D 43) A 0 → D 8 1 = 4 → ∃ D', rf_j_W_stay_23 (d + 14) 0 (n : Int) (k : Int) (hp X D) = some (some (.inl (sa_v A n c k)), hp X D') ∧ ∀ a, a ≠ 9 → (a < 70 ∨ 77 ≤ a) → D' a = D a
  | 0, k, D, hk, hC, hT, h8 => by
    refine ⟨D, ?_, fun _ _ _ => rfl⟩
    rw [rf_e_W_stay_23]
    try simp only [rg_gR_0_10, rg_T_gI rg_tr_43, Int.reduceToNat, rg_kIs, rg_kLs, rg_kRs, rg_kVs, rg_nns, rg_bs, cond_true, cond_false]
    rw [hT.2.2.2.2.2, if_pos (by omega)]
    try rfl
  | c + 1, k, D, hk, hC, hT, h8 => by
    have b33 := hs.2.2.2.2.2.2.1
    have yk : k ≤ 1000 := by omega
    have e : sa_v A n (c + 1) k = (if sf_v A n k = true then (k : Int) else sa_v A n c (k + 1)) := rfl
    obtain ⟨f1, a1, a2⟩ := rg_W_aside (X := X) (D := D) hT hs (d + 12) (k := (k : Int)) (by omega) (by omega)
    obtain ⟨F, hF⟩ : ∃ F, F = rg_up D 76 f1 := ⟨_, rfl⟩
    have Fn : ∀ a, a ≠ 76 → F a = D a := fun a y => by rw [hF, rg_up_n y]
    have F76 : TR (F (70 + 6)) (sy_r A (k : Int)) (A 35) := by
      rw [hF]
      show TR (rg_up D 76 f1 76) (sy_r A (k : Int)) (A 35)
      rw [rg_up_s]
      exact a2
    have hh := fun j hj => sy_hd (A := A) (k : Int) j hj
    have stS := sy_st hs (show 0 ≤ (k : Int) by omega) (show (k : Int) ≤ A 36 by omega)
    have z2 : A 2 ≤ 6 := hd.2.2.1.2
    obtain ⟨G, g1, g2, -, -⟩ := rg_P_sw (X := X) (W := W) (g := A 35) (n := n) hn hg (d + 7 - n) n 0 6 F (sy_r A (k : Int)) m (by omega) (by omega) (by decide) (sy_35 (k : Int)) ((hC.ofs z2 hh).of fun a _ _ => Fn a (by omega)) (sp_hd_of hd hh) F76 stS m0 (by omega) (by rw [sy_36]; omega) (by rw [Fn 8 (by decide)]; exact h8)
    rw [show d + 7 - n + 7 + n = d + 14 by omega, show (70 + 6 : Nat) = 76 from rfl, show ((0 : Nat) : Int) = 0 from rfl] at g1
    rw [pn_wi_wu n (sy_r A (k : Int)) m stS m0 (by omega) (sy_35 (k : Int))] at g1
    have Gn : ∀ a, a ≠ 9 → (a < 70 ∨ 77 ≤ a) → G a = D a := fun a y1 y2 => by rw [g2 a y1 (by omega), Fn a (by omega)]
    rw [rf_e_W_stay_23, e]
    try simp only [rg_gR_0_10, rg_T_gI rg_tr_43, Int.reduceToNat, rg_kIs, rg_kLs, rg_kRs, rg_kVs, rg_nns, rg_bs, cond_true, cond_false]
    rw [hT.2.2.2.2.2, if_neg (by omega)]
    try simp only [rg_hp1, rg_o_0, Int.reduceToNat, rg_kIs, rg_kLs, rg_kRs, rg_kVs, rg_nns, rg_bs, cond_true, cond_false]
    rw [a1, ← hF]
    try simp only [rg_gR_0_11, rg_gR_0_5, Int.reduceToNat, rg_kIs, rg_kLs, rg_kRs, rg_kVs, rg_nns, rg_bs, cond_true, cond_false]
    rw [g1]
    try simp only [Int.reduceToNat, rg_kIs, rg_kLs, rg_kRs, rg_kVs, rg_nns, rg_bs, cond_true, cond_false]
    by_cases y : (pn_wu (A 35) n (sy_r A (k : Int))).isSome = true
    · rw [if_pos y, if_neg (by decide), if_pos (show sf_v A n k = true from y)]
      exact ⟨G, rfl, Gn⟩
    · rw [if_neg y, if_pos (by decide), if_neg (show ¬ sf_v A n k = true from y), xs_1 yk]
      obtain ⟨D', q1, q2⟩ := rg_W_stay_23 hn hd hs m0 hm hW hg hN d c (k + 1) G (by omega) (hC.of fun a _ _ => Gn a (by omega) (by omega)) (by rw [Gn 43 (by decide) (by decide)]; exact hT) (by rw [Gn 8 (by decide) (by decide)]; exact h8)
      exact ⟨D', q1, fun a y1 y2 => by rw [q2 a y1 y2, Gn a y1 y2]⟩
theorem rg_M_stay_39 {n N k : Nat} (hn : n ≤ 4) (hs : sp_st m A) (m0 : 0 ≤ m) (hm : m ≤ 900) (z2 : 1 ≤ A 2 ∧ A 2 ≤ 6) (hN : A 36 = (N : Int)) (hk : k ≤ N) (d : Nat) : ∀ (c j : Nat) (D : rf_D), j + c = n + 1 → 1 ≤ j → D 82 = A → (∀ i, 1 ≤ i → i < j → pn_fx (A 35) i (sy_r A (k : Int)) = none) → ∃ D', (sf_v A n k = true → rf_j_M_stay_39 (d + 6) 77 (n : Int) (k : Int) (j : Int) (hp X D) = some (some (.inl (k : Int)), hp X D')) ∧ (¬ sf_v A n k = true → rf_j_M_stay_39 (d + 6) 77 (n : Int) (k : Int) (j : Int) (hp X D) = rf_j_M_stay_26 (d + 6) 77 (n : Int) ((k + 1 : Nat) : Int) (hp X D')) ∧ (∀ x, x ≠ 77 → x ≠ 88 → x ≠ 89 → x ≠ 90 → D' x = D x) ∧ ∀ q, q ≠ 20 → q ≠ 21 → D' 77 q = D 77 q
  | 0, j, D, hj, j1, h82, hno => by
    have yk : k ≤ 1000 := by
      have b33 := hs.2.2.2.2.2.2.1
      omega
    have none_ : pn_wu (A 35) n (sy_r A (k : Int)) = none := (pn_wu_none n _).2 fun i h1 h2 => hno i h1 (by omega)
    refine ⟨D, fun y => ?_, fun _ => ?_, fun _ _ _ _ _ => rfl, fun _ _ _ => rfl⟩
    · unfold sf_v at y
      rw [none_] at y
      cases y
    · rw [rf_e_M_stay_39, if_pos (by omega), xs_1 yk]
  | c + 1, j, D, hj, j1, h82, hno => by
    have b33 := hs.2.2.2.2.2.2.1
    have yj : j ≤ 1000 := by omega
    have stS := sy_st hs (show 0 ≤ (k : Int) by omega) (show (k : Int) ≤ A 36 by omega)
    have z2S : 1 ≤ sy_r A (k : Int) 2 ∧ sy_r A (k : Int) 2 ≤ 6 := by
      rw [sy_hd (k : Int) 2 (by decide)]
      exact z2
    obtain ⟨u, hu⟩ : ∃ u, u = sp_first (D 88) (D 82) 37 := ⟨_, rfl⟩
    have E1 : E37 u A := by
      rw [hu, h82]
      exact sp_first_E _ _
    obtain ⟨w, hw⟩ : ∃ w, w = A 36 - (k : Int) := ⟨_, rfl⟩
    obtain ⟨v, hv⟩ : ∃ v, v = (if A 33 < w then A 33 else w) := ⟨_, rfl⟩
    obtain ⟨s, hs'⟩ : ∃ s, s = rg_ui (rg_ui u 36 w) 33 v := ⟨_, rfl⟩
    have Es : ∀ q, q < 37 → s q = sy_r A (k : Int) q := fun q hq => by
      rw [hs']
      unfold sy_r
      by_cases q1 : q = 33
      · rw [q1, rg_ui_s, rg_ui_s, hv, ← hw]
        split <;> split <;> omega
      · rw [rg_ui_n q1, rg_ui_n q1]
        by_cases q2 : q = 36
        · rw [q2, rg_ui_s, rg_ui_s, hw]
        · rw [rg_ui_n q2, rg_ui_n q2]
          exact E1 q hq
    have xw : rf_w (A 36 - (k : Int)) = w := by
      rw [hw]
      exact rg_w (by omega) (by omega)
    obtain ⟨H1, hH1⟩ : ∃ H1, H1 = rg_up D 88 s := ⟨_, rfl⟩
    obtain ⟨H2, hH2⟩ : ∃ H2, H2 = rg_up H1 89 (ly_r (H1 89) (H1 88) 0) := ⟨_, rfl⟩
    have H289 : ∀ q, q < 37 → H2 89 q = sy_r A (k : Int) q := fun q hq => by
      rw [hH2, rg_up_s]
      show (if 37 * 0 ≤ q ∧ q < 37 * 0 + 37 then H1 88 (q - 37 * 0) else H1 89 q) = _
      rw [if_pos (by omega), show q - 37 * 0 = q by omega, hH1, rg_up_s]
      exact Es q hq
    have H2n : ∀ a, a ≠ 88 → a ≠ 89 → H2 a = D a := fun a y1 y2 => by rw [hH2, rg_up_n y2, hH1, rg_up_n y1]
    obtain ⟨H3, p1, p2, p3, p4, p5⟩ := rg_M_plans_f (X := X) (D := H2) (g := A 35) j1 (by omega) stS m0 hm z2S H289 (sy_35 (k : Int)) d
    have go : rf_j_M_stay_39 (d + 6) 77 (n : Int) (k : Int) (j : Int) (hp X D) = (if 0 < H3 77 20 then some (some (.inl (k : Int)), hp X H3) else rf_j_M_stay_39 (d + 6) 77 (n : Int) (k : Int) ((j + 1 : Nat) : Int) (hp X H3)) := by
      rw [rf_e_M_stay_39, if_neg (by omega), xs_1 yj]
      try simp only [rg_hp1, rg_o_77, Int.reduceToNat, rg_kIs, rg_kLs, rg_kRs, rg_kVs, rg_nns, rg_bs, cond_true, cond_false]
      rw [rg_M_take, ← hu]
      try simp only [rg_gR_77_17, Int.reduceToNat, rg_kIs, rg_kLs, rg_kRs, rg_kVs, rg_nns, rg_bs, cond_true, cond_false]
      rw [rg_aI_88 (by decide) (by decide)]
      try simp only [Int.reduceToNat, rg_kIs, rg_kLs, rg_kRs, rg_kVs, rg_nns, rg_bs, cond_true, cond_false]
      rw [rg_up_s, E1 36 (by decide), xw, rg_sI_88 (by decide) (by decide), rg_up_s, rg_up_u]
      try simp only [rg_gR_77_17, Int.reduceToNat, rg_kIs, rg_kLs, rg_kRs, rg_kVs, rg_nns, rg_bs, cond_true, cond_false]
      rw [rg_aI_88 (by decide) (by decide)]
      try simp only [Int.reduceToNat, rg_kIs, rg_kLs, rg_kRs, rg_kVs, rg_nns, rg_bs, cond_true, cond_false]
      rw [rg_aI_88 (by decide) (by decide)]
      try simp only [Int.reduceToNat, rg_kIs, rg_kLs, rg_kRs, rg_kVs, rg_nns, rg_bs, cond_true, cond_false]
      rw [rg_up_s, rg_ui_n (show 33 ≠ 36 by decide), E1 33 (by decide), rg_ui_s, rg_M_lesser, ← hv]
      try simp only [Int.reduceToNat, rg_kIs, rg_kLs, rg_kRs, rg_kVs, rg_nns, rg_bs, cond_true, cond_false]
      rw [rg_sI_88 (by decide) (by decide), rg_up_s, rg_up_u]
      try simp only [rg_hp1, rg_o_77, Int.reduceToNat, rg_kIs, rg_kLs, rg_kRs, rg_kVs, rg_nns, rg_bs, cond_true, cond_false]
      rw [← hs', ← hH1]
      have ly := rg_M_lies (X := X) (D := H1) (d + 5) (a := 0) (by decide)
      rw [show ((0 : Nat) : Int) = 0 from rfl] at ly
      rw [ly, ← hH2]
      try simp only [rg_hp1, rg_o_77, Int.reduceToNat, rg_kIs, rg_kLs, rg_kRs, rg_kVs, rg_nns, rg_bs, cond_true, cond_false]
      rw [p1]
      try simp only [rg_gI_77, Int.reduceToNat, rg_kIs, rg_kLs, rg_kRs, rg_kVs, rg_nns, rg_bs, cond_true, cond_false]
    have f3 : ∀ x, x ≠ 77 → x ≠ 88 → x ≠ 89 → x ≠ 90 → H3 x = D x := fun x y1 y2 y3 y4 => by rw [p4 x y1 y2 y3 y4, H2n x y2 y3]
    have f4 : ∀ q, q ≠ 20 → q ≠ 21 → H3 77 q = D 77 q := fun q y1 y2 => by rw [p5 q y1 y2, H2n 77 (by decide) (by decide)]
    cases hw2 : pn_fx (A 35) j (sy_r A (k : Int)) with
    | some l =>
      have y20 := (p2 l hw2).1
      refine ⟨H3, fun _ => ?_, fun y => ?_, f3, f4⟩
      · rw [go, y20, if_pos (by decide)]
      · refine absurd ?_ y
        unfold sf_v
        cases hq : pn_wu (A 35) n (sy_r A (k : Int)) with
        | some l' => rfl
        | none =>
          have z := (pn_wu_none n _).1 hq j j1 (by omega)
          rw [hw2] at z
          cases z
    | none =>
      have y20 := p3 hw2
      obtain ⟨D', r1, r2, r3, r4⟩ := rg_M_stay_39 hn hs m0 hm z2 hN hk d c (j + 1) H3 (by omega) (by omega) (by rw [f3 82 (by decide) (by decide) (by decide) (by decide)]; exact h82) (fun i h1 h2 => by
        by_cases z : i = j
        · rw [z]
          exact hw2
        · exact hno i h1 (by omega))
      refine ⟨D', fun y => ?_, fun y => ?_, fun x y1 y2 y3 y4 => by rw [r3 x y1 y2 y3 y4, f3 x y1 y2 y3 y4], fun q y1 y2 => by rw [r4 q y1 y2, f4 q y1 y2]⟩
      · rw [go, y20, if_neg (by decide)]
        exact r1 y
      · rw [go, y20, if_neg (by decide)]
        exact r2 y
theorem rg_M_stay_26 {n N : Nat} (hn : n ≤ 4) (hs : sp_st m A) (m0 : 0 ≤ m) (hm : m ≤ 900) (z2 : 1 ≤ A 2 ∧ A 2 ≤ 6) (hN : A 36 = (N : Int)) (d : Nat) : ∀ (c k : Nat) (D : rf_D), k + c = N + 1 → D 82 = A → ∃ D', rf_j_M_stay_26 (d + 6) 77 (n : Int) (k : Int) (hp X D) = some (some (.inl (sa_v A n c k)), hp X D') ∧ (∀ x, x ≠ 77 → x ≠ 88 → x ≠ 89 → x ≠ 90 → D' x = D x) ∧ ∀ q, q ≠ 20 → q ≠ 21 → D' 77 q = D 77 q
  | 0, k, D, hk, h82 => by
    refine ⟨D, ?_, fun _ _ _ _ _ => rfl, fun _ _ _ => rfl⟩
    rw [rf_e_M_stay_26]
    try simp only [rg_gR_77_4, Int.reduceToNat, rg_kIs, rg_kLs, rg_kRs, rg_kVs, rg_nns, rg_bs, cond_true, cond_false]
    rw [rg_aI_82 (by decide) (by decide)]
    try simp only [Int.reduceToNat, rg_kIs, rg_kLs, rg_kRs, rg_kVs, rg_nns, rg_bs, cond_true, cond_false]
    rw [h82, if_pos (by omega)]
    try rfl
  | c + 1, k, D, hk, h82 => by
    have e : sa_v A n (c + 1) k = (if sf_v A n k = true then (k : Int) else sa_v A n c (k + 1)) := rfl
    obtain ⟨D1, r1, r2, r3, r4⟩ := rg_M_stay_39 (X := X) (n := n) (k := k) hn hs m0 hm z2 hN (by omega) d n 1 D (by omega) (by decide) h82 (fun i h1 h2 => by omega)
    have go : rf_j_M_stay_26 (d + 6) 77 (n : Int) (k : Int) (hp X D) = rf_j_M_stay_39 (d + 6) 77 (n : Int) (k : Int) 1 (hp X D) := by
      rw [rf_e_M_stay_26]
      try simp only [rg_gR_77_4, Int.reduceToNat, rg_kIs, rg_kLs, rg_kRs, rg_kVs, rg_nns, rg_bs, cond_true, cond_false]
      rw [rg_aI_82 (by decide) (by decide)]
      try simp only [Int.reduceToNat, rg_kIs, rg_kLs, rg_kRs, rg_kVs, rg_nns, rg_bs, cond_true, cond_false]
      rw [h82, if_neg (by omega)]
    rw [show ((1 : Nat) : Int) = 1 from rfl] at r1 r2
    rw [e, go]
    by_cases y : sf_v A n k = true
    · rw [if_pos y]
      exact ⟨D1, r1 y, r3, r4⟩
    · rw [if_neg y]
      obtain ⟨D', q1, q2, q3⟩ := rg_M_stay_26 hn hs m0 hm z2 hN d c (k + 1) D1 (by omega) (by rw [r3 82 (by decide) (by decide) (by decide) (by decide)]; exact h82)
      exact ⟨D', (r2 y).trans q1, fun x y1 y2 y3 y4 => by rw [q2 x y1 y2 y3 y4, r3 x y1 y2 y3 y4], fun q y1 y2 => by rw [q3 q y1 y2, r4 q y1 y2]⟩
end RGS41
