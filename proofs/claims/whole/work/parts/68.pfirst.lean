/-! plans found by the reference: all levels -/
section RGS40
variable {X : rf_X} {g M : Int}
theorem rg_M_ft_0 {s : Nat → Int} {m : Int} {n a : Nat} (hna : a + 1 = n) (ha : a ≤ 3) (hs : sp_st m s) (z2 : 1 ≤ s 2 ∧ s 2 ≤ 6) (d : Nat) : FT X (d + 5) n g M 0 a s := by
  intro t D ht cn hr h20
  obtain ⟨u, u1, u2⟩ := rg_M_pl_t (X := X) (D := D) (show a ≤ 4 by omega) ht hs z2 hr d (n : Int) 1 g M
  have b33 := hs.2.2.2.2.2.2.1
  have dd := u1.does b33.1 (by omega) (t : Int) (sp_rail s)
  obtain ⟨w, hw⟩ : ∃ w, w = (sp_does u (t : Int) (sp_rail s)).2 := ⟨_, rfl⟩
  obtain ⟨p, hp'⟩ : ∃ p, p = pn_st s t := ⟨_, rfl⟩
  have w35 : w 35 = p 35 := by
    rw [hw, hp']
    exact dd.2 35 (by decide)
  rw [if_pos cn, if_pos (show ((a + 1 : Nat) : Int) = (n : Int) by omega), ← hw, ← hp', h20] at u2
  obtain ⟨D1, hD1⟩ : ∃ D1, D1 = rg_up (rg_up D 90 (rg_ui (D 90) a (t : Int))) 88 w := ⟨_, rfl⟩
  have f1 : FR D D1 a := by
    rw [hD1]
    exact FR.pk (t : Int) w
  have d77 : D1 77 = D 77 := by rw [hD1, rg_up_n (by decide), rg_up_n (by decide)]
  have d88 : D1 88 = w := by rw [hD1, rg_up_s]
  have d90 : D1 90 a = (t : Int) := by rw [hD1, rg_up_n (by decide), rg_up_s, rg_ui_s]
  rw [← hD1] at u2
  have l := fun s2 => rg_M_pl_173 (X := X) (D := D1) (g := g) (M := M) (d + 5) (n : Int) 1 (a : Int) 0 s2 (w := p 35) (v := D 77 21) (by rw [d88]; exact w35) (by rw [d77])
  have e1 : pn_fx g 0 p = (if g < p 35 then some [] else none) := rfl
  rw [← hp', e1]
  have fin : ∀ v1 v2 : Int, ∀ D2, D2 = rg_up D1 77 (rg_ui (rg_ui (D1 77) 20 v1) 21 v2) → D2 77 20 = v1 ∧ FR D D2 a ∧ D2 90 a = (t : Int) := fun v1 v2 D2 hD2 => by
    refine ⟨?_, ⟨fun x y1 y2 y3 y4 => ?_, fun q y1 y2 => ?_, fun q y => ?_, fun q y => ?_⟩, ?_⟩
    · rw [hD2, rg_up_s, rg_ui_n (by decide), rg_ui_s]
    · rw [hD2, rg_up_n y1]
      exact f1.1 x y1 y2 y3 y4
    · rw [hD2, rg_up_s, rg_ui_n y2, rg_ui_n y1, d77]
    · rw [hD2, rg_up_n (by decide)]
      exact f1.2.2.1 q y
    · rw [hD2, rg_up_n (by decide)]
      exact f1.2.2.2 q y
    · rw [hD2, rg_up_n (by decide)]
      exact d90
  by_cases c : g < p 35
  · rw [if_pos c] at u2 ⊢
    have l1 := l 1
    rw [show rf_w (0 + 1) = 1 from rfl] at l1
    obtain ⟨z1, z3, z4⟩ := fin 1 _ _ rfl
    constructor
    · intro l' hl
      injection hl with hl
      refine ⟨_, ?_, z1, fun q v hv => ?_, z3⟩
      · rw [u2, l1, rf_e_M_plans_38, if_neg (by omega), if_pos (by omega), if_neg (by decide)]
        try simp only [rg_gI_77, Int.reduceToNat, rg_kIs, rg_kLs, rg_kRs, rg_kVs, rg_nns, rg_bs, cond_true, cond_false]
        rw [z1, if_pos (by decide)]
      · rw [← hl] at hv
        cases q with
        | zero =>
          injection hv with hv
          rw [Nat.add_zero, z4]
          exact hv
        | succ q => cases hv
    · intro h
      cases h
  · rw [if_neg c] at u2 ⊢
    have l1 := l 0
    rw [show rf_w (0 + 0) = 0 from rfl] at l1
    obtain ⟨z1, z3, z4⟩ := fin 0 _ _ rfl
    constructor
    · intro l' hl
      cases hl
    · intro _
      exact ⟨_, u2.trans l1, z1, z3, z4⟩
theorem rg_M_ft {n : Nat} (hn : n ≤ 4) (d : Nat) : ∀ (r a : Nat) (s : Nat → Int) (m : Int), a + r + 1 = n → sp_st m s → 0 ≤ m → m + (r : Int) ≤ 1000 → (1 ≤ s 2 ∧ s 2 ≤ 6) → FT X (d + 5) n g M r a s
  | 0, a, s, m, hk, hs, m0, hm, z2 => rg_M_ft_0 (by omega) (by omega) hs z2 d
  | r + 1, a, s, m, hk, hs, m0, hm, z2 => by
    intro t D ht cn hr h20
    obtain ⟨D4, e1, e2, e3, e4, e5, e6⟩ := rg_M_deep (X := X) (g := g) (M := M) (show a + 1 < n by omega) hn ht cn hs z2 hr d 1
    obtain ⟨u0, hu0⟩ : ∃ u0, u0 = pn_st s t := ⟨_, rfl⟩
    have st0 : sp_st (m + 1) u0 := by rw [hu0]; exact (sp_does_st hs ⟨m0, show m ≤ 1000000 by omega⟩ (t : Int) (sp_rail s)).1
    have z20 : 1 ≤ u0 2 ∧ u0 2 ≤ 6 := by rw [hu0, pn_st_2]; exact z2
    rw [← hu0] at e6 ⊢
    have H := rg_M_ft hn d r (a + 1) u0 (m + 1) (by omega) st0 (by omega) (by omega) z20
    obtain ⟨i1, i2⟩ := rg_M_pl_fi (X := X) (show a + 1 ≤ 4 by omega) (show 0 < n by omega) st0 z20 d H 15 0 D4 (by omega) (Or.inl ⟨rfl, e5⟩) e6 (by rw [e2]; exact h20)
    constructor
    · intro l hl
      obtain ⟨D5, p1, p2, p3, p4⟩ := i1 l hl
      refine ⟨D5, e1.trans p1, p2, fun q v hv => ?_, e3.trans p4 (by omega)⟩
      cases q with
      | zero =>
        injection hv with hv
        rw [Nat.add_zero, p4.2.2.2 a (by omega), e4]
        exact hv
      | succ q =>
        have w := p3 q v hv
        rw [show a + (q + 1) = a + 1 + q by omega]
        exact w
    · intro hl
      obtain ⟨D5, p1, p2, p4⟩ := i2 hl
      rw [show ((a + 1 : Nat) : Int) - 1 = (a : Int) by omega] at p1
      exact ⟨D5, e1.trans p1, p2, e3.trans p4 (by omega), by rw [p4.2.2.2 a (by omega)]; exact e4⟩
/-- the first plan of just n things -/
theorem rg_M_plans_f {s : Nat → Int} {m : Int} {n : Nat} (n1 : 1 ≤ n) (hn : n ≤ 4) (hs : sp_st m s) (m0 : 0 ≤ m) (hm : m ≤ 900) (z2 : 1 ≤ s 2 ∧ s 2 ≤ 6) {D : rf_D} (hr : ∀ q, q < 37 → D 89 q = s q) (h35 : s 35 = g) (d : Nat) : ∃ D', rf_call (d + 6) 175 [.inr (.inr (some 77)), .inl (n : Int), .inl 1] (hp X D) = some (none, hp X D') ∧ (∀ l, pn_fx g n s = some l → D' 77 20 = 1 ∧ ∀ (q : Nat) (v : Int), l[q]? = some v → D' 90 q = v) ∧ (pn_fx g n s = none → D' 77 20 = 0) ∧ (∀ x, x ≠ 77 → x ≠ 88 → x ≠ 89 → x ≠ 90 → D' x = D x) ∧ ∀ q, q ≠ 20 → q ≠ 21 → D' 77 q = D 77 q := by
  obtain ⟨M, h36⟩ : ∃ M, s 36 = M := ⟨_, rfl⟩
  obtain ⟨D1, hD1⟩ : ∃ D1, D1 = rg_up (rg_up D 77 (rg_ui (rg_ui (D 77) 20 0) 21 0)) 90 (rg_ui (D 90) 0 (-9)) := ⟨_, rfl⟩
  have go : rf_call (d + 6) 175 [.inr (.inr (some 77)), .inl (n : Int), .inl 1] (hp X D) = rf_j_M_plans_38 (d + 5) 77 (n : Int) 1 g M 0 (hp X D1) := by
    rw [rf_e_M_plans]
    try simp only [rg_gR_77_18, Int.reduceToNat, rg_kIs, rg_kLs, rg_kRs, rg_kVs, rg_nns, rg_bs, cond_true, cond_false]
    rw [rg_aI_89 (by decide) (by decide)]
    try simp only [Int.reduceToNat, rg_kIs, rg_kLs, rg_kRs, rg_kVs, rg_nns, rg_bs, cond_true, cond_false]
    rw [rg_aI_89 (by decide) (by decide)]
    try simp only [rg_pI_77, rg_gR_77_19, Int.reduceToNat, rg_kIs, rg_kLs, rg_kRs, rg_kVs, rg_nns, rg_bs, cond_true, cond_false]
    rw [rg_sI_90 (by decide) (by decide), hr 35 (by decide), hr 36 (by decide), h35, h36, rg_up_s, rg_up_u, rg_up_n (show (90 : Nat) ≠ 77 by decide)]
    try simp only [Int.reduceToNat, rg_kIs, rg_kLs, rg_kRs, rg_kVs, rg_nns, rg_bs, cond_true, cond_false]
    rw [hD1]
    try rfl
  have a77 : ∀ q, q ≠ 20 → q ≠ 21 → D1 77 q = D 77 q := fun q y1 y2 => by rw [hD1, rg_up_n (by decide), rg_up_s, rg_ui_n y2, rg_ui_n y1]
  have a20 : D1 77 20 = 0 := by rw [hD1, rg_up_n (by decide), rg_up_s, rg_ui_n (by decide), rg_ui_s]
  have ax : ∀ x, x ≠ 77 → x ≠ 90 → D1 x = D x := fun x y1 y2 => by rw [hD1, rg_up_n y2, rg_up_n y1]
  have a90 : D1 90 0 = -9 := by rw [hD1, rg_up_s, rg_ui_s]
  obtain ⟨r, hr'⟩ : ∃ r, n = r + 1 := ⟨n - 1, by omega⟩
  have H := rg_M_ft (X := X) (g := g) (M := M) hn d r 0 s m (by omega) hs m0 (by omega) z2
  obtain ⟨i1, i2⟩ := rg_M_pl_fi (X := X) (show 0 ≤ 4 by decide) (show 0 < n by omega) hs z2 d H 15 0 D1 (by omega) (Or.inl ⟨rfl, a90⟩) (fun q hq => by rw [ax 89 (by decide) (by decide), show 37 * 0 + q = q by omega]; exact hr q hq) a20
  have ef : pn_fx g n s = pn_fl (pn_fx g r) s 15 0 := by rw [hr']; rfl
  rw [ef]
  cases hw : pn_fl (pn_fx g r) s 15 0 with
  | some l =>
    obtain ⟨D5, p1, p2, p3, p4⟩ := i1 l hw
    rw [show ((0 : Nat) : Int) = 0 from rfl] at p1
    refine ⟨D5, go.trans p1, fun l' hl => ?_, fun h => (nomatch h), fun x y1 y2 y3 y4 => by rw [p4.1 x y1 y2 y3 y4, ax x y1 y4], fun q y1 y2 => by rw [p4.2.1 q y1 y2, a77 q y1 y2]⟩
    injection hl with hl
    rw [← hl]
    exact ⟨p2, fun q v hv => by have w := p3 q v hv; rw [Nat.zero_add] at w; exact w⟩
  | none =>
    obtain ⟨D5, p1, p2, p4⟩ := i2 hw
    rw [show ((0 : Nat) : Int) = 0 from rfl] at p1
    refine ⟨D5, ?_, fun l' hl => ?_, fun _ => p2, fun x y1 y2 y3 y4 => by rw [p4.1 x y1 y2 y3 y4, ax x y1 y4], fun q y1 y2 => by rw [p4.2.1 q y1 y2, a77 q y1 y2]⟩
    · rw [go, p1, rf_e_M_plans_38, if_pos (by decide)]
    · cases hl
end RGS40
