/-! plans counted by the reference -/
def FR (D D' : rf_D) (a : Nat) : Prop := (∀ x, x ≠ 77 → x ≠ 88 → x ≠ 89 → x ≠ 90 → D' x = D x) ∧ (∀ q, q ≠ 20 → q ≠ 21 → D' 77 q = D 77 q) ∧ (∀ p, p < 37 * (a + 1) → D' 89 p = D 89 p) ∧ ∀ q, q < a → D' 90 q = D 90 q
theorem FR.refl (D : rf_D) (a : Nat) : FR D D a := ⟨fun _ _ _ _ _ => rfl, fun _ _ _ => rfl, fun _ _ => rfl, fun _ _ => rfl⟩
theorem FR.trans {D D1 D2 : rf_D} {a b : Nat} (h : FR D D1 a) (h2 : FR D1 D2 b) (hab : a ≤ b) : FR D D2 a := ⟨fun x y1 y2 y3 y4 => (h2.1 x y1 y2 y3 y4).trans (h.1 x y1 y2 y3 y4), fun q y1 y2 => (h2.2.1 q y1 y2).trans (h.2.1 q y1 y2), fun p y => (h2.2.2.1 p (by omega)).trans (h.2.2.1 p y), fun q y => (h2.2.2.2 q (by omega)).trans (h.2.2.2 q y)⟩
theorem FR.pk {D : rf_D} {a : Nat} (v : Int) (u : Nat → Int) : FR D (rg_up (rg_up D 90 (rg_ui (D 90) a v)) 88 u) a := by
  refine ⟨fun x y1 y2 y3 y4 => ?_, fun q y1 y2 => ?_, fun p y => ?_, fun q y => ?_⟩
  · rw [rg_up_n y2, rg_up_n y4]
  · rw [rg_up_n (by decide), rg_up_n (by decide)]
  · rw [rg_up_n (by decide), rg_up_n (by decide)]
  · rw [rg_up_n (by decide), rg_up_s, rg_ui_n (by omega)]
theorem FR.pk0 {D : rf_D} {a : Nat} (v : Int) : FR D (rg_up D 90 (rg_ui (D 90) a v)) a := by
  refine ⟨fun x y1 y2 y3 y4 => ?_, fun q y1 y2 => ?_, fun p y => ?_, fun q y => ?_⟩
  · rw [rg_up_n y4]
  · rw [rg_up_n (by decide)]
  · rw [rg_up_n (by decide)]
  · rw [rg_up_s, rg_ui_n (by omega)]
section RGS36
variable {X : rf_X} {s : Nat → Int} {m g M : Int}
theorem rg_M_pl_173 {D : rf_D} (d : Nat) (n f a x s2 : Int) {w v : Int} (h35 : D 88 35 = w) (h21 : D 77 21 = v) : rf_j_M_plans_173 d 77 n f g M a (some 77) x s2 (hp X D) = rf_j_M_plans_38 d 77 n f g M a (hp X (rg_up D 77 (rg_ui (rg_ui (D 77) 20 (rf_w (x + s2))) 21 (rf_w (v + (if g < w then (if D 88 36 = M then 1 else 0) else 0)))))) := by
  rw [rf_e_M_plans_173]
  try simp only [rg_pI_77, rg_gI_77, rg_gR_77_17, Int.reduceToNat, rg_kIs, rg_kLs, rg_kRs, rg_kVs, rg_nns, rg_bs, cond_true, cond_false]
  rw [rg_aI_88 (by decide) (by decide)]
  try simp only [Int.reduceToNat, rg_kIs, rg_kLs, rg_kRs, rg_kVs, rg_nns, rg_bs, cond_true, cond_false]
  rw [rg_up_n (show (88 : Nat) ≠ 77 by decide), h35, rg_up_s, rg_ui_n (show (21 : Nat) ≠ 20 by decide), h21]
  by_cases a1 : g < w
  · rw [if_pos a1, if_pos a1]
    try simp only [rg_gR_77_17, Int.reduceToNat, rg_kIs, rg_kLs, rg_kRs, rg_kVs, rg_nns, rg_bs, cond_true, cond_false]
    rw [rg_aI_88 (by decide) (by decide)]
    try simp only [Int.reduceToNat, rg_kIs, rg_kLs, rg_kRs, rg_kVs, rg_nns, rg_bs, cond_true, cond_false]
    rw [rg_up_n (show (88 : Nat) ≠ 77 by decide)]
    by_cases a2 : D 88 36 = M
    · rw [if_pos a2, if_pos a2, rg_up_u]
    · rw [if_neg a2, if_neg a2, rg_up_u]
  · rw [if_neg a1, if_neg a1, rg_up_u]
/-- a thing tried, its plans counted -/
def CT (X : rf_X) (e n : Nat) (g M : Int) (r a : Nat) (s : Nat → Int) : Prop := ∀ (t : Nat) (D : rf_D), t < 15 → sp_can s (t : Int) = true → (∀ q, q < 37 → D 89 (37 * a + q) = s q) → (0 ≤ D 77 20 ∧ D 77 20 + pn_ct g r (pn_st s t) ≤ 100000) → (0 ≤ D 77 21 ∧ D 77 21 + pn_cw g M r (pn_st s t) ≤ 100000) → ∃ D', rf_j_M_plans_89 e 77 (n : Int) 0 g M (a : Int) (some 90) (a : Int) (t : Int) (hp X D) = rf_j_M_plans_38 e 77 (n : Int) 0 g M (a : Int) (hp X D') ∧ D' 77 20 = D 77 20 + pn_ct g r (pn_st s t) ∧ D' 77 21 = D 77 21 + pn_cw g M r (pn_st s t) ∧ FR D D' a ∧ D' 90 a = (t : Int)
theorem rg_M_pl_ci {n r a : Nat} (ha : a ≤ 4) (hn : 0 < n) (hs : sp_st m s) (z2 : 1 ≤ s 2 ∧ s 2 ≤ 6) (d : Nat) (H : CT X (d + 5) n g M r a s) : ∀ (c t : Nat) (D : rf_D) (A B x y : Int), t + c = 15 → pk_n D a t → (∀ q, q < 37 → D 89 (37 * a + q) = s q) → D 77 20 = A → D 77 21 = B → 0 ≤ A → 0 ≤ B → x = ct_p s (fun u => pn_ct g r (pn_st s u)) c t → y = ct_p s (fun u => pn_cw g M r (pn_st s u)) c t → A + x ≤ 100000 → B + y ≤ 100000 → ∃ D', rf_j_M_plans_38 (d + 5) 77 (n : Int) 0 g M (a : Int) (hp X D) = rf_j_M_plans_38 (d + 5) 77 (n : Int) 0 g M ((a : Int) - 1) (hp X D') ∧ D' 77 20 = A + x ∧ D' 77 21 = B + y ∧ FR D D' a
  | 0, t, D, A, B, x, y, hk, hp', hr, hA, hB, A0, B0, hx, hy, hAx, hBy => by
    have x0 : x = 0 := hx
    have y0 : y = 0 := hy
    have t15 : t = 15 := by omega
    refine ⟨rg_up D 90 (rg_ui (D 90) a 15), ?_, ?_, ?_, FR.pk0 15⟩
    · rw [rf_e_M_plans_38, if_neg (by omega), if_pos (by omega), if_pos (by decide), rg_M_pl_58 ha (by omega) hp', t15]
      exact rg_M_pl_15 ha (d + 5) (n : Int) 0 g M
    · rw [rg_up_n (by decide), hA, x0, Int.add_zero]
    · rw [rg_up_n (by decide), hB, y0, Int.add_zero]
  | c + 1, t, D, A, B, x, y, hk, hp', hr, hA, hB, A0, B0, hx, hy, hAx, hBy => by
    obtain ⟨x1, hx1⟩ : ∃ x1, x1 = ct_p s (fun u => pn_ct g r (pn_st s u)) c (t + 1) := ⟨_, rfl⟩
    obtain ⟨y1, hy1⟩ : ∃ y1, y1 = ct_p s (fun u => pn_cw g M r (pn_st s u)) c (t + 1) := ⟨_, rfl⟩
    obtain ⟨v, hv⟩ : ∃ v, v = pn_ct g r (pn_st s t) := ⟨_, rfl⟩
    obtain ⟨w, hw⟩ : ∃ w, w = pn_cw g M r (pn_st s t) := ⟨_, rfl⟩
    have ex : x = (if sp_can s (t : Int) = true then v else 0) + x1 := by
      rw [hx, hv, hx1]
      try rfl
    have ey : y = (if sp_can s (t : Int) = true then w else 0) + y1 := by
      rw [hy, hw, hy1]
      try rfl
    have v0 : 0 ≤ v := by
      rw [hv]
      exact (pn_ct_b r (pn_st s t)).1
    have w0 : 0 ≤ w := by
      rw [hw]
      exact (pn_cw_b r (pn_st s t)).1
    have x10 : 0 ≤ x1 := by
      rw [hx1]
      exact (ct_p_b (fun u => pn_ct_b r (pn_st s u)) c (t + 1)).1
    have y10 : 0 ≤ y1 := by
      rw [hy1]
      exact (ct_p_b (fun u => pn_cw_b r (pn_st s u)) c (t + 1)).1
    by_cases cn : sp_can s (t : Int) = true
    · rw [if_pos cn] at ex ey
      obtain ⟨D1, q1, q2, q3, q4, q5⟩ := H t D (by omega) cn hr (by omega) (by omega)
      rw [← hv] at q2
      rw [← hw] at q3
      obtain ⟨D', p1, p2, p3, p4⟩ := rg_M_pl_ci ha hn hs z2 d H c (t + 1) D1 (A + v) (B + w) x1 y1 (by omega) (Or.inr ⟨t, rfl, q5⟩) (fun q hq => by rw [q4.2.2.1 (37 * a + q) (by omega)]; exact hr q hq) (by rw [q2, hA]) (by rw [q3, hB]) (by omega) (by omega) hx1 hy1 (by omega) (by omega)
      refine ⟨D', ?_, by omega, by omega, q4.trans p4 (Nat.le_refl a)⟩
      rw [← p1, ← q1, rf_e_M_plans_38, if_neg (by omega), if_pos (by omega), if_pos (by decide), rg_M_pl_58 ha (by omega) hp']
    · rw [if_neg cn] at ex ey
      obtain ⟨u, u1, u2⟩ := rg_M_pl_t (X := X) (D := D) ha (show t < 15 by omega) hs z2 hr d (n : Int) 0 g M
      rw [if_neg cn] at u2
      obtain ⟨D1, hD1⟩ : ∃ D1, D1 = rg_up (rg_up D 90 (rg_ui (D 90) a (t : Int))) 88 u := ⟨_, rfl⟩
      have f1 : FR D D1 a := by
        rw [hD1]
        exact FR.pk (t : Int) u
      have d77 : D1 77 = D 77 := by rw [hD1, rg_up_n (by decide), rg_up_n (by decide)]
      have d90 : D1 90 a = (t : Int) := by rw [hD1, rg_up_n (by decide), rg_up_s, rg_ui_s]
      rw [← hD1] at u2
      obtain ⟨D', p1, p2, p3, p4⟩ := rg_M_pl_ci ha hn hs z2 d H c (t + 1) D1 A B x1 y1 (by omega) (Or.inr ⟨t, rfl, d90⟩) (fun q hq => by rw [f1.2.2.1 (37 * a + q) (by omega)]; exact hr q hq) (by rw [d77]; exact hA) (by rw [d77]; exact hB) A0 B0 hx1 hy1 (by omega) (by omega)
      refine ⟨D', ?_, by omega, by omega, f1.trans p4 (Nat.le_refl a)⟩
      rw [← p1, ← u2, rf_e_M_plans_38, if_neg (by omega), if_pos (by omega), if_pos (by decide), rg_M_pl_58 ha (by omega) hp']
theorem rg_M_ct_0 {n a : Nat} (hna : a + 1 = n) (ha : a ≤ 3) (hs : sp_st m s) (z2 : 1 ≤ s 2 ∧ s 2 ≤ 6) (d : Nat) : CT X (d + 5) n g M 0 a s := by
  intro t D ht cn hr hA0 hB0
  have hA : 0 ≤ D 77 20 ∧ D 77 20 ≤ 100000 := by
    have c := (pn_ct_b (g := g) 0 (pn_st s t)).1
    omega
  have hB : 0 ≤ D 77 21 ∧ D 77 21 ≤ 100000 := by
    have c := (pn_cw_b (g := g) (M := M) 0 (pn_st s t)).1
    omega
  clear hA0 hB0
  obtain ⟨u, u1, u2⟩ := rg_M_pl_t (X := X) (D := D) (show a ≤ 4 by omega) ht hs z2 hr d (n : Int) 0 g M
  have b33 := hs.2.2.2.2.2.2.1
  have dd := u1.does b33.1 (by omega) (t : Int) (sp_rail s)
  obtain ⟨w, hw⟩ : ∃ w, w = (sp_does u (t : Int) (sp_rail s)).2 := ⟨_, rfl⟩
  obtain ⟨p, hp'⟩ : ∃ p, p = pn_st s t := ⟨_, rfl⟩
  have w35 : w 35 = p 35 := by
    rw [hw, hp']
    exact dd.2 35 (by decide)
  have w36 : w 36 = p 36 := by
    rw [hw, hp']
    exact dd.2 36 (by decide)
  rw [if_pos cn, if_pos (show ((a + 1 : Nat) : Int) = (n : Int) by omega), ← hw, ← hp'] at u2
  obtain ⟨D1, hD1⟩ : ∃ D1, D1 = rg_up (rg_up D 90 (rg_ui (D 90) a (t : Int))) 88 w := ⟨_, rfl⟩
  have f1 : FR D D1 a := by
    rw [hD1]
    exact FR.pk (t : Int) w
  have d77 : D1 77 = D 77 := by rw [hD1, rg_up_n (by decide), rg_up_n (by decide)]
  have d88 : D1 88 = w := by rw [hD1, rg_up_s]
  have d90 : D1 90 a = (t : Int) := by rw [hD1, rg_up_n (by decide), rg_up_s, rg_ui_s]
  rw [← hD1] at u2
  have l := fun s2 => rg_M_pl_173 (X := X) (D := D1) (g := g) (M := M) (d + 5) (n : Int) 0 (a : Int) (D 77 20) s2 (w := p 35) (v := D 77 21) (by rw [d88]; exact w35) (by rw [d77])
  have e1 : pn_ct g 0 p = (if g < p 35 then 1 else 0) := rfl
  have e2 : pn_cw g M 0 p = (if g < p 35 then (if p 36 = M then 1 else 0) else 0) := rfl
  rw [← hp', e1, e2]
  have fin : ∀ v1 v2 : Int, (0 ≤ v1 ∧ v1 ≤ 1) → (0 ≤ v2 ∧ v2 ≤ 1) → ∀ D2, D2 = rg_up D1 77 (rg_ui (rg_ui (D1 77) 20 (rf_w (D 77 20 + v1))) 21 (rf_w (D 77 21 + v2))) → D2 77 20 = D 77 20 + v1 ∧ D2 77 21 = D 77 21 + v2 ∧ FR D D2 a ∧ D2 90 a = (t : Int) := fun v1 v2 h1 h2 D2 hD2 => by
    refine ⟨?_, ?_, ⟨fun x y1 y2 y3 y4 => ?_, fun q y1 y2 => ?_, fun q y => ?_, fun q y => ?_⟩, ?_⟩
    · rw [hD2, rg_up_s, rg_ui_n (by decide), rg_ui_s, rg_w (z := D 77 20 + v1) (by omega) (by omega)]
    · rw [hD2, rg_up_s, rg_ui_s, rg_w (z := D 77 21 + v2) (by omega) (by omega)]
    · rw [hD2, rg_up_n y1]
      exact f1.1 x y1 y2 y3 y4
    · rw [hD2, rg_up_s, rg_ui_n y2, rg_ui_n y1, d77]
    · rw [hD2, rg_up_n (by decide)]
      exact f1.2.2.1 q y
    · rw [hD2, rg_up_n (by decide)]
      exact f1.2.2.2 q y
    · rw [hD2, rg_up_n (by decide)]
      exact d90
  by_cases c : g < p 35
  · rw [if_pos c] at u2 ⊢
    have l1 := l 1
    rw [if_pos c, d88, w36] at l1
    obtain ⟨D2, hD2⟩ : ∃ D2, D2 = rg_up D1 77 (rg_ui (rg_ui (D1 77) 20 (rf_w (D 77 20 + 1))) 21 (rf_w (D 77 21 + (if p 36 = M then 1 else 0)))) := ⟨_, rfl⟩
    rw [← hD2] at l1
    obtain ⟨z1, z2', z3, z4⟩ := fin 1 (if p 36 = M then 1 else 0) (by decide) (by split <;> decide) D2 hD2
    refine ⟨D2, u2.trans l1, z1, ?_, z3, z4⟩
    rw [if_pos c]
    exact z2'
  · rw [if_neg c] at u2 ⊢
    have l1 := l 0
    rw [if_neg c] at l1
    obtain ⟨D2, hD2⟩ : ∃ D2, D2 = rg_up D1 77 (rg_ui (rg_ui (D1 77) 20 (rf_w (D 77 20 + 0))) 21 (rf_w (D 77 21 + 0))) := ⟨_, rfl⟩
    rw [← hD2] at l1
    obtain ⟨z1, z2', z3, z4⟩ := fin 0 0 (by decide) (by decide) D2 hD2
    refine ⟨D2, u2.trans l1, z1, ?_, z3, z4⟩
    rw [if_neg c]
    exact z2'
end RGS36
