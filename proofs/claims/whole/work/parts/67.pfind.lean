/-! plans found by the reference -/
section RGS39
variable {X : rf_X} {s : Nat → Int} {m g M : Int}
/-- the end of a search: found, the picks from a on are its things -/
def FO (e : rf_H → Option rf_R) (X : rf_X) (D : rf_D) (a : Nat) (l : List Int) : Prop := ∃ D', e (hp X D) = some (none, hp X D') ∧ D' 77 20 = 1 ∧ (∀ (q : Nat) (v : Int), l[q]? = some v → D' 90 (a + q) = v) ∧ FR D D' a
/-- nothing found -/
def FN (e e' : rf_H → Option rf_R) (X : rf_X) (D : rf_D) (a : Nat) : Prop := ∃ D', e (hp X D) = e' (hp X D') ∧ D' 77 20 = 0 ∧ FR D D' a
def FT (X : rf_X) (e n : Nat) (g M : Int) (r a : Nat) (s : Nat → Int) : Prop := ∀ (t : Nat) (D : rf_D), t < 15 → sp_can s (t : Int) = true → (∀ q, q < 37 → D 89 (37 * a + q) = s q) → D 77 20 = 0 → (∀ l, pn_fx g r (pn_st s t) = some l → FO (rf_j_M_plans_89 e 77 (n : Int) 1 g M (a : Int) (some 90) (a : Int) (t : Int)) X D a ((t : Int) :: l)) ∧ (pn_fx g r (pn_st s t) = none → ∃ D', rf_j_M_plans_89 e 77 (n : Int) 1 g M (a : Int) (some 90) (a : Int) (t : Int) (hp X D) = rf_j_M_plans_38 e 77 (n : Int) 1 g M (a : Int) (hp X D') ∧ D' 77 20 = 0 ∧ FR D D' a ∧ D' 90 a = (t : Int))
theorem rg_M_pl_38 {D : rf_D} {n a : Nat} (hn : 0 < n) (h20 : D 77 20 = 0) (e : Nat) : rf_j_M_plans_38 e 77 (n : Int) 1 g M (a : Int) (hp X D) = rf_j_M_plans_58 e 77 (n : Int) 1 g M (a : Int) (hp X D) := by
  rw [rf_e_M_plans_38, if_neg (by omega), if_pos (by omega), if_neg (by decide)]
  try simp only [rg_gI_77, Int.reduceToNat, rg_kIs, rg_kLs, rg_kRs, rg_kVs, rg_nns, rg_bs, cond_true, cond_false]
  rw [h20, if_neg (by decide)]
theorem rg_M_pl_fi {n r a : Nat} (ha : a ≤ 4) (hn : 0 < n) (hs : sp_st m s) (z2 : 1 ≤ s 2 ∧ s 2 ≤ 6) (d : Nat) (H : FT X (d + 5) n g M r a s) : ∀ (c t : Nat) (D : rf_D), t + c = 15 → pk_n D a t → (∀ q, q < 37 → D 89 (37 * a + q) = s q) → D 77 20 = 0 → (∀ l, pn_fl (pn_fx g r) s c t = some l → FO (rf_j_M_plans_38 (d + 5) 77 (n : Int) 1 g M (a : Int)) X D a l) ∧ (pn_fl (pn_fx g r) s c t = none → FN (rf_j_M_plans_38 (d + 5) 77 (n : Int) 1 g M (a : Int)) (rf_j_M_plans_38 (d + 5) 77 (n : Int) 1 g M ((a : Int) - 1)) X D a)
  | 0, t, D, hk, hp', hr, h20 => by
    have t15 : t = 15 := by omega
    refine ⟨fun l h => ?_, fun _ => ⟨rg_up D 90 (rg_ui (D 90) a 15), ?_, ?_, FR.pk0 15⟩⟩
    · cases h
    · rw [rg_M_pl_38 hn h20, rg_M_pl_58 ha (by omega) hp', t15]
      exact rg_M_pl_15 ha (d + 5) (n : Int) 1 g M
    · rw [rg_up_n (by decide)]
      exact h20
  | c + 1, t, D, hk, hp', hr, h20 => by
    have go : rf_j_M_plans_38 (d + 5) 77 (n : Int) 1 g M (a : Int) (hp X D) = rf_j_M_plans_89 (d + 5) 77 (n : Int) 1 g M (a : Int) (some 90) (a : Int) (t : Int) (hp X D) := by
      rw [rg_M_pl_38 hn h20, rg_M_pl_58 ha (by omega) hp']
    have nx : ∀ D1, rf_j_M_plans_38 (d + 5) 77 (n : Int) 1 g M (a : Int) (hp X D) = rf_j_M_plans_38 (d + 5) 77 (n : Int) 1 g M (a : Int) (hp X D1) → FR D D1 a → D1 77 20 = 0 → D1 90 a = (t : Int) → (∀ l, pn_fl (pn_fx g r) s c (t + 1) = some l → FO (rf_j_M_plans_38 (d + 5) 77 (n : Int) 1 g M (a : Int)) X D a l) ∧ (pn_fl (pn_fx g r) s c (t + 1) = none → FN (rf_j_M_plans_38 (d + 5) 77 (n : Int) 1 g M (a : Int)) (rf_j_M_plans_38 (d + 5) 77 (n : Int) 1 g M ((a : Int) - 1)) X D a) := fun D1 q1 q2 q3 q4 => by
      obtain ⟨i1, i2⟩ := rg_M_pl_fi ha hn hs z2 d H c (t + 1) D1 (by omega) (Or.inr ⟨t, rfl, q4⟩) (fun q hq => by rw [q2.2.2.1 (37 * a + q) (by omega)]; exact hr q hq) q3
      refine ⟨fun l h => ?_, fun h => ?_⟩
      · obtain ⟨D', p1, p2, p3, p4⟩ := i1 l h
        exact ⟨D', q1.trans p1, p2, p3, q2.trans p4 (Nat.le_refl a)⟩
      · obtain ⟨D', p1, p2, p3⟩ := i2 h
        exact ⟨D', q1.trans p1, p2, q2.trans p3 (Nat.le_refl a)⟩
    by_cases cn : sp_can s (t : Int) = true
    · obtain ⟨h1, h2⟩ := H t D (by omega) cn hr h20
      cases hw : pn_fx g r (pn_st s t) with
      | some l' =>
        rw [pn_fl_y cn hw]
        constructor
        · intro l h
          injection h with h
          obtain ⟨D', p1, p2, p3, p4⟩ := h1 l' hw
          rw [← h]
          exact ⟨D', go.trans p1, p2, p3, p4⟩
        · intro h
          cases h
      | none =>
        rw [pn_fl_o cn hw]
        obtain ⟨D1, q1, q2, q3, q4⟩ := h2 hw
        exact nx D1 (go.trans q1) q3 q2 q4
    · rw [pn_fl_n cn]
      obtain ⟨u, u1, u2⟩ := rg_M_pl_t (X := X) (D := D) ha (show t < 15 by omega) hs z2 hr d (n : Int) 1 g M
      rw [if_neg cn] at u2
      exact nx _ (go.trans u2) (FR.pk (t : Int) u) (by rw [rg_up_n (by decide), rg_up_n (by decide)]; exact h20) (by rw [rg_up_n (by decide), rg_up_s, rg_ui_s])
end RGS39
