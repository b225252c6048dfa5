/-! The invariant at the start. -/
theorem rg_s78 : ∀ r : Nat, r < 6 → rg_D0 (44 + 2 * r) 1 = -1 ∧ rg_D0 78 r = -1
  | 0, _ => ⟨rg_De (k := 44) (i := 1) (v := -1) (by decide +kernel), rg_De (k := 78) (i := 0) (v := -1) (by decide +kernel)⟩
  | 1, _ => ⟨rg_De (k := 46) (i := 1) (v := -1) (by decide +kernel), rg_De (k := 78) (i := 1) (v := -1) (by decide +kernel)⟩
  | 2, _ => ⟨rg_De (k := 48) (i := 1) (v := -1) (by decide +kernel), rg_De (k := 78) (i := 2) (v := -1) (by decide +kernel)⟩
  | 3, _ => ⟨rg_De (k := 50) (i := 1) (v := -1) (by decide +kernel), rg_De (k := 78) (i := 3) (v := -1) (by decide +kernel)⟩
  | 4, _ => ⟨rg_De (k := 52) (i := 1) (v := -1) (by decide +kernel), rg_De (k := 78) (i := 4) (v := -1) (by decide +kernel)⟩
  | 5, _ => ⟨rg_De (k := 54) (i := 1) (v := -1) (by decide +kernel), rg_De (k := 78) (i := 5) (v := -1) (by decide +kernel)⟩
  | r + 6, h => by omega
theorem rg_s80 : ∀ r : Nat, r < 4 → rg_D0 (56 + 2 * r) 1 = -1 ∧ rg_D0 80 r = -1
  | 0, _ => ⟨rg_De (k := 56) (i := 1) (v := -1) (by decide +kernel), rg_De (k := 80) (i := 0) (v := -1) (by decide +kernel)⟩
  | 1, _ => ⟨rg_De (k := 58) (i := 1) (v := -1) (by decide +kernel), rg_De (k := 80) (i := 1) (v := -1) (by decide +kernel)⟩
  | 2, _ => ⟨rg_De (k := 60) (i := 1) (v := -1) (by decide +kernel), rg_De (k := 80) (i := 2) (v := -1) (by decide +kernel)⟩
  | 3, _ => ⟨rg_De (k := 62) (i := 1) (v := -1) (by decide +kernel), rg_De (k := 80) (i := 3) (v := -1) (by decide +kernel)⟩
  | r + 4, h => by omega
theorem rg_s85 : ∀ r : Nat, r < 6 → rg_D0 85 r = rg_D0 7 r
  | 0, _ => (rg_De (k := 85) (i := 0) (v := 0) (by decide +kernel)).trans (rg_De (k := 7) (i := 0) (v := 0) (by decide +kernel)).symm
  | 1, _ => (rg_De (k := 85) (i := 1) (v := 0) (by decide +kernel)).trans (rg_De (k := 7) (i := 1) (v := 0) (by decide +kernel)).symm
  | 2, _ => (rg_De (k := 85) (i := 2) (v := 0) (by decide +kernel)).trans (rg_De (k := 7) (i := 2) (v := 0) (by decide +kernel)).symm
  | 3, _ => (rg_De (k := 85) (i := 3) (v := 0) (by decide +kernel)).trans (rg_De (k := 7) (i := 3) (v := 0) (by decide +kernel)).symm
  | 4, _ => (rg_De (k := 85) (i := 4) (v := 0) (by decide +kernel)).trans (rg_De (k := 7) (i := 4) (v := 0) (by decide +kernel)).symm
  | 5, _ => (rg_De (k := 85) (i := 5) (v := 0) (by decide +kernel)).trans (rg_De (k := 7) (i := 5) (v := 0) (by decide +kernel)).symm
  | r + 6, h => by omega
theorem rg_s84 : ∀ r : Nat, r < 3 → rg_D0 84 r = 0 ∧ rg_D0 (64 + 2 * r) 1 = -1
  | 0, _ => ⟨rg_De (k := 84) (i := 0) (v := 0) (by decide +kernel), rg_De (k := 64) (i := 1) (v := -1) (by decide +kernel)⟩
  | 1, _ => ⟨rg_De (k := 84) (i := 1) (v := 0) (by decide +kernel), rg_De (k := 66) (i := 1) (v := -1) (by decide +kernel)⟩
  | 2, _ => ⟨rg_De (k := 84) (i := 2) (v := 0) (by decide +kernel), rg_De (k := 68) (i := 1) (v := -1) (by decide +kernel)⟩
  | r + 3, h => by omega
theorem rg_s82 : ∀ r : Nat, r < 38 → rg_D0 82 r = 0
  | 0, _ => rg_De (k := 82) (i := 0) (v := 0) (by decide +kernel)
  | 1, _ => rg_De (k := 82) (i := 1) (v := 0) (by decide +kernel)
  | 2, _ => rg_De (k := 82) (i := 2) (v := 0) (by decide +kernel)
  | 3, _ => rg_De (k := 82) (i := 3) (v := 0) (by decide +kernel)
  | 4, _ => rg_De (k := 82) (i := 4) (v := 0) (by decide +kernel)
  | 5, _ => rg_De (k := 82) (i := 5) (v := 0) (by decide +kernel)
  | 6, _ => rg_De (k := 82) (i := 6) (v := 0) (by decide +kernel)
  | 7, _ => rg_De (k := 82) (i := 7) (v := 0) (by decide +kernel)
  | 8, _ => rg_De (k := 82) (i := 8) (v := 0) (by decide +kernel)
  | 9, _ => rg_De (k := 82) (i := 9) (v := 0) (by decide +kernel)
  | 10, _ => rg_De (k := 82) (i := 10) (v := 0) (by decide +kernel)
  | 11, _ => rg_De (k := 82) (i := 11) (v := 0) (by decide +kernel)
  | 12, _ => rg_De (k := 82) (i := 12) (v := 0) (by decide +kernel)
  | 13, _ => rg_De (k := 82) (i := 13) (v := 0) (by decide +kernel)
  | 14, _ => rg_De (k := 82) (i := 14) (v := 0) (by decide +kernel)
  | 15, _ => rg_De (k := 82) (i := 15) (v := 0) (by decide +kernel)
  | 16, _ => rg_De (k := 82) (i := 16) (v := 0) (by decide +kernel)
  | 17, _ => rg_De (k := 82) (i := 17) (v := 0) (by decide +kernel)
  | 18, _ => rg_De (k := 82) (i := 18) (v := 0) (by decide +kernel)
  | 19, _ => rg_De (k := 82) (i := 19) (v := 0) (by decide +kernel)
  | 20, _ => rg_De (k := 82) (i := 20) (v := 0) (by decide +kernel)
  | 21, _ => rg_De (k := 82) (i := 21) (v := 0) (by decide +kernel)
  | 22, _ => rg_De (k := 82) (i := 22) (v := 0) (by decide +kernel)
  | 23, _ => rg_De (k := 82) (i := 23) (v := 0) (by decide +kernel)
  | 24, _ => rg_De (k := 82) (i := 24) (v := 0) (by decide +kernel)
  | 25, _ => rg_De (k := 82) (i := 25) (v := 0) (by decide +kernel)
  | 26, _ => rg_De (k := 82) (i := 26) (v := 0) (by decide +kernel)
  | 27, _ => rg_De (k := 82) (i := 27) (v := 0) (by decide +kernel)
  | 28, _ => rg_De (k := 82) (i := 28) (v := 0) (by decide +kernel)
  | 29, _ => rg_De (k := 82) (i := 29) (v := 0) (by decide +kernel)
  | 30, _ => rg_De (k := 82) (i := 30) (v := 0) (by decide +kernel)
  | 31, _ => rg_De (k := 82) (i := 31) (v := 0) (by decide +kernel)
  | 32, _ => rg_De (k := 82) (i := 32) (v := 0) (by decide +kernel)
  | 33, _ => rg_De (k := 82) (i := 33) (v := 0) (by decide +kernel)
  | 34, _ => rg_De (k := 82) (i := 34) (v := 0) (by decide +kernel)
  | 35, _ => rg_De (k := 82) (i := 35) (v := 0) (by decide +kernel)
  | 36, _ => rg_De (k := 82) (i := 36) (v := 0) (by decide +kernel)
  | 37, _ => rg_De (k := 82) (i := 37) (v := 0) (by decide +kernel)
  | r + 38, h => by omega
theorem rg_s_IB (b cnt cap S C : Nat) (bt : Prop) (h : ∀ r : Nat, r < cnt → rg_D0 (b + 2 * r) 1 = -1 ∧ rg_D0 S r = -1) : IB rg_D0 b cnt cap S C bt := by
  intro r hr
  obtain ⟨h1, h2⟩ := h r hr
  rw [h1, h2]
  exact ⟨rfl, Int.le_refl _, by omega, fun j hj => by omega⟩
theorem rg_s_ICt : ICt rg_D0 := ⟨rg_s85, rg_De (k := 6) (i := 1) (v := 6) (by decide +kernel), (rg_De (k := 77) (i := 8) (v := 0) (by decide +kernel)).trans (rg_De (k := 0) (i := 16) (v := 0) (by decide +kernel)).symm, (rg_De (k := 77) (i := 9) (v := 0) (by decide +kernel)).trans (rg_De (k := 0) (i := 13) (v := 0) (by decide +kernel)).symm, (rg_De (k := 77) (i := 10) (v := 0) (by decide +kernel)).trans (rg_De (k := 0) (i := 14) (v := 0) (by decide +kernel)).symm, (rg_De (k := 77) (i := 11) (v := 1) (by decide +kernel)).trans (rg_De (k := 0) (i := 15) (v := 1) (by decide +kernel)).symm⟩
theorem rg_s_ISz : ISz rg_D0 := ⟨rg_De (k := 8) (i := 1) (v := 4) (by decide +kernel), rg_De (k := 10) (i := 1) (v := 3) (by decide +kernel)⟩
theorem rg_s_INo : INo rg_D0 := ⟨rg_s82, rg_De (k := 4) (i := 1) (v := 0) (by decide +kernel), rg_De (k := 43) (i := 6) (v := 0) (by decide +kernel), Or.inl (rg_De (k := 43) (i := 10) (v := 0) (by decide +kernel)), ⟨rg_De (k := 29) (i := 1) (v := 0) (by decide +kernel), rg_De (k := 31) (i := 1) (v := 0) (by decide +kernel), rg_De (k := 33) (i := 1) (v := 0) (by decide +kernel), rg_De (k := 35) (i := 1) (v := 0) (by decide +kernel), rg_De (k := 37) (i := 1) (v := 0) (by decide +kernel), rg_De (k := 39) (i := 1) (v := 1) (by decide +kernel), rg_De (k := 41) (i := 1) (v := 1) (by decide +kernel)⟩, ⟨rg_De (k := 40) (i := 0) (v := 0) (by decide +kernel), rg_De (k := 42) (i := 0) (v := 0) (by decide +kernel)⟩, rg_s84⟩
theorem rg_s_Inv : Inv rg_D0 := ⟨rg_s_IB 44 6 40 78 79 False rg_s78, rg_s_IB 56 4 60 80 81 True rg_s80, rg_s_ICt, rg_s_ISz, Or.inl ⟨rg_De (k := 0) (i := 12) (v := 0) (by decide +kernel), rg_s_INo⟩⟩
