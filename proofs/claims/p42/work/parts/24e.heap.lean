theorem rg_gd {α : Type} {o : Option α} {a : α} (h : o.isSome = true) : o = some (o.getD a) := by
  cases o with
  | none => cases h
  | some x => rfl
theorem rg_q1e : rg_q1 = some rg_r1 := by
  unfold rg_r1
  exact rg_gd rg_ok1
theorem rg_nov_e {r : rf_R} (h : rg_nov r = true) : r = (none, r.2) := by
  obtain ⟨v, x⟩ := r
  cases v
  · rfl
  · cases h
theorem rg_r1v : rg_r1 = (none, rg_r1.2) := rg_nov_e rg_ok1a
theorem rg_r1T : rg_r1.2.1 = rg_T := of_decide_eq_true rg_ok1b
/-- a heap of this claim: the numbers alone change -/
def hp (X : rf_X) (D : rf_D) : rf_H := (rg_T, D, rg_P, X)
theorem rg_xnw (X : rf_X) (h : rf_H) (x : rf_Sh) : rf_sX X (rf_nw h x) = rf_nw (rf_sX X h) x := rfl
theorem rg_xh0 (X Y : rf_X) : rf_sX X (rg_h0 Y) = rg_h0 X := rfl
theorem rg_xmk (X : rf_X) (h : rf_H) : rf_rX X (none, h) = (none, rf_sX X h) := rfl
theorem rg_xs (X : rf_X) (h : rf_H) : rf_sX X h = (h.1, h.2.1, h.2.2.1, X) := rfl
theorem rg_new1 (X : rf_X) : rf_call 30 53 [.inr (.inr (some 0))] (rf_nw (rg_h0 X) (.inl 4)) = some (none, hp X rg_D0) := by
  have e := rg_q1e
  unfold rg_q1 at e
  have h := rf_qcF X 2000 30 53 [.inr (.inr (some 0))] (rf_nw (rg_h0 rg_X0) (.inl 4)) rg_r1 e
  rw [rg_r1v, rg_xmk, rg_xnw, rg_xh0, rg_xs X rg_r1.2, rg_r1T] at h
  unfold hp rg_D0 rg_P
  exact h
