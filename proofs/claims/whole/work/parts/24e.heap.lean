theorem rg_gd {α : Type} {o : Option α} {a : α} (h : o.isSome = true) : o = some (o.getD a) := by
  cases o with
  | none => cases h
  | some x => rfl
theorem rg_q1e : rg_q1 = some rg_r1 := by
  unfold rg_r1
  exact rg_gd rg_ok1
theorem rg_q2e : rg_q2 = some rg_r2 := by
  unfold rg_r2
  exact rg_gd rg_ok2
theorem rg_nov_e {r : rf_R} (h : rg_nov r = true) : r = (none, r.2) := by
  obtain ⟨v, x⟩ := r
  cases v
  · rfl
  · cases h
theorem rg_r1v : rg_r1 = (none, rg_r1.2) := rg_nov_e rg_ok1a
theorem rg_r2v : rg_r2 = (none, rg_r2.2) := rg_nov_e rg_ok2a
theorem rg_r1len : rg_r1.2.1.length = 77 := of_decide_eq_true rg_ok1b
theorem rg_r2T : rg_r2.2.1 = rg_T := of_decide_eq_true rg_ok2b
