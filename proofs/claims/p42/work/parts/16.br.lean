section RFH
variable {l : Launch} {d : Nat} {cc : ByteArray} {own : String} {nL : Nat} {rt : Option FieldType} {ini : Bool} {r : rf_R} {X : rf_X}
variable {cal : rf_C} {ms : List (Nat × List Bool)} {pc len a b c w : Nat} {z : Int} {ts : List Nat} {L : List (Option rf_V)} {st : List rf_V} {h : rf_H} {ks : rf_S → Option rf_R}
theorem rf_cat_R (ad : Nat → Nat) (x : Option Nat) : (rf_cv ad (.inr (.inr x))).category = 1 := by cases x <;> rfl
theorem rf_n_dup (ck : rf_cki nL own ini rt pc len (.dup) a b c w z ts = true) (hd : decode cc pc = .ok (.dup, len)) (hI : ∀ s', ks s' = some r → rf_Go l d cc own nL rt ini r X s') (h0 : rf_ins cal ms (pc + len) (.dup) a b c z ts L st h some ks = some r) : rf_Go l d cc own nL rt ini r X (pc, L, st, h) := by
  simp only [rf_cki, Bool.and_eq_true, decide_eq_true_eq] at ck
  obtain rfl := ck
  simp only [rf_ins] at h0
  split at h0
  · rename_i x st
    refine rf_go_same (hI _ h0) (fun pu => ?_) (fun pu p e R s m args below meth c base ro dC dI cy n0 Q ls H locs cells slots FX lv hP hS k => ?_)
    · exact ⟨pu.1.msk _, rf_okS_c.mpr ⟨trivial, pu.2.1⟩⟩
    · obtain ⟨hx, hb, hml, hown, htb, hnt, hK, hro, hz1, hz2, hao, hbs, hR1, hR2, hini⟩ := FX
      refine lv_dup hx hb hd (rf_cat_R _ _) ?_
      exact k ls (lv.msk _)
  · rename_i x st
    refine rf_go_same (hI _ h0) (fun pu => ?_) (fun pu p e R s m args below meth c base ro dC dI cy n0 Q ls H locs cells slots FX lv hP hS k => ?_)
    · exact ⟨pu.1.msk _, rf_okS_c.mpr ⟨(rf_okS_c.mp pu.2.1).1, pu.2.1⟩⟩
    · obtain ⟨hx, hb, hml, hown, htb, hnt, hK, hro, hz1, hz2, hao, hbs, hR1, hR2, hini⟩ := FX
      refine lv_dup hx hb hd rfl ?_
      exact k ls (lv.msk _)
  · cases h0
theorem rf_n_pop (ck : rf_cki nL own ini rt pc len (.pop) a b c w z ts = true) (hd : decode cc pc = .ok (.pop, len)) (hI : ∀ s', ks s' = some r → rf_Go l d cc own nL rt ini r X s') (h0 : rf_ins cal ms (pc + len) (.pop) a b c z ts L st h some ks = some r) : rf_Go l d cc own nL rt ini r X (pc, L, st, h) := by
  simp only [rf_cki, Bool.and_eq_true, decide_eq_true_eq] at ck
  obtain rfl := ck
  simp only [rf_ins] at h0
  split at h0
  · rename_i x st
    refine rf_go_same (hI _ h0) (fun pu => ?_) (fun pu p e R s m args below meth c base ro dC dI cy n0 Q ls H locs cells slots FX lv hP hS k => ?_)
    · exact ⟨pu.1.msk _, (rf_okS_c.mp pu.2.1).2⟩
    · obtain ⟨hx, hb, hml, hown, htb, hnt, hK, hro, hz1, hz2, hao, hbs, hR1, hR2, hini⟩ := FX
      refine lv_pop hx hb hd rfl ?_
      exact k ls (lv.msk _)
  · rename_i x st
    refine rf_go_same (hI _ h0) (fun pu => ?_) (fun pu p e R s m args below meth c base ro dC dI cy n0 Q ls H locs cells slots FX lv hP hS k => ?_)
    · exact ⟨pu.1.msk _, (rf_okS_c.mp pu.2.1).2⟩
    · obtain ⟨hx, hb, hml, hown, htb, hnt, hK, hro, hz1, hz2, hao, hbs, hR1, hR2, hini⟩ := FX
      refine lv_pop hx hb hd (rf_cat_R _ _) ?_
      exact k ls (lv.msk _)
  · cases h0
theorem rf_n_dup2 (ck : rf_cki nL own ini rt pc len (.dup2) a b c w z ts = true) (hd : decode cc pc = .ok (.dup2, len)) (hI : ∀ s', ks s' = some r → rf_Go l d cc own nL rt ini r X s') (h0 : rf_ins cal ms (pc + len) (.dup2) a b c z ts L st h some ks = some r) : rf_Go l d cc own nL rt ini r X (pc, L, st, h) := by
  simp only [rf_cki, Bool.and_eq_true, decide_eq_true_eq] at ck
  obtain rfl := ck
  simp only [rf_ins] at h0
  split at h0
  · rename_i y x st
    refine rf_go_same (hI _ h0) (fun pu => ?_) (fun pu p e R s m args below meth c base ro dC dI cy n0 Q ls H locs cells slots FX lv hP hS k => ?_)
    · have o1 := rf_okS_c.mp pu.2.1
      exact ⟨pu.1.msk _, rf_okS_c.mpr ⟨o1.1, rf_okS_c.mpr ⟨trivial, pu.2.1⟩⟩⟩
    · obtain ⟨hx, hb, hml, hown, htb, hnt, hK, hro, hz1, hz2, hao, hbs, hR1, hR2, hini⟩ := FX
      refine lv_dup2_11 hx hb hd rfl (rf_cat_R _ _) ?_
      exact k ls (lv.msk _)
  · cases h0
theorem rf_n_if_eq {o : Int} (ck : rf_cki nL own ini rt pc len (.ifCond .eq o) a b c w z ts = true) (hd : decode cc pc = .ok (.ifCond .eq o, len)) (hI : ∀ s', ks s' = some r → rf_Go l d cc own nL rt ini r X s') (h0 : rf_ins cal ms (pc + len) (.ifCond .eq o) a b c z ts L st h some ks = some r) : rf_Go l d cc own nL rt ini r X (pc, L, st, h) := by
  simp only [rf_cki, Bool.and_eq_true, decide_eq_true_eq] at ck
  obtain ⟨rfl, c1⟩ := ck
  simp only [rf_ins] at h0
  obtain ⟨x, st, rfl, h1⟩ := rf_1I_inv h0
  refine rf_go_two (P := x = 0) inferInstance (fun hp => hI _ (by rw [if_pos hp] at h1; exact h1)) (fun hp => hI _ (by rw [if_neg hp] at h1; exact h1)) (fun pu => ⟨pu.1.msk _, pu.1.msk _, (rf_okS_c.mp pu.2.1).2⟩) (fun pu p e R s m args below meth c base ro dC dI cy n0 Q ls H locs cells slots FX lv k1 k2 => ?_)
  obtain ⟨hx, hb, hml, hown, htb, hnt, hK, hro, hz1, hz2, hao, hbs, hR1, hR2, hini⟩ := FX
  have ox := (rf_okS_c.mp pu.2.1).1
  have E := rf_veq ox rf_o0
  rw [rf_v0] at E
  exact lv_if_eq hx hb hd c1 (fun q => k1 (E.mp q) (lv.msk _)) (fun q => k2 (fun w => q (E.mpr w)) (lv.msk _))
theorem rf_n_if_ne {o : Int} (ck : rf_cki nL own ini rt pc len (.ifCond .ne o) a b c w z ts = true) (hd : decode cc pc = .ok (.ifCond .ne o, len)) (hI : ∀ s', ks s' = some r → rf_Go l d cc own nL rt ini r X s') (h0 : rf_ins cal ms (pc + len) (.ifCond .ne o) a b c z ts L st h some ks = some r) : rf_Go l d cc own nL rt ini r X (pc, L, st, h) := by
  simp only [rf_cki, Bool.and_eq_true, decide_eq_true_eq] at ck
  obtain ⟨rfl, c1⟩ := ck
  simp only [rf_ins] at h0
  obtain ⟨x, st, rfl, h1⟩ := rf_1I_inv h0
  refine rf_go_two (P := x = 0) inferInstance (fun hp => hI _ (by rw [if_pos hp] at h1; exact h1)) (fun hp => hI _ (by rw [if_neg hp] at h1; exact h1)) (fun pu => ⟨pu.1.msk _, pu.1.msk _, (rf_okS_c.mp pu.2.1).2⟩) (fun pu p e R s m args below meth c base ro dC dI cy n0 Q ls H locs cells slots FX lv k1 k2 => ?_)
  obtain ⟨hx, hb, hml, hown, htb, hnt, hK, hro, hz1, hz2, hao, hbs, hR1, hR2, hini⟩ := FX
  have ox := (rf_okS_c.mp pu.2.1).1
  have E := rf_veq ox rf_o0
  rw [rf_v0] at E
  exact lv_if_ne hx hb hd c1 (fun q => k2 (fun w => q (E.mpr w)) (lv.msk _)) (fun q => k1 (E.mp q) (lv.msk _))
theorem rf_n_if_lt {o : Int} (ck : rf_cki nL own ini rt pc len (.ifCond .lt o) a b c w z ts = true) (hd : decode cc pc = .ok (.ifCond .lt o, len)) (hI : ∀ s', ks s' = some r → rf_Go l d cc own nL rt ini r X s') (h0 : rf_ins cal ms (pc + len) (.ifCond .lt o) a b c z ts L st h some ks = some r) : rf_Go l d cc own nL rt ini r X (pc, L, st, h) := by
  simp only [rf_cki, Bool.and_eq_true, decide_eq_true_eq] at ck
  obtain ⟨rfl, c1⟩ := ck
  simp only [rf_ins] at h0
  obtain ⟨x, st, rfl, h1⟩ := rf_1I_inv h0
  refine rf_go_two (P := x < 0) inferInstance (fun hp => hI _ (by rw [if_pos hp] at h1; exact h1)) (fun hp => hI _ (by rw [if_neg hp] at h1; exact h1)) (fun pu => ⟨pu.1.msk _, pu.1.msk _, (rf_okS_c.mp pu.2.1).2⟩) (fun pu p e R s m args below meth c base ro dC dI cy n0 Q ls H locs cells slots FX lv k1 k2 => ?_)
  obtain ⟨hx, hb, hml, hown, htb, hnt, hK, hro, hz1, hz2, hao, hbs, hR1, hR2, hini⟩ := FX
  have ox := (rf_okS_c.mp pu.2.1).1
  have E := rf_vlt ox rf_o0
  rw [rf_v0] at E
  exact lv_if_lt hx hb hd c1 (fun q => k1 (E.mp q) (lv.msk _)) (fun q => k2 (fun w => q (E.mpr w)) (lv.msk _))
theorem rf_n_if_ge {o : Int} (ck : rf_cki nL own ini rt pc len (.ifCond .ge o) a b c w z ts = true) (hd : decode cc pc = .ok (.ifCond .ge o, len)) (hI : ∀ s', ks s' = some r → rf_Go l d cc own nL rt ini r X s') (h0 : rf_ins cal ms (pc + len) (.ifCond .ge o) a b c z ts L st h some ks = some r) : rf_Go l d cc own nL rt ini r X (pc, L, st, h) := by
  simp only [rf_cki, Bool.and_eq_true, decide_eq_true_eq] at ck
  obtain ⟨rfl, c1⟩ := ck
  simp only [rf_ins] at h0
  obtain ⟨x, st, rfl, h1⟩ := rf_1I_inv h0
  refine rf_go_two (P := x < 0) inferInstance (fun hp => hI _ (by rw [if_pos hp] at h1; exact h1)) (fun hp => hI _ (by rw [if_neg hp] at h1; exact h1)) (fun pu => ⟨pu.1.msk _, pu.1.msk _, (rf_okS_c.mp pu.2.1).2⟩) (fun pu p e R s m args below meth c base ro dC dI cy n0 Q ls H locs cells slots FX lv k1 k2 => ?_)
  obtain ⟨hx, hb, hml, hown, htb, hnt, hK, hro, hz1, hz2, hao, hbs, hR1, hR2, hini⟩ := FX
  have ox := (rf_okS_c.mp pu.2.1).1
  have E := rf_vle rf_o0 ox
  rw [rf_v0] at E
  exact lv_if_ge hx hb hd c1 (fun q => k2 (by have := E.mp q; omega) (lv.msk _)) (fun q => k1 (by by_cases u : x < 0; exact u; exact absurd (E.mpr (by omega)) q) (lv.msk _))
theorem rf_n_if_gt {o : Int} (ck : rf_cki nL own ini rt pc len (.ifCond .gt o) a b c w z ts = true) (hd : decode cc pc = .ok (.ifCond .gt o, len)) (hI : ∀ s', ks s' = some r → rf_Go l d cc own nL rt ini r X s') (h0 : rf_ins cal ms (pc + len) (.ifCond .gt o) a b c z ts L st h some ks = some r) : rf_Go l d cc own nL rt ini r X (pc, L, st, h) := by
  simp only [rf_cki, Bool.and_eq_true, decide_eq_true_eq] at ck
  obtain ⟨rfl, c1⟩ := ck
  simp only [rf_ins] at h0
  obtain ⟨x, st, rfl, h1⟩ := rf_1I_inv h0
  refine rf_go_two (P := 0 < x) inferInstance (fun hp => hI _ (by rw [if_pos hp] at h1; exact h1)) (fun hp => hI _ (by rw [if_neg hp] at h1; exact h1)) (fun pu => ⟨pu.1.msk _, pu.1.msk _, (rf_okS_c.mp pu.2.1).2⟩) (fun pu p e R s m args below meth c base ro dC dI cy n0 Q ls H locs cells slots FX lv k1 k2 => ?_)
  obtain ⟨hx, hb, hml, hown, htb, hnt, hK, hro, hz1, hz2, hao, hbs, hR1, hR2, hini⟩ := FX
  have ox := (rf_okS_c.mp pu.2.1).1
  have E := rf_vlt rf_o0 ox
  rw [rf_v0] at E
  exact lv_if_gt hx hb hd c1 (fun q => k1 (E.mp q) (lv.msk _)) (fun q => k2 (fun w => q (E.mpr w)) (lv.msk _))
theorem rf_n_if_le {o : Int} (ck : rf_cki nL own ini rt pc len (.ifCond .le o) a b c w z ts = true) (hd : decode cc pc = .ok (.ifCond .le o, len)) (hI : ∀ s', ks s' = some r → rf_Go l d cc own nL rt ini r X s') (h0 : rf_ins cal ms (pc + len) (.ifCond .le o) a b c z ts L st h some ks = some r) : rf_Go l d cc own nL rt ini r X (pc, L, st, h) := by
  simp only [rf_cki, Bool.and_eq_true, decide_eq_true_eq] at ck
  obtain ⟨rfl, c1⟩ := ck
  simp only [rf_ins] at h0
  obtain ⟨x, st, rfl, h1⟩ := rf_1I_inv h0
  refine rf_go_two (P := 0 < x) inferInstance (fun hp => hI _ (by rw [if_pos hp] at h1; exact h1)) (fun hp => hI _ (by rw [if_neg hp] at h1; exact h1)) (fun pu => ⟨pu.1.msk _, pu.1.msk _, (rf_okS_c.mp pu.2.1).2⟩) (fun pu p e R s m args below meth c base ro dC dI cy n0 Q ls H locs cells slots FX lv k1 k2 => ?_)
  obtain ⟨hx, hb, hml, hown, htb, hnt, hK, hro, hz1, hz2, hao, hbs, hR1, hR2, hini⟩ := FX
  have ox := (rf_okS_c.mp pu.2.1).1
  have E := rf_vle ox rf_o0
  rw [rf_v0] at E
  exact lv_if_le hx hb hd c1 (fun q => k2 (by have := E.mp q; omega) (lv.msk _)) (fun q => k1 (by by_cases u : 0 < x; exact u; exact absurd (E.mpr (by omega)) q) (lv.msk _))
theorem rf_n_icmp_eq {o : Int} (ck : rf_cki nL own ini rt pc len (.if_icmp .eq o) a b c w z ts = true) (hd : decode cc pc = .ok (.if_icmp .eq o, len)) (hI : ∀ s', ks s' = some r → rf_Go l d cc own nL rt ini r X s') (h0 : rf_ins cal ms (pc + len) (.if_icmp .eq o) a b c z ts L st h some ks = some r) : rf_Go l d cc own nL rt ini r X (pc, L, st, h) := by
  simp only [rf_cki, Bool.and_eq_true, decide_eq_true_eq] at ck
  obtain ⟨rfl, c1⟩ := ck
  simp only [rf_ins] at h0
  obtain ⟨x, y, st, rfl, h1⟩ := rf_2I_inv h0
  refine rf_go_two (P := x = y) inferInstance (fun hp => hI _ (by rw [if_pos hp] at h1; exact h1)) (fun hp => hI _ (by rw [if_neg hp] at h1; exact h1)) (fun pu => ⟨pu.1.msk _, pu.1.msk _, (rf_okS_c.mp (rf_okS_c.mp pu.2.1).2).2⟩) (fun pu p e R s m args below meth c base ro dC dI cy n0 Q ls H locs cells slots FX lv k1 k2 => ?_)
  obtain ⟨hx, hb, hml, hown, htb, hnt, hK, hro, hz1, hz2, hao, hbs, hR1, hR2, hini⟩ := FX
  have oy := (rf_okS_c.mp pu.2.1).1
  have ox := (rf_okS_c.mp (rf_okS_c.mp pu.2.1).2).1
  have E := rf_veq ox oy
  exact lv_icmp_eq hx hb hd c1 (fun q => k1 (E.mp q) (lv.msk _)) (fun q => k2 (fun w => q (E.mpr w)) (lv.msk _))
theorem rf_n_icmp_ne {o : Int} (ck : rf_cki nL own ini rt pc len (.if_icmp .ne o) a b c w z ts = true) (hd : decode cc pc = .ok (.if_icmp .ne o, len)) (hI : ∀ s', ks s' = some r → rf_Go l d cc own nL rt ini r X s') (h0 : rf_ins cal ms (pc + len) (.if_icmp .ne o) a b c z ts L st h some ks = some r) : rf_Go l d cc own nL rt ini r X (pc, L, st, h) := by
  simp only [rf_cki, Bool.and_eq_true, decide_eq_true_eq] at ck
  obtain ⟨rfl, c1⟩ := ck
  simp only [rf_ins] at h0
  obtain ⟨x, y, st, rfl, h1⟩ := rf_2I_inv h0
  refine rf_go_two (P := x = y) inferInstance (fun hp => hI _ (by rw [if_pos hp] at h1; exact h1)) (fun hp => hI _ (by rw [if_neg hp] at h1; exact h1)) (fun pu => ⟨pu.1.msk _, pu.1.msk _, (rf_okS_c.mp (rf_okS_c.mp pu.2.1).2).2⟩) (fun pu p e R s m args below meth c base ro dC dI cy n0 Q ls H locs cells slots FX lv k1 k2 => ?_)
  obtain ⟨hx, hb, hml, hown, htb, hnt, hK, hro, hz1, hz2, hao, hbs, hR1, hR2, hini⟩ := FX
  have oy := (rf_okS_c.mp pu.2.1).1
  have ox := (rf_okS_c.mp (rf_okS_c.mp pu.2.1).2).1
  have E := rf_veq ox oy
  exact lv_icmp_ne hx hb hd c1 (fun q => k2 (fun w => q (E.mpr w)) (lv.msk _)) (fun q => k1 (E.mp q) (lv.msk _))
theorem rf_n_icmp_lt {o : Int} (ck : rf_cki nL own ini rt pc len (.if_icmp .lt o) a b c w z ts = true) (hd : decode cc pc = .ok (.if_icmp .lt o, len)) (hI : ∀ s', ks s' = some r → rf_Go l d cc own nL rt ini r X s') (h0 : rf_ins cal ms (pc + len) (.if_icmp .lt o) a b c z ts L st h some ks = some r) : rf_Go l d cc own nL rt ini r X (pc, L, st, h) := by
  simp only [rf_cki, Bool.and_eq_true, decide_eq_true_eq] at ck
  obtain ⟨rfl, c1⟩ := ck
  simp only [rf_ins] at h0
  obtain ⟨x, y, st, rfl, h1⟩ := rf_2I_inv h0
  refine rf_go_two (P := x < y) inferInstance (fun hp => hI _ (by rw [if_pos hp] at h1; exact h1)) (fun hp => hI _ (by rw [if_neg hp] at h1; exact h1)) (fun pu => ⟨pu.1.msk _, pu.1.msk _, (rf_okS_c.mp (rf_okS_c.mp pu.2.1).2).2⟩) (fun pu p e R s m args below meth c base ro dC dI cy n0 Q ls H locs cells slots FX lv k1 k2 => ?_)
  obtain ⟨hx, hb, hml, hown, htb, hnt, hK, hro, hz1, hz2, hao, hbs, hR1, hR2, hini⟩ := FX
  have oy := (rf_okS_c.mp pu.2.1).1
  have ox := (rf_okS_c.mp (rf_okS_c.mp pu.2.1).2).1
  have E := rf_vlt ox oy
  exact lv_icmp_lt hx hb hd c1 (fun q => k1 (E.mp q) (lv.msk _)) (fun q => k2 (fun w => q (E.mpr w)) (lv.msk _))
theorem rf_n_icmp_ge {o : Int} (ck : rf_cki nL own ini rt pc len (.if_icmp .ge o) a b c w z ts = true) (hd : decode cc pc = .ok (.if_icmp .ge o, len)) (hI : ∀ s', ks s' = some r → rf_Go l d cc own nL rt ini r X s') (h0 : rf_ins cal ms (pc + len) (.if_icmp .ge o) a b c z ts L st h some ks = some r) : rf_Go l d cc own nL rt ini r X (pc, L, st, h) := by
  simp only [rf_cki, Bool.and_eq_true, decide_eq_true_eq] at ck
  obtain ⟨rfl, c1⟩ := ck
  simp only [rf_ins] at h0
  obtain ⟨x, y, st, rfl, h1⟩ := rf_2I_inv h0
  refine rf_go_two (P := x < y) inferInstance (fun hp => hI _ (by rw [if_pos hp] at h1; exact h1)) (fun hp => hI _ (by rw [if_neg hp] at h1; exact h1)) (fun pu => ⟨pu.1.msk _, pu.1.msk _, (rf_okS_c.mp (rf_okS_c.mp pu.2.1).2).2⟩) (fun pu p e R s m args below meth c base ro dC dI cy n0 Q ls H locs cells slots FX lv k1 k2 => ?_)
  obtain ⟨hx, hb, hml, hown, htb, hnt, hK, hro, hz1, hz2, hao, hbs, hR1, hR2, hini⟩ := FX
  have oy := (rf_okS_c.mp pu.2.1).1
  have ox := (rf_okS_c.mp (rf_okS_c.mp pu.2.1).2).1
  have E := rf_vle oy ox
  exact lv_icmp_ge hx hb hd c1 (fun q => k2 (by have := E.mp q; omega) (lv.msk _)) (fun q => k1 (by by_cases u : x < y; exact u; exact absurd (E.mpr (by omega)) q) (lv.msk _))
theorem rf_n_icmp_gt {o : Int} (ck : rf_cki nL own ini rt pc len (.if_icmp .gt o) a b c w z ts = true) (hd : decode cc pc = .ok (.if_icmp .gt o, len)) (hI : ∀ s', ks s' = some r → rf_Go l d cc own nL rt ini r X s') (h0 : rf_ins cal ms (pc + len) (.if_icmp .gt o) a b c z ts L st h some ks = some r) : rf_Go l d cc own nL rt ini r X (pc, L, st, h) := by
  simp only [rf_cki, Bool.and_eq_true, decide_eq_true_eq] at ck
  obtain ⟨rfl, c1⟩ := ck
  simp only [rf_ins] at h0
  obtain ⟨x, y, st, rfl, h1⟩ := rf_2I_inv h0
  refine rf_go_two (P := y < x) inferInstance (fun hp => hI _ (by rw [if_pos hp] at h1; exact h1)) (fun hp => hI _ (by rw [if_neg hp] at h1; exact h1)) (fun pu => ⟨pu.1.msk _, pu.1.msk _, (rf_okS_c.mp (rf_okS_c.mp pu.2.1).2).2⟩) (fun pu p e R s m args below meth c base ro dC dI cy n0 Q ls H locs cells slots FX lv k1 k2 => ?_)
  obtain ⟨hx, hb, hml, hown, htb, hnt, hK, hro, hz1, hz2, hao, hbs, hR1, hR2, hini⟩ := FX
  have oy := (rf_okS_c.mp pu.2.1).1
  have ox := (rf_okS_c.mp (rf_okS_c.mp pu.2.1).2).1
  have E := rf_vlt oy ox
  exact lv_icmp_gt hx hb hd c1 (fun q => k1 (E.mp q) (lv.msk _)) (fun q => k2 (fun w => q (E.mpr w)) (lv.msk _))
theorem rf_n_icmp_le {o : Int} (ck : rf_cki nL own ini rt pc len (.if_icmp .le o) a b c w z ts = true) (hd : decode cc pc = .ok (.if_icmp .le o, len)) (hI : ∀ s', ks s' = some r → rf_Go l d cc own nL rt ini r X s') (h0 : rf_ins cal ms (pc + len) (.if_icmp .le o) a b c z ts L st h some ks = some r) : rf_Go l d cc own nL rt ini r X (pc, L, st, h) := by
  simp only [rf_cki, Bool.and_eq_true, decide_eq_true_eq] at ck
  obtain ⟨rfl, c1⟩ := ck
  simp only [rf_ins] at h0
  obtain ⟨x, y, st, rfl, h1⟩ := rf_2I_inv h0
  refine rf_go_two (P := y < x) inferInstance (fun hp => hI _ (by rw [if_pos hp] at h1; exact h1)) (fun hp => hI _ (by rw [if_neg hp] at h1; exact h1)) (fun pu => ⟨pu.1.msk _, pu.1.msk _, (rf_okS_c.mp (rf_okS_c.mp pu.2.1).2).2⟩) (fun pu p e R s m args below meth c base ro dC dI cy n0 Q ls H locs cells slots FX lv k1 k2 => ?_)
  obtain ⟨hx, hb, hml, hown, htb, hnt, hK, hro, hz1, hz2, hao, hbs, hR1, hR2, hini⟩ := FX
  have oy := (rf_okS_c.mp pu.2.1).1
  have ox := (rf_okS_c.mp (rf_okS_c.mp pu.2.1).2).1
  have E := rf_vle ox oy
  exact lv_icmp_le hx hb hd c1 (fun q => k2 (by have := E.mp q; omega) (lv.msk _)) (fun q => k1 (by by_cases u : y < x; exact u; exact absurd (E.mpr (by omega)) q) (lv.msk _))
theorem rf_n_ifnull {o : Int} (ck : rf_cki nL own ini rt pc len (.ifnull o) a b c w z ts = true) (hd : decode cc pc = .ok (.ifnull o, len)) (hI : ∀ s', ks s' = some r → rf_Go l d cc own nL rt ini r X s') (h0 : rf_ins cal ms (pc + len) (.ifnull o) a b c z ts L st h some ks = some r) : rf_Go l d cc own nL rt ini r X (pc, L, st, h) := by
  simp only [rf_cki, Bool.and_eq_true, decide_eq_true_eq] at ck
  obtain ⟨rfl, c1⟩ := ck
  simp only [rf_ins] at h0
  obtain ⟨x, st, rfl, h0⟩ := rf_1R_inv h0
  cases x with
  | none =>
    refine rf_go_same (hI _ h0) (fun pu => ?_) (fun pu p e R s m args below meth c base ro dC dI cy n0 Q ls H locs cells slots FX lv hP hS k => ?_)
    · exact ⟨pu.1.msk _, (rf_okS_c.mp pu.2.1).2⟩
    · obtain ⟨hx, hb, hml, hown, htb, hnt, hK, hro, hz1, hz2, hao, hbs, hR1, hR2, hini⟩ := FX
      exact lv_ifnullN hx hb hd c1 (k ls (lv.msk _))
  | some x =>
    refine rf_go_same (hI _ h0) (fun pu => ?_) (fun pu p e R s m args below meth c base ro dC dI cy n0 Q ls H locs cells slots FX lv hP hS k => ?_)
    · exact ⟨pu.1.msk _, (rf_okS_c.mp pu.2.1).2⟩
    · obtain ⟨hx, hb, hml, hown, htb, hnt, hK, hro, hz1, hz2, hao, hbs, hR1, hR2, hini⟩ := FX
      exact lv_ifnull hx hb hd (k ls (lv.msk _))
theorem rf_n_ifnonnull {o : Int} (ck : rf_cki nL own ini rt pc len (.ifnonnull o) a b c w z ts = true) (hd : decode cc pc = .ok (.ifnonnull o, len)) (hI : ∀ s', ks s' = some r → rf_Go l d cc own nL rt ini r X s') (h0 : rf_ins cal ms (pc + len) (.ifnonnull o) a b c z ts L st h some ks = some r) : rf_Go l d cc own nL rt ini r X (pc, L, st, h) := by
  simp only [rf_cki, Bool.and_eq_true, decide_eq_true_eq] at ck
  obtain ⟨rfl, c1⟩ := ck
  simp only [rf_ins] at h0
  obtain ⟨x, st, rfl, h0⟩ := rf_1R_inv h0
  cases x with
  | none =>
    refine rf_go_same (hI _ h0) (fun pu => ?_) (fun pu p e R s m args below meth c base ro dC dI cy n0 Q ls H locs cells slots FX lv hP hS k => ?_)
    · exact ⟨pu.1.msk _, (rf_okS_c.mp pu.2.1).2⟩
    · obtain ⟨hx, hb, hml, hown, htb, hnt, hK, hro, hz1, hz2, hao, hbs, hR1, hR2, hini⟩ := FX
      exact lv_ifnonnullN hx hb hd (k ls (lv.msk _))
  | some x =>
    refine rf_go_same (hI _ h0) (fun pu => ?_) (fun pu p e R s m args below meth c base ro dC dI cy n0 Q ls H locs cells slots FX lv hP hS k => ?_)
    · exact ⟨pu.1.msk _, (rf_okS_c.mp pu.2.1).2⟩
    · obtain ⟨hx, hb, hml, hown, htb, hnt, hK, hro, hz1, hz2, hao, hbs, hR1, hR2, hini⟩ := FX
      exact lv_ifnonnull hx hb hd c1 (k ls (lv.msk _))
theorem rf_n_goto {o : Int} (ck : rf_cki nL own ini rt pc len (.goto o) a b c w z ts = true) (hd : decode cc pc = .ok (.goto o, len)) (hI : ∀ s', ks s' = some r → rf_Go l d cc own nL rt ini r X s') (h0 : rf_ins cal ms (pc + len) (.goto o) a b c z ts L st h some ks = some r) : rf_Go l d cc own nL rt ini r X (pc, L, st, h) := by
  simp only [rf_cki, Bool.and_eq_true, decide_eq_true_eq] at ck
  obtain ⟨rfl, c1⟩ := ck
  simp only [rf_ins] at h0
  refine rf_go_same (hI _ h0) (fun pu => ?_) (fun pu p e R s m args below meth c base ro dC dI cy n0 Q ls H locs cells slots FX lv hP hS k => ?_)
  · exact ⟨pu.1.msk _, pu.2.1⟩
  · obtain ⟨hx, hb, hml, hown, htb, hnt, hK, hro, hz1, hz2, hao, hbs, hR1, hR2, hini⟩ := FX
    exact lv_goto hx hb hd c1 (k ls (lv.msk _))
theorem rf_tsw_inv {x : Int} {go : Nat → Option rf_R} {dd : Nat} : ∀ {ts : List Nat} {lo : Int}, rf_tsw x lo ts dd go = some r → (∃ (i t : Nat), ts[i]? = some t ∧ x = lo + (i : Int) ∧ go t = some r) ∨ ((x < lo ∨ lo + (ts.length : Int) ≤ x) ∧ go dd = some r) := by
  intro ts
  induction ts with
  | nil => intro lo e; exact Or.inr ⟨by simp; omega, e⟩
  | cons t ts ih =>
    intro lo e
    have e' : (if x = lo then go t else rf_tsw x (lo + 1) ts dd go) = some r := e
    by_cases hx : x = lo
    · rw [if_pos hx] at e'
      exact Or.inl ⟨0, t, rfl, by omega, e'⟩
    · rw [if_neg hx] at e'
      rcases ih e' with ⟨i, t', h1, h2, h3⟩ | ⟨h1, h2⟩
      · exact Or.inl ⟨i + 1, t', by simpa using h1, by omega, h3⟩
      · exact Or.inr ⟨by simp only [List.length_cons]; omega, h2⟩
theorem rf_n_tableswitch {df lo hi : Int} {os : Array Int} (ck : rf_cki nL own ini rt pc len (.tableswitch df lo hi os) a b c w z ts = true) (hd : decode cc pc = .ok (.tableswitch df lo hi os, len)) (hI : ∀ s', ks s' = some r → rf_Go l d cc own nL rt ini r X s') (h0 : rf_ins cal ms (pc + len) (.tableswitch df lo hi os) a b c z ts L st h some ks = some r) : rf_Go l d cc own nL rt ini r X (pc, L, st, h) := by
  simp only [rf_cki, Bool.and_eq_true, decide_eq_true_eq] at ck
  obtain ⟨⟨c1, c2⟩, c3⟩ := ck
  simp only [rf_ins] at h0
  obtain ⟨x, st, rfl, h0⟩ := rf_1I_inv h0
  rcases rf_tsw_inv h0 with ⟨i, t, e1, e2, h0⟩ | ⟨e1, h0⟩
  · refine rf_go_same (hI _ h0) (fun pu => ?_) (fun pu p e R s m args below meth c base ro dC dI cy n0 Q ls H locs cells slots FX lv hP hS k => ?_)
    · exact ⟨pu.1.msk _, (rf_okS_c.mp pu.2.1).2⟩
    · obtain ⟨hx, hb, hml, hown, htb, hnt, hK, hro, hz1, hz2, hao, hbs, hR1, hR2, hini⟩ := FX
      have ox : rf_o32 x := (rf_okS_c.mp pu.2.1).1
      have hl := (List.getElem?_eq_some_iff.mp e1).1
      refine lv_tableIn (off := (t : Int) - (pc : Int)) (tgt := t) hx hb hd (by rw [rf_t32 ox]; omega) (by rw [rf_t32 ox]; omega) ?_ (by omega) (k ls (lv.msk _))
      rw [rf_t32 ox, show (x - lo).toNat = i by omega, ← Array.getElem?_toList, c3, List.getElem?_map, e1]
      rfl
  · refine rf_go_same (hI _ h0) (fun pu => ?_) (fun pu p e R s m args below meth c base ro dC dI cy n0 Q ls H locs cells slots FX lv hP hS k => ?_)
    · exact ⟨pu.1.msk _, (rf_okS_c.mp pu.2.1).2⟩
    · obtain ⟨hx, hb, hml, hown, htb, hnt, hK, hro, hz1, hz2, hao, hbs, hR1, hR2, hini⟩ := FX
      have ox : rf_o32 x := (rf_okS_c.mp pu.2.1).1
      exact lv_tableOut hx hb hd (by rw [rf_t32 ox]; omega) c1 (k ls (lv.msk _))
end RFH

