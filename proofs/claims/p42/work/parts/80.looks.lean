/-! What stands behind a train that is looked at; what a look leaves as it is. -/
def pq_TS (D : rf_D) : Prop := D 6 1 = 6 ∧ D 8 1 = 4 ∧ D 10 1 = 3
def pq_RS (D : rf_D) (s : Nat → Int) (W m : Int) : Prop := pq_TS D ∧ D 0 12 = 1 ∧ sp_hd s ∧ CR D 28 s W ∧ TR (D 43) s 0 ∧ sp_st m s ∧ (0 ≤ m ∧ m ≤ 100) ∧ s 36 ≤ W
def pq_FQ (D D' : rf_D) : Prop := (∀ a, a ≠ 0 → a ≠ 9 → a ≠ 11 → (a < 70 ∨ 77 ≤ a) → D' a = D a) ∧ D' 0 12 = D 0 12
theorem pq_FQ.rf (D : rf_D) : pq_FQ D D := ⟨fun _ _ _ _ _ => rfl, rfl⟩
theorem pq_FQ.tr {D D1 D2 : rf_D} (h : pq_FQ D D1) (g : pq_FQ D1 D2) : pq_FQ D D2 := ⟨fun a y1 y2 y3 y4 => (g.1 a y1 y2 y3 y4).trans (h.1 a y1 y2 y3 y4), g.2.trans h.2⟩
theorem pq_FQ.tl {D D1 : rf_D} (h : pq_FQ D D1) (v : Int) : pq_FQ D (wtl v D1) := ⟨fun a y1 y2 y3 y4 => by rw [wtl_n y1]; exact h.1 a y1 y2 y3 y4, by
  unfold wtl
  rw [rg_up_s, rg_ui_n (by decide)]
  exact h.2⟩
theorem pq_tl (D : rf_D) (v : Int) : wtl v D 0 13 = v := by
  unfold wtl
  rw [rg_up_s, rg_ui_s]
theorem pq_TS.fq {D D' : rf_D} (h : pq_TS D) (f : pq_FQ D D') : pq_TS D' := by
  unfold pq_TS
  rw [f.1 6 (by decide) (by decide) (by decide) (by decide), f.1 8 (by decide) (by decide) (by decide) (by decide), f.1 10 (by decide) (by decide) (by decide) (by decide)]
  exact h
theorem pq_RS.fq {D D' : rf_D} {s : Nat → Int} {W m : Int} (h : pq_RS D s W m) (f : pq_FQ D D') : pq_RS D' s W m := by
  obtain ⟨h1, h2, h3, h4, h5, h6, h7, h8⟩ := h
  refine ⟨h1.fq f, f.2.trans h2, h3, h4.of fun a _ _ => f.1 a (by omega) (by omega) (by omega) (by omega), ?_, h6, h7, h8⟩
  rw [f.1 43 (by decide) (by decide) (by decide) (by decide)]
  exact h5
section PQA
variable {X : rf_X} {D : rf_D} {s : Nat → Int} {W m : Int}
theorem pq_asked (d : Nat) : rf_call (d + 8) 105 [.inr (.inr (some 0))] (hp X D) = some (some (.inl (D 0 13)), hp X D) := by
  rw [rf_e_W_asked]
  try simp only [rg_gI_0, Int.reduceToNat, rg_kIs, rg_kLs, rg_kRs, rg_kVs, rg_nns, rg_bs, cond_true, cond_false]
theorem pq_upper (d : Nat) : rf_call (d + 8) 106 [.inr (.inr (some 0))] (hp X D) = some (some (.inr (.inl (D 0 14))), hp X D) := by
  rw [rf_e_W_upper]
  try simp only [rg_gI_0, Int.reduceToNat, rg_kIs, rg_kLs, rg_kRs, rg_kVs, rg_nns, rg_bs, cond_true, cond_false]
theorem pq_lower (d : Nat) : rf_call (d + 8) 107 [.inr (.inr (some 0))] (hp X D) = some (some (.inr (.inl (D 0 15))), hp X D) := by
  rw [rf_e_W_lower]
  try simp only [rg_gI_0, Int.reduceToNat, rg_kIs, rg_kLs, rg_kRs, rg_kVs, rg_nns, rg_bs, cond_true, cond_false]
theorem pq_count0 (d : Nat) : rf_call (d + 8) 108 [.inr (.inr (some 0)), .inl 0] (hp X D) = some (some (.inl (D 43 6)), hp X D) := by
  rw [rf_e_W_count, if_neg (by decide), if_pos (by decide)]
  try simp only [rg_hp1, rg_o_0, Int.reduceToNat, rg_kIs, rg_kLs, rg_kRs, rg_kVs, rg_nns, rg_bs, cond_true, cond_false]
  rw [rf_e_W_countFact, if_pos rfl]
  try simp only [rg_gR_0_10, rg_T_gI rg_tr_43, Int.reduceToNat, rg_kIs, rg_kLs, rg_kRs, rg_kVs, rg_nns, rg_bs, cond_true, cond_false]
theorem pq_count2 (d : Nat) : rf_call (d + 8) 108 [.inr (.inr (some 0)), .inl 2] (hp X D) = some (some (.inl (D 4 1)), hp X D) := by
  rw [rf_e_W_count, if_neg (by decide), if_pos (by decide)]
  try simp only [rg_hp1, rg_o_0, Int.reduceToNat, rg_kIs, rg_kLs, rg_kRs, rg_kVs, rg_nns, rg_bs, cond_true, cond_false]
  rw [rf_e_W_countFact, if_neg (by decide), if_neg (by decide), if_pos (by decide)]
  try simp only [rg_gR_0_3, rg_row_gI rg_row_4, Int.reduceToNat, rg_kIs, rg_kLs, rg_kRs, rg_kVs, rg_nns, rg_bs, cond_true, cond_false]
theorem pq_engine (h : pq_RS D s W m) (d : Nat) {w : Int} (w0 : 0 ≤ w) (w9 : w ≤ 9) : rf_call (d + 8) 75 [.inr (.inr (some 0)), .inl w] (hp X D) = some (some (.inl 1), hp X (wtl (en_v s w) D)) := by
  obtain ⟨-, h12, hd, hC, hT, st, hm, hW⟩ := h
  have v1 := rg_W_ef (X := X) hC hT st.2.2.2.1 st.2.2.2.2.1 (d + 6) w
  rw [rf_e_W_engine]
  try simp only [rg_gI_0, Int.reduceToNat, rg_kIs, rg_kLs, rg_kRs, rg_kVs, rg_nns, rg_bs, cond_true, cond_false]
  rw [if_neg (by omega), if_neg (by omega), if_pos (by omega)]
  try simp only [rg_hp1, rg_o_0, Int.reduceToNat, rg_kIs, rg_kLs, rg_kRs, rg_kVs, rg_nns, rg_bs, cond_true, cond_false]
  rw [v1]
  try simp only [rg_hp1, rg_o_0, Int.reduceToNat, rg_kIs, rg_kLs, rg_kRs, rg_kVs, rg_nns, rg_bs, cond_true, cond_false]
  rw [rg_W_tell]
  try simp only [Int.reduceToNat, rg_kIs, rg_kLs, rg_kRs, rg_kVs, rg_nns, rg_bs, cond_true, cond_false]
theorem pq_grip (h : pq_RS D s W m) (d : Nat) : ∃ v, rf_call (d + 8) 82 [.inr (.inr (some 0))] (hp X D) = some (some (.inl (sp_grip s (sp_rail s))), hp X (wtl v D)) := by
  obtain ⟨-, h12, hd, hC, hT, st, hm, hW⟩ := h
  have rl := sp_rail_02 hd st
  have w1 := rg_T_rail (X := X) (D := D) rg_tr_43 hC hd st (by omega) (d + 4) hT.2.2.2.1
  have w2 := rg_T_gripOn (X := X) (D := D) rg_tr_43 hC hd st (d + 5) (b := 1) rl.1 rl.2 hT.1.2.2
  have w3 := rg_T_gripOn (X := X) (D := D) rg_tr_43 hC hd st (d + 5) (b := D 43 9) rl.1 rl.2 hT.1.2.2
  rw [if_neg (by decide)] at w2
  rw [hT.2.1.1, sp_gripb hd st rl.1 rl.2] at w3
  generalize sp_bare s (sp_rail s) + 3 = v at w2
  refine ⟨v, ?_⟩
  rw [rf_e_W_grip]
  try simp only [rg_gI_0, Int.reduceToNat, rg_kIs, rg_kLs, rg_kRs, rg_kVs, rg_nns, rg_bs, cond_true, cond_false]
  rw [if_neg (by omega)]
  try simp only [rg_gR_0_10, rg_hp1, rg_tr_43.1, Int.reduceToNat, rg_kIs, rg_kLs, rg_kRs, rg_kVs, rg_nns, rg_bs, cond_true, cond_false]
  rw [w1]
  try simp only [rg_gR_0_10, rg_hp1, rg_tr_43.1, Int.reduceToNat, rg_kIs, rg_kLs, rg_kRs, rg_kVs, rg_nns, rg_bs, cond_true, cond_false]
  rw [w2]
  try simp only [rg_gR_0_10, rg_T_gI rg_tr_43, rg_hp1, rg_tr_43.1, Int.reduceToNat, rg_kIs, rg_kLs, rg_kRs, rg_kVs, rg_nns, rg_bs, cond_true, cond_false]
  rw [hT.2.1.1, w3]
  try simp only [rg_hp1, rg_o_0, Int.reduceToNat, rg_kIs, rg_kLs, rg_kRs, rg_kVs, rg_nns, rg_bs, cond_true, cond_false]
  rw [rg_W_tell]
  try simp only [Int.reduceToNat, rg_kIs, rg_kLs, rg_kRs, rg_kVs, rg_nns, rg_bs, cond_true, cond_false]
theorem pq_steam (h : pq_RS D s W m) (d : Nat) : ∃ v, rf_call (d + 8) 84 [.inr (.inr (some 0))] (hp X D) = some (some (.inl (if sp_grip s (sp_rail s) / 2 < 9 then sp_grip s (sp_rail s) / 2 else 9)), hp X (wtl v D)) := by
  obtain ⟨-, h12, hd, hC, hT, st, hm, hW⟩ := h
  have b33 := st.2.2.2.2.2.2.1
  have rl := sp_rail_02 hd st
  have w1 := rg_T_rail (X := X) (D := D) rg_tr_43 hC hd st (by omega) (d + 4) hT.2.2.2.1
  have w3 := rg_T_gripOn (X := X) (D := D) rg_tr_43 hC hd st (d + 5) (b := D 43 9) rl.1 rl.2 hT.1.2.2
  rw [hT.2.1.1, sp_gripb hd st rl.1 rl.2] at w3
  have gb := (sp_gb hd st rl.1 rl.2).2
  obtain ⟨a, hA⟩ : ∃ a : Int, a = (if s 33 + 1 < s 36 then s 33 + 1 else s 36) := ⟨_, rfl⟩
  have hA2 : 0 ≤ a ∧ a ≤ s 36 := by
    rw [hA]
    split <;> omega
  have L := sp_ld1 hd (n := a.toNat) (by omega)
  have w4 := rg_T_loadOf (X := X) (D := D) rg_tr_43 hC (d + 5) (n := a) hA2.1 (by omega) hT.2.1.2.1 st.2.2.2.2.1
  have x33 : rf_w (s 33 + 1) = s 33 + 1 := rg_w (by omega) (by omega)
  have xg : rf_w (Int.tdiv (sp_grip s (sp_rail s)) 2) = sp_grip s (sp_rail s) / 2 := by
    have e : Int.tdiv (sp_grip s (sp_rail s)) 2 = sp_grip s (sp_rail s) / 2 := Int.tdiv_eq_ediv_of_nonneg gb.1
    rw [e, rg_w (by omega) (by omega)]
  generalize hg : sp_grip s (sp_rail s) = g at w3 gb xg
  refine ⟨ls_v (sp_load s a.toNat), ?_⟩
  rw [rf_e_W_steam]
  try simp only [rg_gI_0, Int.reduceToNat, rg_kIs, rg_kLs, rg_kRs, rg_kVs, rg_nns, rg_bs, cond_true, cond_false]
  rw [if_neg (by omega)]
  try simp only [rg_gR_0_10, rg_T_gI rg_tr_43, Int.reduceToNat, rg_kIs, rg_kLs, rg_kRs, rg_kVs, rg_nns, rg_bs, cond_true, cond_false]
  rw [hT.2.2.1, hT.2.2.2.2.2, x33, rg_J_min]
  have eA : (if s 36 < s 33 + 1 then s 36 else s 33 + 1) = a := by
    rw [hA]
    split <;> split <;> omega
  rw [eA]
  try simp only [rg_gR_0_10, rg_hp1, rg_tr_43.1, Int.reduceToNat, rg_kIs, rg_kLs, rg_kRs, rg_kVs, rg_nns, rg_bs, cond_true, cond_false]
  rw [w4]
  try simp only [Int.reduceToNat, rg_kIs, rg_kLs, rg_kRs, rg_kVs, rg_nns, rg_bs, cond_true, cond_false]
  rw [rg_W_least (d + 6) L.1 L.2]
  try simp only [rg_gR_0_10, rg_hp1, rg_tr_43.1, Int.reduceToNat, rg_kIs, rg_kLs, rg_kRs, rg_kVs, rg_nns, rg_bs, cond_true, cond_false]
  rw [w1]
  try simp only [rg_gR_0_10, rg_T_gI rg_tr_43, rg_hp1, rg_tr_43.1, Int.reduceToNat, rg_kIs, rg_kLs, rg_kRs, rg_kVs, rg_nns, rg_bs, cond_true, cond_false]
  rw [hT.2.1.1, w3]
  try simp only [Int.reduceToNat, rg_kIs, rg_kLs, rg_kRs, rg_kVs, rg_nns, rg_bs, cond_true, cond_false]
  rw [xg, rg_J_min]
  try simp only [rg_hp1, rg_o_0, Int.reduceToNat, rg_kIs, rg_kLs, rg_kRs, rg_kVs, rg_nns, rg_bs, cond_true, cond_false]
  rw [rg_W_tell]
  try simp only [Int.reduceToNat, rg_kIs, rg_kLs, rg_kRs, rg_kVs, rg_nns, rg_bs, cond_true, cond_false]
theorem pq_would (h : pq_RS D s W m) (d : Nat) {a : Int} (a0 : 0 ≤ a) (a9 : a ≤ 9) : rf_call (d + 8) 85 [.inr (.inr (some 0)), .inl a] (hp X D) = some (some (.inl (sp_gives s a (sp_rail s)).1), hp X D) := by
  obtain ⟨-, h12, hd, hC, hT, st, hm, hW⟩ := h
  have rl := sp_rail_02 hd st
  have w1 := rg_T_rail (X := X) (D := D) rg_tr_43 hC hd st (by omega) (d + 4) hT.2.2.2.1
  have w2 := rg_T_comesOf (X := X) (D := D) rg_tr_43 hC hd hT st hW (d + 3) (st := a) (r := sp_rail s) a0 a9 rl.1 rl.2
  rw [rf_e_W_would, if_neg (by omega), if_neg (by omega)]
  try simp only [rg_gI_0, Int.reduceToNat, rg_kIs, rg_kLs, rg_kRs, rg_kVs, rg_nns, rg_bs, cond_true, cond_false]
  rw [if_neg (by omega)]
  try simp only [rg_gR_0_10, rg_hp1, rg_tr_43.1, Int.reduceToNat, rg_kIs, rg_kLs, rg_kRs, rg_kVs, rg_nns, rg_bs, cond_true, cond_false]
  rw [w1]
  try simp only [rg_hp1, rg_tr_43.1, Int.reduceToNat, rg_kIs, rg_kLs, rg_kRs, rg_kVs, rg_nns, rg_bs, cond_true, cond_false]
  rw [w2]
  try simp only [Int.reduceToNat, rg_kIs, rg_kLs, rg_kRs, rg_kVs, rg_nns, rg_bs, cond_true, cond_false]
theorem pq_bad (h : pq_RS D s W m) (d : Nat) {N : Nat} (hN : s 2 = ((N + 1 : Nat) : Int)) : rf_call (d + 8) 93 [.inr (.inr (some 0))] (hp X D) = some (some (.inl (ba_v s N).2), hp X (wtl (ba_v s N).1 D)) := by
  obtain ⟨-, h12, hd, hC, hT, st, hm, hW⟩ := h
  have rl := sp_rail_02 hd st
  have w1 := rg_T_rail (X := X) (D := D) rg_tr_43 hC hd st (by omega) (d + 4) hT.2.2.2.1
  have w3 := rg_T_gripOn (X := X) (D := D) rg_tr_43 hC hd st (d + 5) (b := D 43 9) rl.1 rl.2 hT.1.2.2
  rw [hT.2.1.1, sp_gripb hd st rl.1 rl.2] at w3
  have w4 := rg_W_bad_42 (X := X) hC hd hT st (by omega) (d + 4) hN N 0 (by omega)
  rw [rf_e_W_bad]
  try simp only [rg_gI_0, Int.reduceToNat, rg_kIs, rg_kLs, rg_kRs, rg_kVs, rg_nns, rg_bs, cond_true, cond_false]
  rw [if_neg (by omega)]
  try simp only [rg_gR_0_10, rg_T_gI rg_tr_43, rg_hp1, rg_tr_43.1, Int.reduceToNat, rg_kIs, rg_kLs, rg_kRs, rg_kVs, rg_nns, rg_bs, cond_true, cond_false]
  rw [w1]
  try simp only [rg_gR_0_10, rg_T_gI rg_tr_43, rg_hp1, rg_tr_43.1, Int.reduceToNat, rg_kIs, rg_kLs, rg_kRs, rg_kVs, rg_nns, rg_bs, cond_true, cond_false]
  rw [hT.2.1.1, w3]
  try simp only [Int.reduceToNat, rg_kIs, rg_kLs, rg_kRs, rg_kVs, rg_nns, rg_bs, cond_true, cond_false]
  rw [hT.2.2.2.1, ba_0 hd st]
  exact w4
end PQA
