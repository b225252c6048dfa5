theorem rf_wsM_good {u : Nat} (h : rf_lv u = true) : GoodIn rf_TB (rf_wsM (rf_mt u)) := by
  have hk := rf_okM_of h
  unfold rf_okM at hk
  simp only [Bool.and_eq_true, decide_eq_true_eq] at hk
  have hg : ∀ w : Cond, goodWord w = true → ((w.onTables && w.keeps) = true ∨ ∃ ty, w = .arrayClass ty) := by
    intro w hw
    have := goodIn_of (big := [w]) [w] (by simp [hw])
    exact (this w List.mem_cons_self).2
  intro w hw
  rcases List.mem_cons.mp hw with rfl | hw
  · exact ⟨rf_TB_of hk.2.1 rfl, hg _ rfl⟩
  · exact ⟨hw, hg _ (rf_TB_good w hw)⟩
section RFCALL
variable {p : Program} {l : Launch} {e : Env} {R : Room} {s : State} {m : MethodId} {args : Array Value} {below : List Frame} {meth : Method} {c : Code} {H : Heap} {locs : List Loc} {cells slots : Nat} {Q : State → Prop}
variable {d : Nat} {cc : ByteArray} {own : String} {pc nL : Nat} {rt : Option FieldType} {ini : Bool} {X : rf_X} {ls : Array Slot} {rest st0 : List Value} {base : Nat} {ro : Nat → Nat} {dC : Nat → ClassId} {dI : Nat → Nat → Nat} {cy : Nat → ClassId} {h : rf_H} {n0 z0 : Nat} {q : rf_R}
theorem rf_aft {av : Array Value} (hr : va_Run p l e R s m args below meth c H locs cells slots (q.2.1.length - h.1.length) (rf_sz q.2.1 - rf_sz h.1) (F0 m pc ls st0) rest (rf_Qc base ro dC dI cy q av) (fun a => base ≤ a)) (rel : rf_Rel base ro dC dI cy s n0 z0 h H locs cells slots) (l1 : h.1.length ≤ q.2.1.length) (l2 : rf_sz h.1 ≤ rf_sz q.2.1)
    (kk : ∀ H1 locs1 cells1 slots1, rf_Rel base ro dC dI cy s n0 z0 q.2 H1 locs1 cells1 slots1 → W p l e R s m args below meth c H1 locs1 cells1 slots1 Q (F0 m (pc + 3) ls ((q.1.map (rf_cv (rf_ad base ro))).toList ++ rest))) : W p l e R s m args below meth c H locs cells slots Q (F0 m pc ls st0) := by
  intro T hT X
  obtain ⟨v, st₀, t, T', L, h0, X', hL, e1, e2, ⟨hv, hP1, hz, hk⟩, st⟩ := hr T hT X
  cases hv
  rw [h0] at hz hk
  obtain ⟨hP, hS, r3, r4⟩ := rel
  obtain ⟨t2, a1, b1⟩ := kk T'.heap (locs ++ L) (cells + (q.2.1.length - h.1.length)) (slots + (rf_sz q.2.1 - rf_sz h.1)) ⟨by rw [e1]; exact hP1, ⟨Nat.le_trans hS.1 (by rw [e1]; exact hz), fun q h1 h2 => by rw [e1, hk q (Nat.lt_of_lt_of_le h1 hS.1) h2]; exact hS.2.1 q h1 h2, fun q hq => by
      rcases List.mem_append.mp hq with h | h
      · exact hS.2.2 q h
      · exact hL q h⟩, by omega, by omega⟩ T' rfl X'
  exact ⟨t2, st t2 a1, b1⟩
theorem rf_pre (as : List rf_V) (FX : rf_FX d cc own nL rt ini X p R s m args meth c base ro dC dI cy n0) (rel : rf_Rel base ro dC dI cy s n0 z0 h H locs cells slots) (hX : h.2.2.2 = X) (hz : H.size = base + h.1.length) : FrameBlind (va_Pc (as.map (rf_cv (rf_ad base ro))) (rf_B h.2.2.2 base ro dC dI cy h)) ∧ ∀ U : State, U.heap = H → s.WarmedH U.vm → va_Pc (as.map (rf_cv (rf_ad base ro))) (rf_B h.2.2.2 base ro dC dI cy h) (as.map (rf_cv (rf_ad base ro))).toArray U := by
  refine ⟨fun a U g mk q => ?_, fun U hU hW => ⟨rfl, ?_⟩⟩
  · obtain ⟨q1, g1, g2, g3, g4, g5, g6, g7, g8⟩ := q
    have hv : U.vm.Alike (U.calling g mk a).vm := Vm.Alike.refl _
    exact ⟨q1, fun w hw => va_tabs (u := U) (A := #[]) (rf_NT_tabs hw) rfl (g1 w hw), g2.moved hv, fun j hj => ⟨(g3 j hj).1.moved hv, (g3 j hj).2⟩, g4.moved hv, g5.moved hv, g6.moved hv, g7, g8⟩
  · obtain ⟨hx, hb, hml, hown, htb, hnt, hK, hro, hz1, hz2, hao, hbs, hR1, hR2, hini⟩ := FX
    obtain ⟨hP, hS, r3, r4⟩ := rel
    have hv : s.vm.Alike U.vm := hW.alike
    have hk : ∀ a : Nat, a < s.heap.size → ¬ base ≤ a → H[a]? = s.heap[a]? := hS.2.1
    rw [← hX] at hro
    refine ⟨fun w hw => rf_NT_warm hw hW (hnt w hw), hK.moved hv, fun j hj => ⟨?_, (hro j hj).2⟩, ?_, ?_, hao.moved hv, by rw [hU]; exact hz, by rw [hU]; exact hP⟩
    · rw [hU]
      exact ((hro j hj).1.kept (hk _ (by have := (hro j hj).2; omega) (by have := (hro j hj).2; omega))).moved hv
    · rw [hU]
      exact (hz1.kept hk).moved hv
    · rw [hU]
      exact (hz2.kept hk).moved hv
theorem rf_callB {u i : Nat} {q' : rf_H} (hu : rf_lv u = true) (FX : rf_FX d cc own nL rt ini X p R s m args meth c base ro dC dI cy n0) (hl : lw_tbl[i]? = some (.methodLink own pc (rf_mt u).1)) {b : Nat} (hb : (parseMethodDescriptor (rf_mt u).1.desc).map (fun d => d.parameters.length) = some b) :
    CallB R s args own pc (rf_mt u).1 (rf_mt u).2.1 (rf_mt u).2.2.1 (rf_mt u).2.2.2.1 (rf_wsM (rf_mt u)) (rf_rm d h q') (q'.1.length - h.1.length) (rf_sz q'.1 - rf_sz h.1) b := by
  have hk := rf_okM_of hu
  unfold rf_okM at hk
  simp only [Bool.and_eq_true, decide_eq_true_eq] at hk
  obtain ⟨hx, hb', hml, hown, htb, hnt, hK, hro, hz1, hz2, hao, hbs, hR1, hR2, hini⟩ := FX
  exact callB_of b htb (rf_wsM_good hu) rfl rfl rfl (htb _ (rf_TB_of hk.2.2.1 rfl)) (htb _ (rf_TB_of hl rfl)) ⟨hk.2.2.2.1.1, hk.2.2.2.1.2, hb⟩ ⟨by show d + 2 + 1 ≤ _; omega, by show 8 + ((rf_mt u).2.2.1 + 11) + 100 * (d + 2) ≤ _; omega⟩
theorem rf_callN {u i : Nat} {q' : rf_H} (hu : rf_lv u = true) (FX : rf_FX d cc own nL rt ini X p R s m args meth c base ro dC dI cy n0) (hl : lw_tbl[i]? = some (.methodLinkNest own pc (rf_mt u).1 "WheelsSlip")) {b : Nat} (hb : (parseMethodDescriptor (rf_mt u).1.desc).map (fun d => d.parameters.length) = some b) :
    va_CN R s args own pc (rf_mt u).1 "WheelsSlip" (rf_mt u).2.1 (rf_mt u).2.2.1 (rf_mt u).2.2.2.1 (rf_wsM (rf_mt u)) (rf_rm d h q') (q'.1.length - h.1.length) (rf_sz q'.1 - rf_sz h.1) b := by
  have hk := rf_okM_of hu
  unfold rf_okM at hk
  simp only [Bool.and_eq_true, decide_eq_true_eq] at hk
  obtain ⟨hx, hb', hml, hown, htb, hnt, hK, hro, hz1, hz2, hao, hbs, hR1, hR2, hini⟩ := FX
  exact va_cnB b htb (rf_wsM_good hu) rfl rfl rfl (hnt _ (rf_NT_of hl rfl)) (htb _ (rf_TB_of hk.2.2.1 rfl)) ⟨hk.2.2.2.1.1, hk.2.2.2.1.2, hb⟩ ⟨by show d + 2 + 1 ≤ _; omega, by show 8 + ((rf_mt u).2.2.1 + 11) + 100 * (d + 2) ≤ _; omega⟩
theorem rf_w_inst {u : Nat} (hu : rf_lv u = true) (hs : rf_sta u = false) (htb : ∀ w ∈ rf_TB, w.before args s = true) : (Cond.instanceMethod (rf_mt u).1).before args s = true ∧ ((rf_mt u).1.name = "<init>" ∨ (Cond.selects (rf_mt u).1.cls (rf_mt u).1 (rf_mt u).1).before args s = true) := by
  have hk := rf_okM_of hu
  unfold rf_okM at hk
  simp only [hs, cond_false, Bool.and_eq_true, Bool.or_eq_true, decide_eq_true_eq] at hk
  exact ⟨htb _ (rf_TB_of hk.2.2.2.2.1 rfl), hk.2.2.2.2.2.imp id fun q => htb _ (rf_TB_of q rfl)⟩
theorem rf_w_stat {u : Nat} (hu : rf_lv u = true) (hs : rf_sta u = true) (htb : ∀ w ∈ rf_TB, w.before args s = true) : (Cond.static (rf_mt u).1).before args s = true := by
  have hk := rf_okM_of hu
  unfold rf_okM at hk
  simp only [hs, cond_true, Bool.and_eq_true, Bool.or_eq_true, decide_eq_true_eq] at hk
  exact htb _ (rf_TB_of hk.2.2.2.2 rfl)
end RFCALL
section RFCL
variable {l : Launch} {d : Nat} {cc : ByteArray} {own : String} {nL : Nat} {rt : Option FieldType} {ini : Bool} {r : rf_R} {X : rf_X}
variable {cal : rf_C} {ms : List (Nat × List Bool)} {pc len a b c w : Nat} {z : Int} {ts : List Nat} {L : List (Option rf_V)} {st : List rf_V} {h : rf_H} {ks : rf_S → Option rf_R}
theorem rf_pop_inv : ∀ {n : Nat} {acc st as st' : List rf_V}, rf_pop n acc st = some (as, st') → ∃ xs : List rf_V, xs.length = n ∧ st = xs ++ st' ∧ as = xs.reverse ++ acc
  | 0, acc, st, as, st', e => by
    cases e
    exact ⟨[], rfl, rfl, rfl⟩
  | n + 1, acc, [], as, st', e => by cases e
  | n + 1, acc, v :: st, as, st', e => by
    have e : rf_pop n (v :: acc) st = some (as, st') := e
    obtain ⟨xs, h1, h2, h3⟩ := rf_pop_inv e
    exact ⟨v :: xs, by rw [List.length_cons, h1], by rw [h2]; rfl, by rw [h3, List.reverse_cons, List.append_assoc]; rfl⟩
theorem rf_ret_inv {c : Nat} {q : rf_R} {f : List rf_V → rf_H → Option rf_R} (e : rf_ret c q f = some r) : f q.1.toList q.2 = some r := by
  obtain ⟨q1, q2⟩ := q
  unfold rf_ret at e
  split at e
  · rcases q1 with _ | x | x | x <;> first | exact e | cases e
  · rcases q1 with _ | x | x | x <;> first | exact e | cases e
  · rcases q1 with _ | x | x | x <;> first | exact e | cases e
  · rcases q1 with _ | x | x | x <;> first | exact e | cases e
theorem rf_go_call {u c' : Nat} {as st' : List rf_V} {q : rf_R} (hcal : rf_Cal l d cal) (hu : rf_lv u = true) (hc : cal u as h = some q) (h0 : rf_ret c' q (fun v h' => ks (pc + 3, rf_msk (rf_look ms (pc + 3)) L, v ++ st', h')) = some r) (hI : ∀ s', ks s' = some r → rf_Go l d cc own nL rt ini r X s') (hst : ∀ v, v ∈ as ++ st' → v ∈ st)
    (hrun : rf_Pu X L st h → ∀ (p : Program) (e : Env) (R : Room) (s : State) (m : MethodId) (args : Array Value) (below : List Frame) (meth : Method) (c : Code) (base : Nat) (ro : Nat → Nat) (dC : Nat → ClassId) (dI : Nat → Nat → Nat) (cy : Nat → ClassId) (n0 z0 : Nat) (ls : Array Slot) (H : Heap) (locs : List Loc) (cells slots : Nat), rf_FX d cc own nL rt ini X p R s m args meth c base ro dC dI cy n0 → rf_lvR (rf_ad base ro) nL ls L → rf_Rel base ro dC dI cy s n0 z0 h H locs cells slots →
      Met l (rf_mt u).1 (rf_wsM (rf_mt u)) (rf_rm d h q.2) (va_Pc (as.map (rf_cv (rf_ad base ro))) (rf_B h.2.2.2 base ro dC dI cy h)) (rf_Qc base ro dC dI cy q) (q.2.1.length - h.1.length) (rf_sz q.2.1 - rf_sz h.1) (fun a => base ≤ a) →
      (FrameBlind (va_Pc (as.map (rf_cv (rf_ad base ro))) (rf_B h.2.2.2 base ro dC dI cy h)) ∧ ∀ U : State, U.heap = H → s.WarmedH U.vm → va_Pc (as.map (rf_cv (rf_ad base ro))) (rf_B h.2.2.2 base ro dC dI cy h) (as.map (rf_cv (rf_ad base ro))).toArray U) → (cells + (q.2.1.length - h.1.length) ≤ R.cells ∧ slots + (rf_sz q.2.1 - rf_sz h.1) ≤ R.slots) →
      va_Run p l e R s m args below meth c H locs cells slots (q.2.1.length - h.1.length) (rf_sz q.2.1 - rf_sz h.1) (F0 m pc ls (st.map (rf_cv (rf_ad base ro)))) (st'.map (rf_cv (rf_ad base ro))) (rf_Qc base ro dC dI cy q (as.map (rf_cv (rf_ad base ro))).toArray) (fun a => base ≤ a)) : rf_Go l d cc own nL rt ini r X (pc, L, st, h) := by
  intro pu
  have hok : ∀ v ∈ as, rf_ok v := fun v hv => pu.2.1 v (hst v (List.mem_append_left _ hv))
  obtain ⟨⟨l1, l2, okq, okv, xq⟩, con⟩ := hcal u as h q hu hc hok pu.2.2.1
  have h0 := rf_ret_inv h0
  refine rf_go_heap (hI _ h0) (fun pu => ⟨pu.1.msk _, fun v hv => ?_, okq, xq.trans pu.2.2.2⟩) ⟨l1, l2⟩ (fun pu p e R s m args below meth c base ro dC dI cy n0 z0 Q ls H locs cells slots FX lv rel hR3 hR4 k => ?_) pu
  · rcases List.mem_append.mp hv with g | g
    · exact okv v (Option.mem_toList.mp g)
    · exact pu.2.1 v (hst v (List.mem_append_right _ g))
  · have r3 := rel.2.2.1
    have r4 := rel.2.2.2
    have hbs : s.heap.size = base + n0 := FX.2.2.2.2.2.2.2.2.2.2.2.1
    refine rf_Wsize hbs rel.1 rel.2.1 r3 fun hz => ?_
    refine rf_aft (hrun pu p e R s m args below meth c base ro dC dI cy n0 z0 ls H locs cells slots FX lv rel (con base ro dC dI cy) (rf_pre as FX rel pu.2.2.2 hz) ⟨by omega, by omega⟩) rel l1 l2 fun H1 locs1 cells1 slots1 rel' => ?_
    have kk := k H1 locs1 cells1 slots1 (lv.msk _) rel'
    rw [List.map_append] at kk
    have he : (q.1.toList.map (rf_cv (rf_ad base ro))) = (q.1.map (rf_cv (rf_ad base ro))).toList := by cases q.1 <;> rfl
    rw [he] at kk
    exact kk
theorem rf_ckI_of {q u b c : Nat} (ck : rf_ckI own q w u b c = true) : rf_lv u = true ∧ (parseMethodDescriptor (rf_mt u).1.desc).map (fun d => d.parameters.length) = some b ∧ rf_rk (rf_mt u).2.2.2.1 = c ∧ (lw_tbl[w]? = some (.methodLink own q (rf_mt u).1) ∨ lw_tbl[w]? = some (.methodLinkNest own q (rf_mt u).1 "WheelsSlip")) := by
  unfold rf_ckI at ck
  simp only [Bool.and_eq_true, Bool.or_eq_true, decide_eq_true_eq] at ck
  exact ⟨ck.1.1.1, ck.1.1.2, ck.1.2, ck.2⟩
theorem rf_rev_map {ad : Nat → Nat} {as : List rf_V} : (as.map (rf_cv ad)).reverse = as.reverse.map (rf_cv ad) := List.map_reverse.symm
theorem rf_n_invokevirtual {q : Nat} (hcal : rf_Cal l d cal) (hsta : rf_sta a = false) (c4 : ¬ (rf_mt a).1.name = "<init>") (ck : rf_cki nL own ini rt pc len (.invokevirtual q) a b c w z ts = true) (hd : decode cc pc = .ok (.invokevirtual q, len)) (hI : ∀ s', ks s' = some r → rf_Go l d cc own nL rt ini r X s') (h0 : rf_ins cal ms (pc + len) (.invokevirtual q) a b c z ts L st h some ks = some r) : rf_Go l d cc own nL rt ini r X (pc, L, st, h) := by
  simp only [rf_cki, Bool.and_eq_true, decide_eq_true_eq] at ck
  obtain ⟨⟨⟨rfl, c1⟩, c2⟩, c3⟩ := ck
  obtain ⟨hu, hb1, -, hl⟩ := rf_ckI_of c3
  simp only [rf_ins] at h0
  unfold rf_inv at h0
  split at h0
  · rename_i as rr st' hpop
    obtain ⟨k0, rfl, h1⟩ := rf_nn_inv h0
    clear h0
    obtain ⟨hc, h2⟩ := rf_bif_inv h1
    clear h1
    have hc := Nat.le_of_ble_eq_true hc
    obtain ⟨hO, h3⟩ := rf_bif_inv h2
    clear h2
    have hs := rf_isO_sh hO
    obtain ⟨q', hq, h0⟩ := rf_bd_inv h3
    obtain ⟨xs, x1, x2, x3⟩ := rf_pop_inv hpop
    rw [List.append_nil] at x3
    subst x2
    have hxs : xs = as.reverse := by rw [x3, List.reverse_reverse]
    subst hxs
    refine rf_go_call hcal hu hq h0 hI (fun v hv => ?_) (fun pu p e R s m args below meth c base ro dC dI cy n0 z0 ls H locs cells slots FX lv rel con pre rms => ?_)
    · simp only [List.cons_append, List.mem_cons, List.mem_append, List.mem_reverse] at hv ⊢
      rcases hv with h | h | h
      · exact Or.inr (Or.inl h)
      · exact Or.inl h
      · exact Or.inr (Or.inr h)
    · have hk := rf_klt pu.2.2.1 hs
      obtain ⟨hx, hb, hml, hown, htb, hnt, hK, hro, hz1, hz2, hao, hbs, hR1, hR2, hini⟩ := id FX
      have hin := rf_w_inst hu hsta htb
      have hsel : (Cond.selects (rf_R' z.toNat) (rf_mt a).1 (rf_mt a).1).before args s = true ∨ (rf_mt a).1.name = "<init>" := by rw [← c2]; exact hin.2.symm
      have hrec := va_recv hK rel.1 (rf_cl_at c1) (rf_he hs)
      have hstk : (as.reverse ++ .inr (.inr (some k0)) :: st').map (rf_cv (rf_ad base ro)) = (as.map (rf_cv (rf_ad base ro))).reverse ++ .ref (base + k0) :: st'.map (rf_cv (rf_ad base ro)) := by rw [List.map_append, List.map_cons, rf_had hk, rf_rev_map]
      have e0 : ((.inr (.inr (some k0)) :: as : List rf_V).map (rf_cv (rf_ad base ro))) = .ref (base + k0) :: as.map (rf_cv (rf_ad base ro)) := by rw [List.map_cons, rf_had hk]
      rw [e0] at con pre ⊢
      have hlen : (as.map (rf_cv (rf_ad base ro))).length = b := by rw [List.length_map, ← x1, List.length_reverse]
      have hsum : 2 * 0 + ((st'.map (rf_cv (rf_ad base ro))).map fun v => v.category).sum ≤ 8 := by rw [rf_cat_sum]; omega
      have hsel : (Cond.selects (rf_R' z.toNat) (rf_mt a).1 (rf_mt a).1).before args s = true := by
        rcases hsel with q | q
        · exact q
        · exact absurd q c4
      rcases hl with hl | hl
      · exact va_runV ⟨hx, hb, hml, hown, htb⟩ con ⟨rf_callB hu FX hl hb1, hin.1, hsel⟩ ⟨pre.1, hrec, pre.2⟩ rfl hlen lv.1 hstk hsum hd rms
      · exact va_runVN ⟨hx, hb, hml, hown, htb⟩ con ⟨rf_callN hu FX hl hb1, hin.1, hsel⟩ ⟨pre.1, hrec, pre.2⟩ rfl hlen lv.1 hstk hsum hd rms
  · cases h0
theorem rf_n_invokespecial {q : Nat} (hcal : rf_Cal l d cal) (hsta : c ≠ 9 → rf_sta a = false) (ck : rf_cki nL own ini rt pc len (.invokespecial q) a b c w z ts = true) (hd : decode cc pc = .ok (.invokespecial q, len)) (hI : ∀ s', ks s' = some r → rf_Go l d cc own nL rt ini r X s') (h0 : rf_ins cal ms (pc + len) (.invokespecial q) a b c z ts L st h some ks = some r) : rf_Go l d cc own nL rt ini r X (pc, L, st, h) := by
  simp only [rf_cki, Bool.and_eq_true, decide_eq_true_eq] at ck
  obtain ⟨rfl, ck⟩ := ck
  by_cases h9 : c = 9
  · subst h9
    simp only [if_true, decide_eq_true_eq] at ck
    simp only [rf_ins] at h0
    obtain ⟨x, st, rfl, h0⟩ := rf_1R_inv h0
    obtain ⟨k0, rfl, h0⟩ := rf_nn_inv h0
    obtain ⟨hc, h0⟩ := rf_bif_inv h0
    have hc := Nat.le_of_ble_eq_true hc
    refine rf_go_same (hI _ h0) (fun pu => ?_) (fun pu p e R s m args below meth c base ro dC dI cy n0 Q ls H locs cells slots FX lv hP hS k => ?_)
    · exact ⟨pu.1.msk _, (rf_okS_c.mp pu.2.1).2⟩
    · obtain ⟨hx, hb, hml, hown, htb, hnt, hK, hro, hz1, hz2, hao, hbs, hR1, hR2, hini⟩ := FX
      refine W.objInit hx hb hown (htb _ (rf_TB_of ck rfl)) (htb _ rf_tb_oi.1) (htb _ rf_tb_oi.2) rfl (lv.1.trans hml.symm) rfl hd (by omega) (by show 2 * 0 + _ + 12 ≤ _; rw [rf_cat_sum]; omega) (k ls (lv.msk _))
  · simp only [if_neg h9, Bool.and_eq_true, decide_eq_true_eq] at ck
    obtain ⟨⟨⟨⟨⟨c1, c2⟩, rfl⟩, c4⟩, c5⟩, c3⟩ := ck
    obtain ⟨hu, hb1, -, hl⟩ := rf_ckI_of c3
    simp only [rf_ins] at h0
    unfold rf_inv at h0
    split at h0
    · rename_i as rr st' hpop
      obtain ⟨k0, rfl, h1⟩ := rf_nn_inv h0
      clear h0
      obtain ⟨hc, h2⟩ := rf_bif_inv h1
      clear h1
      have hc := Nat.le_of_ble_eq_true hc
      obtain ⟨hO, h3⟩ := rf_bif_inv h2
      clear h2
      have hs := rf_isO_sh hO
      obtain ⟨q', hq, h0⟩ := rf_bd_inv h3
      obtain ⟨xs, x1, x2, x3⟩ := rf_pop_inv hpop
      rw [List.append_nil] at x3
      subst x2
      have hxs : xs = as.reverse := by rw [x3, List.reverse_reverse]
      subst hxs
      refine rf_go_call hcal hu hq h0 hI (fun v hv => ?_) (fun pu p e R s m args below meth c base ro dC dI cy n0 z0 ls H locs cells slots FX lv rel con pre rms => ?_)
      · simp only [List.cons_append, List.mem_cons, List.mem_append, List.mem_reverse] at hv ⊢
        rcases hv with h | h | h
        · exact Or.inr (Or.inl h)
        · exact Or.inl h
        · exact Or.inr (Or.inr h)
      · have hk := rf_klt pu.2.2.1 hs
        obtain ⟨hx, hb, hml, hown, htb, hnt, hK, hro, hz1, hz2, hao, hbs, hR1, hR2, hini⟩ := id FX
        have hin := rf_w_inst hu (hsta h9) htb
        have hstk : (as.reverse ++ .inr (.inr (some k0)) :: st').map (rf_cv (rf_ad base ro)) = (as.map (rf_cv (rf_ad base ro))).reverse ++ .ref (base + k0) :: st'.map (rf_cv (rf_ad base ro)) := by rw [List.map_append, List.map_cons, rf_had hk, rf_rev_map]
        have e0 : ((.inr (.inr (some k0)) :: as : List rf_V).map (rf_cv (rf_ad base ro))) = .ref (base + k0) :: as.map (rf_cv (rf_ad base ro)) := by rw [List.map_cons, rf_had hk]
        rw [e0] at con pre ⊢
        have hlen : (as.map (rf_cv (rf_ad base ro))).length = b := by rw [List.length_map, ← x1, List.length_reverse]
        have hsum : 2 * 0 + ((st'.map (rf_cv (rf_ad base ro))).map fun v => v.category).sum ≤ 8 := by rw [rf_cat_sum]; omega
        rcases hl with hl | hl
        · have cB := rf_callB (q' := q'.2) (h := h) hu FX hl hb1
          rw [c5] at cB
          exact va_runI ⟨hx, hb, hml, hown, htb⟩ con ⟨cB, c4, hin.1⟩ pre rfl hlen lv.1 hstk hsum hd rms
        · have cB := rf_callN (q' := q'.2) (h := h) hu FX hl hb1
          rw [c5] at cB
          exact va_runIN ⟨hx, hb, hml, hown, htb⟩ con ⟨cB, c4, hin.1⟩ pre rfl hlen lv.1 hstk hsum hd rms
    · cases h0
theorem rf_n_invokestatic {q : Nat} (hcal : rf_Cal l d cal) (hsta : c ≠ 9 → rf_sta a = true) (ck : rf_cki nL own ini rt pc len (.invokestatic q) a b c w z ts = true) (hd : decode cc pc = .ok (.invokestatic q, len)) (hI : ∀ s', ks s' = some r → rf_Go l d cc own nL rt ini r X s') (h0 : rf_ins cal ms (pc + len) (.invokestatic q) a b c z ts L st h some ks = some r) : rf_Go l d cc own nL rt ini r X (pc, L, st, h) := by
  by_cases h9 : c = 9
  · subst h9
    exact rf_n_arraycopy ck hd hI h0
  · simp only [rf_cki, if_neg h9, Bool.and_eq_true, decide_eq_true_eq] at ck
    obtain ⟨rfl, c3⟩ := ck
    obtain ⟨hu, hb1, -, hl⟩ := rf_ckI_of c3
    simp only [rf_ins] at h0
    split at h0
    · rename_i as st' hpop
      obtain ⟨hc, h2⟩ := rf_bif_inv h0
      clear h0
      have hc := Nat.le_of_ble_eq_true hc
      obtain ⟨q', hq, h0⟩ := rf_bd_inv h2
      obtain ⟨xs, x1, x2, x3⟩ := rf_pop_inv hpop
      rw [List.append_nil] at x3
      subst x2
      have hxs : xs = as.reverse := by rw [x3, List.reverse_reverse]
      subst hxs
      refine rf_go_call hcal hu hq h0 hI (fun v hv => ?_) (fun pu p e R s m args below meth c base ro dC dI cy n0 z0 ls H locs cells slots FX lv rel con pre rms => ?_)
      · simp only [List.mem_append, List.mem_reverse] at hv ⊢
        exact hv
      · obtain ⟨hx, hb, hml, hown, htb, hnt, hK, hro, hz1, hz2, hao, hbs, hR1, hR2, hini⟩ := id FX
        have hin := rf_w_stat hu (hsta h9) htb
        have hstk : (as.reverse ++ st').map (rf_cv (rf_ad base ro)) = (as.map (rf_cv (rf_ad base ro))).reverse ++ st'.map (rf_cv (rf_ad base ro)) := by rw [List.map_append, rf_rev_map]
        have hlen : (as.map (rf_cv (rf_ad base ro))).length = b := by rw [List.length_map, ← x1, List.length_reverse]
        have hsum : 2 * 0 + ((st'.map (rf_cv (rf_ad base ro))).map fun v => v.category).sum ≤ 8 := by rw [rf_cat_sum]; omega
        rcases hl with hl | hl
        · exact va_runS ⟨hx, hb, hml, hown, htb⟩ con ⟨rf_callB hu FX hl hb1, hin⟩ pre rfl hlen lv.1 hstk hsum hd rms
        · exact va_runSN ⟨hx, hb, hml, hown, htb⟩ con ⟨rf_callN hu FX hl hb1, hin, trivial⟩ pre rfl hlen lv.1 hstk hsum hd rms
    · cases h0
end RFCL
