/-! A body runs soundly; so does a call. -/
section RFRUN
variable {l : Launch} {d : Nat} {cc : ByteArray} {own : String} {nL : Nat} {rt : Option FieldType} {ini : Bool} {r : rf_R} {X : rf_X}
variable {cal : rf_C} {ms : List (Nat × List Bool)} {pc len a b c w : Nat} {z : Int} {ts : List Nat} {L : List (Option rf_V)} {st : List rf_V} {h : rf_H} {ks : rf_S → Option rf_R}
theorem rf_go_ret {i : ClassFile.Instr} {v : Option rf_V} (hd : decode cc pc = .ok (i, 1)) (hk : rf_rtk rt i v) (e : r = (v, h)) (hst : st = v.toList) : rf_Go l d cc own nL rt ini r X (pc, L, st, h) := by
  subst e; subst hst
  intro pu
  refine ⟨⟨Nat.le_refl _, Nat.le_refl _, pu.2.2.1, fun w hw => pu.2.1 w (Option.mem_toList.mpr hw), pu.2.2.2⟩, ?_⟩
  intro p e R s m args below meth c base ro dC dI cy n0 z0 Q FX QX hR1 hR2 ls H locs cells slots lv rel
  exact QX pc i ls H locs cells slots hd hk rel
theorem rf_n_ireturn (ck : rf_cki nL own ini rt pc len .ireturn a b c w z ts = true) (hd : decode cc pc = .ok (.ireturn, len)) (h0 : rf_ins cal ms (pc + len) .ireturn a b c z ts L st h some ks = some r) : rf_Go l d cc own nL rt ini r X (pc, L, st, h) := by
  simp only [rf_cki, Bool.and_eq_true, Bool.or_eq_true, decide_eq_true_eq] at ck
  obtain ⟨rfl, ck⟩ := ck
  rcases st with _ | ⟨x | x | x, _ | ⟨y, st⟩⟩ <;> try (cases (show (none : Option rf_R) = some r from h0); done)
  rcases ck with ⟨rfl, hr⟩ | ⟨rfl, hr⟩
  · cases (show some (some (.inl x), h) = some r from h0)
    exact rf_go_ret (v := some (.inl x)) hd ⟨rfl, Or.inl hr⟩ rfl rfl
  · obtain ⟨hx, h0⟩ := rf_if_inv (show (if x = 0 ∨ x = 1 then some (some (.inl x), h) else none) = some r from h0)
    cases h0
    exact rf_go_ret (v := some (.inl x)) hd ⟨rfl, Or.inr ⟨hr, hx⟩⟩ rfl rfl
theorem rf_n_lreturn (ck : rf_cki nL own ini rt pc len .lreturn a b c w z ts = true) (hd : decode cc pc = .ok (.lreturn, len)) (h0 : rf_ins cal ms (pc + len) .lreturn a b c z ts L st h some ks = some r) : rf_Go l d cc own nL rt ini r X (pc, L, st, h) := by
  simp only [rf_cki, Bool.and_eq_true, Bool.or_eq_true, decide_eq_true_eq] at ck
  obtain ⟨rfl, ck⟩ := ck
  rcases st with _ | ⟨x | x | x, _ | ⟨y, st⟩⟩ <;> try (cases (show (none : Option rf_R) = some r from h0); done)
  cases (show some (some (.inr (.inl x)), h) = some r from h0)
  exact rf_go_ret (v := some (.inr (.inl x))) hd ⟨rfl, ck⟩ rfl rfl
theorem rf_n_areturn (ck : rf_cki nL own ini rt pc len .areturn a b c w z ts = true) (hd : decode cc pc = .ok (.areturn, len)) (h0 : rf_ins cal ms (pc + len) .areturn a b c z ts L st h some ks = some r) : rf_Go l d cc own nL rt ini r X (pc, L, st, h) := by
  simp only [rf_cki, Bool.and_eq_true, Bool.or_eq_true, decide_eq_true_eq] at ck
  obtain ⟨rfl, ck⟩ := ck
  rcases st with _ | ⟨x | x | x, _ | ⟨y, st⟩⟩ <;> try (cases (show (none : Option rf_R) = some r from h0); done)
  cases (show some (some (.inr (.inr x)), h) = some r from h0)
  exact rf_go_ret (v := some (.inr (.inr x))) hd ⟨rfl, ck⟩ rfl rfl
theorem rf_n_return_ (ck : rf_cki nL own ini rt pc len .return_ a b c w z ts = true) (hd : decode cc pc = .ok (.return_, len)) (h0 : rf_ins cal ms (pc + len) .return_ a b c z ts L st h some ks = some r) : rf_Go l d cc own nL rt ini r X (pc, L, st, h) := by
  simp only [rf_cki, Bool.and_eq_true, Bool.or_eq_true, decide_eq_true_eq] at ck
  obtain ⟨rfl, ck⟩ := ck
  rcases st with _ | ⟨y, st⟩ <;> try (cases (show (none : Option rf_R) = some r from h0); done)
  cases (show some (none, h) = some r from h0)
  exact rf_go_ret (v := none) hd ⟨rfl, ck⟩ rfl rfl
def rf_ckx (i : ClassFile.Instr) (a c : Nat) : Bool := match i with
  | .invokevirtual _ => !(rf_sta a) && decide ((rf_mt a).1.name ≠ "<init>")
  | .invokespecial _ => decide (c = 9) || !(rf_sta a)
  | .invokestatic _ => decide (c = 9) || rf_sta a
  | _ => true
set_option maxHeartbeats 4000000 in
theorem rf_n_all {i : ClassFile.Instr} (hcal : rf_Cal l d cal) (ckx : rf_ckx i a c = true) (ck : rf_cki nL own ini rt pc len i a b c w z ts = true) (hd : decode cc pc = .ok (i, len)) (hI : ∀ s', ks s' = some r → rf_Go l d cc own nL rt ini r X s') (h0 : rf_ins cal ms (pc + len) i a b c z ts L st h some ks = some r) : rf_Go l d cc own nL rt ini r X (pc, L, st, h) := by
  cases i
  case iconst => exact rf_n_iconst ck hd hI h0
  case bipush => exact rf_n_bipush ck hd hI h0
  case sipush => exact rf_n_sipush ck hd hI h0
  case ldc => exact rf_n_ldc ck hd hI h0
  case ldc_w => exact rf_n_ldc_w ck hd hI h0
  case ldc2_w => exact rf_n_ldc2_w ck hd hI h0
  case lconst => exact rf_n_lconst ck hd hI h0
  case aconst_null => exact rf_n_aconst_null ck hd hI h0
  case iload_n => exact rf_n_iload_n ck hd hI h0
  case iload => exact rf_n_iload ck hd hI h0
  case lload_n => exact rf_n_lload_n ck hd hI h0
  case lload => exact rf_n_lload ck hd hI h0
  case aload_n => exact rf_n_aload_n ck hd hI h0
  case aload => exact rf_n_aload ck hd hI h0
  case istore_n => exact rf_n_istore_n ck hd hI h0
  case istore => exact rf_n_istore ck hd hI h0
  case lstore_n => exact rf_n_lstore_n ck hd hI h0
  case lstore => exact rf_n_lstore ck hd hI h0
  case astore_n => exact rf_n_astore_n ck hd hI h0
  case astore => exact rf_n_astore ck hd hI h0
  case iinc => exact rf_n_iinc ck hd hI h0
  case iadd => exact rf_n_iadd ck hd hI h0
  case isub => exact rf_n_isub ck hd hI h0
  case imul => exact rf_n_imul ck hd hI h0
  case iand => exact rf_n_iand ck hd hI h0
  case ior => exact rf_n_ior ck hd hI h0
  case ixor => exact rf_n_ixor ck hd hI h0
  case ishl => exact rf_n_ishl ck hd hI h0
  case ishr => exact rf_n_ishr ck hd hI h0
  case iushr => exact rf_n_iushr ck hd hI h0
  case ladd => exact rf_n_ladd ck hd hI h0
  case lsub => exact rf_n_lsub ck hd hI h0
  case lmul => exact rf_n_lmul ck hd hI h0
  case idiv => exact rf_n_idiv ck hd hI h0
  case irem => exact rf_n_irem ck hd hI h0
  case ldiv => exact rf_n_ldiv ck hd hI h0
  case lrem => exact rf_n_lrem ck hd hI h0
  case i2l => exact rf_n_i2l ck hd hI h0
  case l2i => exact rf_n_l2i ck hd hI h0
  case i2b => exact rf_n_i2b ck hd hI h0
  case lcmp => exact rf_n_lcmp ck hd hI h0
  case dup => exact rf_n_dup ck hd hI h0
  case pop => exact rf_n_pop ck hd hI h0
  case dup2 => exact rf_n_dup2 ck hd hI h0
  case ifnull => exact rf_n_ifnull ck hd hI h0
  case ifnonnull => exact rf_n_ifnonnull ck hd hI h0
  case goto => exact rf_n_goto ck hd hI h0
  case tableswitch => exact rf_n_tableswitch ck hd hI h0
  case getfield => exact rf_n_getfield ck hd hI h0
  case putfield => exact rf_n_putfield ck hd hI h0
  case getstatic => exact rf_n_getstatic ck hd hI h0
  case arraylength => exact rf_n_arraylength ck hd hI h0
  case iaload => exact rf_n_iaload ck hd hI h0
  case baload => exact rf_n_baload ck hd hI h0
  case aaload => exact rf_n_aaload ck hd hI h0
  case iastore => exact rf_n_iastore ck hd hI h0
  case bastore => exact rf_n_bastore ck hd hI h0
  case aastore => exact rf_n_aastore ck hd hI h0
  case new => exact rf_n_new ck hd hI h0
  case newarray => exact rf_n_newarray ck hd hI h0
  case anewarray => exact rf_n_anewarray ck hd hI h0
  case ifCond o _ => cases o <;> first | exact rf_n_if_eq ck hd hI h0 | exact rf_n_if_ne ck hd hI h0 | exact rf_n_if_lt ck hd hI h0 | exact rf_n_if_ge ck hd hI h0 | exact rf_n_if_gt ck hd hI h0 | exact rf_n_if_le ck hd hI h0
  case if_icmp o _ => cases o <;> first | exact rf_n_icmp_eq ck hd hI h0 | exact rf_n_icmp_ne ck hd hI h0 | exact rf_n_icmp_lt ck hd hI h0 | exact rf_n_icmp_ge ck hd hI h0 | exact rf_n_icmp_gt ck hd hI h0 | exact rf_n_icmp_le ck hd hI h0
  case ireturn => exact rf_n_ireturn ck hd h0
  case lreturn => exact rf_n_lreturn ck hd h0
  case areturn => exact rf_n_areturn ck hd h0
  case return_ => exact rf_n_return_ ck hd h0
  case invokevirtual q =>
    simp only [rf_ckx, Bool.and_eq_true, Bool.not_eq_true', decide_eq_true_eq] at ckx
    exact rf_n_invokevirtual hcal ckx.1 ckx.2 ck hd hI h0
  case invokespecial q =>
    simp only [rf_ckx, Bool.or_eq_true, Bool.not_eq_true', decide_eq_true_eq] at ckx
    exact rf_n_invokespecial hcal (fun g => ckx.resolve_left g) ck hd hI h0
  case invokestatic q =>
    simp only [rf_ckx, Bool.or_eq_true, decide_eq_true_eq] at ckx
    exact rf_n_invokestatic hcal (fun g => ckx.resolve_left g) ck hd hI h0
  all_goals (cases (show (none : Option rf_R) = some r from h0))
theorem rf_find_mem {t : List rf_E} {pc : Nat} {q : ClassFile.Instr × Nat × (Nat × Nat × Nat × Nat) × Int × List Nat} (e : rf_find t pc = some q) : (pc, q) ∈ t := by
  induction t with
  | nil => cases e
  | cons x t ih =>
    have e : (bif Nat.beq x.1 pc then some x.2 else rf_find t pc) = some q := e
    cases hb : Nat.beq x.1 pc with
    | true =>
      rw [hb] at e
      cases e
      rw [← Nat.eq_of_beq_eq_true hb]
      exact List.mem_cons_self
    | false =>
      rw [hb] at e
      exact List.mem_cons_of_mem _ (ih e)
def rf_okE (M : rf_M) (q : rf_E) : Bool := rf_cke M.2.2.1 M.2.1 M.1.cls (decide (M.1.name = "<init>")) M.2.2.2.1 q && rf_ckx q.2.1 q.2.2.2.1.1 q.2.2.2.1.2.2.1
theorem rf_exec_go (hcal : rf_Cal l d cal) {M : rf_M} (hM : ∀ q ∈ M.2.2.2.2.1, rf_okE M q = true) : ∀ (n : Nat) (s : rf_S), rf_exec cal M n s = some r → rf_Go l d M.2.1 M.1.cls M.2.2.1 M.2.2.2.1 (decide (M.1.name = "<init>")) r X s
  | 0, s, h => by cases h
  | n + 1, (pc, L, st, h), h0 => by
    have h0 : rf_step cal M (pc, L, st, h) some (rf_exec cal M n) = some r := h0
    unfold rf_step at h0
    split at h0
    · rename_i i len a b c w z ts hf
      have hm := hM _ (rf_find_mem hf)
      unfold rf_okE at hm
      obtain ⟨h1, h2⟩ := Bool.and_eq_true_iff.mp hm
      obtain ⟨h3, h4⟩ := Bool.and_eq_true_iff.mp (show (decide (decode M.2.1 pc = .ok (i, len)) && rf_cki M.2.2.1 M.1.cls (decide (M.1.name = "<init>")) M.2.2.2.1 pc len i a b c w z ts) = true from h1)
      exact rf_n_all hcal h2 h4 (of_decide_eq_true h3) (fun s' hs => rf_exec_go hcal hM n s' hs) h0
    · cases h0
end RFRUN
/-! the start of a call -/
theorem rf_args_in {ad : Nat → Nat} : ∀ (as : List rf_V) (j i : Nat) (v : rf_V), rf_lget (rf_args as) i = some v → (j + i, rf_cv ad v) ∈ lv_args j (as.map (rf_cv ad))
  | [], j, i, v, h => by cases i <;> cases h
  | .inr (.inl x) :: t, j, i, v, h => by
    have h : rf_lget (some (.inr (.inl x)) :: none :: rf_args t) i = some v := h
    have hc : (rf_cv ad (.inr (.inl x))).category = 2 := (rf_cv_cat ad _).mpr ⟨x, rfl⟩
    rw [List.map_cons]
    unfold lv_args
    rw [if_pos hc]
    rcases i with _ | _ | i
    · cases h
      exact List.mem_cons_self
    · cases h
    · have := rf_args_in (ad := ad) t (j + 2) i v h
      rw [show j + 2 + i = j + (i + 1 + 1) by omega] at this
      exact List.mem_cons_of_mem _ this
  | .inl x :: t, j, i, v, h => by
    have h : rf_lget (some (.inl x) :: rf_args t) i = some v := h
    have hc : ¬ (rf_cv ad (.inl x)).category = 2 := fun q => by obtain ⟨z, hz⟩ := (rf_cv_cat ad _).mp q; cases hz
    rw [List.map_cons]
    unfold lv_args
    rw [if_neg hc]
    rcases i with _ | i
    · cases h
      exact List.mem_cons_self
    · have := rf_args_in (ad := ad) t (j + 1) i v h
      rw [show j + 1 + i = j + (i + 1) by omega] at this
      exact List.mem_cons_of_mem _ this
  | .inr (.inr x) :: t, j, i, v, h => by
    have h : rf_lget (some (.inr (.inr x)) :: rf_args t) i = some v := h
    have hc : ¬ (rf_cv ad (.inr (.inr x))).category = 2 := fun q => by obtain ⟨z, hz⟩ := (rf_cv_cat ad _).mp q; cases hz
    rw [List.map_cons]
    unfold lv_args
    rw [if_neg hc]
    rcases i with _ | i
    · cases h
      exact List.mem_cons_self
    · have := rf_args_in (ad := ad) t (j + 1) i v h
      rw [show j + 1 + i = j + (i + 1) by omega] at this
      exact List.mem_cons_of_mem _ this
theorem rf_args_ok : ∀ (as : List rf_V) (i : Nat) (v : rf_V), rf_lget (rf_args as) i = some v → v ∈ as
  | [], i, v, h => by cases i <;> cases h
  | .inr (.inl x) :: t, i, v, h => by
    have h : rf_lget (some (.inr (.inl x)) :: none :: rf_args t) i = some v := h
    rcases i with _ | _ | i
    · cases h
      exact List.mem_cons_self
    · cases h
    · exact List.mem_cons_of_mem _ (rf_args_ok t i v h)
  | .inl x :: t, i, v, h => by
    have h : rf_lget (some (.inl x) :: rf_args t) i = some v := h
    rcases i with _ | i
    · cases h
      exact List.mem_cons_self
    · exact List.mem_cons_of_mem _ (rf_args_ok t i v h)
  | .inr (.inr x) :: t, i, v, h => by
    have h : rf_lget (some (.inr (.inr x)) :: rf_args t) i = some v := h
    rcases i with _ | i
    · cases h
      exact List.mem_cons_self
    · exact List.mem_cons_of_mem _ (rf_args_ok t i v h)
theorem rf_args_len {ad : Nat → Nat} : ∀ (as : List rf_V), (lg_sl (as.map (rf_cv ad))).length = (rf_args as).length
  | [] => rfl
  | .inr (.inl x) :: t => by
    have hc : (rf_cv ad (.inr (.inl x))).category = 2 := (rf_cv_cat ad _).mpr ⟨x, rfl⟩
    have ih := rf_args_len (ad := ad) t
    unfold lg_sl at ih ⊢
    rw [List.map_cons, List.flatMap_cons, if_pos hc, List.length_append, ih]
    show 2 + _ = (rf_args t).length + 1 + 1
    omega
  | .inl x :: t => by
    have hc : ¬ (rf_cv ad (.inl x)).category = 2 := fun q => by obtain ⟨z, hz⟩ := (rf_cv_cat ad _).mp q; cases hz
    have ih := rf_args_len (ad := ad) t
    unfold lg_sl at ih ⊢
    rw [List.map_cons, List.flatMap_cons, if_neg hc, List.length_append, ih]
    show 1 + _ = (rf_args t).length + 1
    omega
  | .inr (.inr x) :: t => by
    have hc : ¬ (rf_cv ad (.inr (.inr x))).category = 2 := fun q => by obtain ⟨z, hz⟩ := (rf_cv_cat ad _).mp q; cases hz
    have ih := rf_args_len (ad := ad) t
    unfold lg_sl at ih ⊢
    rw [List.map_cons, List.flatMap_cons, if_neg hc, List.length_append, ih]
    show 1 + _ = (rf_args t).length + 1
    omega
theorem rf_fill_get : ∀ (n : Nat) (L : List (Option rf_V)) (i : Nat) (v : rf_V), rf_lget (rf_fill n L) i = some v → rf_lget L i = some v
  | 0, L, i, v, h => by cases i <;> cases h
  | n + 1, [], i, v, h => by
    cases i with
    | zero => cases h
    | succ i =>
      have := rf_fill_get n [] i v h
      cases i <;> cases this
  | n + 1, x :: L, i, v, h => by
    cases i with
    | zero => exact h
    | succ i => exact rf_fill_get n L i v h
theorem rf_fill_len : ∀ (n : Nat) (L : List (Option rf_V)), (rf_fill n L).length = n
  | 0, L => by cases L <;> rfl
  | n + 1, [] => by
    show (rf_fill n []).length + 1 = n + 1
    rw [rf_fill_len n []]
  | n + 1, x :: L => by
    show (rf_fill n L).length + 1 = n + 1
    rw [rf_fill_len n L]
theorem rf_lv_start {ad : Nat → Nat} {n : Nat} {as : List rf_V} (hlen : (rf_args as).length ≤ n) (b : List Bool) : rf_lvR ad n ((lg_sl (as.map (rf_cv ad)) ++ List.replicate (n - (lg_sl (as.map (rf_cv ad))).length) Slot.unset).toArray) (rf_msk b (rf_fill n (rf_args as))) := by
  have hl := lv_entry (as.map (rf_cv ad)) (n := n) (by rw [rf_args_len]; exact hlen)
  refine ⟨hl.1, hl.2.1, by rw [rf_msk_len, rf_fill_len], fun i v hv => ?_⟩
  have h1 := rf_args_in (ad := ad) as 0 i v (rf_fill_get _ _ _ _ (rf_msk_get hv))
  rw [Nat.zero_add] at h1
  exact hl.2.2 _ h1
theorem rf_okL_start {n : Nat} {as : List rf_V} (ho : ∀ v ∈ as, rf_ok v) (b : List Bool) : rf_okL (rf_msk b (rf_fill n (rf_args as))) := fun i v hv => ho v (rf_args_ok as i v (rf_fill_get _ _ _ _ (rf_msk_get hv)))
set_option maxHeartbeats 4000000 in
theorem rf_con_of {l : Launch} {d : Nat} {M : rf_M} {as : List rf_V} {h : rf_H} {q : rf_R} (hpl : plainFor M.1 = true) (hlen : (rf_args as).length ≤ M.2.2.1) (hok : ∀ v ∈ as, rf_ok v) (hh : rf_okH h) (b : List Bool)
    (go : rf_Go l d M.2.1 M.1.cls M.2.2.1 M.2.2.2.1 (decide (M.1.name = "<init>")) q h.2.2.2 (0, rf_msk b (rf_fill M.2.2.1 (rf_args as)), [], h)) : rf_P2 q h.2.2.2 h ∧ ∀ (base : Nat) (ro : Nat → Nat) (dC : Nat → ClassId) (dI : Nat → Nat → Nat) (cy : Nat → ClassId), Met l M.1 (rf_wsM M) (rf_rm (d + 1) h q.2) (va_Pc (as.map (rf_cv (rf_ad base ro))) (rf_B h.2.2.2 base ro dC dI cy h)) (rf_Qc base ro dC dI cy q) (q.2.1.length - h.1.length) (rf_sz q.2.1 - rf_sz h.1) (fun a => base ≤ a) := by
  obtain ⟨P2, WW⟩ := go ⟨rf_okL_start hok b, fun v hv => (by cases hv), hh, rfl⟩
  refine ⟨P2, fun base ro dC dI cy => ?_⟩
  refine va_MetF (cc := M.2.1) (maxL := M.2.2.1) (ret := M.2.2.2.1) hpl rfl ?_
  intro p e s m args below meth c s₁ B hml hv
  obtain ⟨rfl, hnt, hK, hro, hz1, hz2, hao, hsz, hP⟩ := hv
  have hx := B.exec
  have hb := B.bytes
  have hr := B.returns
  have hts := atoms_spec (ws := rf_wsM M) B.pre
  have hown : s.vm.findClass M.1.cls = some m.cls := findClass_of_methodNamed B.named
  have hlocks := B.notSynchronized
  have hnm := (name_of_methodNamed B.named B.method).1
  rw [lg_entry_eq]
  have lv := rf_lv_start (ad := rf_ad base ro) hlen b
  obtain ⟨l1, l2, -, -, -⟩ := P2
  refine WW p e _ s m _ below meth c base ro dC dI cy h.1.length (rf_sz h.1) _ ⟨hx, hb, hml, hown, fun w hw => hts w (List.mem_cons_of_mem _ hw), hnt, hK, hro, hz1, hz2, hao, hsz, by show d + 3 ≤ d + 1 + 2; omega, by show 100 * (d + 3) ≤ 100 * (d + 1 + 2); omega, fun g => hnm.trans (of_decide_eq_true g)⟩ ?_ (by show q.2.1.length ≤ q.2.1.length - h.1.length + h.1.length; omega) (by show rf_sz q.2.1 ≤ rf_sz q.2.1 - rf_sz h.1 + rf_sz h.1; omega) _ s.heap [] 0 0 lv ⟨hP, va_S.rf, Nat.zero_add _, Nat.zero_add _⟩
  intro pc i ls H locs cells slots hd hk rel
  obtain ⟨rP, rS, rc, rs⟩ := rel
  have e1 : q.2.1.length - h.1.length = cells := by omega
  have e2 : rf_sz q.2.1 - rf_sz h.1 = slots := by omega
  rw [e1, e2]
  obtain ⟨qv, qh⟩ := q
  rcases qv with _ | x | x | x
  · obtain ⟨rfl, hrt⟩ := hk
    rw [hrt] at hr
    exact W.vret hx hb hr (fun t ht hW => ⟨rfl, by rw [ht]; exact rP, rS.F ht⟩) rS.2.2 hd
  · obtain ⟨rfl, hrt⟩ := hk
    rcases hrt with hrt | ⟨hrt, hx01⟩
    · rw [hrt] at hr
      exact W.iret hx hb hr (fun t ht hW => ⟨rfl, by rw [ht]; exact rP, rS.F ht⟩) rS.2.2 hd
    · rw [hrt] at hr
      refine W.zret hx hb hr ?_ (fun t ht hW => ⟨rfl, by rw [ht]; exact rP, rS.F ht⟩) rS.2.2 hd
      rcases hx01 with rfl | rfl <;> rfl
  · obtain ⟨rfl, hrt⟩ := hk
    rw [hrt] at hr
    exact W.lret hx hb hr (fun t ht hW => ⟨rfl, by rw [ht]; exact rP, rS.F ht⟩) rS.2.2 hd
  · obtain ⟨rfl, hrt⟩ := hk
    rcases hrt with hrt | hrt
    · rw [hrt] at hr
      refine W.aret hx hb hr (Or.inl ⟨_, rfl⟩) ?_ (fun t ht hW => ⟨rfl, by rw [ht]; exact rP, rS.F ht⟩) rS.2.2 hd
      cases x with
      | none => exact Or.inl rfl
      | some k => exact Or.inr ⟨_, rfl⟩
    · rw [hrt] at hr
      refine W.aret hx hb hr (Or.inr ⟨_, rfl⟩) ?_ (fun t ht hW => ⟨rfl, by rw [ht]; exact rP, rS.F ht⟩) rS.2.2 hd
      cases x with
      | none => exact Or.inl rfl
      | some k => exact Or.inr ⟨_, rfl⟩
