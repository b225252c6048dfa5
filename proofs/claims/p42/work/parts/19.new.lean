set_option maxRecDepth 100000 in
theorem rf_tb_inst {c : Nat} (h : c < 5) : Cond.instantiable (rf_R' c) (rf_N c) ∈ rf_TB := by
  rcases c with _ | _ | _ | _ | _ | c
  · exact List.mem_filter.mpr ⟨by decide +kernel, rfl⟩
  · exact List.mem_filter.mpr ⟨by decide +kernel, rfl⟩
  · exact List.mem_filter.mpr ⟨by decide +kernel, rfl⟩
  · exact List.mem_filter.mpr ⟨by decide +kernel, rfl⟩
  · exact List.mem_filter.mpr ⟨by decide +kernel, rfl⟩
  · omega
set_option maxRecDepth 100000 in
theorem rf_tb_init {c : Nat} (h : c < 5) : Cond.initialized (rf_R' c) ∈ rf_TB := by
  rcases c with _ | _ | _ | _ | _ | c
  · exact List.mem_filter.mpr ⟨by decide +kernel, rfl⟩
  · exact List.mem_filter.mpr ⟨by decide +kernel, rfl⟩
  · exact List.mem_filter.mpr ⟨by decide +kernel, rfl⟩
  · exact List.mem_filter.mpr ⟨by decide +kernel, rfl⟩
  · exact List.mem_filter.mpr ⟨by decide +kernel, rfl⟩
  · omega
set_option maxRecDepth 100000 in
theorem rf_tb_arI : Cond.arrayClass .int ∈ rf_TB := List.mem_filter.mpr ⟨by decide +kernel, rfl⟩
set_option maxRecDepth 100000 in
theorem rf_tb_cp : Cond.native arraycopyName ∈ rf_TB ∧ Cond.static arraycopyName ∈ rf_TB ∧ Cond.initialized "java/lang/System" ∈ rf_TB := ⟨List.mem_filter.mpr ⟨by decide +kernel, rfl⟩, List.mem_filter.mpr ⟨by decide +kernel, rfl⟩, List.mem_filter.mpr ⟨by decide +kernel, rfl⟩⟩
set_option maxRecDepth 100000 in
theorem rf_tb_oi : Cond.instanceMethod Lib.objectInit ∈ rf_TB ∧ Cond.code Lib.objectInit ⟨#[0xb1]⟩ 1 none ∈ rf_TB := ⟨List.mem_filter.mpr ⟨by decide +kernel, rfl⟩, List.mem_filter.mpr ⟨by decide +kernel, rfl⟩⟩
theorem rf_cls_ra {c : Nat} (h : c < 5) : ∀ k, k < rf_N c → rf_ra (rf_ty c k) < 4 := by
  rcases c with _ | _ | _ | _ | _ | c
  · show ∀ k, k < 11 → _
    decide +kernel
  · show ∀ k, k < 1 → _
    decide +kernel
  · show ∀ k, k < 2 → _
    decide +kernel
  · show ∀ k, k < 12 → _
    decide +kernel
  · show ∀ k, k < 17 → _
    decide +kernel
  · omega
theorem rf_fv_df {ad : Nat → Nat} {t : FieldType} (h : rf_ra t < 4) : defaultValue t = rf_fv ad t 0 none := by
  cases t <;> first | rfl | exact absurd h (by decide)
section RFA
variable {l : Launch} {d : Nat} {cc : ByteArray} {own : String} {nL : Nat} {rt : Option FieldType} {ini : Bool} {r : rf_R} {X : rf_X}
variable {cal : rf_C} {ms : List (Nat × List Bool)} {pc len a b c w : Nat} {z : Int} {ts : List Nat} {L : List (Option rf_V)} {st : List rf_V} {h : rf_H} {ks : rf_S → Option rf_R}
theorem rf_okH.nw {h : rf_H} {x : rf_Sh} (H : rf_okH h) (hx : rf_okC x (fun _ => 0)) (hl : h.1.length < 1000000) : rf_okH (rf_nw h x) := by
  refine ⟨fun k y hk => ?_, H.2.1, ?_⟩
  · have hk : rf_sh (h.1 ++ [x]) k = some y := hk
    rw [rf_sh_get] at hk
    show rf_okC y (fun i => if k = h.1.length then 0 else h.2.1 k i)
    by_cases e : k = h.1.length
    · subst e
      rw [List.getElem?_append_right (Nat.le_refl _), Nat.sub_self] at hk
      cases hk
      simp only [if_true]
      exact hx
    · have hlt : k < h.1.length := by
        have q := (List.getElem?_eq_some_iff.mp hk).1
        rw [List.length_append] at q
        have q : k < h.1.length + 1 := q
        omega
      rw [List.getElem?_append_left hlt, ← rf_sh_get] at hk
      simp only [if_neg e]
      exact H.1 k y hk
  · show (h.1 ++ [x]).length ≤ 1000000
    rw [List.length_append]
    show h.1.length + 1 ≤ _
    omega
theorem rf_o64_0 : rf_o64 0 := by unfold rf_o64; omega
theorem rf_okC_c {c : Nat} (h : c < 5) : rf_okC (.inl c) (fun _ => 0) := by
  refine ⟨h, fun j _ => ?_⟩
  split
  · exact rf_o64_0
  · trivial
  · exact rf_o0
theorem rf_okC_a {t n : Nat} (h : n ≤ 100000) : rf_okC (.inr (t, n)) (fun _ => 0) := by
  rcases t with _ | _ | t
  · exact ⟨h, fun _ _ => rf_o0⟩
  · exact ⟨h, fun _ _ => rf_o0⟩
  · exact h
theorem rf_nw_len (h : rf_H) (x : rf_Sh) : (rf_nw h x).1.length = h.1.length + 1 := by
  show (h.1 ++ [x]).length = _
  rw [List.length_append]
  rfl
theorem rf_nw_sz (h : rf_H) (x : rf_Sh) : rf_sz (rf_nw h x).1 = rf_sz h.1 + rf_szS x := rf_sz_app _ _
theorem rf_grow {s : State} {base : Nat} {ro : Nat → Nat} {dC : Nat → ClassId} {dI : Nat → Nat → Nat} {cy : Nat → ClassId} {n0 z0 : Nat} {H H1 : Heap} {locs : List Loc} {cells slots : Nat} {x : rf_Sh} (rel : rf_Rel base ro dC dI cy s n0 z0 h H locs cells slots) (e1 : va_at (dC, dI) rf_cl (base + h.1.length, rf_en (rf_ad base ro) cy (rf_nw h x).2.1 (rf_nw h x).2.2.1 h.1.length x) H1) (z1 : H1.size = H.size + 1) (o1 : ∀ q : Nat, q < H.size → H1[q]? = H[q]?) : rf_Rel base ro dC dI cy s n0 z0 (rf_nw h x) H1 locs (cells + 1) (slots + rf_szS x) := by
  obtain ⟨hP, hS, h1, h2⟩ := rel
  refine ⟨?_, ⟨Nat.le_trans hS.1 (by omega), fun q h1 h2 => (o1 q (Nat.lt_of_lt_of_le h1 hS.1)).trans (hS.2.1 q h1 h2), hS.2.2⟩, ?_, ?_⟩
  · rw [← rf_ws_new (rf_ad base ro) cy base rfl]
    have hk : ∀ (k : Nat) (q : Nat × va_E), (rf_ws (rf_ad base ro) cy base h)[k]? = some q → H1[q.1]? = H[q.1]? := fun k q hq => o1 q.1 ((hP k q hq).lt)
    refine (hP.kept hk).app fun k q hq => ?_
    have hz : k < 1 := (List.getElem?_eq_some_iff.mp hq).1
    rw [show k = 0 by omega] at hq
    cases hq
    exact e1
  · rw [rf_nw_len]
    omega
  · rw [rf_nw_sz]
    omega
theorem rf_n_new {q : Nat} (ck : rf_cki nL own ini rt pc len (.new q) a b c w z ts = true) (hd : decode cc pc = .ok (.new q, len)) (hI : ∀ s', ks s' = some r → rf_Go l d cc own nL rt ini r X s') (h0 : rf_ins cal ms (pc + len) (.new q) a b c z ts L st h some ks = some r) : rf_Go l d cc own nL rt ini r X (pc, L, st, h) := by
  simp only [rf_cki, Bool.and_eq_true, decide_eq_true_eq] at ck
  obtain ⟨⟨rfl, c1⟩, c2⟩ := ck
  simp only [rf_ins] at h0
  obtain ⟨hl, h0⟩ := rf_if_inv h0
  refine rf_go_heap (hI _ h0) (fun pu => ?_) ?_ (fun pu p e R s m args below meth c base ro dC dI cy n0 z0 Q ls H locs cells slots FX lv rel hR3 hR4 k => ?_)
  · exact ⟨pu.1.msk _, rf_okS_c.mpr ⟨trivial, pu.2.1⟩, pu.2.2.1.nw (rf_okC_c c1) hl, pu.2.2.2⟩
  · exact ⟨by rw [rf_nw_len]; omega, by rw [rf_nw_sz]; omega⟩
  · obtain ⟨hx, hb, hml, hown, htb, hnt, hK, hro, hz1, hz2, hao, hbs, hR1, hR2, hini⟩ := FX
    rw [rf_nw_len] at hR3
    rw [rf_nw_sz] at hR4
    have hR4 : rf_sz h.1 + rf_N a ≤ R.slots + z0 := hR4
    have r3 := rel.2.2.1
    have r4 := rel.2.2.2
    refine rf_Wsize hbs rel.1 rel.2.1 r3 fun hz => ?_
    have hKn := hK.1 a _ (rf_cl_at c1)
    refine W.newcK (n := rf_N a) hx hb hown (htb _ (rf_TB_of c2 rfl)) (htb _ (rf_tb_inst c1)) (htb _ (rf_tb_init c1)) rfl hd (by omega) (by omega) hKn.2.1 rfl fun H1 kC hkC e1 z1 o1 => ?_
    have rel' := rf_grow (x := .inl a) rel ⟨_, rf_cl_at c1, (u_born (rf_ty a) (fun w hw => htb w (rf_cls_in c1 w hw)) (fun w hw => hw) hKn hkC (by rw [← hz]; exact e1) (rf_cls_ty c1)).to fun j hj => ?_⟩ z1 o1
    · have kk := k H1 locs (cells + 1) (slots + rf_N a) (lv.msk _) rel'
      rw [List.map_cons, rf_had hl, ← hz] at kk
      exact kk
    · show _ = (rf_fs _ a _ _ h.1.length).getD j .null
      rw [List.getD_eq_getElem?_getD, rf_fs_at hj]
      show _ = rf_fv _ _ (if h.1.length = h.1.length then 0 else _) (if h.1.length = h.1.length then none else _)
      rw [if_pos rfl, if_pos rfl]
      exact rf_fv_df (rf_cls_ra c1 j hj)
theorem rf_n_newarray {q : ClassFile.ArrayType} (ck : rf_cki nL own ini rt pc len (.newarray q) a b c w z ts = true) (hd : decode cc pc = .ok (.newarray q, len)) (hI : ∀ s', ks s' = some r → rf_Go l d cc own nL rt ini r X s') (h0 : rf_ins cal ms (pc + len) (.newarray q) a b c z ts L st h some ks = some r) : rf_Go l d cc own nL rt ini r X (pc, L, st, h) := by
  simp only [rf_cki, Bool.and_eq_true, Bool.or_eq_true, decide_eq_true_eq] at ck
  obtain ⟨rfl, rfl, rfl⟩ := ck
  · simp only [rf_ins] at h0
    obtain ⟨x, st, rfl, h0⟩ := rf_1I_inv h0
    obtain ⟨hl, h0⟩ := rf_if_inv h0
    refine rf_go_heap (hI _ h0) (fun pu => ?_) ?_ (fun pu p e R s m args below meth c base ro dC dI cy n0 z0 Q ls H locs cells slots FX lv rel hR3 hR4 k => ?_)
    · exact ⟨pu.1.msk _, rf_okS_c.mpr ⟨trivial, (rf_okS_c.mp pu.2.1).2⟩, pu.2.2.1.nw (rf_okC_a (by omega)) hl.2.2, pu.2.2.2⟩
    · exact ⟨by rw [rf_nw_len]; omega, by rw [rf_nw_sz]; omega⟩
    · obtain ⟨hx, hb, hml, hown, htb, hnt, hK, hro, hz1, hz2, hao, hbs, hR1, hR2, hini⟩ := FX
      rw [rf_nw_len] at hR3
      rw [rf_nw_sz] at hR4
      have hR4 : rf_sz h.1 + x.toNat ≤ R.slots + z0 := hR4
      have r3 := rel.2.2.1
      have r4 := rel.2.2.2
      have hv := rf_vn (rf_okS_c.mp pu.2.1).1 hl.1
      have hx2 : x.toNat ≤ 100000 := by omega
      refine rf_Wsize hbs rel.1 rel.2.1 r3 fun hz => ?_
      refine va_newaK (atype := .int) (N := x.toNat) hx hb (htb _ rf_tb_arI) rfl hd rfl hv.1 hv.2 (by show x.toNat * 4 ≤ _; omega) (by omega) (by omega) rfl fun H1 cA e1 z1 o1 hAr hNm => ?_
      have hcA : cA = cy 0 := Option.some.inj (hNm.symm.trans (hK.2 0 _ rfl).2)
      subst hcA
      have e2 : va_at (dC, dI) rf_cl (base + h.1.length, rf_en (rf_ad base ro) cy (rf_nw h (.inr (0, x.toNat))).2.1 (rf_nw h (.inr (0, x.toNat))).2.2.1 h.1.length (.inr (0, x.toNat))) H1 := by
        show H1[base + h.1.length]? = some (arrV (cy 0) x.toNat fun j => .int (Int32.ofInt (if h.1.length = h.1.length then 0 else h.2.1 h.1.length j)))
        simp only [if_true]
        rw [← hz]
        exact e1
      have rel' := rf_grow (x := .inr (0, x.toNat)) rel e2 z1 o1
      have kk := k H1 locs (cells + 1) (slots + x.toNat) (lv.msk _) rel'
      rw [List.map_cons, rf_had hl.2.2, ← hz] at kk
      exact kk
theorem rf_n_anewarray {q : Nat} (ck : rf_cki nL own ini rt pc len (.anewarray q) a b c w z ts = true) (hd : decode cc pc = .ok (.anewarray q, len)) (hI : ∀ s', ks s' = some r → rf_Go l d cc own nL rt ini r X s') (h0 : rf_ins cal ms (pc + len) (.anewarray q) a b c z ts L st h some ks = some r) : rf_Go l d cc own nL rt ini r X (pc, L, st, h) := by
  simp only [rf_cki, Bool.and_eq_true, decide_eq_true_eq] at ck
  obtain ⟨rfl, c2⟩ := ck
  simp only [rf_ins] at h0
  obtain ⟨x, st, rfl, h0⟩ := rf_1I_inv h0
  obtain ⟨hl, h0⟩ := rf_if_inv h0
  refine rf_go_heap (hI _ h0) (fun pu => ?_) ?_ (fun pu p e R s m args below meth c base ro dC dI cy n0 z0 Q ls H locs cells slots FX lv rel hR3 hR4 k => ?_)
  · exact ⟨pu.1.msk _, rf_okS_c.mpr ⟨trivial, (rf_okS_c.mp pu.2.1).2⟩, pu.2.2.1.nw (rf_okC_a (by omega)) hl.2.2, pu.2.2.2⟩
  · exact ⟨by rw [rf_nw_len]; omega, by rw [rf_nw_sz]; omega⟩
  · obtain ⟨hx, hb, hml, hown, htb, hnt, hK, hro, hz1, hz2, hao, hbs, hR1, hR2, hini⟩ := FX
    rw [rf_nw_len] at hR3
    rw [rf_nw_sz] at hR4
    have hR4 : rf_sz h.1 + x.toNat ≤ R.slots + z0 := hR4
    have r3 := rel.2.2.1
    have r4 := rel.2.2.2
    have hv := rf_vn (rf_okS_c.mp pu.2.1).1 hl.1
    have hx2 : x.toNat ≤ 100000 := by omega
    refine rf_Wsize hbs rel.1 rel.2.1 r3 fun hz => ?_
    refine W.anew hx hb hown (htb _ (rf_TB_of c2 rfl)) (va_AO.use hao) rfl hd rfl hv.1 (by rw [hv.2]; omega) (by omega) (by rw [hv.2]; omega) fun cA kA comp f1 f2 f3 f4 => ?_
    obtain ⟨kA', comp', g1, g2, g3, g4⟩ := (hK.2 2 _ rfl).2
    have hcA : cA = cy 2 := Option.some.inj (f1.symm.trans g4)
    subst hcA
    rw [hv.2]
    generalize hH1 : H.push ({ cls := cy 2, slots := Array.replicate x.toNat .null, vm := .none } : Cell) = H1
    have z1 : H1.size = H.size + 1 := by rw [← hH1, Array.size_push]
    have e1 : H1[H.size]? = some (arrV (cy 2) x.toNat (fun _ => .null)) := by rw [← hH1, Array.getElem?_push_size, ← arrV_new]
    have o1 : ∀ q : Nat, q < H.size → H1[q]? = H[q]? := fun q hq => by rw [← hH1, Array.getElem?_push, if_neg (Nat.ne_of_lt hq)]
    have e2 : va_at (dC, dI) rf_cl (base + h.1.length, rf_en (rf_ad base ro) cy (rf_nw h (.inr (2, x.toNat))).2.1 (rf_nw h (.inr (2, x.toNat))).2.2.1 h.1.length (.inr (2, x.toNat))) H1 := by
      show H1[base + h.1.length]? = some (arrV (cy 2) x.toNat fun j => va_rf ((if h.1.length = h.1.length then none else h.2.2.1 h.1.length j).map (rf_ad base ro)))
      simp only [if_true]
      rw [← hz]
      exact e1
    have rel' := rf_grow (x := .inr (2, x.toNat)) rel e2 z1 o1
    have kk := k H1 locs (cells + 1) (slots + x.toNat) (lv.msk _) rel'
    rw [List.map_cons, rf_had hl.2.2, ← hz] at kk
    exact kk
theorem rf_cat_sum (ad : Nat → Nat) (st : List rf_V) : ((st.map (rf_cv ad)).map fun v => v.category).sum = rf_cat st := by
  induction st with
  | nil => rfl
  | cons v t ih =>
    rw [List.map_cons, List.map_cons, List.sum_cons, ih]
    rcases v with x | x | x
    · show 1 + _ = rf_cat t + 1
      omega
    · show 2 + _ = rf_cat t + 2
      omega
    · have : (rf_cv ad (.inr (.inr x))).category = 1 := by cases x <;> rfl
      rw [this]
      show 1 + _ = rf_cat t + 1
      omega
theorem rf_okH.cp {h : rf_H} {a b la lb sp dp n : Nat} (H : rf_okH h) (ha : rf_sh h.1 a = some (.inr (0, la))) (hb : rf_sh h.1 b = some (.inr (0, lb))) (h1 : sp + n ≤ la) : rf_okH (h.1, rf_cpD h.2.1 a sp b dp n, h.2.2) := by
  refine ⟨fun k x hk => ?_, H.2⟩
  have h0 := H.1 k x hk
  by_cases e : k = b
  · subst e
    cases hb.symm.trans hk
    refine ⟨h0.1, fun j hj => ?_⟩
    show rf_o32 (if k = k ∧ dp ≤ j ∧ j < dp + n then h.2.1 a (sp + (j - dp)) else h.2.1 k j)
    split
    · rename_i q
      exact (H.1 a _ ha).2 _ (by omega)
    · exact h0.2 j hj
  · have e1 : rf_cpD h.2.1 a sp b dp n k = h.2.1 k := by
      funext j
      unfold rf_cpD
      rw [if_neg fun q => e q.1]
    show rf_okC x (rf_cpD h.2.1 a sp b dp n k)
    rw [e1]
    exact h0
theorem rf_okS_5 {v1 v2 v3 v4 v5 : rf_V} {st : List rf_V} (h : rf_okS (v1 :: v2 :: v3 :: v4 :: v5 :: st)) : rf_ok v1 ∧ rf_ok v2 ∧ rf_ok v4 ∧ rf_okS st := ⟨(rf_okS_2 h).1, (rf_okS_2 h).2.1, (rf_okS_2 (rf_okS_c.mp (rf_okS_2 h).2.2).2).1, (rf_okS_2 (rf_okS_c.mp (rf_okS_2 h).2.2).2).2.2⟩
theorem rf_nfw : nativeFrameWords "java/lang/System" "arraycopy" 5 = 7 := by decide +kernel
theorem rf_n_arraycopy {q : Nat} (ck : rf_cki nL own ini rt pc len (.invokestatic q) a b 9 w z ts = true) (hd : decode cc pc = .ok (.invokestatic q, len)) (hI : ∀ s', ks s' = some r → rf_Go l d cc own nL rt ini r X s') (h0 : rf_ins cal ms (pc + len) (.invokestatic q) a b 9 z ts L st h some ks = some r) : rf_Go l d cc own nL rt ini r X (pc, L, st, h) := by
  simp only [rf_cki, if_true, Bool.and_eq_true, decide_eq_true_eq] at ck
  obtain ⟨rfl, c1⟩ := ck
  simp only [rf_ins] at h0
  split at h0
  · rename_i n dp rb sp ra st
    obtain ⟨ka, rfl, h1⟩ := rf_nn_inv h0
    clear h0
    obtain ⟨kb, rfl, h2⟩ := rf_nn_inv h1
    clear h1
    obtain ⟨hc, h0⟩ := rf_bif_inv h2
    have hc := Nat.le_of_ble_eq_true hc
    obtain ⟨h', hg, h0⟩ := rf_bd_inv h0
    obtain ⟨la, lb, ha, hb1, hq, rfl⟩ := rf_cp_some hg
    refine rf_go_heap (hI _ h0) (fun pu => ?_) ?_ (fun pu p e R s m args below meth c base ro dC dI cy n0 z0 Q ls H locs cells slots FX lv rel hR3 hR4 k => ?_)
    · have o := rf_okS_5 pu.2.1
      exact ⟨pu.1.msk _, o.2.2.2, pu.2.2.1.cp ha hb1 (by omega), pu.2.2.2⟩
    · exact ⟨Nat.le_refl _, Nat.le_refl _⟩
    · obtain ⟨hx, hb, hml, hown, htb, hnt, hK, hro, hz1, hz2, hao, hbs, hR1, hR2, hini⟩ := FX
      have o := rf_okS_5 pu.2.1
      have hka := rf_klt pu.2.2.1 ha
      have hkb := rf_klt pu.2.2.1 hb1
      have v1 := rf_vn o.2.2.1 hq.1
      have v2 := rf_vn o.2.1 hq.2.1
      have v3 := rf_vn o.1 hq.2.2.1
      show W p l e R s m args below meth c H locs cells slots Q (F0 m pc ls (.int (Int32.ofInt n) :: .int (Int32.ofInt dp) :: rf_cv (rf_ad base ro) (.inr (.inr (some kb))) :: .int (Int32.ofInt sp) :: rf_cv (rf_ad base ro) (.inr (.inr (some ka))) :: st.map (rf_cv (rf_ad base ro))))
      rw [rf_had hka, rf_had hkb]
      refine va_copyi hx hb (hml.trans lv.1.symm) hown (htb _ (rf_TB_of c1 rfl)) (htb _ rf_tb_cp.1) (htb _ rf_tb_cp.2.1) (htb _ rf_tb_cp.2.2) hK rel.1 (rf_ws_D (rf_ad base ro) cy base (A := fun q => base ≤ q) (fun q h => h) h) rel.2.1 ka kb 0 0 (ty := .int) (rf_ha ha rfl) (rf_ha hb1 rfl) rfl rfl rfl v1.1 v2.1 v3.1 (by rw [v1.2, v3.2]; omega) (by rw [v2.2, v3.2]; omega) (fun i _ => rfl) (by omega) (by rw [rf_cat_sum, rf_nfw]; omega) hd fun H1 locs1 hP1 hD1 hS1 => k H1 locs1 _ _ (lv.msk _) ⟨?_, hS1, rel.2.2⟩
      have he : va_cpy (fun j => Int32.ofInt (h.2.1 ka j)) (fun j => Int32.ofInt (h.2.1 kb j)) sp.toNat dp.toNat n.toNat = fun j => Int32.ofInt (rf_cpD h.2.1 ka sp.toNat kb dp.toNat n.toNat kb j) := by
        funext j
        unfold va_cpy rf_cpD
        by_cases q : dp.toNat ≤ j ∧ j < dp.toNat + n.toNat
        · rw [if_pos q, if_pos ⟨rfl, q⟩]
        · rw [if_neg q, if_neg fun z => q z.2]
      rw [v1.2, v2.2, v3.2, he] at hP1
      exact Eq.mp (congrArg (fun w => va_P (dC, dI) rf_cl w H1) (rf_ws_set (h := h) (h' := (h.1, rf_cpD h.2.1 ka sp.toNat kb dp.toNat n.toNat, h.2.2)) _ _ _ rfl hb1 (fun q j hq => ⟨if_neg fun z => hq z.1, rfl⟩) rfl)) hP1
  · cases h0
end RFA
