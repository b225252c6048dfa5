section RFWH
variable {p : Program} {l : Launch} {e : Env} {R : Room} {s : State} {m : MethodId} {args : Array Value} {below : List Frame} {meth : Method} {c : Code} {H : Heap} {locs : List Loc} {cells slots : Nat} {Q : State → Prop}
variable {cc : ByteArray} {pc nL : Nat} {ls : Array Slot} {L : List (Option rf_V)} {rest : List Value} {base : Nat} {ro : Nat → Nat} {dC : Nat → ClassId} {dI : Nat → Nat → Nat} {cy : Nat → ClassId} {h h' : rf_H} {own : String} {n0 z0 : Nat}
theorem rf_had {k : Nat} (hk : k < 1000000) : rf_cv (rf_ad base ro) (.inr (.inr (some k))) = .ref (base + k) := by
  show va_rf (some (rf_ad base ro k)) = _
  unfold rf_ad
  rw [if_neg (by omega)]
  rfl
theorem rf_he {k a : Nat} (hs : rf_sh h.1 k = some (.inl a)) : (rf_ws (rf_ad base ro) cy base h)[k]? = some (base + k, .inr (a, rf_fs (rf_ad base ro) a h.2.1 h.2.2.1 k)) := by rw [rf_ws_get, hs]; rfl
theorem rf_fs_at {ad : Nat → Nat} {a b k : Nat} {D : rf_D} {P : rf_P} (hb : b < rf_N a) : (rf_fs ad a D P k)[b]? = some (rf_fv ad (rf_ty a b) (D k b) (P k b)) := by
  unfold rf_fs
  rw [List.getElem?_map, List.getElem?_range hb]
  rfl
theorem rf_fs_len {ad : Nat → Nat} {a k : Nat} {D : rf_D} {P : rf_P} : (rf_fs ad a D P k).length = rf_N a := by
  unfold rf_fs
  rw [List.length_map, List.length_range]
theorem rf_fs_set {ad : Nat → Nat} {a b k : Nat} {D D' : rf_D} {P P' : rf_P} (hb : b < rf_N a) {v : Value} (hv : v = rf_fv ad (rf_ty a b) (D' k b) (P' k b)) (ho : ∀ j, j ≠ b → D' k j = D k j ∧ P' k j = P k j) : (rf_fs ad a D P k).set b v = rf_fs ad a D' P' k := by
  apply List.ext_getElem?
  intro i
  by_cases hi : i = b
  · subst hi
    rw [List.getElem?_set_self (by rw [rf_fs_len]; exact hb), rf_fs_at hb, hv]
  · rw [List.getElem?_set_ne (Ne.symm hi)]
    rcases Nat.lt_or_ge i (rf_N a) with q | q
    · rw [rf_fs_at q, rf_fs_at q, (ho i hi).1, (ho i hi).2]
    · rw [List.getElem?_eq_none (by rw [rf_fs_len]; exact q), List.getElem?_eq_none (by rw [rf_fs_len]; exact q)]
theorem rf_w_get (hx : p.tables.exec = Jvm.exec) (hb : c.code = cc) (htb : ∀ w ∈ rf_TB, w.before args s = true) (hnt : ∀ w ∈ rf_NT, va_Nw w s) (hown : s.vm.findClass own = some m.cls) (hK : va_K (dC, dI) rf_cl (rf_tys cy) s) (hP : va_P (dC, dI) rf_cl (rf_ws (rf_ad base ro) cy base h) H)
    {k a b q w : Nat} (hs : rf_sh h.1 k = some (.inl a)) (ha : a < 5) (hbN : b < rf_N a) (hk : k < 1000000) (hl : lw_tbl[w]? = some (.fieldLink own q (rf_T a b).1 (rf_T a b).2.1 (rf_T a b).2.2.1) ∨ lw_tbl[w]? = some (.fieldLinkNest own q (rf_T a b).1 (rf_T a b).2.1 (rf_T a b).2.2.1 "WheelsSlip")) (hd : decode cc pc = .ok (.getfield q, 3))
    (kk : W p l e R s m args below meth c H locs cells slots Q (F0 m (pc + 3) ls (rf_fv (rf_ad base ro) (rf_ty a b) (h.2.1 k b) (h.2.2.1 k b) :: rest))) : W p l e R s m args below meth c H locs cells slots Q (F0 m pc ls (rf_cv (rf_ad base ro) (.inr (.inr (some k))) :: rest)) := by
  rw [rf_had hk]
  rcases hl with hl | hl
  · exact va_get hx hb (fun w hw => htb w (rf_cls_in ha w hw)) (fun w hw => hw) hown hK hP k (rf_he hs) (rf_cl_at ha) b hbN (htb _ (rf_TB_of hl rfl)) (fun x hx => hx) (rf_fs_at hbN) hd kk
  · exact va_getN hx hb (fun w hw => htb w (rf_cls_in ha w hw)) (fun w hw => hw) hown hK hP k (rf_he hs) (rf_cl_at ha) b hbN (va_Nw.use rfl (hnt _ (rf_NT_of hl rfl))) (fun x hx => hx) (rf_fs_at hbN) hd kk
theorem rf_w_put (hx : p.tables.exec = Jvm.exec) (hb : c.code = cc) (htb : ∀ w ∈ rf_TB, w.before args s = true) (hnt : ∀ w ∈ rf_NT, va_Nw w s) (hown : s.vm.findClass own = some m.cls) (hK : va_K (dC, dI) rf_cl (rf_tys cy) s) (hP : va_P (dC, dI) rf_cl (rf_ws (rf_ad base ro) cy base h) H) (hS : va_S (fun q => base ≤ q) s.heap H locs)
    {k a b q w : Nat} {ini : Bool} (hini : ini = true → meth.name = "<init>") (hs : rf_sh h.1 k = some (.inl a)) (ha : a < 5) (hbN : b < rf_N a) (hk : k < 1000000) {v : Value} (hn : narrow (rf_ty a b) v = v) (hf : fits (rf_ty a b) v = true)
    (hl : if (rf_T a b).2.2.2 = true then ini = true ∧ (rf_T a b).1 = own ∧ lw_tbl[w]? = some (.fieldLink own q (rf_T a b).1 (rf_T a b).2.1 (rf_T a b).2.2.1) else (lw_tbl[w]? = some (.fieldLink own q (rf_T a b).1 (rf_T a b).2.1 (rf_T a b).2.2.1) ∨ lw_tbl[w]? = some (.fieldLinkNest own q (rf_T a b).1 (rf_T a b).2.1 (rf_T a b).2.2.1 "WheelsSlip"))) (hd : decode cc pc = .ok (.putfield q, 3))
    (hT : h'.1 = h.1) (ho : ∀ q j, q ≠ k → h'.2.1 q j = h.2.1 q j ∧ h'.2.2.1 q j = h.2.2.1 q j) (hv : v = rf_fv (rf_ad base ro) (rf_ty a b) (h'.2.1 k b) (h'.2.2.1 k b)) (ho2 : ∀ j, j ≠ b → h'.2.1 k j = h.2.1 k j ∧ h'.2.2.1 k j = h.2.2.1 k j)
    (kk : ∀ H1 locs1, va_P (dC, dI) rf_cl (rf_ws (rf_ad base ro) cy base h') H1 → va_S (fun q => base ≤ q) s.heap H1 locs1 → W p l e R s m args below meth c H1 locs1 cells slots Q (F0 m (pc + 3) ls rest)) : W p l e R s m args below meth c H locs cells slots Q (F0 m pc ls (v :: rf_cv (rf_ad base ro) (.inr (.inr (some k))) :: rest)) := by
  rw [rf_had hk]
  have hset : (rf_ws (rf_ad base ro) cy base h).set k (base + k, .inr (a, (rf_fs (rf_ad base ro) a h.2.1 h.2.2.1 k).set b v)) = rf_ws (rf_ad base ro) cy base h' := rf_ws_set _ _ _ hT hs ho (by rw [rf_fs_set hbN hv ho2]; rfl)
  have hD := rf_ws_D (rf_ad base ro) cy base (A := fun q => base ≤ q) (fun q h => h) h
  have hlen : b < (rf_fs (rf_ad base ro) a h.2.1 h.2.2.1 k).length := by rw [rf_fs_len]; exact hbN
  by_cases hfin : (rf_T a b).2.2.2 = true
  · rw [if_pos hfin] at hl
    obtain ⟨h1, h2, h3⟩ := hl
    refine va_putF hx hb (fun w hw => htb w (rf_cls_in ha w hw)) (fun w hw => hw) (rf_ty a) (rf_cls_ty ha) (rf_cls_nm ha) hown hK hP hD hS k (rf_he hs) (rf_cl_at ha) b hbN (htb _ (rf_TB_of h3 rfl)) (fun x hx => hx) hfin (hini h1) h2 (rf_cls_ty ha b hbN) hn hf hlen hd fun H1 locs1 hP1 hD1 hS1 => kk H1 locs1 ?_ hS1
    rw [← hset]
    exact hP1
  · rw [if_neg hfin] at hl
    have hfin' : (rf_T a b).2.2.2 = false := by simpa using hfin
    rcases hl with h3 | h3
    · refine va_put hx hb (fun w hw => htb w (rf_cls_in ha w hw)) (fun w hw => hw) (rf_ty a) (rf_cls_ty ha) (rf_cls_nm ha) hown hK hP hD hS k (rf_he hs) (rf_cl_at ha) b hbN (htb _ (rf_TB_of h3 rfl)) (fun x hx => hx) hfin' (rf_cls_ty ha b hbN) hn hf hlen hd fun H1 locs1 hP1 hD1 hS1 => kk H1 locs1 ?_ hS1
      rw [← hset]
      exact hP1
    · refine va_putN hx hb (fun w hw => htb w (rf_cls_in ha w hw)) (fun w hw => hw) (rf_ty a) (rf_cls_ty ha) (rf_cls_nm ha) hown hK hP hD hS k (rf_he hs) (rf_cl_at ha) b hbN (va_Nw.use rfl (hnt _ (rf_NT_of h3 rfl))) (fun x hx => hx) hfin' (rf_cls_ty ha b hbN) hn hf hlen hd fun H1 locs1 hP1 hD1 hS1 => kk H1 locs1 ?_ hS1
      rw [← hset]
      exact hP1
theorem rf_ha {k t n : Nat} {x : va_E} (hs : rf_sh h.1 k = some (.inr (t, n))) (hx : rf_en (rf_ad base ro) cy h.2.1 h.2.2.1 k (.inr (t, n)) = x) : (rf_ws (rf_ad base ro) cy base h)[k]? = some (base + k, x) := by rw [rf_ws_get, hs, ← hx]; rfl
/-- the heap's size is known by the room -/
theorem rf_Wsize (hsz : s.heap.size = base + n0) (hP : va_P (dC, dI) rf_cl (rf_ws (rf_ad base ro) cy base h) H) (hS : va_S (fun q => base ≤ q) s.heap H locs) (hc : cells + n0 = h.1.length) {g : JFrame} (kk : H.size = base + h.1.length → W p l e R s m args below meth c H locs cells slots Q g) : W p l e R s m args below meth c H locs cells slots Q g := by
  intro T hT X
  refine kk ?_ T hT X
  have h1 := X.heapSize
  rw [hT, hsz] at h1
  have h2 : base + h.1.length ≤ H.size := by
    rcases Nat.eq_zero_or_pos h.1.length with z | z
    · have := hS.1
      omega
    · have hk : h.1.length - 1 < (rf_ws (rf_ad base ro) cy base h).length := by rw [rf_ws_len]; omega
      have h3 := hP (h.1.length - 1) _ (List.getElem?_eq_getElem hk)
      have h4 := h3.lt
      have h5 : ((rf_ws (rf_ad base ro) cy base h)[h.1.length - 1]).1 = base + (h.1.length - 1) := by
        have h6 := rf_ws_get (rf_ad base ro) cy base h (h.1.length - 1)
        rw [List.getElem?_eq_getElem hk] at h6
        obtain ⟨x, -, hx⟩ := Option.map_eq_some_iff.mp h6.symm
        rw [← hx]
      omega
  omega
end RFWH
section RFI
variable {l : Launch} {d : Nat} {cc : ByteArray} {own : String} {nL : Nat} {rt : Option FieldType} {ini : Bool} {r : rf_R} {X : rf_X}
variable {cal : rf_C} {ms : List (Nat × List Bool)} {pc len a b c w : Nat} {z : Int} {ts : List Nat} {L : List (Option rf_V)} {st : List rf_V} {h : rf_H} {ks : rf_S → Option rf_R}
theorem rf_fv_0 {ad : Nat → Nat} {t : FieldType} {z : Int} {r : Option Nat} (h : rf_ra t = 0 ∨ rf_ra t = 3) : rf_fv ad t z r = .int (Int32.ofInt z) := by
  unfold rf_fv
  rcases h with h | h <;> (rw [h]; rfl)
theorem rf_fv_1 {ad : Nat → Nat} {t : FieldType} {z : Int} {r : Option Nat} (h : rf_ra t = 1) : rf_fv ad t z r = .long (Int64.ofInt z) := by
  unfold rf_fv
  rw [h]
  rfl
theorem rf_fv_2 {ad : Nat → Nat} {t : FieldType} {z : Int} {r : Option Nat} (h : rf_ra t = 2) : rf_fv ad t z r = va_rf (r.map ad) := by
  unfold rf_fv
  rw [h]
  rfl
theorem rf_okC_0 {a b : Nat} {f : Nat → Int} (o : rf_okC (.inl a) f) (hb : b < rf_N a) (h : rf_ra (rf_ty a b) = 0 ∨ rf_ra (rf_ty a b) = 3) : rf_o32 (f b) := by
  have := o.2 b hb
  rcases h with h | h <;> rw [h] at this <;> exact this
theorem rf_okC_1 {a b : Nat} {f : Nat → Int} (o : rf_okC (.inl a) f) (hb : b < rf_N a) (h : rf_ra (rf_ty a b) = 1) : rf_o64 (f b) := by
  have := o.2 b hb
  rw [h] at this
  exact this
theorem rf_klt {h : rf_H} (o : rf_okH h) {k : Nat} {x : rf_Sh} (hs : rf_sh h.1 k = some x) : k < 1000000 := Nat.lt_of_lt_of_le (rf_sh_lt hs) o.2.2
theorem rf_n_getfield {q : Nat} (ck : rf_cki nL own ini rt pc len (.getfield q) a b c w z ts = true) (hd : decode cc pc = .ok (.getfield q, len)) (hI : ∀ s', ks s' = some r → rf_Go l d cc own nL rt ini r X s') (h0 : rf_ins cal ms (pc + len) (.getfield q) a b c z ts L st h some ks = some r) : rf_Go l d cc own nL rt ini r X (pc, L, st, h) := by
  simp only [rf_cki, Bool.and_eq_true, decide_eq_true_eq, Bool.or_eq_true] at ck
  obtain ⟨⟨⟨⟨⟨rfl, c1⟩, c2⟩, c3⟩, c4⟩, c5⟩ := ck
  simp only [rf_ins] at h0
  obtain ⟨x, st, rfl, h0⟩ := rf_1R_inv h0
  obtain ⟨k0, rfl, h0⟩ := rf_nn_inv h0
  rcases c with _ | _ | c
  · obtain ⟨v, hg, h0⟩ := rf_bd_inv h0
    obtain ⟨hs, rfl⟩ := rf_gI_some hg
    have c3' : rf_ra (rf_ty a b) = 0 ∨ rf_ra (rf_ty a b) = 3 := by split at c3 <;> omega
    refine rf_go_same (hI _ h0) (fun pu => ?_) (fun pu p e R s m args below meth c base ro dC dI cy n0 Q ls H locs cells slots FX lv hP hS k => ?_)
    · exact ⟨pu.1.msk _, rf_okS_c.mpr ⟨rf_okC_0 (pu.2.2.1.1 _ _ hs) c2 c3', (rf_okS_c.mp pu.2.1).2⟩⟩
    · obtain ⟨hx, hb, hml, hown, htb, hnt, hK, hro, hz1, hz2, hao, hbs, hR1, hR2, hini⟩ := FX
      refine rf_w_get hx hb htb hnt hown hK hP hs c1 c2 (rf_klt pu.2.2.1 hs) c5 hd ?_
      rw [rf_fv_0 c3']
      exact k ls (lv.msk _)
  · obtain ⟨v, hg, h0⟩ := rf_bd_inv h0
    obtain ⟨hs, rfl⟩ := rf_gI_some hg
    have c3' : rf_ra (rf_ty a b) = 1 := by split at c3 <;> omega
    refine rf_go_same (hI _ h0) (fun pu => ?_) (fun pu p e R s m args below meth c base ro dC dI cy n0 Q ls H locs cells slots FX lv hP hS k => ?_)
    · exact ⟨pu.1.msk _, rf_okS_c.mpr ⟨rf_okC_1 (pu.2.2.1.1 _ _ hs) c2 c3', (rf_okS_c.mp pu.2.1).2⟩⟩
    · obtain ⟨hx, hb, hml, hown, htb, hnt, hK, hro, hz1, hz2, hao, hbs, hR1, hR2, hini⟩ := FX
      refine rf_w_get hx hb htb hnt hown hK hP hs c1 c2 (rf_klt pu.2.2.1 hs) c5 hd ?_
      rw [rf_fv_1 c3']
      exact k ls (lv.msk _)
  · obtain ⟨v, hg, h0⟩ := rf_bd_inv h0
    obtain ⟨hs, rfl⟩ := rf_gR_some hg
    have c3' : rf_ra (rf_ty a b) = 2 := by split at c3 <;> omega
    refine rf_go_same (hI _ h0) (fun pu => ?_) (fun pu p e R s m args below meth c base ro dC dI cy n0 Q ls H locs cells slots FX lv hP hS k => ?_)
    · exact ⟨pu.1.msk _, rf_okS_c.mpr ⟨trivial, (rf_okS_c.mp pu.2.1).2⟩⟩
    · obtain ⟨hx, hb, hml, hown, htb, hnt, hK, hro, hz1, hz2, hao, hbs, hR1, hR2, hini⟩ := FX
      refine rf_w_get hx hb htb hnt hown hK hP hs c1 c2 (rf_klt pu.2.2.1 hs) c5 hd ?_
      rw [rf_fv_2 c3']
      exact k ls (lv.msk _)
theorem rf_ra_0 {t : FieldType} (h : rf_ra t = 0) : t = .int := by cases t <;> first | rfl | cases h
theorem rf_ra_1 {t : FieldType} (h : rf_ra t = 1) : t = .long := by cases t <;> first | rfl | cases h
theorem rf_ra_3 {t : FieldType} (h : rf_ra t = 3) : t = .boolean := by cases t <;> first | rfl | cases h
theorem rf_ra_2 {t : FieldType} (h : rf_ra t = 2) (v : Option Nat) : narrow t (va_rf v) = va_rf v ∧ fits t (va_rf v) = true := by
  cases t <;> first | (cases v <;> exact ⟨rfl, rfl⟩) | cases h
theorem rf_zb {x : Int} (h : x = 0 ∨ x = 1) : narrow .boolean (.int (Int32.ofInt x)) = .int (Int32.ofInt x) ∧ fits .boolean (.int (Int32.ofInt x)) = true := by
  rcases h with rfl | rfl <;> exact ⟨rfl, rfl⟩
theorem rf_up2_s {α : Type} (f : Nat → Nat → α) (k i : Nat) (v : α) : rf_up2 f k i v k i = v := if_pos ⟨rfl, rfl⟩
theorem rf_up2_k {α : Type} (f : Nat → Nat → α) (k i : Nat) (v : α) {q j : Nat} (h : q ≠ k) : rf_up2 f k i v q j = f q j := if_neg fun e => h e.1
theorem rf_up2_i {α : Type} (f : Nat → Nat → α) (k i : Nat) (v : α) {q j : Nat} (h : j ≠ i) : rf_up2 f k i v q j = f q j := if_neg fun e => h e.2
theorem rf_okH.putI {h : rf_H} {k a b : Nat} {v : Int} (H : rf_okH h) (hs : rf_sh h.1 k = some (.inl a)) (hv : (rf_ra (rf_ty a b) = 1 → rf_o64 v) ∧ (rf_ra (rf_ty a b) ≠ 1 → rf_o32 v)) : rf_okH (h.1, rf_up2 h.2.1 k b v, h.2.2) := by
  refine H.upd hs fun f o => ⟨o.1, fun j hj => ?_⟩
  have o1 := o.2 j hj
  by_cases e : j = b
  · subst e
    simp only [if_true]
    split
    · exact hv.1 ‹_›
    · trivial
    · exact hv.2 (by assumption)
  · simp only [if_neg e]
    exact o1
theorem rf_okH.putR {h : rf_H} {P : rf_P} (H : rf_okH h) : rf_okH (h.1, h.2.1, P, h.2.2.2) := H
theorem rf_n_putfield {q : Nat} (ck : rf_cki nL own ini rt pc len (.putfield q) a b c w z ts = true) (hd : decode cc pc = .ok (.putfield q, len)) (hI : ∀ s', ks s' = some r → rf_Go l d cc own nL rt ini r X s') (h0 : rf_ins cal ms (pc + len) (.putfield q) a b c z ts L st h some ks = some r) : rf_Go l d cc own nL rt ini r X (pc, L, st, h) := by
  simp only [rf_cki, Bool.and_eq_true, decide_eq_true_eq, Bool.or_eq_true] at ck
  obtain ⟨⟨⟨⟨⟨rfl, c1⟩, c2⟩, c3⟩, c4⟩, c5⟩ := ck
  have c5 : if (rf_T a b).2.2.2 = true then ini = true ∧ (rf_T a b).1 = own ∧ lw_tbl[w]? = some (.fieldLink own q (rf_T a b).1 (rf_T a b).2.1 (rf_T a b).2.2.1) else (lw_tbl[w]? = some (.fieldLink own q (rf_T a b).1 (rf_T a b).2.1 (rf_T a b).2.2.1) ∨ lw_tbl[w]? = some (.fieldLinkNest own q (rf_T a b).1 (rf_T a b).2.1 (rf_T a b).2.2.1 "WheelsSlip")) := by
    split at c5
    · rename_i hf
      rw [if_pos hf]
      simpa [Bool.and_eq_true, and_assoc] using c5
    · rename_i hf
      rw [if_neg hf]
      simpa [Bool.or_eq_true] using c5
  simp only [rf_ins] at h0
  split at h0
  · rename_i x r0 st
    obtain ⟨k0, rfl, h0⟩ := rf_nn_inv h0
    obtain ⟨h', hg, h0⟩ := rf_bd_inv h0
    obtain ⟨hs, rfl⟩ := rf_pI_some hg
    refine rf_go_heap (hI _ h0) (fun pu => ?_) ?_ (fun pu p e R s m args below meth c base ro dC dI cy n0 z0 Q ls H locs cells slots FX lv rel hR3 hR4 k => ?_)
    · have o := rf_okS_c.mp pu.2.1
      exact ⟨pu.1.msk _, (rf_okS_c.mp o.2).2, pu.2.2.1.putI hs ⟨fun e => by omega, fun _ => o.1⟩, pu.2.2.2⟩
    · exact ⟨Nat.le_refl _, Nat.le_refl _⟩
    · obtain ⟨hx, hb, hml, hown, htb, hnt, hK, hro, hz1, hz2, hao, hbs, hR1, hR2, hini⟩ := FX
      have ht := rf_ra_0 c3
      refine rf_w_put (h' := (h.1, rf_up2 h.2.1 k0 b x, h.2.2)) hx hb htb hnt hown hK rel.1 rel.2.1 hini hs c1 c2 (rf_klt pu.2.2.1 hs) (by rw [ht]; rfl) (by rw [ht]; rfl) c5 hd rfl (fun q j hq => ⟨rf_up2_k _ _ _ _ hq, rfl⟩) ?_ (fun j hj => ⟨rf_up2_i _ _ _ _ hj, rfl⟩) (fun H1 locs1 hP1 hS1 => k H1 locs1 _ _ (lv.msk _) ⟨hP1, hS1, rel.2.2⟩)
      show _ = rf_fv _ _ (rf_up2 h.2.1 k0 b x k0 b) _
      rw [rf_up2_s, rf_fv_0 (Or.inl c3)]
      rfl
  · rename_i x r0 st
    obtain ⟨k0, rfl, h0⟩ := rf_nn_inv h0
    obtain ⟨h', hg, h0⟩ := rf_bd_inv h0
    obtain ⟨hs, rfl⟩ := rf_pI_some hg
    refine rf_go_heap (hI _ h0) (fun pu => ?_) ?_ (fun pu p e R s m args below meth c base ro dC dI cy n0 z0 Q ls H locs cells slots FX lv rel hR3 hR4 k => ?_)
    · have o := rf_okS_c.mp pu.2.1
      exact ⟨pu.1.msk _, (rf_okS_c.mp o.2).2, pu.2.2.1.putI hs ⟨fun _ => o.1, fun e => absurd c3 e⟩, pu.2.2.2⟩
    · exact ⟨Nat.le_refl _, Nat.le_refl _⟩
    · obtain ⟨hx, hb, hml, hown, htb, hnt, hK, hro, hz1, hz2, hao, hbs, hR1, hR2, hini⟩ := FX
      have ht := rf_ra_1 c3
      refine rf_w_put (h' := (h.1, rf_up2 h.2.1 k0 b x, h.2.2)) hx hb htb hnt hown hK rel.1 rel.2.1 hini hs c1 c2 (rf_klt pu.2.2.1 hs) (by rw [ht]; rfl) (by rw [ht]; rfl) c5 hd rfl (fun q j hq => ⟨rf_up2_k _ _ _ _ hq, rfl⟩) ?_ (fun j hj => ⟨rf_up2_i _ _ _ _ hj, rfl⟩) (fun H1 locs1 hP1 hS1 => k H1 locs1 _ _ (lv.msk _) ⟨hP1, hS1, rel.2.2⟩)
      show _ = rf_fv _ _ (rf_up2 h.2.1 k0 b x k0 b) _
      rw [rf_up2_s, rf_fv_1 c3]
      rfl
  · rename_i x r0 st
    obtain ⟨k0, rfl, h0⟩ := rf_nn_inv h0
    obtain ⟨h', hg, h0⟩ := rf_bd_inv h0
    obtain ⟨hs, rfl⟩ := rf_pR_some hg
    refine rf_go_heap (hI _ h0) (fun pu => ?_) ?_ (fun pu p e R s m args below meth c base ro dC dI cy n0 z0 Q ls H locs cells slots FX lv rel hR3 hR4 k => ?_)
    · have o := rf_okS_c.mp pu.2.1
      exact ⟨pu.1.msk _, (rf_okS_c.mp o.2).2, pu.2.2.1.putR, pu.2.2.2⟩
    · exact ⟨Nat.le_refl _, Nat.le_refl _⟩
    · obtain ⟨hx, hb, hml, hown, htb, hnt, hK, hro, hz1, hz2, hao, hbs, hR1, hR2, hini⟩ := FX
      have ht := rf_ra_2 c3 (x.map (rf_ad base ro))
      refine rf_w_put (h' := (h.1, h.2.1, rf_up2 h.2.2.1 k0 b x, h.2.2.2)) hx hb htb hnt hown hK rel.1 rel.2.1 hini hs c1 c2 (rf_klt pu.2.2.1 hs) ht.1 ht.2 c5 hd rfl (fun q j hq => ⟨rfl, rf_up2_k _ _ _ _ hq⟩) ?_ (fun j hj => ⟨rfl, rf_up2_i _ _ _ _ hj⟩) (fun H1 locs1 hP1 hS1 => k H1 locs1 _ _ (lv.msk _) ⟨hP1, hS1, rel.2.2⟩)
      show _ = rf_fv _ _ _ (rf_up2 h.2.2.1 k0 b x k0 b)
      rw [rf_up2_s, rf_fv_2 c3]
      rfl
  · rename_i x r0 st
    obtain ⟨hz, h0⟩ := rf_if_inv h0
    obtain ⟨k0, rfl, h0⟩ := rf_nn_inv h0
    obtain ⟨h', hg, h0⟩ := rf_bd_inv h0
    obtain ⟨hs, rfl⟩ := rf_pI_some hg
    refine rf_go_heap (hI _ h0) (fun pu => ?_) ?_ (fun pu p e R s m args below meth c base ro dC dI cy n0 z0 Q ls H locs cells slots FX lv rel hR3 hR4 k => ?_)
    · have o := rf_okS_c.mp pu.2.1
      exact ⟨pu.1.msk _, (rf_okS_c.mp o.2).2, pu.2.2.1.putI hs ⟨fun e => by omega, fun _ => o.1⟩, pu.2.2.2⟩
    · exact ⟨Nat.le_refl _, Nat.le_refl _⟩
    · obtain ⟨hx, hb, hml, hown, htb, hnt, hK, hro, hz1, hz2, hao, hbs, hR1, hR2, hini⟩ := FX
      have ht := rf_ra_3 c3
      refine rf_w_put (h' := (h.1, rf_up2 h.2.1 k0 b x, h.2.2)) hx hb htb hnt hown hK rel.1 rel.2.1 hini hs c1 c2 (rf_klt pu.2.2.1 hs) (by rw [ht]; exact (rf_zb hz).1) (by rw [ht]; exact (rf_zb hz).2) c5 hd rfl (fun q j hq => ⟨rf_up2_k _ _ _ _ hq, rfl⟩) ?_ (fun j hj => ⟨rf_up2_i _ _ _ _ hj, rfl⟩) (fun H1 locs1 hP1 hS1 => k H1 locs1 _ _ (lv.msk _) ⟨hP1, hS1, rel.2.2⟩)
      show _ = rf_fv _ _ (rf_up2 h.2.1 k0 b x k0 b) _
      rw [rf_up2_s, rf_fv_0 (Or.inr c3)]
      rfl
  · cases h0
theorem rf_n_getstatic {q : Nat} (ck : rf_cki nL own ini rt pc len (.getstatic q) a b c w z ts = true) (hd : decode cc pc = .ok (.getstatic q, len)) (hI : ∀ s', ks s' = some r → rf_Go l d cc own nL rt ini r X s') (h0 : rf_ins cal ms (pc + len) (.getstatic q) a b c z ts L st h some ks = some r) : rf_Go l d cc own nL rt ini r X (pc, L, st, h) := by
  simp only [rf_cki, Bool.and_eq_true, decide_eq_true_eq, Bool.or_eq_true] at ck
  obtain ⟨rfl, ⟨rfl, c1⟩ | ⟨rfl, c1⟩⟩ := ck
  · simp only [rf_ins] at h0
    refine rf_go_same (hI _ h0) (fun pu => ?_) (fun pu p e R s m args below meth c base ro dC dI cy n0 Q ls H locs cells slots FX lv hP hS k => ?_)
    · exact ⟨pu.1.msk _, rf_okS_c.mpr ⟨trivial, pu.2.1⟩⟩
    · obtain ⟨hx, hb, hml, hown, htb, hnt, hK, hro, hz1, hz2, hao, hbs, hR1, hR2, hini⟩ := FX
      exact va_gets hx hb hz1 hS hown (htb _ (rf_TB_of c1 rfl)) (fun x hx => hx) hd (k ls (lv.msk _))
  · simp only [rf_ins] at h0
    refine rf_go_same (hI _ h0) (fun pu => ?_) (fun pu p e R s m args below meth c base ro dC dI cy n0 Q ls H locs cells slots FX lv hP hS k => ?_)
    · exact ⟨pu.1.msk _, rf_okS_c.mpr ⟨trivial, pu.2.1⟩⟩
    · obtain ⟨hx, hb, hml, hown, htb, hnt, hK, hro, hz1, hz2, hao, hbs, hR1, hR2, hini⟩ := FX
      exact va_gets hx hb hz2 hS hown (htb _ (rf_TB_of c1 rfl)) (fun x hx => hx) hd (k ls (lv.msk _))
end RFI

