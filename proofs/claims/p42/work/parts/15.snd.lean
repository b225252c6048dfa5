section RFWS
variable {p : Program} {l : Launch} {e : Env} {R : Room} {s : State} {m : MethodId} {args : Array Value} {below : List Frame} {meth : Method} {c : Code} {H : Heap} {locs : List Loc} {cells slots : Nat} {Q : State → Prop}
variable {cc : ByteArray} {pc nL : Nat} {ls : Array Slot} {ad : Nat → Nat} {L : List (Option rf_V)} {b : List Bool} {rest : List Value}
theorem rf_lvR_lt {i : Nat} {v : rf_V} (lv : rf_lvR ad nL ls L) (h : rf_lget L i = some v) : i < nL := by rw [← lv.2.2.1]; exact rf_lget_lt h
theorem rf_w_istore_n {q : Fin 4} {x : Int} (hx : p.tables.exec = Jvm.exec) (hb : c.code = cc) (hd : decode cc pc = .ok (.istore_n q, 1)) (lv : rf_lvR ad nL ls L) (hn : q.val < nL) (k : ∀ ls', rf_lvR ad nL ls' (rf_msk b (rf_st1 L q.val (.inl x))) → W p l e R s m args below meth c H locs cells slots Q (F0 m (pc + 1) ls' rest)) : W p l e R s m args below meth c H locs cells slots Q (F0 m pc ls (rf_cv ad (.inl x) :: rest)) := lv_istore_n hx hb hd rfl lv.has hn rfl fun ls' h' => k ls' (rf_lvR.st1 (v := .inl x) lv h' b)
theorem rf_w_istore {q : Nat} {x : Int} (hx : p.tables.exec = Jvm.exec) (hb : c.code = cc) (hd : decode cc pc = .ok (.istore q, 2)) (lv : rf_lvR ad nL ls L) (hn : q < nL) (k : ∀ ls', rf_lvR ad nL ls' (rf_msk b (rf_st1 L q (.inl x))) → W p l e R s m args below meth c H locs cells slots Q (F0 m (pc + 2) ls' rest)) : W p l e R s m args below meth c H locs cells slots Q (F0 m pc ls (rf_cv ad (.inl x) :: rest)) := lv_istore hx hb hd lv.has hn rfl fun ls' h' => k ls' (rf_lvR.st1 (v := .inl x) lv h' b)
theorem rf_w_lstore_n {q : Fin 4} {x : Int} (hx : p.tables.exec = Jvm.exec) (hb : c.code = cc) (hd : decode cc pc = .ok (.lstore_n q, 1)) (lv : rf_lvR ad nL ls L) (hn : q.val + 1 < nL) (k : ∀ ls', rf_lvR ad nL ls' (rf_msk b (rf_st2 L q.val (.inr (.inl x)))) → W p l e R s m args below meth c H locs cells slots Q (F0 m (pc + 1) ls' rest)) : W p l e R s m args below meth c H locs cells slots Q (F0 m pc ls (rf_cv ad (.inr (.inl x)) :: rest)) := lv_lstore_n hx hb hd rfl lv.has hn rfl fun ls' h' => k ls' (rf_lvR.st2 (v := .inr (.inl x)) lv h' b)
theorem rf_w_lstore {q : Nat} {x : Int} (hx : p.tables.exec = Jvm.exec) (hb : c.code = cc) (hd : decode cc pc = .ok (.lstore q, 2)) (lv : rf_lvR ad nL ls L) (hn : q + 1 < nL) (k : ∀ ls', rf_lvR ad nL ls' (rf_msk b (rf_st2 L q (.inr (.inl x)))) → W p l e R s m args below meth c H locs cells slots Q (F0 m (pc + 2) ls' rest)) : W p l e R s m args below meth c H locs cells slots Q (F0 m pc ls (rf_cv ad (.inr (.inl x)) :: rest)) := lv_lstore hx hb hd lv.has hn rfl fun ls' h' => k ls' (rf_lvR.st2 (v := .inr (.inl x)) lv h' b)
theorem rf_w_astore_n {q : Fin 4} {x : Option Nat} (hx : p.tables.exec = Jvm.exec) (hb : c.code = cc) (hd : decode cc pc = .ok (.astore_n q, 1)) (lv : rf_lvR ad nL ls L) (hn : q.val < nL) (k : ∀ ls', rf_lvR ad nL ls' (rf_msk b (rf_st1 L q.val (.inr (.inr x)))) → W p l e R s m args below meth c H locs cells slots Q (F0 m (pc + 1) ls' rest)) : W p l e R s m args below meth c H locs cells slots Q (F0 m pc ls (rf_cv ad (.inr (.inr x)) :: rest)) := by
  cases x with
  | none => exact lv_astore_nN hx hb hd rfl lv.has hn rfl fun ls' h' => k ls' (rf_lvR.st1 (v := .inr (.inr none)) lv h' b)
  | some x => exact lv_astore_n hx hb hd rfl lv.has hn rfl fun ls' h' => k ls' (rf_lvR.st1 (v := .inr (.inr (some x))) lv h' b)
theorem rf_w_astore {q : Nat} {x : Option Nat} (hx : p.tables.exec = Jvm.exec) (hb : c.code = cc) (hd : decode cc pc = .ok (.astore q, 2)) (lv : rf_lvR ad nL ls L) (hn : q < nL) (k : ∀ ls', rf_lvR ad nL ls' (rf_msk b (rf_st1 L q (.inr (.inr x)))) → W p l e R s m args below meth c H locs cells slots Q (F0 m (pc + 2) ls' rest)) : W p l e R s m args below meth c H locs cells slots Q (F0 m pc ls (rf_cv ad (.inr (.inr x)) :: rest)) := by
  cases x with
  | none => exact lv_astoreN hx hb hd lv.has hn rfl fun ls' h' => k ls' (rf_lvR.st1 (v := .inr (.inr none)) lv h' b)
  | some x => exact lv_astore hx hb hd lv.has hn rfl fun ls' h' => k ls' (rf_lvR.st1 (v := .inr (.inr (some x))) lv h' b)
theorem rf_w_iinc {q : Nat} {n x : Int} (hx : p.tables.exec = Jvm.exec) (hb : c.code = cc) (hd : decode cc pc = .ok (.iinc q n, 3)) (lv : rf_lvR ad nL ls L) (hq : rf_lget L q = some (.inl x)) (k : ∀ ls', rf_lvR ad nL ls' (rf_msk b (rf_st1 L q (.inl (rf_w (x + n))))) → W p l e R s m args below meth c H locs cells slots Q (F0 m (pc + 3) ls' rest)) : W p l e R s m args below meth c H locs cells slots Q (F0 m pc ls rest) := by
  obtain ⟨j, hj⟩ := List.getElem?_of_mem (rf_al_mem (ad := ad) hq)
  refine lv_iinc (v := Int32.ofInt (rf_w (x + n))) hx hb hd lv.has hj (rf_vadd x n) (rf_lvR_lt lv hq) rfl fun ls' h' => k ls' (rf_lvR.st1 (v := .inl (rf_w (x + n))) lv h' b)
end RFWS
/-! What holds of a body's own start; what a walk keeps; what a step owes -/
def rf_tys (cy : Nat → ClassId) : List (ClassId × FieldType) := [(cy 0, .int), (cy 1, .int), (cy 2, .object RX3)]
def rf_FX (d : Nat) (cc : ByteArray) (own : String) (nL : Nat) (rt : Option FieldType) (ini : Bool) (X : rf_X) (p : Program) (R : Room) (s : State) (m : MethodId) (args : Array Value) (meth : Method) (c : Code) (base : Nat) (ro : Nat → Nat) (dC : Nat → ClassId) (dI : Nat → Nat → Nat) (cy : Nat → ClassId) (n0 : Nat) : Prop :=
  p.tables.exec = Jvm.exec ∧ c.code = cc ∧ c.maxLocals = nL ∧ s.vm.findClass own = some m.cls ∧ (∀ w ∈ rf_TB, w.before args s = true) ∧ (∀ w ∈ rf_NT, va_Nw w s) ∧ va_K (dC, dI) rf_cl (rf_tys cy) s ∧ (∀ j, j < 3 → va_X (ro j) (X j).1 (fun i => Int32.ofInt ((X j).2 i)) s s.heap ∧ ro j < base) ∧
  va_Z RX2 "RAIL_LETTERS" "[I" (.ref (ro 1)) (fun q => base ≤ q) s s.heap ∧ va_Z RX2 "KIND_LETTERS" "[I" (.ref (ro 2)) (fun q => base ≤ q) s s.heap ∧ va_AO RX3 s ∧ s.heap.size = base + n0 ∧ d + 3 ≤ R.frames ∧ 100 * (d + 3) ≤ R.locals ∧ (ini = true → meth.name = "<init>")
def rf_Rel (base : Nat) (ro : Nat → Nat) (dC : Nat → ClassId) (dI : Nat → Nat → Nat) (cy : Nat → ClassId) (s : State) (n0 z0 : Nat) (h : rf_H) (H : Heap) (locs : List Loc) (cells slots : Nat) : Prop :=
  va_P (dC, dI) rf_cl (rf_ws (rf_ad base ro) cy base h) H ∧ va_S (fun q => base ≤ q) s.heap H locs ∧ cells + n0 = h.1.length ∧ slots + z0 = rf_sz h.1
def rf_Pu (X : rf_X) (L : List (Option rf_V)) (st : List rf_V) (h : rf_H) : Prop := rf_okL L ∧ rf_okS st ∧ rf_okH h ∧ h.2.2.2 = X
def rf_P2 (r : rf_R) (X : rf_X) (h : rf_H) : Prop := h.1.length ≤ r.2.1.length ∧ rf_sz h.1 ≤ rf_sz r.2.1 ∧ rf_okH r.2 ∧ (∀ v, r.1 = some v → rf_ok v) ∧ r.2.2.2.2 = X
/-- how a body may end -/
def rf_rtk (rt : Option FieldType) (i : ClassFile.Instr) (v : Option rf_V) : Prop := match v with
  | none => i = .return_ ∧ rt = none
  | some (.inl z) => i = .ireturn ∧ (rt = some .int ∨ (rt = some .boolean ∧ (z = 0 ∨ z = 1)))
  | some (.inr (.inl _)) => i = .lreturn ∧ rt = some .long
  | some (.inr (.inr _)) => i = .areturn ∧ (rt = some (.object RX3) ∨ rt = some (.array .int))
def rf_QX (cc : ByteArray) (rt : Option FieldType) (r : rf_R) (p : Program) (l : Launch) (e : Env) (R : Room) (s : State) (m : MethodId) (args : Array Value) (below : List Frame) (meth : Method) (c : Code) (base : Nat) (ro : Nat → Nat) (dC : Nat → ClassId) (dI : Nat → Nat → Nat) (cy : Nat → ClassId) (n0 z0 : Nat) (Q : State → Prop) : Prop :=
  ∀ (pc : Nat) (i : ClassFile.Instr) (ls : Array Slot) (H : Heap) (locs : List Loc) (cells slots : Nat), decode cc pc = .ok (i, 1) → rf_rtk rt i r.1 → rf_Rel base ro dC dI cy s n0 z0 r.2 H locs cells slots → W p l e R s m args below meth c H locs cells slots Q (F0 m pc ls (r.1.toList.map (rf_cv (rf_ad base ro))))
def rf_WW (l : Launch) (d : Nat) (cc : ByteArray) (own : String) (nL : Nat) (rt : Option FieldType) (ini : Bool) (r : rf_R) (X : rf_X) (s' : rf_S) : Prop :=
  ∀ (p : Program) (e : Env) (R : Room) (s : State) (m : MethodId) (args : Array Value) (below : List Frame) (meth : Method) (c : Code) (base : Nat) (ro : Nat → Nat) (dC : Nat → ClassId) (dI : Nat → Nat → Nat) (cy : Nat → ClassId) (n0 z0 : Nat) (Q : State → Prop), rf_FX d cc own nL rt ini X p R s m args meth c base ro dC dI cy n0 → rf_QX cc rt r p l e R s m args below meth c base ro dC dI cy n0 z0 Q → r.2.1.length ≤ R.cells + n0 → rf_sz r.2.1 ≤ R.slots + z0 →
  ∀ (ls : Array Slot) (H : Heap) (locs : List Loc) (cells slots : Nat), rf_lvR (rf_ad base ro) nL ls s'.2.1 → rf_Rel base ro dC dI cy s n0 z0 s'.2.2.2 H locs cells slots → W p l e R s m args below meth c H locs cells slots Q (F0 m s'.1 ls (s'.2.2.1.map (rf_cv (rf_ad base ro))))
def rf_Go (l : Launch) (d : Nat) (cc : ByteArray) (own : String) (nL : Nat) (rt : Option FieldType) (ini : Bool) (r : rf_R) (X : rf_X) (s' : rf_S) : Prop := rf_Pu X s'.2.1 s'.2.2.1 s'.2.2.2 → rf_P2 r X s'.2.2.2 ∧ rf_WW l d cc own nL rt ini r X s'
/-- a call's contract -/
def rf_B (X : rf_X) (base : Nat) (ro : Nat → Nat) (dC : Nat → ClassId) (dI : Nat → Nat → Nat) (cy : Nat → ClassId) (h : rf_H) (U : State) : Prop :=
  (∀ w ∈ rf_NT, va_Nw w U) ∧ va_K (dC, dI) rf_cl (rf_tys cy) U ∧ (∀ j, j < 3 → va_X (ro j) (X j).1 (fun i => Int32.ofInt ((X j).2 i)) U U.heap ∧ ro j < base) ∧
  va_Z RX2 "RAIL_LETTERS" "[I" (.ref (ro 1)) (fun q => base ≤ q) U U.heap ∧ va_Z RX2 "KIND_LETTERS" "[I" (.ref (ro 2)) (fun q => base ≤ q) U U.heap ∧ va_AO RX3 U ∧ U.heap.size = base + h.1.length ∧ va_P (dC, dI) rf_cl (rf_ws (rf_ad base ro) cy base h) U.heap
def rf_Qc (base : Nat) (ro : Nat → Nat) (dC : Nat → ClassId) (dI : Nat → Nat → Nat) (cy : Nat → ClassId) (q : rf_R) : Array Value → State → Outcome → State → Prop := fun _ st o t => o = .returned (q.1.map (rf_cv (rf_ad base ro))) ∧ va_P (dC, dI) rf_cl (rf_ws (rf_ad base ro) cy base q.2) t.heap ∧ va_F (fun q => base ≤ q) st t
def rf_wsM (M : rf_M) : List Cond := .code M.1 M.2.1 M.2.2.1 M.2.2.2.1 :: rf_TB
def rf_rm (d : Nat) (h h' : rf_H) : Room := { frames := d + 2, cells := h'.1.length - h.1.length, slots := rf_sz h'.1 - rf_sz h.1, locals := 100 * (d + 2) }
def rf_Con (l : Launch) (d u : Nat) (as : List rf_V) (h : rf_H) (q : rf_R) : Prop := ∀ (base : Nat) (ro : Nat → Nat) (dC : Nat → ClassId) (dI : Nat → Nat → Nat) (cy : Nat → ClassId), Met l (rf_mt u).1 (rf_wsM (rf_mt u)) (rf_rm d h q.2) (va_Pc (as.map (rf_cv (rf_ad base ro))) (rf_B h.2.2.2 base ro dC dI cy h)) (rf_Qc base ro dC dI cy q) (q.2.1.length - h.1.length) (rf_sz q.2.1 - rf_sz h.1) (fun a => base ≤ a)
def rf_Cal (l : Launch) (d : Nat) (cal : rf_C) : Prop := ∀ u as h q, rf_lv u = true → cal u as h = some q → (∀ v ∈ as, rf_ok v) → rf_okH h → rf_P2 q h.2.2.2 h ∧ rf_Con l d u as h q
/-! What is checked of an entry -/
def rf_rk (rt : Option FieldType) : Nat := match rt with
  | none => 3
  | some .int => 0
  | some .boolean => 0
  | some .long => 1
  | some (.object _) => 2
  | some (.array _) => 2
  | _ => 9
def rf_ckI (own : String) (q w u b c : Nat) : Bool := rf_lv u && decide ((parseMethodDescriptor (rf_mt u).1.desc).map (fun d => d.parameters.length) = some b) && decide (rf_rk (rf_mt u).2.2.2.1 = c) && (decide (lw_tbl[w]? = some (.methodLink own q (rf_mt u).1)) || decide (lw_tbl[w]? = some (.methodLinkNest own q (rf_mt u).1 "WheelsSlip")))
def rf_cki (nL : Nat) (own : String) (ini : Bool) (rt : Option FieldType) (pc len : Nat) (i : ClassFile.Instr) (a b c w : Nat) (z : Int) (ts : List Nat) : Bool := match i with
  | .iconst n => decide (len = 1) && decide (-1 ≤ n) && decide (n ≤ 5)
  | .bipush n => decide (len = 2) && decide (-128 ≤ n) && decide (n < 128)
  | .sipush n => decide (len = 3) && decide (-32768 ≤ n) && decide (n < 32768)
  | .ldc q => decide (len = 2) && decide (-2147483648 ≤ z) && decide (z < 2147483648) && decide (lw_tbl[w]? = some (.constant own q (Int32.ofInt z)))
  | .ldc_w q => decide (len = 3) && decide (-2147483648 ≤ z) && decide (z < 2147483648) && decide (lw_tbl[w]? = some (.constant own q (Int32.ofInt z)))
  | .ldc2_w q => decide (len = 3) && decide (-9223372036854775808 ≤ z) && decide (z < 9223372036854775808) && decide (lw_tbl[w]? = some (.constantLong own q (Int64.ofInt z)))
  | .lconst n => decide (len = 1) && decide (z = (n.val : Int))
  | .iload _ | .lload _ | .aload _ => decide (len = 2)
  | .istore q => decide (len = 2) && decide (q < nL)
  | .astore q => decide (len = 2) && decide (q < nL)
  | .lstore q => decide (len = 2) && decide (q + 1 < nL)
  | .istore_n q => decide (len = 1) && decide (q.val < nL)
  | .astore_n q => decide (len = 1) && decide (q.val < nL)
  | .lstore_n q => decide (len = 1) && decide (q.val + 1 < nL)
  | .iinc _ n => decide (len = 3)
  | .ifCond _ o => decide (len = 3) && decide ((pc : Int) + o = (a : Int))
  | .if_icmp _ o => decide (len = 3) && decide ((pc : Int) + o = (a : Int))
  | .ifnull o => decide (len = 3) && decide ((pc : Int) + o = (a : Int))
  | .ifnonnull o => decide (len = 3) && decide ((pc : Int) + o = (a : Int))
  | .goto o => decide (len = 3) && decide ((pc : Int) + o = (a : Int))
  | .tableswitch df lo hi os => decide ((pc : Int) + df = (a : Int)) && decide (hi = lo + (ts.length : Int) - 1) && decide (os.toList = ts.map fun t : Nat => (t : Int) - (pc : Int))
  | .getfield q => decide (len = 3) && decide (a < 5) && decide (b < rf_N a) && decide ((if rf_ra (rf_ty a b) = 3 then 0 else rf_ra (rf_ty a b)) = c) && decide (c < 3) && (decide (lw_tbl[w]? = some (.fieldLink own q (rf_T a b).1 (rf_T a b).2.1 (rf_T a b).2.2.1)) || decide (lw_tbl[w]? = some (.fieldLinkNest own q (rf_T a b).1 (rf_T a b).2.1 (rf_T a b).2.2.1 "WheelsSlip")))
  | .putfield q => decide (len = 3) && decide (a < 5) && decide (b < rf_N a) && decide (rf_ra (rf_ty a b) = c) && decide (c < 4) && (if (rf_T a b).2.2.2 = true then decide (ini = true) && decide ((rf_T a b).1 = own) && decide (lw_tbl[w]? = some (.fieldLink own q (rf_T a b).1 (rf_T a b).2.1 (rf_T a b).2.2.1)) else (decide (lw_tbl[w]? = some (.fieldLink own q (rf_T a b).1 (rf_T a b).2.1 (rf_T a b).2.2.1)) || decide (lw_tbl[w]? = some (.fieldLinkNest own q (rf_T a b).1 (rf_T a b).2.1 (rf_T a b).2.2.1 "WheelsSlip"))))
  | .getstatic q => decide (len = 3) && ((decide (a = 1000001) && decide (lw_tbl[w]? = some (.fieldLink own q RX2 "RAIL_LETTERS" "[I"))) || (decide (a = 1000002) && decide (lw_tbl[w]? = some (.fieldLink own q RX2 "KIND_LETTERS" "[I"))))
  | .new q => decide (len = 3) && decide (a < 5) && decide (lw_tbl[w]? = some (.classLink own q (rf_R' a)))
  | .newarray t => decide (len = 2) && (decide (t = .int) && decide (a = 0))
  | .baload => false
  | .bastore => false
  | .anewarray q => decide (len = 3) && decide (lw_tbl[w]? = some (.classLink own q RX3))
  | .invokevirtual q => decide (len = 3) && decide (z.toNat < 5) && decide ((rf_mt a).1.cls = rf_R' z.toNat) && rf_ckI own q w a b c
  | .invokespecial q => decide (len = 3) && (if c = 9 then decide (lw_tbl[w]? = some (.methodLink own q Lib.objectInit)) else decide (z.toNat < 5) && decide ((rf_mt a).1.cls = rf_R' z.toNat) && decide (c = 3) && decide ((rf_mt a).1.name = "<init>") && decide ((rf_mt a).2.2.2.1 = none) && rf_ckI own q w a b c)
  | .invokestatic q => decide (len = 3) && (if c = 9 then decide (lw_tbl[w]? = some (.methodLink own q arraycopyName)) else rf_ckI own q w a b c)
  | .ireturn => decide (len = 1) && ((decide (c = 0) && decide (rt = some .int)) || (decide (c = 1) && decide (rt = some .boolean)))
  | .lreturn => decide (len = 1) && decide (rt = some .long)
  | .areturn => decide (len = 1) && (decide (rt = some (.object RX3)) || decide (rt = some (.array .int)))
  | .return_ => decide (len = 1) && decide (rt = none)
  | _ => decide (len = 1)
def rf_cke (nL : Nat) (cc : ByteArray) (own : String) (ini : Bool) (rt : Option FieldType) (e : rf_E) : Bool := match e with
  | (pc, i, len, (a, b, c, w), z, ts) => decide (decode cc pc = .ok (i, len)) && rf_cki nL own ini rt pc len i a b c w z ts
section RFG
variable {l : Launch} {d : Nat} {cc : ByteArray} {own : String} {nL : Nat} {rt : Option FieldType} {ini : Bool} {r : rf_R} {X : rf_X}
variable {cal : rf_C} {ms : List (Nat × List Bool)} {pc len a b c w : Nat} {z : Int} {ts : List Nat} {L : List (Option rf_V)} {st : List rf_V} {h : rf_H} {ks : rf_S → Option rf_R}
theorem rf_go_same {pc' : Nat} {L' : List (Option rf_V)} {st' : List rf_V} (g : rf_Go l d cc own nL rt ini r X (pc', L', st', h)) (hpu : rf_Pu X L st h → rf_okL L' ∧ rf_okS st')
    (hw : rf_Pu X L st h → ∀ (p : Program) (e : Env) (R : Room) (s : State) (m : MethodId) (args : Array Value) (below : List Frame) (meth : Method) (c : Code) (base : Nat) (ro : Nat → Nat) (dC : Nat → ClassId) (dI : Nat → Nat → Nat) (cy : Nat → ClassId) (n0 : Nat) (Q : State → Prop) (ls : Array Slot) (H : Heap) (locs : List Loc) (cells slots : Nat), rf_FX d cc own nL rt ini X p R s m args meth c base ro dC dI cy n0 → rf_lvR (rf_ad base ro) nL ls L → va_P (dC, dI) rf_cl (rf_ws (rf_ad base ro) cy base h) H → va_S (fun q => base ≤ q) s.heap H locs →
      (∀ ls', rf_lvR (rf_ad base ro) nL ls' L' → W p l e R s m args below meth c H locs cells slots Q (F0 m pc' ls' (st'.map (rf_cv (rf_ad base ro))))) → W p l e R s m args below meth c H locs cells slots Q (F0 m pc ls (st.map (rf_cv (rf_ad base ro))))) : rf_Go l d cc own nL rt ini r X (pc, L, st, h) := by
  intro pu
  obtain ⟨o1, o2⟩ := hpu pu
  obtain ⟨g1, g2⟩ := g ⟨o1, o2, pu.2.2.1, pu.2.2.2⟩
  refine ⟨g1, ?_⟩
  intro p e R s m args below meth c base ro dC dI cy n0 z0 Q FX QX hR1 hR2 ls H locs cells slots lv rel
  exact hw pu p e R s m args below meth c base ro dC dI cy n0 Q ls H locs cells slots FX lv rel.1 rel.2.1 fun ls' lv' => g2 p e R s m args below meth c base ro dC dI cy n0 z0 Q FX QX hR1 hR2 ls' H locs cells slots lv' rel
/-- two ways on -/
theorem rf_go_two {P : Prop} {pc1 pc2 : Nat} {L1 L2 : List (Option rf_V)} {st' : List rf_V} (hd : Decidable P) (g1 : P → rf_Go l d cc own nL rt ini r X (pc1, L1, st', h)) (g2 : ¬ P → rf_Go l d cc own nL rt ini r X (pc2, L2, st', h)) (hpu : rf_Pu X L st h → rf_okL L1 ∧ rf_okL L2 ∧ rf_okS st')
    (hw : rf_Pu X L st h → ∀ (p : Program) (e : Env) (R : Room) (s : State) (m : MethodId) (args : Array Value) (below : List Frame) (meth : Method) (c : Code) (base : Nat) (ro : Nat → Nat) (dC : Nat → ClassId) (dI : Nat → Nat → Nat) (cy : Nat → ClassId) (n0 : Nat) (Q : State → Prop) (ls : Array Slot) (H : Heap) (locs : List Loc) (cells slots : Nat), rf_FX d cc own nL rt ini X p R s m args meth c base ro dC dI cy n0 → rf_lvR (rf_ad base ro) nL ls L →
      (P → rf_lvR (rf_ad base ro) nL ls L1 → W p l e R s m args below meth c H locs cells slots Q (F0 m pc1 ls (st'.map (rf_cv (rf_ad base ro))))) → (¬ P → rf_lvR (rf_ad base ro) nL ls L2 → W p l e R s m args below meth c H locs cells slots Q (F0 m pc2 ls (st'.map (rf_cv (rf_ad base ro))))) → W p l e R s m args below meth c H locs cells slots Q (F0 m pc ls (st.map (rf_cv (rf_ad base ro))))) : rf_Go l d cc own nL rt ini r X (pc, L, st, h) := by
  intro pu
  obtain ⟨o1, o2, o3⟩ := hpu pu
  have hp : rf_P2 r X h := by
    by_cases hP : P
    · exact (g1 hP ⟨o1, o3, pu.2.2.1, pu.2.2.2⟩).1
    · exact (g2 hP ⟨o2, o3, pu.2.2.1, pu.2.2.2⟩).1
  refine ⟨hp, ?_⟩
  intro p e R s m args below meth c base ro dC dI cy n0 z0 Q FX QX hR1 hR2 ls H locs cells slots lv rel
  exact hw pu p e R s m args below meth c base ro dC dI cy n0 Q ls H locs cells slots FX lv (fun hP lv' => (g1 hP ⟨o1, o3, pu.2.2.1, pu.2.2.2⟩).2 p e R s m args below meth c base ro dC dI cy n0 z0 Q FX QX hR1 hR2 ls H locs cells slots lv' rel) (fun hP lv' => (g2 hP ⟨o2, o3, pu.2.2.1, pu.2.2.2⟩).2 p e R s m args below meth c base ro dC dI cy n0 z0 Q FX QX hR1 hR2 ls H locs cells slots lv' rel)
/-- a change of the heap -/
theorem rf_go_heap {pc' : Nat} {L' : List (Option rf_V)} {st' : List rf_V} {h' : rf_H} (g : rf_Go l d cc own nL rt ini r X (pc', L', st', h')) (hpu : rf_Pu X L st h → rf_Pu X L' st' h') (hlen : h.1.length ≤ h'.1.length ∧ rf_sz h.1 ≤ rf_sz h'.1)
    (hw : rf_Pu X L st h → ∀ (p : Program) (e : Env) (R : Room) (s : State) (m : MethodId) (args : Array Value) (below : List Frame) (meth : Method) (c : Code) (base : Nat) (ro : Nat → Nat) (dC : Nat → ClassId) (dI : Nat → Nat → Nat) (cy : Nat → ClassId) (n0 z0 : Nat) (Q : State → Prop) (ls : Array Slot) (H : Heap) (locs : List Loc) (cells slots : Nat), rf_FX d cc own nL rt ini X p R s m args meth c base ro dC dI cy n0 → rf_lvR (rf_ad base ro) nL ls L → rf_Rel base ro dC dI cy s n0 z0 h H locs cells slots → h'.1.length ≤ R.cells + n0 → rf_sz h'.1 ≤ R.slots + z0 →
      (∀ H' locs' cells' slots', rf_lvR (rf_ad base ro) nL ls L' → rf_Rel base ro dC dI cy s n0 z0 h' H' locs' cells' slots' → W p l e R s m args below meth c H' locs' cells' slots' Q (F0 m pc' ls (st'.map (rf_cv (rf_ad base ro))))) → W p l e R s m args below meth c H locs cells slots Q (F0 m pc ls (st.map (rf_cv (rf_ad base ro))))) : rf_Go l d cc own nL rt ini r X (pc, L, st, h) := by
  intro pu
  have pu' := hpu pu
  obtain ⟨g1, g2⟩ := g pu'
  have g1' := g1
  obtain ⟨b1, b2, b3⟩ := g1
  have hl1 : h'.1.length ≤ r.2.1.length := b1
  have hl2 : rf_sz h'.1 ≤ rf_sz r.2.1 := b2
  refine ⟨⟨Nat.le_trans hlen.1 hl1, Nat.le_trans hlen.2 hl2, b3⟩, ?_⟩
  intro p e R s m args below meth c base ro dC dI cy n0 z0 Q FX QX hR1 hR2 ls H locs cells slots lv rel
  exact hw pu p e R s m args below meth c base ro dC dI cy n0 z0 Q ls H locs cells slots FX lv rel (Nat.le_trans hl1 hR1) (Nat.le_trans hl2 hR2) fun H' locs' cells' slots' lv' rel' => g2 p e R s m args below meth c base ro dC dI cy n0 z0 Q FX QX hR1 hR2 ls H' locs' cells' slots' lv' rel'
theorem rf_1I_inv {st : List rf_V} {f : Int → List rf_V → Option rf_R} {r : rf_R} (e : rf_1I st f = some r) : ∃ x st', st = .inl x :: st' ∧ f x st' = some r := by
  rcases st with _ | ⟨x | x | x, st⟩ <;> first | exact ⟨_, _, rfl, e⟩ | cases e
theorem rf_1L_inv {st : List rf_V} {f : Int → List rf_V → Option rf_R} {r : rf_R} (e : rf_1L st f = some r) : ∃ x st', st = .inr (.inl x) :: st' ∧ f x st' = some r := by
  rcases st with _ | ⟨x | x | x, st⟩ <;> first | exact ⟨_, _, rfl, e⟩ | cases e
theorem rf_1R_inv {st : List rf_V} {f : Option Nat → List rf_V → Option rf_R} {r : rf_R} (e : rf_1R st f = some r) : ∃ x st', st = .inr (.inr x) :: st' ∧ f x st' = some r := by
  rcases st with _ | ⟨x | x | x, st⟩ <;> first | exact ⟨_, _, rfl, e⟩ | cases e
theorem rf_2I_inv {st : List rf_V} {f : Int → Int → List rf_V → Option rf_R} {r : rf_R} (e : rf_2I st f = some r) : ∃ x y st', st = .inl y :: .inl x :: st' ∧ f x y st' = some r := by
  rcases st with _ | ⟨x | x | x, _ | ⟨y | y | y, st⟩⟩ <;> first | exact ⟨_, _, _, rfl, e⟩ | cases e
theorem rf_2L_inv {st : List rf_V} {f : Int → Int → List rf_V → Option rf_R} {r : rf_R} (e : rf_2L st f = some r) : ∃ x y st', st = .inr (.inl y) :: .inr (.inl x) :: st' ∧ f x y st' = some r := by
  rcases st with _ | ⟨x | x | x, _ | ⟨y | y | y, st⟩⟩ <;> first | exact ⟨_, _, _, rfl, e⟩ | cases e
theorem rf_lI_inv {L : List (Option rf_V)} {i : Nat} {f : Int → Option rf_R} {r : rf_R} (e : rf_lI L i f = some r) : ∃ x, rf_lget L i = some (.inl x) ∧ f x = some r := by
  unfold rf_lI at e
  split at e
  · exact ⟨_, ‹_›, e⟩
  · cases e
theorem rf_lL_inv {L : List (Option rf_V)} {i : Nat} {f : Int → Option rf_R} {r : rf_R} (e : rf_lL L i f = some r) : ∃ x, rf_lget L i = some (.inr (.inl x)) ∧ f x = some r := by
  unfold rf_lL at e
  split at e
  · exact ⟨_, ‹_›, e⟩
  · cases e
theorem rf_lR_inv {L : List (Option rf_V)} {i : Nat} {f : Option Nat → Option rf_R} {r : rf_R} (e : rf_lR L i f = some r) : ∃ x, rf_lget L i = some (.inr (.inr x)) ∧ f x = some r := by
  unfold rf_lR at e
  split at e
  · exact ⟨_, ‹_›, e⟩
  · cases e
theorem rf_nn_inv {x : Option Nat} {f : Nat → Option rf_R} {r : rf_R} (e : rf_nn x f = some r) : ∃ k, x = some k ∧ f k = some r := by
  cases x
  · cases e
  · exact ⟨_, rfl, e⟩
theorem rf_bd_inv {α : Type} {x : Option α} {f : α → Option rf_R} {r : rf_R} (e : x.bind f = some r) : ∃ k, x = some k ∧ f k = some r := by
  cases x
  · cases e
  · exact ⟨_, rfl, e⟩
theorem rf_if_inv {P : Prop} [Decidable P] {x : Option rf_R} {r : rf_R} (e : (if P then x else none) = some r) : P ∧ x = some r := by
  split at e
  · exact ⟨‹_›, e⟩
  · cases e
theorem rf_bif_inv {P : Bool} {x : Option rf_R} {r : rf_R} (e : (bif P then x else none) = some r) : P = true ∧ x = some r := by
  cases P
  · cases e
  · exact ⟨rfl, e⟩
theorem rf_i8 {n : Int} (h1 : -128 ≤ n) (h2 : n < 128) : (Int8.ofInt n).toInt32 = Int32.ofInt n := by
  rw [← Int32.toInt_inj, Int8.toInt_toInt32, Int8.toInt_ofInt_of_le (by omega) (by omega), rf_t32 (by unfold rf_o32; omega)]
theorem rf_i16 {n : Int} (h1 : -32768 ≤ n) (h2 : n < 32768) : (Int16.ofInt n).toInt32 = Int32.ofInt n := by
  rw [← Int32.toInt_inj, Int16.toInt_toInt32, Int16.toInt_ofInt_of_le (by omega) (by omega), rf_t32 (by unfold rf_o32; omega)]
theorem rf_vand (x y : Int) : Int32.ofInt x &&& Int32.ofInt y = Int32.ofInt (rf_and x y) := by unfold rf_and; rw [Int32.ofInt_toInt]
theorem rf_vor (x y : Int) : Int32.ofInt x ||| Int32.ofInt y = Int32.ofInt (rf_or x y) := by unfold rf_or; rw [Int32.ofInt_toInt]
theorem rf_vxor (x y : Int) : Int32.ofInt x ^^^ Int32.ofInt y = Int32.ofInt (rf_xor x y) := by unfold rf_xor; rw [Int32.ofInt_toInt]
theorem rf_vshl (x y : Int) : Int32.ofInt x <<< (Int32.ofInt y &&& 31) = Int32.ofInt (rf_shl x y) := by unfold rf_shl; rw [Int32.ofInt_toInt]
theorem rf_vshr (x y : Int) : Int32.ofInt x >>> (Int32.ofInt y &&& 31) = Int32.ofInt (rf_shr x y) := by unfold rf_shr; rw [Int32.ofInt_toInt]
theorem rf_vushr (x y : Int) : ((Int32.ofInt x).toUInt32 >>> ((Int32.ofInt y).toUInt32 &&& Int32.toUInt32 31)).toInt32 = Int32.ofInt (rf_ushr x y) := by unfold rf_ushr; rw [Int32.ofInt_toInt]
theorem rf_n_iconst {n : Int} (ck : rf_cki nL own ini rt pc len (.iconst n) a b c w z ts = true) (hd : decode cc pc = .ok (.iconst n, len)) (hI : ∀ s', ks s' = some r → rf_Go l d cc own nL rt ini r X s') (h0 : rf_ins cal ms (pc + len) (.iconst n) a b c z ts L st h some ks = some r) : rf_Go l d cc own nL rt ini r X (pc, L, st, h) := by
  simp only [rf_cki, Bool.and_eq_true, decide_eq_true_eq] at ck
  obtain ⟨⟨rfl, c1⟩, c2⟩ := ck
  simp only [rf_ins] at h0
  refine rf_go_same (hI _ h0) (fun pu => ?_) (fun pu p e R s m args below meth c base ro dC dI cy n0 Q ls H locs cells slots FX lv hP hS k => ?_)
  · exact ⟨pu.1.msk _, rf_okS_c.mpr ⟨by show rf_o32 _; unfold rf_o32; omega, pu.2.1⟩⟩
  · obtain ⟨hx, hb, hml, hown, htb, hnt, hK, hro, hz1, hz2, hao, hbs, hR1, hR2, hini⟩ := FX
    refine lv_iconst (v := Int32.ofInt n) hx hb hd rfl ?_
    exact k ls (lv.msk _)
theorem rf_n_bipush {n : Int} (ck : rf_cki nL own ini rt pc len (.bipush n) a b c w z ts = true) (hd : decode cc pc = .ok (.bipush n, len)) (hI : ∀ s', ks s' = some r → rf_Go l d cc own nL rt ini r X s') (h0 : rf_ins cal ms (pc + len) (.bipush n) a b c z ts L st h some ks = some r) : rf_Go l d cc own nL rt ini r X (pc, L, st, h) := by
  simp only [rf_cki, Bool.and_eq_true, decide_eq_true_eq] at ck
  obtain ⟨⟨rfl, c1⟩, c2⟩ := ck
  simp only [rf_ins] at h0
  refine rf_go_same (hI _ h0) (fun pu => ?_) (fun pu p e R s m args below meth c base ro dC dI cy n0 Q ls H locs cells slots FX lv hP hS k => ?_)
  · exact ⟨pu.1.msk _, rf_okS_c.mpr ⟨by show rf_o32 _; unfold rf_o32; omega, pu.2.1⟩⟩
  · obtain ⟨hx, hb, hml, hown, htb, hnt, hK, hro, hz1, hz2, hao, hbs, hR1, hR2, hini⟩ := FX
    refine lv_bipush (v := Int32.ofInt n) hx hb hd (rf_i8 c1 c2) ?_
    exact k ls (lv.msk _)
theorem rf_n_sipush {n : Int} (ck : rf_cki nL own ini rt pc len (.sipush n) a b c w z ts = true) (hd : decode cc pc = .ok (.sipush n, len)) (hI : ∀ s', ks s' = some r → rf_Go l d cc own nL rt ini r X s') (h0 : rf_ins cal ms (pc + len) (.sipush n) a b c z ts L st h some ks = some r) : rf_Go l d cc own nL rt ini r X (pc, L, st, h) := by
  simp only [rf_cki, Bool.and_eq_true, decide_eq_true_eq] at ck
  obtain ⟨⟨rfl, c1⟩, c2⟩ := ck
  simp only [rf_ins] at h0
  refine rf_go_same (hI _ h0) (fun pu => ?_) (fun pu p e R s m args below meth c base ro dC dI cy n0 Q ls H locs cells slots FX lv hP hS k => ?_)
  · exact ⟨pu.1.msk _, rf_okS_c.mpr ⟨by show rf_o32 _; unfold rf_o32; omega, pu.2.1⟩⟩
  · obtain ⟨hx, hb, hml, hown, htb, hnt, hK, hro, hz1, hz2, hao, hbs, hR1, hR2, hini⟩ := FX
    refine lv_sipush (v := Int32.ofInt n) hx hb hd (rf_i16 c1 c2) ?_
    exact k ls (lv.msk _)
theorem rf_n_ldc {q : Nat} (ck : rf_cki nL own ini rt pc len (.ldc q) a b c w z ts = true) (hd : decode cc pc = .ok (.ldc q, len)) (hI : ∀ s', ks s' = some r → rf_Go l d cc own nL rt ini r X s') (h0 : rf_ins cal ms (pc + len) (.ldc q) a b c z ts L st h some ks = some r) : rf_Go l d cc own nL rt ini r X (pc, L, st, h) := by
  simp only [rf_cki, Bool.and_eq_true, decide_eq_true_eq] at ck
  obtain ⟨⟨⟨rfl, c1⟩, c2⟩, c3⟩ := ck
  simp only [rf_ins] at h0
  refine rf_go_same (hI _ h0) (fun pu => ?_) (fun pu p e R s m args below meth c base ro dC dI cy n0 Q ls H locs cells slots FX lv hP hS k => ?_)
  · exact ⟨pu.1.msk _, rf_okS_c.mpr ⟨⟨c1, c2⟩, pu.2.1⟩⟩
  · obtain ⟨hx, hb, hml, hown, htb, hnt, hK, hro, hz1, hz2, hao, hbs, hR1, hR2, hini⟩ := FX
    refine lv_ldc (v := Int32.ofInt z) hx hb hown (htb _ (rf_TB_of c3 rfl)) hd ?_
    exact k ls (lv.msk _)
theorem rf_n_ldc_w {q : Nat} (ck : rf_cki nL own ini rt pc len (.ldc_w q) a b c w z ts = true) (hd : decode cc pc = .ok (.ldc_w q, len)) (hI : ∀ s', ks s' = some r → rf_Go l d cc own nL rt ini r X s') (h0 : rf_ins cal ms (pc + len) (.ldc_w q) a b c z ts L st h some ks = some r) : rf_Go l d cc own nL rt ini r X (pc, L, st, h) := by
  simp only [rf_cki, Bool.and_eq_true, decide_eq_true_eq] at ck
  obtain ⟨⟨⟨rfl, c1⟩, c2⟩, c3⟩ := ck
  simp only [rf_ins] at h0
  refine rf_go_same (hI _ h0) (fun pu => ?_) (fun pu p e R s m args below meth c base ro dC dI cy n0 Q ls H locs cells slots FX lv hP hS k => ?_)
  · exact ⟨pu.1.msk _, rf_okS_c.mpr ⟨⟨c1, c2⟩, pu.2.1⟩⟩
  · obtain ⟨hx, hb, hml, hown, htb, hnt, hK, hro, hz1, hz2, hao, hbs, hR1, hR2, hini⟩ := FX
    refine lv_ldcw (v := Int32.ofInt z) hx hb hown (htb _ (rf_TB_of c3 rfl)) hd ?_
    exact k ls (lv.msk _)
theorem rf_n_ldc2_w {q : Nat} (ck : rf_cki nL own ini rt pc len (.ldc2_w q) a b c w z ts = true) (hd : decode cc pc = .ok (.ldc2_w q, len)) (hI : ∀ s', ks s' = some r → rf_Go l d cc own nL rt ini r X s') (h0 : rf_ins cal ms (pc + len) (.ldc2_w q) a b c z ts L st h some ks = some r) : rf_Go l d cc own nL rt ini r X (pc, L, st, h) := by
  simp only [rf_cki, Bool.and_eq_true, decide_eq_true_eq] at ck
  obtain ⟨⟨⟨rfl, c1⟩, c2⟩, c3⟩ := ck
  simp only [rf_ins] at h0
  refine rf_go_same (hI _ h0) (fun pu => ?_) (fun pu p e R s m args below meth c base ro dC dI cy n0 Q ls H locs cells slots FX lv hP hS k => ?_)
  · exact ⟨pu.1.msk _, rf_okS_c.mpr ⟨⟨c1, c2⟩, pu.2.1⟩⟩
  · obtain ⟨hx, hb, hml, hown, htb, hnt, hK, hro, hz1, hz2, hao, hbs, hR1, hR2, hini⟩ := FX
    refine lv_ldc2 (v := Int64.ofInt z) hx hb hown (htb _ (rf_TB_of c3 rfl)) hd ?_
    exact k ls (lv.msk _)
theorem rf_n_lconst {q : Fin 2} (ck : rf_cki nL own ini rt pc len (.lconst q) a b c w z ts = true) (hd : decode cc pc = .ok (.lconst q, len)) (hI : ∀ s', ks s' = some r → rf_Go l d cc own nL rt ini r X s') (h0 : rf_ins cal ms (pc + len) (.lconst q) a b c z ts L st h some ks = some r) : rf_Go l d cc own nL rt ini r X (pc, L, st, h) := by
  simp only [rf_cki, Bool.and_eq_true, decide_eq_true_eq] at ck
  obtain ⟨rfl, rfl⟩ := ck
  simp only [rf_ins] at h0
  refine rf_go_same (hI _ h0) (fun pu => ?_) (fun pu p e R s m args below meth c base ro dC dI cy n0 Q ls H locs cells slots FX lv hP hS k => ?_)
  · exact ⟨pu.1.msk _, rf_okS_c.mpr ⟨by show rf_o64 _; have := q.isLt; unfold rf_o64; omega, pu.2.1⟩⟩
  · obtain ⟨hx, hb, hml, hown, htb, hnt, hK, hro, hz1, hz2, hao, hbs, hR1, hR2, hini⟩ := FX
    refine lv_lconst (v := Int64.ofInt (q.val : Int)) hx hb hd Int64.ofInt_eq_ofNat.symm ?_
    exact k ls (lv.msk _)
theorem rf_n_aconst_null  (ck : rf_cki nL own ini rt pc len (.aconst_null) a b c w z ts = true) (hd : decode cc pc = .ok (.aconst_null, len)) (hI : ∀ s', ks s' = some r → rf_Go l d cc own nL rt ini r X s') (h0 : rf_ins cal ms (pc + len) (.aconst_null) a b c z ts L st h some ks = some r) : rf_Go l d cc own nL rt ini r X (pc, L, st, h) := by
  simp only [rf_cki, Bool.and_eq_true, decide_eq_true_eq] at ck
  obtain rfl := ck
  simp only [rf_ins] at h0
  refine rf_go_same (hI _ h0) (fun pu => ?_) (fun pu p e R s m args below meth c base ro dC dI cy n0 Q ls H locs cells slots FX lv hP hS k => ?_)
  · exact ⟨pu.1.msk _, rf_okS_c.mpr ⟨trivial, pu.2.1⟩⟩
  · obtain ⟨hx, hb, hml, hown, htb, hnt, hK, hro, hz1, hz2, hao, hbs, hR1, hR2, hini⟩ := FX
    refine lv_null hx hb hd ?_
    exact k ls (lv.msk _)
theorem rf_n_iload_n {q : Fin 4} (ck : rf_cki nL own ini rt pc len (.iload_n q) a b c w z ts = true) (hd : decode cc pc = .ok (.iload_n q, len)) (hI : ∀ s', ks s' = some r → rf_Go l d cc own nL rt ini r X s') (h0 : rf_ins cal ms (pc + len) (.iload_n q) a b c z ts L st h some ks = some r) : rf_Go l d cc own nL rt ini r X (pc, L, st, h) := by
  simp only [rf_cki, Bool.and_eq_true, decide_eq_true_eq] at ck
  obtain rfl := ck
  simp only [rf_ins] at h0
  obtain ⟨x, hq, h0⟩ := rf_lI_inv h0
  refine rf_go_same (hI _ h0) (fun pu => ?_) (fun pu p e R s m args below meth c base ro dC dI cy n0 Q ls H locs cells slots FX lv hP hS k => ?_)
  · exact ⟨pu.1.msk _, rf_okS_c.mpr ⟨pu.1 _ _ hq, pu.2.1⟩⟩
  · obtain ⟨hx, hb, hml, hown, htb, hnt, hK, hro, hz1, hz2, hao, hbs, hR1, hR2, hini⟩ := FX
    refine lv_iload_n hx hb hd rfl (lv.2.2.2 _ _ hq) ?_
    exact k ls (lv.msk _)
theorem rf_n_iload {q : Nat} (ck : rf_cki nL own ini rt pc len (.iload q) a b c w z ts = true) (hd : decode cc pc = .ok (.iload q, len)) (hI : ∀ s', ks s' = some r → rf_Go l d cc own nL rt ini r X s') (h0 : rf_ins cal ms (pc + len) (.iload q) a b c z ts L st h some ks = some r) : rf_Go l d cc own nL rt ini r X (pc, L, st, h) := by
  simp only [rf_cki, Bool.and_eq_true, decide_eq_true_eq] at ck
  obtain rfl := ck
  simp only [rf_ins] at h0
  obtain ⟨x, hq, h0⟩ := rf_lI_inv h0
  refine rf_go_same (hI _ h0) (fun pu => ?_) (fun pu p e R s m args below meth c base ro dC dI cy n0 Q ls H locs cells slots FX lv hP hS k => ?_)
  · exact ⟨pu.1.msk _, rf_okS_c.mpr ⟨pu.1 _ _ hq, pu.2.1⟩⟩
  · obtain ⟨hx, hb, hml, hown, htb, hnt, hK, hro, hz1, hz2, hao, hbs, hR1, hR2, hini⟩ := FX
    refine lv_iload hx hb hd (lv.2.2.2 _ _ hq) ?_
    exact k ls (lv.msk _)
theorem rf_n_lload_n {q : Fin 4} (ck : rf_cki nL own ini rt pc len (.lload_n q) a b c w z ts = true) (hd : decode cc pc = .ok (.lload_n q, len)) (hI : ∀ s', ks s' = some r → rf_Go l d cc own nL rt ini r X s') (h0 : rf_ins cal ms (pc + len) (.lload_n q) a b c z ts L st h some ks = some r) : rf_Go l d cc own nL rt ini r X (pc, L, st, h) := by
  simp only [rf_cki, Bool.and_eq_true, decide_eq_true_eq] at ck
  obtain rfl := ck
  simp only [rf_ins] at h0
  obtain ⟨x, hq, h0⟩ := rf_lL_inv h0
  refine rf_go_same (hI _ h0) (fun pu => ?_) (fun pu p e R s m args below meth c base ro dC dI cy n0 Q ls H locs cells slots FX lv hP hS k => ?_)
  · exact ⟨pu.1.msk _, rf_okS_c.mpr ⟨pu.1 _ _ hq, pu.2.1⟩⟩
  · obtain ⟨hx, hb, hml, hown, htb, hnt, hK, hro, hz1, hz2, hao, hbs, hR1, hR2, hini⟩ := FX
    refine lv_lload_n hx hb hd rfl (lv.2.2.2 _ _ hq) ?_
    exact k ls (lv.msk _)
theorem rf_n_lload {q : Nat} (ck : rf_cki nL own ini rt pc len (.lload q) a b c w z ts = true) (hd : decode cc pc = .ok (.lload q, len)) (hI : ∀ s', ks s' = some r → rf_Go l d cc own nL rt ini r X s') (h0 : rf_ins cal ms (pc + len) (.lload q) a b c z ts L st h some ks = some r) : rf_Go l d cc own nL rt ini r X (pc, L, st, h) := by
  simp only [rf_cki, Bool.and_eq_true, decide_eq_true_eq] at ck
  obtain rfl := ck
  simp only [rf_ins] at h0
  obtain ⟨x, hq, h0⟩ := rf_lL_inv h0
  refine rf_go_same (hI _ h0) (fun pu => ?_) (fun pu p e R s m args below meth c base ro dC dI cy n0 Q ls H locs cells slots FX lv hP hS k => ?_)
  · exact ⟨pu.1.msk _, rf_okS_c.mpr ⟨pu.1 _ _ hq, pu.2.1⟩⟩
  · obtain ⟨hx, hb, hml, hown, htb, hnt, hK, hro, hz1, hz2, hao, hbs, hR1, hR2, hini⟩ := FX
    refine lv_lload hx hb hd (lv.2.2.2 _ _ hq) ?_
    exact k ls (lv.msk _)
theorem rf_n_aload_n {q : Fin 4} (ck : rf_cki nL own ini rt pc len (.aload_n q) a b c w z ts = true) (hd : decode cc pc = .ok (.aload_n q, len)) (hI : ∀ s', ks s' = some r → rf_Go l d cc own nL rt ini r X s') (h0 : rf_ins cal ms (pc + len) (.aload_n q) a b c z ts L st h some ks = some r) : rf_Go l d cc own nL rt ini r X (pc, L, st, h) := by
  simp only [rf_cki, Bool.and_eq_true, decide_eq_true_eq] at ck
  obtain rfl := ck
  simp only [rf_ins] at h0
  obtain ⟨x, hq, h0⟩ := rf_lR_inv h0
  refine rf_go_same (hI _ h0) (fun pu => ?_) (fun pu p e R s m args below meth c base ro dC dI cy n0 Q ls H locs cells slots FX lv hP hS k => ?_)
  · exact ⟨pu.1.msk _, rf_okS_c.mpr ⟨trivial, pu.2.1⟩⟩
  · obtain ⟨hx, hb, hml, hown, htb, hnt, hK, hro, hz1, hz2, hao, hbs, hR1, hR2, hini⟩ := FX
    cases x with
    | none => exact lv_aload_nN hx hb hd rfl (lv.2.2.2 _ _ hq) (k ls (lv.msk _))
    | some x => exact lv_aload_n hx hb hd rfl (lv.2.2.2 _ _ hq) (k ls (lv.msk _))
    skip
theorem rf_n_aload {q : Nat} (ck : rf_cki nL own ini rt pc len (.aload q) a b c w z ts = true) (hd : decode cc pc = .ok (.aload q, len)) (hI : ∀ s', ks s' = some r → rf_Go l d cc own nL rt ini r X s') (h0 : rf_ins cal ms (pc + len) (.aload q) a b c z ts L st h some ks = some r) : rf_Go l d cc own nL rt ini r X (pc, L, st, h) := by
  simp only [rf_cki, Bool.and_eq_true, decide_eq_true_eq] at ck
  obtain rfl := ck
  simp only [rf_ins] at h0
  obtain ⟨x, hq, h0⟩ := rf_lR_inv h0
  refine rf_go_same (hI _ h0) (fun pu => ?_) (fun pu p e R s m args below meth c base ro dC dI cy n0 Q ls H locs cells slots FX lv hP hS k => ?_)
  · exact ⟨pu.1.msk _, rf_okS_c.mpr ⟨trivial, pu.2.1⟩⟩
  · obtain ⟨hx, hb, hml, hown, htb, hnt, hK, hro, hz1, hz2, hao, hbs, hR1, hR2, hini⟩ := FX
    cases x with
    | none => exact lv_aloadN hx hb hd (lv.2.2.2 _ _ hq) (k ls (lv.msk _))
    | some x => exact lv_aload hx hb hd (lv.2.2.2 _ _ hq) (k ls (lv.msk _))
    skip
theorem rf_n_istore_n {q : Fin 4} (ck : rf_cki nL own ini rt pc len (.istore_n q) a b c w z ts = true) (hd : decode cc pc = .ok (.istore_n q, len)) (hI : ∀ s', ks s' = some r → rf_Go l d cc own nL rt ini r X s') (h0 : rf_ins cal ms (pc + len) (.istore_n q) a b c z ts L st h some ks = some r) : rf_Go l d cc own nL rt ini r X (pc, L, st, h) := by
  simp only [rf_cki, Bool.and_eq_true, decide_eq_true_eq] at ck
  obtain ⟨rfl, c1⟩ := ck
  simp only [rf_ins] at h0
  obtain ⟨x, st, rfl, h0⟩ := rf_1I_inv h0
  refine rf_go_same (hI _ h0) (fun pu => ?_) (fun pu p e R s m args below meth c base ro dC dI cy n0 Q ls H locs cells slots FX lv hP hS k => ?_)
  · exact ⟨(pu.1.st1 (rf_okS_c.mp pu.2.1).1).msk _, (rf_okS_c.mp pu.2.1).2⟩
  · obtain ⟨hx, hb, hml, hown, htb, hnt, hK, hro, hz1, hz2, hao, hbs, hR1, hR2, hini⟩ := FX
    exact rf_w_istore_n hx hb hd lv c1 k
    skip
theorem rf_n_istore {q : Nat} (ck : rf_cki nL own ini rt pc len (.istore q) a b c w z ts = true) (hd : decode cc pc = .ok (.istore q, len)) (hI : ∀ s', ks s' = some r → rf_Go l d cc own nL rt ini r X s') (h0 : rf_ins cal ms (pc + len) (.istore q) a b c z ts L st h some ks = some r) : rf_Go l d cc own nL rt ini r X (pc, L, st, h) := by
  simp only [rf_cki, Bool.and_eq_true, decide_eq_true_eq] at ck
  obtain ⟨rfl, c1⟩ := ck
  simp only [rf_ins] at h0
  obtain ⟨x, st, rfl, h0⟩ := rf_1I_inv h0
  refine rf_go_same (hI _ h0) (fun pu => ?_) (fun pu p e R s m args below meth c base ro dC dI cy n0 Q ls H locs cells slots FX lv hP hS k => ?_)
  · exact ⟨(pu.1.st1 (rf_okS_c.mp pu.2.1).1).msk _, (rf_okS_c.mp pu.2.1).2⟩
  · obtain ⟨hx, hb, hml, hown, htb, hnt, hK, hro, hz1, hz2, hao, hbs, hR1, hR2, hini⟩ := FX
    exact rf_w_istore hx hb hd lv c1 k
    skip
theorem rf_n_lstore_n {q : Fin 4} (ck : rf_cki nL own ini rt pc len (.lstore_n q) a b c w z ts = true) (hd : decode cc pc = .ok (.lstore_n q, len)) (hI : ∀ s', ks s' = some r → rf_Go l d cc own nL rt ini r X s') (h0 : rf_ins cal ms (pc + len) (.lstore_n q) a b c z ts L st h some ks = some r) : rf_Go l d cc own nL rt ini r X (pc, L, st, h) := by
  simp only [rf_cki, Bool.and_eq_true, decide_eq_true_eq] at ck
  obtain ⟨rfl, c1⟩ := ck
  simp only [rf_ins] at h0
  obtain ⟨x, st, rfl, h0⟩ := rf_1L_inv h0
  refine rf_go_same (hI _ h0) (fun pu => ?_) (fun pu p e R s m args below meth c base ro dC dI cy n0 Q ls H locs cells slots FX lv hP hS k => ?_)
  · exact ⟨(pu.1.st2 (rf_okS_c.mp pu.2.1).1).msk _, (rf_okS_c.mp pu.2.1).2⟩
  · obtain ⟨hx, hb, hml, hown, htb, hnt, hK, hro, hz1, hz2, hao, hbs, hR1, hR2, hini⟩ := FX
    exact rf_w_lstore_n hx hb hd lv c1 k
    skip
theorem rf_n_lstore {q : Nat} (ck : rf_cki nL own ini rt pc len (.lstore q) a b c w z ts = true) (hd : decode cc pc = .ok (.lstore q, len)) (hI : ∀ s', ks s' = some r → rf_Go l d cc own nL rt ini r X s') (h0 : rf_ins cal ms (pc + len) (.lstore q) a b c z ts L st h some ks = some r) : rf_Go l d cc own nL rt ini r X (pc, L, st, h) := by
  simp only [rf_cki, Bool.and_eq_true, decide_eq_true_eq] at ck
  obtain ⟨rfl, c1⟩ := ck
  simp only [rf_ins] at h0
  obtain ⟨x, st, rfl, h0⟩ := rf_1L_inv h0
  refine rf_go_same (hI _ h0) (fun pu => ?_) (fun pu p e R s m args below meth c base ro dC dI cy n0 Q ls H locs cells slots FX lv hP hS k => ?_)
  · exact ⟨(pu.1.st2 (rf_okS_c.mp pu.2.1).1).msk _, (rf_okS_c.mp pu.2.1).2⟩
  · obtain ⟨hx, hb, hml, hown, htb, hnt, hK, hro, hz1, hz2, hao, hbs, hR1, hR2, hini⟩ := FX
    exact rf_w_lstore hx hb hd lv c1 k
    skip
theorem rf_n_astore_n {q : Fin 4} (ck : rf_cki nL own ini rt pc len (.astore_n q) a b c w z ts = true) (hd : decode cc pc = .ok (.astore_n q, len)) (hI : ∀ s', ks s' = some r → rf_Go l d cc own nL rt ini r X s') (h0 : rf_ins cal ms (pc + len) (.astore_n q) a b c z ts L st h some ks = some r) : rf_Go l d cc own nL rt ini r X (pc, L, st, h) := by
  simp only [rf_cki, Bool.and_eq_true, decide_eq_true_eq] at ck
  obtain ⟨rfl, c1⟩ := ck
  simp only [rf_ins] at h0
  obtain ⟨x, st, rfl, h0⟩ := rf_1R_inv h0
  refine rf_go_same (hI _ h0) (fun pu => ?_) (fun pu p e R s m args below meth c base ro dC dI cy n0 Q ls H locs cells slots FX lv hP hS k => ?_)
  · exact ⟨(pu.1.st1 (v := .inr (.inr x)) trivial).msk _, (rf_okS_c.mp pu.2.1).2⟩
  · obtain ⟨hx, hb, hml, hown, htb, hnt, hK, hro, hz1, hz2, hao, hbs, hR1, hR2, hini⟩ := FX
    exact rf_w_astore_n hx hb hd lv c1 k
    skip
theorem rf_n_astore {q : Nat} (ck : rf_cki nL own ini rt pc len (.astore q) a b c w z ts = true) (hd : decode cc pc = .ok (.astore q, len)) (hI : ∀ s', ks s' = some r → rf_Go l d cc own nL rt ini r X s') (h0 : rf_ins cal ms (pc + len) (.astore q) a b c z ts L st h some ks = some r) : rf_Go l d cc own nL rt ini r X (pc, L, st, h) := by
  simp only [rf_cki, Bool.and_eq_true, decide_eq_true_eq] at ck
  obtain ⟨rfl, c1⟩ := ck
  simp only [rf_ins] at h0
  obtain ⟨x, st, rfl, h0⟩ := rf_1R_inv h0
  refine rf_go_same (hI _ h0) (fun pu => ?_) (fun pu p e R s m args below meth c base ro dC dI cy n0 Q ls H locs cells slots FX lv hP hS k => ?_)
  · exact ⟨(pu.1.st1 (v := .inr (.inr x)) trivial).msk _, (rf_okS_c.mp pu.2.1).2⟩
  · obtain ⟨hx, hb, hml, hown, htb, hnt, hK, hro, hz1, hz2, hao, hbs, hR1, hR2, hini⟩ := FX
    exact rf_w_astore hx hb hd lv c1 k
    skip
theorem rf_n_iinc {q : Nat} {n : Int} (ck : rf_cki nL own ini rt pc len (.iinc q n) a b c w z ts = true) (hd : decode cc pc = .ok (.iinc q n, len)) (hI : ∀ s', ks s' = some r → rf_Go l d cc own nL rt ini r X s') (h0 : rf_ins cal ms (pc + len) (.iinc q n) a b c z ts L st h some ks = some r) : rf_Go l d cc own nL rt ini r X (pc, L, st, h) := by
  simp only [rf_cki, Bool.and_eq_true, decide_eq_true_eq] at ck
  obtain rfl := ck
  simp only [rf_ins] at h0
  obtain ⟨x, hq, h0⟩ := rf_lI_inv h0
  refine rf_go_same (hI _ h0) (fun pu => ?_) (fun pu p e R s m args below meth c base ro dC dI cy n0 Q ls H locs cells slots FX lv hP hS k => ?_)
  · exact ⟨(pu.1.st1 (v := .inl (rf_w (x + n))) (rf_o32w _)).msk _, pu.2.1⟩
  · obtain ⟨hx, hb, hml, hown, htb, hnt, hK, hro, hz1, hz2, hao, hbs, hR1, hR2, hini⟩ := FX
    exact rf_w_iinc hx hb hd lv hq k
    skip
theorem rf_n_iadd  (ck : rf_cki nL own ini rt pc len (.iadd) a b c w z ts = true) (hd : decode cc pc = .ok (.iadd, len)) (hI : ∀ s', ks s' = some r → rf_Go l d cc own nL rt ini r X s') (h0 : rf_ins cal ms (pc + len) (.iadd) a b c z ts L st h some ks = some r) : rf_Go l d cc own nL rt ini r X (pc, L, st, h) := by
  simp only [rf_cki, Bool.and_eq_true, decide_eq_true_eq] at ck
  obtain rfl := ck
  simp only [rf_ins] at h0
  obtain ⟨x, y, st, rfl, h0⟩ := rf_2I_inv h0
  refine rf_go_same (hI _ h0) (fun pu => ?_) (fun pu p e R s m args below meth c base ro dC dI cy n0 Q ls H locs cells slots FX lv hP hS k => ?_)
  · exact ⟨pu.1.msk _, rf_okS_c.mpr ⟨rf_o32w _, (rf_okS_c.mp (rf_okS_c.mp pu.2.1).2).2⟩⟩
  · obtain ⟨hx, hb, hml, hown, htb, hnt, hK, hro, hz1, hz2, hao, hbs, hR1, hR2, hini⟩ := FX
    refine lv_iadd hx hb hd ?_
    rw [rf_vadd]
    exact k ls (lv.msk _)
theorem rf_n_isub  (ck : rf_cki nL own ini rt pc len (.isub) a b c w z ts = true) (hd : decode cc pc = .ok (.isub, len)) (hI : ∀ s', ks s' = some r → rf_Go l d cc own nL rt ini r X s') (h0 : rf_ins cal ms (pc + len) (.isub) a b c z ts L st h some ks = some r) : rf_Go l d cc own nL rt ini r X (pc, L, st, h) := by
  simp only [rf_cki, Bool.and_eq_true, decide_eq_true_eq] at ck
  obtain rfl := ck
  simp only [rf_ins] at h0
  obtain ⟨x, y, st, rfl, h0⟩ := rf_2I_inv h0
  refine rf_go_same (hI _ h0) (fun pu => ?_) (fun pu p e R s m args below meth c base ro dC dI cy n0 Q ls H locs cells slots FX lv hP hS k => ?_)
  · exact ⟨pu.1.msk _, rf_okS_c.mpr ⟨rf_o32w _, (rf_okS_c.mp (rf_okS_c.mp pu.2.1).2).2⟩⟩
  · obtain ⟨hx, hb, hml, hown, htb, hnt, hK, hro, hz1, hz2, hao, hbs, hR1, hR2, hini⟩ := FX
    refine lv_isub hx hb hd ?_
    rw [rf_vsub]
    exact k ls (lv.msk _)
theorem rf_n_imul  (ck : rf_cki nL own ini rt pc len (.imul) a b c w z ts = true) (hd : decode cc pc = .ok (.imul, len)) (hI : ∀ s', ks s' = some r → rf_Go l d cc own nL rt ini r X s') (h0 : rf_ins cal ms (pc + len) (.imul) a b c z ts L st h some ks = some r) : rf_Go l d cc own nL rt ini r X (pc, L, st, h) := by
  simp only [rf_cki, Bool.and_eq_true, decide_eq_true_eq] at ck
  obtain rfl := ck
  simp only [rf_ins] at h0
  obtain ⟨x, y, st, rfl, h0⟩ := rf_2I_inv h0
  refine rf_go_same (hI _ h0) (fun pu => ?_) (fun pu p e R s m args below meth c base ro dC dI cy n0 Q ls H locs cells slots FX lv hP hS k => ?_)
  · exact ⟨pu.1.msk _, rf_okS_c.mpr ⟨rf_o32w _, (rf_okS_c.mp (rf_okS_c.mp pu.2.1).2).2⟩⟩
  · obtain ⟨hx, hb, hml, hown, htb, hnt, hK, hro, hz1, hz2, hao, hbs, hR1, hR2, hini⟩ := FX
    refine lv_imul hx hb hd ?_
    rw [rf_vmul]
    exact k ls (lv.msk _)
theorem rf_n_iand  (ck : rf_cki nL own ini rt pc len (.iand) a b c w z ts = true) (hd : decode cc pc = .ok (.iand, len)) (hI : ∀ s', ks s' = some r → rf_Go l d cc own nL rt ini r X s') (h0 : rf_ins cal ms (pc + len) (.iand) a b c z ts L st h some ks = some r) : rf_Go l d cc own nL rt ini r X (pc, L, st, h) := by
  simp only [rf_cki, Bool.and_eq_true, decide_eq_true_eq] at ck
  obtain rfl := ck
  simp only [rf_ins] at h0
  obtain ⟨x, y, st, rfl, h0⟩ := rf_2I_inv h0
  refine rf_go_same (hI _ h0) (fun pu => ?_) (fun pu p e R s m args below meth c base ro dC dI cy n0 Q ls H locs cells slots FX lv hP hS k => ?_)
  · exact ⟨pu.1.msk _, rf_okS_c.mpr ⟨rf_o32i _, (rf_okS_c.mp (rf_okS_c.mp pu.2.1).2).2⟩⟩
  · obtain ⟨hx, hb, hml, hown, htb, hnt, hK, hro, hz1, hz2, hao, hbs, hR1, hR2, hini⟩ := FX
    refine lv_iand hx hb hd ?_
    rw [rf_vand]
    exact k ls (lv.msk _)
theorem rf_n_ior  (ck : rf_cki nL own ini rt pc len (.ior) a b c w z ts = true) (hd : decode cc pc = .ok (.ior, len)) (hI : ∀ s', ks s' = some r → rf_Go l d cc own nL rt ini r X s') (h0 : rf_ins cal ms (pc + len) (.ior) a b c z ts L st h some ks = some r) : rf_Go l d cc own nL rt ini r X (pc, L, st, h) := by
  simp only [rf_cki, Bool.and_eq_true, decide_eq_true_eq] at ck
  obtain rfl := ck
  simp only [rf_ins] at h0
  obtain ⟨x, y, st, rfl, h0⟩ := rf_2I_inv h0
  refine rf_go_same (hI _ h0) (fun pu => ?_) (fun pu p e R s m args below meth c base ro dC dI cy n0 Q ls H locs cells slots FX lv hP hS k => ?_)
  · exact ⟨pu.1.msk _, rf_okS_c.mpr ⟨rf_o32i _, (rf_okS_c.mp (rf_okS_c.mp pu.2.1).2).2⟩⟩
  · obtain ⟨hx, hb, hml, hown, htb, hnt, hK, hro, hz1, hz2, hao, hbs, hR1, hR2, hini⟩ := FX
    refine lv_ior hx hb hd ?_
    rw [rf_vor]
    exact k ls (lv.msk _)
theorem rf_n_ixor  (ck : rf_cki nL own ini rt pc len (.ixor) a b c w z ts = true) (hd : decode cc pc = .ok (.ixor, len)) (hI : ∀ s', ks s' = some r → rf_Go l d cc own nL rt ini r X s') (h0 : rf_ins cal ms (pc + len) (.ixor) a b c z ts L st h some ks = some r) : rf_Go l d cc own nL rt ini r X (pc, L, st, h) := by
  simp only [rf_cki, Bool.and_eq_true, decide_eq_true_eq] at ck
  obtain rfl := ck
  simp only [rf_ins] at h0
  obtain ⟨x, y, st, rfl, h0⟩ := rf_2I_inv h0
  refine rf_go_same (hI _ h0) (fun pu => ?_) (fun pu p e R s m args below meth c base ro dC dI cy n0 Q ls H locs cells slots FX lv hP hS k => ?_)
  · exact ⟨pu.1.msk _, rf_okS_c.mpr ⟨rf_o32i _, (rf_okS_c.mp (rf_okS_c.mp pu.2.1).2).2⟩⟩
  · obtain ⟨hx, hb, hml, hown, htb, hnt, hK, hro, hz1, hz2, hao, hbs, hR1, hR2, hini⟩ := FX
    refine lv_ixor hx hb hd ?_
    rw [rf_vxor]
    exact k ls (lv.msk _)
theorem rf_n_ishl  (ck : rf_cki nL own ini rt pc len (.ishl) a b c w z ts = true) (hd : decode cc pc = .ok (.ishl, len)) (hI : ∀ s', ks s' = some r → rf_Go l d cc own nL rt ini r X s') (h0 : rf_ins cal ms (pc + len) (.ishl) a b c z ts L st h some ks = some r) : rf_Go l d cc own nL rt ini r X (pc, L, st, h) := by
  simp only [rf_cki, Bool.and_eq_true, decide_eq_true_eq] at ck
  obtain rfl := ck
  simp only [rf_ins] at h0
  obtain ⟨x, y, st, rfl, h0⟩ := rf_2I_inv h0
  refine rf_go_same (hI _ h0) (fun pu => ?_) (fun pu p e R s m args below meth c base ro dC dI cy n0 Q ls H locs cells slots FX lv hP hS k => ?_)
  · exact ⟨pu.1.msk _, rf_okS_c.mpr ⟨rf_o32i _, (rf_okS_c.mp (rf_okS_c.mp pu.2.1).2).2⟩⟩
  · obtain ⟨hx, hb, hml, hown, htb, hnt, hK, hro, hz1, hz2, hao, hbs, hR1, hR2, hini⟩ := FX
    refine lv_ishl hx hb hd ?_
    rw [rf_vshl]
    exact k ls (lv.msk _)
theorem rf_n_ishr  (ck : rf_cki nL own ini rt pc len (.ishr) a b c w z ts = true) (hd : decode cc pc = .ok (.ishr, len)) (hI : ∀ s', ks s' = some r → rf_Go l d cc own nL rt ini r X s') (h0 : rf_ins cal ms (pc + len) (.ishr) a b c z ts L st h some ks = some r) : rf_Go l d cc own nL rt ini r X (pc, L, st, h) := by
  simp only [rf_cki, Bool.and_eq_true, decide_eq_true_eq] at ck
  obtain rfl := ck
  simp only [rf_ins] at h0
  obtain ⟨x, y, st, rfl, h0⟩ := rf_2I_inv h0
  refine rf_go_same (hI _ h0) (fun pu => ?_) (fun pu p e R s m args below meth c base ro dC dI cy n0 Q ls H locs cells slots FX lv hP hS k => ?_)
  · exact ⟨pu.1.msk _, rf_okS_c.mpr ⟨rf_o32i _, (rf_okS_c.mp (rf_okS_c.mp pu.2.1).2).2⟩⟩
  · obtain ⟨hx, hb, hml, hown, htb, hnt, hK, hro, hz1, hz2, hao, hbs, hR1, hR2, hini⟩ := FX
    refine lv_ishr hx hb hd ?_
    rw [rf_vshr]
    exact k ls (lv.msk _)
theorem rf_n_iushr  (ck : rf_cki nL own ini rt pc len (.iushr) a b c w z ts = true) (hd : decode cc pc = .ok (.iushr, len)) (hI : ∀ s', ks s' = some r → rf_Go l d cc own nL rt ini r X s') (h0 : rf_ins cal ms (pc + len) (.iushr) a b c z ts L st h some ks = some r) : rf_Go l d cc own nL rt ini r X (pc, L, st, h) := by
  simp only [rf_cki, Bool.and_eq_true, decide_eq_true_eq] at ck
  obtain rfl := ck
  simp only [rf_ins] at h0
  obtain ⟨x, y, st, rfl, h0⟩ := rf_2I_inv h0
  refine rf_go_same (hI _ h0) (fun pu => ?_) (fun pu p e R s m args below meth c base ro dC dI cy n0 Q ls H locs cells slots FX lv hP hS k => ?_)
  · exact ⟨pu.1.msk _, rf_okS_c.mpr ⟨rf_o32i _, (rf_okS_c.mp (rf_okS_c.mp pu.2.1).2).2⟩⟩
  · obtain ⟨hx, hb, hml, hown, htb, hnt, hK, hro, hz1, hz2, hao, hbs, hR1, hR2, hini⟩ := FX
    refine lv_iushr hx hb hd (rf_vushr x y) ?_
    exact k ls (lv.msk _)
theorem rf_n_ladd  (ck : rf_cki nL own ini rt pc len (.ladd) a b c w z ts = true) (hd : decode cc pc = .ok (.ladd, len)) (hI : ∀ s', ks s' = some r → rf_Go l d cc own nL rt ini r X s') (h0 : rf_ins cal ms (pc + len) (.ladd) a b c z ts L st h some ks = some r) : rf_Go l d cc own nL rt ini r X (pc, L, st, h) := by
  simp only [rf_cki, Bool.and_eq_true, decide_eq_true_eq] at ck
  obtain rfl := ck
  simp only [rf_ins] at h0
  obtain ⟨x, y, st, rfl, h0⟩ := rf_2L_inv h0
  refine rf_go_same (hI _ h0) (fun pu => ?_) (fun pu p e R s m args below meth c base ro dC dI cy n0 Q ls H locs cells slots FX lv hP hS k => ?_)
  · exact ⟨pu.1.msk _, rf_okS_c.mpr ⟨rf_o64w _, (rf_okS_c.mp (rf_okS_c.mp pu.2.1).2).2⟩⟩
  · obtain ⟨hx, hb, hml, hown, htb, hnt, hK, hro, hz1, hz2, hao, hbs, hR1, hR2, hini⟩ := FX
    refine lv_ladd hx hb hd ?_
    rw [rf_vladd]
    exact k ls (lv.msk _)
theorem rf_n_lsub  (ck : rf_cki nL own ini rt pc len (.lsub) a b c w z ts = true) (hd : decode cc pc = .ok (.lsub, len)) (hI : ∀ s', ks s' = some r → rf_Go l d cc own nL rt ini r X s') (h0 : rf_ins cal ms (pc + len) (.lsub) a b c z ts L st h some ks = some r) : rf_Go l d cc own nL rt ini r X (pc, L, st, h) := by
  simp only [rf_cki, Bool.and_eq_true, decide_eq_true_eq] at ck
  obtain rfl := ck
  simp only [rf_ins] at h0
  obtain ⟨x, y, st, rfl, h0⟩ := rf_2L_inv h0
  refine rf_go_same (hI _ h0) (fun pu => ?_) (fun pu p e R s m args below meth c base ro dC dI cy n0 Q ls H locs cells slots FX lv hP hS k => ?_)
  · exact ⟨pu.1.msk _, rf_okS_c.mpr ⟨rf_o64w _, (rf_okS_c.mp (rf_okS_c.mp pu.2.1).2).2⟩⟩
  · obtain ⟨hx, hb, hml, hown, htb, hnt, hK, hro, hz1, hz2, hao, hbs, hR1, hR2, hini⟩ := FX
    refine lv_lsub hx hb hd ?_
    rw [rf_vlsub]
    exact k ls (lv.msk _)
theorem rf_n_lmul  (ck : rf_cki nL own ini rt pc len (.lmul) a b c w z ts = true) (hd : decode cc pc = .ok (.lmul, len)) (hI : ∀ s', ks s' = some r → rf_Go l d cc own nL rt ini r X s') (h0 : rf_ins cal ms (pc + len) (.lmul) a b c z ts L st h some ks = some r) : rf_Go l d cc own nL rt ini r X (pc, L, st, h) := by
  simp only [rf_cki, Bool.and_eq_true, decide_eq_true_eq] at ck
  obtain rfl := ck
  simp only [rf_ins] at h0
  obtain ⟨x, y, st, rfl, h0⟩ := rf_2L_inv h0
  refine rf_go_same (hI _ h0) (fun pu => ?_) (fun pu p e R s m args below meth c base ro dC dI cy n0 Q ls H locs cells slots FX lv hP hS k => ?_)
  · exact ⟨pu.1.msk _, rf_okS_c.mpr ⟨rf_o64w _, (rf_okS_c.mp (rf_okS_c.mp pu.2.1).2).2⟩⟩
  · obtain ⟨hx, hb, hml, hown, htb, hnt, hK, hro, hz1, hz2, hao, hbs, hR1, hR2, hini⟩ := FX
    refine lv_lmul hx hb hd ?_
    rw [rf_vlmul]
    exact k ls (lv.msk _)
theorem rf_n_idiv  (ck : rf_cki nL own ini rt pc len (.idiv) a b c w z ts = true) (hd : decode cc pc = .ok (.idiv, len)) (hI : ∀ s', ks s' = some r → rf_Go l d cc own nL rt ini r X s') (h0 : rf_ins cal ms (pc + len) (.idiv) a b c z ts L st h some ks = some r) : rf_Go l d cc own nL rt ini r X (pc, L, st, h) := by
  simp only [rf_cki, Bool.and_eq_true, decide_eq_true_eq] at ck
  obtain rfl := ck
  simp only [rf_ins] at h0
  obtain ⟨x, y, st, rfl, h1⟩ := rf_2I_inv h0
  have hy : ¬ y = 0 := fun q => by rw [if_pos q] at h1; cases h1
  rw [if_neg hy] at h1
  clear h0
  have h0 := h1
  refine rf_go_same (hI _ h0) (fun pu => ?_) (fun pu p e R s m args below meth c base ro dC dI cy n0 Q ls H locs cells slots FX lv hP hS k => ?_)
  · exact ⟨pu.1.msk _, rf_okS_c.mpr ⟨rf_o32w _, (rf_okS_c.mp (rf_okS_c.mp pu.2.1).2).2⟩⟩
  · obtain ⟨hx, hb, hml, hown, htb, hnt, hK, hro, hz1, hz2, hao, hbs, hR1, hR2, hini⟩ := FX
    have oy := (rf_okS_c.mp pu.2.1).1
    have ox := (rf_okS_c.mp (rf_okS_c.mp pu.2.1).2).1
    refine lv_idiv hx hb hd (rf_vz oy hy) ?_
    rw [rf_vdiv ox oy]
    exact k ls (lv.msk _)
theorem rf_n_irem  (ck : rf_cki nL own ini rt pc len (.irem) a b c w z ts = true) (hd : decode cc pc = .ok (.irem, len)) (hI : ∀ s', ks s' = some r → rf_Go l d cc own nL rt ini r X s') (h0 : rf_ins cal ms (pc + len) (.irem) a b c z ts L st h some ks = some r) : rf_Go l d cc own nL rt ini r X (pc, L, st, h) := by
  simp only [rf_cki, Bool.and_eq_true, decide_eq_true_eq] at ck
  obtain rfl := ck
  simp only [rf_ins] at h0
  obtain ⟨x, y, st, rfl, h1⟩ := rf_2I_inv h0
  have hy : ¬ y = 0 := fun q => by rw [if_pos q] at h1; cases h1
  rw [if_neg hy] at h1
  clear h0
  have h0 := h1
  refine rf_go_same (hI _ h0) (fun pu => ?_) (fun pu p e R s m args below meth c base ro dC dI cy n0 Q ls H locs cells slots FX lv hP hS k => ?_)
  · exact ⟨pu.1.msk _, rf_okS_c.mpr ⟨rf_orem (rf_okS_c.mp (rf_okS_c.mp pu.2.1).2).1 (rf_okS_c.mp pu.2.1).1, (rf_okS_c.mp (rf_okS_c.mp pu.2.1).2).2⟩⟩
  · obtain ⟨hx, hb, hml, hown, htb, hnt, hK, hro, hz1, hz2, hao, hbs, hR1, hR2, hini⟩ := FX
    have oy := (rf_okS_c.mp pu.2.1).1
    have ox := (rf_okS_c.mp (rf_okS_c.mp pu.2.1).2).1
    refine lv_irem hx hb hd (rf_vz oy hy) ?_
    rw [rf_vrem ox oy]
    exact k ls (lv.msk _)
theorem rf_n_ldiv  (ck : rf_cki nL own ini rt pc len (.ldiv) a b c w z ts = true) (hd : decode cc pc = .ok (.ldiv, len)) (hI : ∀ s', ks s' = some r → rf_Go l d cc own nL rt ini r X s') (h0 : rf_ins cal ms (pc + len) (.ldiv) a b c z ts L st h some ks = some r) : rf_Go l d cc own nL rt ini r X (pc, L, st, h) := by
  simp only [rf_cki, Bool.and_eq_true, decide_eq_true_eq] at ck
  obtain rfl := ck
  simp only [rf_ins] at h0
  obtain ⟨x, y, st, rfl, h1⟩ := rf_2L_inv h0
  have hy : ¬ y = 0 := fun q => by rw [if_pos q] at h1; cases h1
  rw [if_neg hy] at h1
  clear h0
  have h0 := h1
  refine rf_go_same (hI _ h0) (fun pu => ?_) (fun pu p e R s m args below meth c base ro dC dI cy n0 Q ls H locs cells slots FX lv hP hS k => ?_)
  · exact ⟨pu.1.msk _, rf_okS_c.mpr ⟨rf_o64w _, (rf_okS_c.mp (rf_okS_c.mp pu.2.1).2).2⟩⟩
  · obtain ⟨hx, hb, hml, hown, htb, hnt, hK, hro, hz1, hz2, hao, hbs, hR1, hR2, hini⟩ := FX
    have oy := (rf_okS_c.mp pu.2.1).1
    have ox := (rf_okS_c.mp (rf_okS_c.mp pu.2.1).2).1
    refine lv_ldiv hx hb hd (rf_vlz oy hy) ?_
    rw [rf_vldiv ox oy]
    exact k ls (lv.msk _)
theorem rf_n_lrem  (ck : rf_cki nL own ini rt pc len (.lrem) a b c w z ts = true) (hd : decode cc pc = .ok (.lrem, len)) (hI : ∀ s', ks s' = some r → rf_Go l d cc own nL rt ini r X s') (h0 : rf_ins cal ms (pc + len) (.lrem) a b c z ts L st h some ks = some r) : rf_Go l d cc own nL rt ini r X (pc, L, st, h) := by
  simp only [rf_cki, Bool.and_eq_true, decide_eq_true_eq] at ck
  obtain rfl := ck
  simp only [rf_ins] at h0
  obtain ⟨x, y, st, rfl, h1⟩ := rf_2L_inv h0
  have hy : ¬ y = 0 := fun q => by rw [if_pos q] at h1; cases h1
  rw [if_neg hy] at h1
  clear h0
  have h0 := h1
  refine rf_go_same (hI _ h0) (fun pu => ?_) (fun pu p e R s m args below meth c base ro dC dI cy n0 Q ls H locs cells slots FX lv hP hS k => ?_)
  · exact ⟨pu.1.msk _, rf_okS_c.mpr ⟨rf_olrem (rf_okS_c.mp (rf_okS_c.mp pu.2.1).2).1 (rf_okS_c.mp pu.2.1).1, (rf_okS_c.mp (rf_okS_c.mp pu.2.1).2).2⟩⟩
  · obtain ⟨hx, hb, hml, hown, htb, hnt, hK, hro, hz1, hz2, hao, hbs, hR1, hR2, hini⟩ := FX
    have oy := (rf_okS_c.mp pu.2.1).1
    have ox := (rf_okS_c.mp (rf_okS_c.mp pu.2.1).2).1
    refine lv_lrem hx hb hd (rf_vlz oy hy) ?_
    rw [rf_vlrem ox oy]
    exact k ls (lv.msk _)
theorem rf_n_i2l  (ck : rf_cki nL own ini rt pc len (.i2l) a b c w z ts = true) (hd : decode cc pc = .ok (.i2l, len)) (hI : ∀ s', ks s' = some r → rf_Go l d cc own nL rt ini r X s') (h0 : rf_ins cal ms (pc + len) (.i2l) a b c z ts L st h some ks = some r) : rf_Go l d cc own nL rt ini r X (pc, L, st, h) := by
  simp only [rf_cki, Bool.and_eq_true, decide_eq_true_eq] at ck
  obtain rfl := ck
  simp only [rf_ins] at h0
  obtain ⟨x, st, rfl, h0⟩ := rf_1I_inv h0
  refine rf_go_same (hI _ h0) (fun pu => ?_) (fun pu p e R s m args below meth c base ro dC dI cy n0 Q ls H locs cells slots FX lv hP hS k => ?_)
  · exact ⟨pu.1.msk _, rf_okS_c.mpr ⟨by have := (rf_okS_c.mp pu.2.1).1; show rf_o64 _; unfold rf_o64; unfold rf_ok rf_o32 at this; omega, (rf_okS_c.mp pu.2.1).2⟩⟩
  · obtain ⟨hx, hb, hml, hown, htb, hnt, hK, hro, hz1, hz2, hao, hbs, hR1, hR2, hini⟩ := FX
    refine lv_i2l hx hb hd (rf_vi2l (rf_okS_c.mp pu.2.1).1) ?_
    exact k ls (lv.msk _)
theorem rf_n_l2i  (ck : rf_cki nL own ini rt pc len (.l2i) a b c w z ts = true) (hd : decode cc pc = .ok (.l2i, len)) (hI : ∀ s', ks s' = some r → rf_Go l d cc own nL rt ini r X s') (h0 : rf_ins cal ms (pc + len) (.l2i) a b c z ts L st h some ks = some r) : rf_Go l d cc own nL rt ini r X (pc, L, st, h) := by
  simp only [rf_cki, Bool.and_eq_true, decide_eq_true_eq] at ck
  obtain rfl := ck
  simp only [rf_ins] at h0
  obtain ⟨x, st, rfl, h0⟩ := rf_1L_inv h0
  refine rf_go_same (hI _ h0) (fun pu => ?_) (fun pu p e R s m args below meth c base ro dC dI cy n0 Q ls H locs cells slots FX lv hP hS k => ?_)
  · exact ⟨pu.1.msk _, rf_okS_c.mpr ⟨rf_o32w _, (rf_okS_c.mp pu.2.1).2⟩⟩
  · obtain ⟨hx, hb, hml, hown, htb, hnt, hK, hro, hz1, hz2, hao, hbs, hR1, hR2, hini⟩ := FX
    refine lv_l2i hx hb hd (rf_vl2i (rf_okS_c.mp pu.2.1).1) ?_
    exact k ls (lv.msk _)
theorem rf_n_i2b  (ck : rf_cki nL own ini rt pc len (.i2b) a b c w z ts = true) (hd : decode cc pc = .ok (.i2b, len)) (hI : ∀ s', ks s' = some r → rf_Go l d cc own nL rt ini r X s') (h0 : rf_ins cal ms (pc + len) (.i2b) a b c z ts L st h some ks = some r) : rf_Go l d cc own nL rt ini r X (pc, L, st, h) := by
  simp only [rf_cki, Bool.and_eq_true, decide_eq_true_eq] at ck
  obtain rfl := ck
  simp only [rf_ins] at h0
  obtain ⟨x, st, rfl, h0⟩ := rf_1I_inv h0
  refine rf_go_same (hI _ h0) (fun pu => ?_) (fun pu p e R s m args below meth c base ro dC dI cy n0 Q ls H locs cells slots FX lv hP hS k => ?_)
  · exact ⟨pu.1.msk _, rf_okS_c.mpr ⟨rf_o32w8 _, (rf_okS_c.mp pu.2.1).2⟩⟩
  · obtain ⟨hx, hb, hml, hown, htb, hnt, hK, hro, hz1, hz2, hao, hbs, hR1, hR2, hini⟩ := FX
    refine lv_i2b hx hb hd (rf_vi2b (rf_okS_c.mp pu.2.1).1) ?_
    exact k ls (lv.msk _)
theorem rf_n_lcmp  (ck : rf_cki nL own ini rt pc len (.lcmp) a b c w z ts = true) (hd : decode cc pc = .ok (.lcmp, len)) (hI : ∀ s', ks s' = some r → rf_Go l d cc own nL rt ini r X s') (h0 : rf_ins cal ms (pc + len) (.lcmp) a b c z ts L st h some ks = some r) : rf_Go l d cc own nL rt ini r X (pc, L, st, h) := by
  simp only [rf_cki, Bool.and_eq_true, decide_eq_true_eq] at ck
  obtain rfl := ck
  simp only [rf_ins] at h0
  obtain ⟨x, y, st, rfl, h0⟩ := rf_2L_inv h0
  refine rf_go_same (hI _ h0) (fun pu => ?_) (fun pu p e R s m args below meth c base ro dC dI cy n0 Q ls H locs cells slots FX lv hP hS k => ?_)
  · exact ⟨pu.1.msk _, rf_okS_c.mpr ⟨rf_ocmp _ _, (rf_okS_c.mp (rf_okS_c.mp pu.2.1).2).2⟩⟩
  · obtain ⟨hx, hb, hml, hown, htb, hnt, hK, hro, hz1, hz2, hao, hbs, hR1, hR2, hini⟩ := FX
    refine W.lcmp hx hb hd ?_
    rw [rf_vcmp (rf_okS_c.mp (rf_okS_c.mp pu.2.1).2).1 (rf_okS_c.mp pu.2.1).1]
    exact k ls (lv.msk _)
end RFG
