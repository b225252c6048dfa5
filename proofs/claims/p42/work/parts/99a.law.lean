/-! The claim out of one walk of the law's body; the rows of the law's head and end are the skeleton's. -/
def R_law : String := "WheelsSlipLaw"
def lw_P (b : Addr) (xs : List Int32) (args : Array Value) (s : State) : Prop := args = #[.ref b] ∧ s.IntsAt b xs ∧ xs.length ≤ 260 ∧ (Jvm.Cond.and given_1 narrow_1).before args s = true
def lw_Q (_ : Array Value) (s : State) (o : Outcome) (t : State) : Prop := o = .returned (some (.int 1)) ∧ Framed s o t [] 600000 7302250
def lw_Z (below : List Frame) (a : Array Value) (s : State) : State → Prop := fun t => ∃ o, t.status = .running ∧ Ended t below o ∧ lw_Q a s o t
/-- the law's own end, with 1 on the stack, nothing written that was there before, its room as the claim has it -/
theorem lw_ret {p : Program} {l : Launch} {e : Env} {s : State} {m : MethodId} {below : List Frame} {meth : Method} {c : Code} {b : Nat} (hx : p.tables.exec = Jvm.exec) (hb : c.code = code) (hr : meth.sig.returnType = ret) (hlocks : meth.locks = false) {pc : Nat} {H : Heap} {ls : Array Slot} (hdg : decode code pc = .ok (.ireturn, 1)) : W p l e room_1 s m #[Value.ref b] below meth c H [] 600000 7302250 (lw_Z below #[Value.ref b] s) (F0 m pc ls [.int 1]) := by
  intro T hT X
  obtain ⟨fs, hret, hrun, hended, hW, hframe⟩ := X.leave (v := some (.int 1)) (hlocks := hlocks) (fun h => by rw [hr] at h; cases h)
  have hmeth' : T.vm.method? m = some meth := X.method'
  refine ⟨T.setFrames fs, ?_, .returned (some (.int 1)), hrun, hended, rfl, ⟨_, rfl⟩, hW, hframe⟩
  jvm_step X.here [X.here.top, hx, hb, hdg, hmeth', hr, ret, narrow_b1]
  (try refine ⟨rfl, ?_⟩); (try refine ⟨rfl, ?_⟩)
  first | (intro acts; rw [hret _ acts rfl rfl rfl]) | rw [hret _ _ rfl rfl rfl]
  exact Steps.refl _
/-- what holds at the law's entry: the machine, the code, the tables' words (any of lw_tbl by 'hts w (by decide +kernel)'), the script of L ints xs at the cell b, what the Statement gives of the start (any of its parts by flat_of_before) -/
def lw_At (p : Program) (s : State) (m : MethodId) (meth : Method) (c : Code) (b L : Nat) (xs : Nat → Int32) : Prop :=
  p.tables.exec = Jvm.exec ∧ c.code = code ∧ meth.sig.returnType = ret ∧ c.maxLocals = 25 ∧ s.vm.findClass R_law = some m.cls ∧ (∀ w ∈ lw_tbl, w.before #[Value.ref b] s = true) ∧ va_X b L xs s s.heap ∧ b < s.heap.size ∧ meth.locks = false ∧ (Jvm.Cond.and given_1 narrow_1).before #[Value.ref b] s = true
/-! the rows that are there from the start -/
def lw_R (i : Nat) : Int := match i with
  | 0 => 100
  | 1 => 119
  | _ => 108
def lw_K (i : Nat) : Int := match i with
  | 0 => 119
  | 1 => 104
  | 2 => 115
  | 3 => 112
  | 4 => 114
  | _ => 98
def lw_X (L : Nat) (xs : Nat → Int32) : rf_X := fun j => match j with
  | 0 => (L, fun i => (xs i).toInt)
  | 1 => (3, lw_R)
  | _ => (6, lw_K)
theorem lw_XL (L : Nat) (xs : Nat → Int32) : XL (lw_X L xs) := ⟨rfl, rfl, ⟨rfl, rfl, rfl⟩, rfl, rfl, rfl, rfl, rfl, rfl⟩
theorem lw_Xs (L : Nat) (xs : Nat → Int32) : ∀ j, I32 ((lw_X L xs 0).2 j) := fun j => by
  have h1 := (xs j).le_toInt
  have h2 := (xs j).toInt_lt
  show -2147483648 ≤ (xs j).toInt ∧ (xs j).toInt ≤ 2147483647
  exact ⟨by omega, by omega⟩
theorem lw_R3 : ∀ i, rf_o32 (lw_R i) := fun i => by
  rcases i with _ | _ | i
  · exact (by decide : -2147483648 ≤ (100 : Int) ∧ (100 : Int) < 2147483648)
  · exact (by decide : -2147483648 ≤ (119 : Int) ∧ (119 : Int) < 2147483648)
  · exact (by decide : -2147483648 ≤ (108 : Int) ∧ (108 : Int) < 2147483648)
theorem lw_K3 : ∀ i, rf_o32 (lw_K i) := fun i => by
  rcases i with _ | _ | _ | _ | _ | i
  · exact (by decide : -2147483648 ≤ (119 : Int) ∧ (119 : Int) < 2147483648)
  · exact (by decide : -2147483648 ≤ (104 : Int) ∧ (104 : Int) < 2147483648)
  · exact (by decide : -2147483648 ≤ (115 : Int) ∧ (115 : Int) < 2147483648)
  · exact (by decide : -2147483648 ≤ (112 : Int) ∧ (112 : Int) < 2147483648)
  · exact (by decide : -2147483648 ≤ (114 : Int) ∧ (114 : Int) < 2147483648)
  · exact (by decide : -2147483648 ≤ (98 : Int) ∧ (98 : Int) < 2147483648)
theorem lw_Xo {L : Nat} (hL : L ≤ 260) (xs : Nat → Int32) : rf_okX (lw_X L xs) := fun j hj => by
  rcases j with _ | _ | _ | j
  · refine ⟨by show L ≤ 100000; omega, fun i => ?_⟩
    have h1 := (xs i).le_toInt
    have h2 := (xs i).toInt_lt
    show -2147483648 ≤ (xs i).toInt ∧ (xs i).toInt < 2147483648
    exact ⟨by omega, by omega⟩
  · exact ⟨by show 3 ≤ 100000; decide, lw_R3⟩
  · exact ⟨by show 6 ≤ 100000; decide, lw_K3⟩
  · omega
/-- a written row, as the Statement tells it -/
theorem lw_Xof {args : Array Value} {s : State} {tm : Term} {N : Nat} {f : Nat → Int32} (hN : N < 2 ^ 31) (harr : (Cond.arrayOf tm .int).before args s = true) (hlen : (Cond.eq (.length tm) (.int (Int32.ofNat N))).before args s = true) (hel : ∀ j : Nat, j < N → (Cond.eq (.elem tm (.int (Int32.ofNat j))) (.int (f j))).before args s = true) : ∃ t : Nat, tm.eval args s none [] s = some (.ref t) ∧ va_X t N f s s.heap ∧ t < s.heap.size := by
  have hv := va_eqt hlen
  obtain ⟨t, cell, ht, hat, hv2⟩ := Term.length_spec hv
  have hsz : cell.slots.size < 2 ^ 31 := by
    simp only [Term.eval, ht, hat, Option.bind_eq_bind, Option.bind_some] at hv
    by_cases hlt : cell.slots.size < 2147483648
    · exact hlt
    · simp [hlt] at hv
  have he : cell.slots.size = N := by
    have q : Int32.ofNat N = Int32.ofNat cell.slots.size := Value.int.inj hv2
    have q2 := congrArg Int32.toInt q
    rw [Int32.toInt_ofNat_small hN, Int32.toInt_ofNat_small hsz] at q2
    omega
  obtain ⟨t', h1, cell', h2, h3, h4, h5, h6, h7, h8⟩ := va_Tof (A := fun q => s.heap.size ≤ q) hN harr hv (fun j hj => va_eqt (hel j hj)) (fun a ha q => absurd ha (Nat.not_lt.mpr q))
  cases ht.symm.trans h1
  obtain ⟨hcell, -, -, -⟩ := State.arrayAt?_spec hat
  cases hcell.symm.trans h2
  exact ⟨t, ht, ⟨cell, hcell, h3, h4, he, h7⟩, (Array.getElem?_eq_some_iff.mp hcell).1⟩
set_option maxRecDepth 100000 in
theorem lw_t_R : Cond.laysStatic RX2 "RAIL_LETTERS" "[I" ∈ lw_tbl := by decide +kernel
set_option maxRecDepth 100000 in
theorem lw_t_K : Cond.laysStatic RX2 "KIND_LETTERS" "[I" ∈ lw_tbl := by decide +kernel
set_option maxRecDepth 100000 in
theorem lw_t_A : Cond.arrayOver (.object RX3) ∈ lw_tbl := by decide +kernel
theorem lw_nm : ¬ rf_m_L_law.1.name = "<init>" := by decide +kernel
theorem lw_sz : rf_sz (rg_T ++ [.inr (0, 64), .inr (0, 11)]) ≤ 7302250 := by decide +kernel
theorem lw_hl (P : rf_P) (X : rf_X) (D : rf_D) : (lh P X D).1 = rg_T ++ [.inr (0, 64), .inr (0, 11)] := rfl
theorem lw_ad (base : Nat) (ro : Nat → Nat) : rf_ad base ro 1000000 = ro 0 := by
  unfold rf_ad
  rw [if_pos (Nat.le_refl _), Nat.sub_self]
theorem lw_ws0 {base : Nat} {ad : Nat → Nat} {cy : Nat → ClassId} {X : rf_X} {D : va_G} {H : Heap} : va_P D rf_cl (rf_ws ad cy base (rg_h0 X)) H := fun k q hk => by
  have e : rf_ws ad cy base (rg_h0 X) = [] := rfl
  rw [e] at hk
  cases hk
/-- classes and array classes, by the tables -/
theorem lw_K0 {s : State} {args : Array Value} (hts : ∀ w ∈ lw_tbl, w.before args s = true) : ∃ (dC : Nat → ClassId) (dI : Nat → Nat → Nat) (cy : Nat → ClassId), va_K (dC, dI) rf_cl (rf_tys cy) s := by
  have htb : ∀ w ∈ rf_TB, w.before args s = true := fun w hw => hts w (List.mem_filter.mp hw).1
  have g : ∀ c : Nat, ∃ q : ClassId × (Nat → Nat), c < 5 → u_Kn s (rf_R' c) (rf_T c) (rf_N c) q.1 q.2 := fun c => by
    by_cases hc : c < 5
    · obtain ⟨cC, iS, h⟩ := u_known (n := rf_N c) htb (rf_cls_in hc) (htb _ (rf_tb_inst hc))
      exact ⟨(cC, iS), fun _ => h⟩
    · exact ⟨(0, fun _ => 0), fun h => absurd h hc⟩
  obtain ⟨cI, kI, pI, i1, i2, i3⟩ := Cond.arrayClass_spec (htb _ rf_tb_arI)
  obtain ⟨pA, cA, kA, a1, a2, a3, a4, a5⟩ := Cond.arrayOver_spec (hts _ lw_t_A)
  refine ⟨fun c => (Classical.choose (g c)).1, fun c => (Classical.choose (g c)).2, fun j => match j with | 0 => cI | 1 => cI | _ => cA, fun c q hq => ?_, fun k q hq => ?_⟩
  · have hc : c < 5 := (List.getElem?_eq_some_iff.mp hq).1
    rw [rf_cl_at hc] at hq
    cases hq
    exact Classical.choose_spec (g c) hc
  · rcases k with _ | _ | _ | k
    · have hq : some (cI, FieldType.int) = some q := hq
      cases hq
      exact ⟨fun n z => ⟨fun j h => (by cases h), kI, i2, pI, i3⟩, i1⟩
    · have hq : some (cI, FieldType.int) = some q := hq
      cases hq
      exact ⟨fun n z => ⟨fun j h => (by cases h), kI, i2, pI, i3⟩, i1⟩
    · have hq : some (cA, FieldType.object RX3) = some q := hq
      cases hq
      exact ⟨fun n z => ⟨fun j h => (by cases h), kA, a3, pA, a4⟩, kA, pA, a3, a4, a1, a5⟩
    · have hq : none = some q := hq
      cases hq
theorem lw_rows {s : State} {b : Nat} (h : (Jvm.Cond.and given_1 narrow_1).before #[Value.ref b] s = true) : ∃ t1 t2 : Nat, ((Term.static RX2 "RAIL_LETTERS" "[I").eval #[Value.ref b] s none [] s = some (.ref t1) ∧ va_X t1 3 (fun j => Int32.ofInt (lw_R j)) s s.heap ∧ t1 < s.heap.size) ∧ ((Term.static RX2 "KIND_LETTERS" "[I").eval #[Value.ref b] s none [] s = some (.ref t2) ∧ va_X t2 6 (fun j => Int32.ofInt (lw_K j)) s s.heap ∧ t2 < s.heap.size) := by
  have hs := flat_of_before _ h
  have r1 := lw_Xof (args := #[Value.ref b]) (s := s) (tm := .static RX2 "RAIL_LETTERS" "[I") (N := 3) (f := fun j => Int32.ofInt (lw_R j)) (by decide) (hs _ (by decide +kernel)) (hs _ (by decide +kernel)) (fun j hj => by
    rcases j with _ | _ | _ | j
    · exact hs _ (by decide +kernel)
    · exact hs _ (by decide +kernel)
    · exact hs _ (by decide +kernel)
    · omega)
  have r2 := lw_Xof (args := #[Value.ref b]) (s := s) (tm := .static RX2 "KIND_LETTERS" "[I") (N := 6) (f := fun j => Int32.ofInt (lw_K j)) (by decide) (hs _ (by decide +kernel)) (hs _ (by decide +kernel)) (fun j hj => by
    rcases j with _ | _ | _ | _ | _ | _ | j
    · exact hs _ (by decide +kernel)
    · exact hs _ (by decide +kernel)
    · exact hs _ (by decide +kernel)
    · exact hs _ (by decide +kernel)
    · exact hs _ (by decide +kernel)
    · exact hs _ (by decide +kernel)
    · omega)
  obtain ⟨t1, r1⟩ := r1
  obtain ⟨t2, r2⟩ := r2
  exact ⟨t1, t2, r1, r2⟩
theorem whole_start {p : Program} {e : Env} {s : State} {m : MethodId} {below : List Frame} {meth : Method} {c : Code} (l : Launch) (hflags : l.flags = flags0) {b L : Nat} {xs : Nat → Int32} (hL : L ≤ 260) (C0 : lw_At p s m meth c b L xs) : W p l e room_1 s m #[Value.ref b] below meth c s.heap [] 0 0 (lw_Z below #[Value.ref b] s) (entryFrame m ([Value.ref b] : List Value).toArray 25) := by
  obtain ⟨hx, hb, hr, hml, hown, hts, hX, hbl, hlk, hgv⟩ := C0
  obtain ⟨dC, dI, cy, hK⟩ := lw_K0 hts
  obtain ⟨t1, t2, ⟨v1, x1, l1⟩, v2, x2, l2⟩ := lw_rows hgv
  obtain ⟨P', D', hd⟩ := lw_den (X := lw_X L xs) (lw_XL L xs)
  obtain ⟨n, hn⟩ := rf_den_ex hd
  have go := rf_exec_go (M := rf_m_L_law) (X := lw_X L xs) (rf_Cal_of l 30) rf_okLw n _ hn
  have htb : ∀ w ∈ rf_TB, w.before #[Value.ref b] s = true := fun w hw => hts w (List.mem_filter.mp hw).1
  have hA : ∀ a : Nat, a < s.heap.size → ¬ s.heap.size ≤ a := fun a ha q => absurd ha (Nat.not_lt.mpr q)
  have hini : (Cond.initialized RX2).before #[Value.ref b] s = true := htb _ (rf_tb_init (c := 1) (by decide))
  obtain ⟨ro, hro⟩ : ∃ ro : Nat → Nat, ro = fun j => match j with | 0 => b | 1 => t1 | _ => t2 := ⟨_, rfl⟩
  have r0 : ro 0 = b := congrFun hro 0
  have r1 : ro 1 = t1 := congrFun hro 1
  have r2 : ro 2 = t2 := congrFun hro 2
  have e0 : (fun i => Int32.ofInt ((lw_X L xs 0).2 i)) = xs := funext fun i => Int32.ofInt_toInt (xs i)
  have FX : rf_FX 30 rf_m_L_law.2.1 rf_m_L_law.1.cls rf_m_L_law.2.2.1 rf_m_L_law.2.2.2.1 (decide (rf_m_L_law.1.name = "<init>")) (lw_X L xs) p room_1 s m #[Value.ref b] meth c s.heap.size ro dC dI cy 0 := by
    refine ⟨hx, hb, hml, hown, htb, fun w hw => va_Nw.of (rf_NT_tabs hw) (hts w (List.mem_filter.mp hw).1), hK, fun j hj => ?_, ?_, ?_, va_AO.of (hts _ lw_t_A), rfl, Nat.le_of_ble_eq_true rfl, Nat.le_of_ble_eq_true rfl, fun g => absurd (of_decide_eq_true g) lw_nm⟩
    · rcases j with _ | _ | _ | j
      · rw [r0, e0]
        exact ⟨hX, hbl⟩
      · rw [show ro (0 + 1) = t1 from r1]
        exact ⟨x1, l1⟩
      · rw [show ro (0 + 1 + 1) = t2 from r2]
        exact ⟨x2, l2⟩
      · omega
    · rw [r1]
      exact va_Zref (hts _ lw_t_R) hini v1 hA
    · rw [r2]
      exact va_Zref (hts _ lw_t_K) hini v2 hA
  have pu : rf_Pu (lw_X L xs) lw_L [] (rg_h0 (lw_X L xs)) := by
    refine ⟨fun i v hv => ?_, fun v hv => (by cases hv), ⟨fun k x hk => (by cases k <;> cases hk), lw_Xo hL xs, Nat.zero_le _⟩, rfl⟩
    rcases i with _ | _ | _ | _ | _ | _ | _ | _ | _ | _ | _ | _ | _ | _ | _ | _ | _ | _ | _ | _ | _ | _ | _ | _ | _ | i
    · cases hv
      exact trivial
    · cases hv
    · cases hv
    · cases hv
    · cases hv
    · cases hv
    · cases hv
    · cases hv
    · cases hv
    · cases hv
    · cases hv
    · cases hv
    · cases hv
    · cases hv
    · cases hv
    · cases hv
    · cases hv
    · cases hv
    · cases hv
    · cases hv
    · cases hv
    · cases hv
    · cases hv
    · cases hv
    · cases hv
    · cases i <;> cases hv
  have lv := rf_lv_start (ad := rf_ad s.heap.size ro) (n := 25) (as := [.inr (.inr (some 1000000))]) (Nat.le_of_ble_eq_true rfl) []
  have ea : ([.inr (.inr (some 1000000))] : List rf_V).map (rf_cv (rf_ad s.heap.size ro)) = [Value.ref b] := by
    show [Value.ref (rf_ad s.heap.size ro 1000000)] = _
    rw [lw_ad, r0]
  rw [ea, rf_m0] at lv
  have QX : rf_QX rf_m_L_law.2.1 rf_m_L_law.2.2.2.1 (some (.inl 1), lh P' (lw_X L xs) D') p l e room_1 s m #[Value.ref b] below meth c s.heap.size ro dC dI cy 0 0 (lw_Z below #[Value.ref b] s) := by
    intro pc i ls H locs cells slots hdc hk rel
    obtain ⟨rP, rS, rc, rs⟩ := rel
    obtain ⟨rfl, -⟩ := hk
    refine va_forget (fun q hq => rS.2.2 q hq) ?_
    have rc : cells + 0 = (lh P' (lw_X L xs) D').1.length := rc
    have rs : slots + 0 = rf_sz (lh P' (lw_X L xs) D').1 := rs
    rw [lw_hl, Nat.add_zero] at rc rs
    have c1 : cells ≤ 600000 := by
      rw [rc]
      exact Nat.le_of_ble_eq_true rfl
    have c2 : slots ≤ 7302250 := by
      rw [rs]
      exact lw_sz
    have e1 : Int32.ofInt 1 = (1 : Int32) := by decide
    show W p l e room_1 s m #[Value.ref b] below meth c H [] cells slots (lw_Z below #[Value.ref b] s) (F0 m pc ls [Value.int (Int32.ofInt 1)])
    rw [e1]
    exact W.widen c1 c2 (lw_ret hx hb hr hlk hdc)
  have s1 : (lh P' (lw_X L xs) D').1.length ≤ room_1.cells + 0 := by
    rw [lw_hl]
    exact Nat.le_of_ble_eq_true rfl
  have s2 : rf_sz (lh P' (lw_X L xs) D').1 ≤ room_1.slots + 0 := by
    rw [lw_hl]
    exact lw_sz
  rw [lg_entry_eq]
  exact (go pu).2 p e room_1 s m #[Value.ref b] below meth c s.heap.size ro dC dI cy 0 0 (lw_Z below #[Value.ref b] s) FX QX s1 s2 _ s.heap [] 0 0 lv ⟨lw_ws0, va_S.rf, rfl, rfl⟩
