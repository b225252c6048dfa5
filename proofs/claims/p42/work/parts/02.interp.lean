/-! An interpreter of one's own for the bytecode that this system uses: numbers are Int, addresses are places of a list of shapes. -/
abbrev rf_V : Type := Int ⊕ (Int ⊕ Option Nat)
abbrev rf_Sh : Type := Nat ⊕ (Nat × Nat)
abbrev rf_D : Type := Nat → Nat → Int
abbrev rf_P : Type := Nat → Nat → Option Nat
abbrev rf_X : Type := Nat → Nat × (Nat → Int)
abbrev rf_H : Type := List rf_Sh × rf_D × rf_P × rf_X
abbrev rf_R : Type := Option rf_V × rf_H
abbrev rf_S : Type := Nat × List (Option rf_V) × List rf_V × rf_H
abbrev rf_E : Type := Nat × ClassFile.Instr × Nat × (Nat × Nat × Nat × Nat) × Int × List Nat
abbrev rf_M : Type := MethodName × ByteArray × Nat × Option FieldType × List rf_E × List (Nat × List Bool)
abbrev rf_C : Type := Nat → List rf_V → rf_H → Option rf_R
def rf_w (z : Int) : Int := (z + 2147483648) % 4294967296 - 2147483648
def rf_wl (z : Int) : Int := (z + 9223372036854775808) % 18446744073709551616 - 9223372036854775808
def rf_w8 (z : Int) : Int := (z + 128) % 256 - 128
def rf_and (x y : Int) : Int := (Int32.ofInt x &&& Int32.ofInt y).toInt
def rf_or (x y : Int) : Int := (Int32.ofInt x ||| Int32.ofInt y).toInt
def rf_xor (x y : Int) : Int := (Int32.ofInt x ^^^ Int32.ofInt y).toInt
def rf_shl (x y : Int) : Int := (Int32.ofInt x <<< (Int32.ofInt y &&& 31)).toInt
def rf_shr (x y : Int) : Int := (Int32.ofInt x >>> (Int32.ofInt y &&& 31)).toInt
def rf_ushr (x y : Int) : Int := ((Int32.ofInt x).toUInt32 >>> ((Int32.ofInt y).toUInt32 &&& Int32.toUInt32 31)).toInt32.toInt
def rf_cmp (x y : Int) : Int := if y < x then 1 else if x = y then 0 else -1
def rf_up2 {α : Type} (f : Nat → Nat → α) (k i : Nat) (v : α) : Nat → Nat → α := fun a b => if a = k ∧ b = i then v else f a b
def rf_sh (T : List rf_Sh) (k : Nat) : Option rf_Sh := match T, k with
  | [], _ => none
  | x :: _, 0 => some x
  | _ :: t, k + 1 => rf_sh t k
def rf_isO (T : List rf_Sh) (k c : Nat) : Bool := match rf_sh T k with
  | some (.inl c') => Nat.beq c' c
  | _ => false
def rf_len (T : List rf_Sh) (k t : Nat) : Option Nat := match rf_sh T k with
  | some (.inr (t', n)) => bif Nat.beq t' t then some n else none
  | _ => none
def rf_gI (h : rf_H) (c k i : Nat) : Option Int := bif rf_isO h.1 k c then some (h.2.1 k i) else none
def rf_gR (h : rf_H) (c k i : Nat) : Option (Option Nat) := bif rf_isO h.1 k c then some (h.2.2.1 k i) else none
def rf_pI (h : rf_H) (c k i : Nat) (v : Int) : Option rf_H := bif rf_isO h.1 k c then some (h.1, rf_up2 h.2.1 k i v, h.2.2) else none
def rf_pR (h : rf_H) (c k i : Nat) (v : Option Nat) : Option rf_H := bif rf_isO h.1 k c then some (h.1, h.2.1, rf_up2 h.2.2.1 k i v, h.2.2.2) else none
/-- places from a million on are the rows that are there from the start: the script, two written rows -/
def rf_aL (h : rf_H) (k : Nat) : Option Int := bif Nat.ble 1000000 k then (bif Nat.ble k 1000002 then some ((h.2.2.2 (k - 1000000)).1 : Int) else none) else match rf_sh h.1 k with
  | some (.inr (_, n)) => some (n : Int)
  | _ => none
def rf_aI (h : rf_H) (k : Nat) (i : Int) : Option Int := bif Nat.ble 1000000 k then (bif Nat.ble k 1000002 then (if 0 ≤ i ∧ i < ((h.2.2.2 (k - 1000000)).1 : Int) then some ((h.2.2.2 (k - 1000000)).2 i.toNat) else none) else none)
  else match rf_len h.1 k 0 with
  | some n => if 0 ≤ i ∧ i < (n : Int) then some (h.2.1 k i.toNat) else none
  | none => none
def rf_aZ (h : rf_H) (k : Nat) (i : Int) : Option Int := match rf_len h.1 k 1 with
  | some n => if 0 ≤ i ∧ i < (n : Int) then some (h.2.1 k i.toNat) else none
  | none => none
def rf_aR (h : rf_H) (k : Nat) (i : Int) : Option (Option Nat) := match rf_len h.1 k 2 with
  | some n => if 0 ≤ i ∧ i < (n : Int) then some (h.2.2.1 k i.toNat) else none
  | none => none
def rf_sI (h : rf_H) (k : Nat) (i v : Int) : Option rf_H := match rf_len h.1 k 0 with
  | some n => if 0 ≤ i ∧ i < (n : Int) then some (h.1, rf_up2 h.2.1 k i.toNat v, h.2.2) else none
  | none => none
def rf_sZ (h : rf_H) (k : Nat) (i v : Int) : Option rf_H := match rf_len h.1 k 1 with
  | some n => if 0 ≤ i ∧ i < (n : Int) then some (h.1, rf_up2 h.2.1 k i.toNat v, h.2.2) else none
  | none => none
def rf_sR (h : rf_H) (k : Nat) (i : Int) (v : Nat) : Option rf_H := match rf_len h.1 k 2 with
  | some n => bif rf_isO h.1 v 2 then (if 0 ≤ i ∧ i < (n : Int) then some (h.1, h.2.1, rf_up2 h.2.2.1 k i.toNat (some v), h.2.2.2) else none) else none
  | none => none
def rf_cpD (D : rf_D) (a : Nat) (sp : Nat) (b : Nat) (dp n : Nat) : rf_D := fun k i => if k = b ∧ dp ≤ i ∧ i < dp + n then D a (sp + (i - dp)) else D k i
def rf_cp (h : rf_H) (a : Nat) (sp : Int) (b : Nat) (dp n : Int) : Option rf_H := match rf_len h.1 a 0, rf_len h.1 b 0 with
  | some la, some lb => if 0 ≤ sp ∧ 0 ≤ dp ∧ 0 ≤ n ∧ sp + n ≤ (la : Int) ∧ dp + n ≤ (lb : Int) then some (h.1, rf_cpD h.2.1 a sp.toNat b dp.toNat n.toNat, h.2.2) else none
  | _, _ => none
/-- a new cell: at the list's end, empty -/
def rf_nw (h : rf_H) (x : rf_Sh) : rf_H := (h.1 ++ [x], (fun k i => if k = h.1.length then 0 else h.2.1 k i), (fun k i => if k = h.1.length then none else h.2.2.1 k i), h.2.2.2)
def rf_lget (L : List (Option rf_V)) (i : Nat) : Option rf_V := match L, i with
  | [], _ => none
  | x :: _, 0 => x
  | _ :: t, i + 1 => rf_lget t i
def rf_lset (L : List (Option rf_V)) (i : Nat) (v : Option rf_V) : List (Option rf_V) := match L, i with
  | [], _ => []
  | _ :: t, 0 => v :: t
  | x :: t, i + 1 => x :: rf_lset t i v
def rf_kill (L : List (Option rf_V)) (i : Nat) : List (Option rf_V) := match i with
  | 0 => L
  | j + 1 => match rf_lget L j with
    | some (.inr (.inl _)) => rf_lset L j none
    | _ => L
def rf_st1 (L : List (Option rf_V)) (i : Nat) (v : rf_V) : List (Option rf_V) := rf_lset (rf_kill L i) i (some v)
def rf_st2 (L : List (Option rf_V)) (i : Nat) (v : rf_V) : List (Option rf_V) := rf_lset (rf_lset (rf_kill L i) i (some v)) (i + 1) none
def rf_msk (b : List Bool) (L : List (Option rf_V)) : List (Option rf_V) := match b, L with
  | [], L => L
  | _, [] => []
  | b :: bs, x :: t => (bif b then x else none) :: rf_msk bs t
def rf_look (ms : List (Nat × List Bool)) (pc : Nat) : List Bool := match ms with
  | [] => []
  | q :: t => bif Nat.beq q.1 pc then q.2 else rf_look t pc
def rf_find (t : List rf_E) (pc : Nat) : Option (ClassFile.Instr × Nat × (Nat × Nat × Nat × Nat) × Int × List Nat) := match t with
  | [] => none
  | q :: t => bif Nat.beq q.1 pc then some q.2 else rf_find t pc
def rf_pop (n : Nat) (acc st : List rf_V) : Option (List rf_V × List rf_V) := match n, st with
  | 0, st => some (acc, st)
  | _ + 1, [] => none
  | n + 1, v :: st => rf_pop n (v :: acc) st
def rf_cat (st : List rf_V) : Nat := match st with
  | [] => 0
  | .inr (.inl _) :: t => rf_cat t + 2
  | _ :: t => rf_cat t + 1
/-- what a call gives: by the kind that is due -/
def rf_kI (r : rf_R) (f : Int → rf_H → Option rf_R) : Option rf_R := match r with
  | (some (.inl x), h) => f x h
  | _ => none
def rf_kL (r : rf_R) (f : Int → rf_H → Option rf_R) : Option rf_R := match r with
  | (some (.inr (.inl x)), h) => f x h
  | _ => none
def rf_kR (r : rf_R) (f : Option Nat → rf_H → Option rf_R) : Option rf_R := match r with
  | (some (.inr (.inr x)), h) => f x h
  | _ => none
def rf_kV (r : rf_R) (f : rf_H → Option rf_R) : Option rf_R := match r with
  | (none, h) => f h
  | _ => none
def rf_nn (r : Option Nat) (f : Nat → Option rf_R) : Option rf_R := match r with
  | some k => f k
  | none => none
def rf_tsw (x lo : Int) (ts : List Nat) (d : Nat) (go : Nat → Option rf_R) : Option rf_R := match ts with
  | [] => go d
  | t :: ts => if x = lo then go t else rf_tsw x (lo + 1) ts d go
def rf_lI (L : List (Option rf_V)) (i : Nat) (f : Int → Option rf_R) : Option rf_R := match rf_lget L i with
  | some (.inl x) => f x
  | _ => none
def rf_lL (L : List (Option rf_V)) (i : Nat) (f : Int → Option rf_R) : Option rf_R := match rf_lget L i with
  | some (.inr (.inl x)) => f x
  | _ => none
def rf_lR (L : List (Option rf_V)) (i : Nat) (f : Option Nat → Option rf_R) : Option rf_R := match rf_lget L i with
  | some (.inr (.inr x)) => f x
  | _ => none
def rf_1I (st : List rf_V) (f : Int → List rf_V → Option rf_R) : Option rf_R := match st with
  | .inl x :: st => f x st
  | _ => none
def rf_2I (st : List rf_V) (f : Int → Int → List rf_V → Option rf_R) : Option rf_R := match st with
  | .inl y :: .inl x :: st => f x y st
  | _ => none
def rf_1L (st : List rf_V) (f : Int → List rf_V → Option rf_R) : Option rf_R := match st with
  | .inr (.inl x) :: st => f x st
  | _ => none
def rf_2L (st : List rf_V) (f : Int → Int → List rf_V → Option rf_R) : Option rf_R := match st with
  | .inr (.inl y) :: .inr (.inl x) :: st => f x y st
  | _ => none
def rf_1R (st : List rf_V) (f : Option Nat → List rf_V → Option rf_R) : Option rf_R := match st with
  | .inr (.inr x) :: st => f x st
  | _ => none
/-- what comes of a call, by the last figure of its kind: 0 an int, 1 a long, 2 an address, else nothing -/
def rf_ret (c : Nat) (r : rf_R) (f : List rf_V → rf_H → Option rf_R) : Option rf_R := match c with
  | 0 => rf_kI r fun x h => f [.inl x] h
  | 1 => rf_kL r fun x h => f [.inr (.inl x)] h
  | 2 => rf_kR r fun x h => f [.inr (.inr x)] h
  | _ => rf_kV r fun h => f [] h
/-- a call with a receiver of class z -/
def rf_inv (cal : rf_C) (a b c : Nat) (z : Nat) (st : List rf_V) (h : rf_H) (f : List rf_V → rf_H → Option rf_R) : Option rf_R := match rf_pop b [] st with
  | some (as, .inr (.inr r) :: st') => rf_nn r fun k => bif Nat.ble (rf_cat st') 8 then (bif rf_isO h.1 k z then (cal a (.inr (.inr (some k)) :: as) h).bind fun q => rf_ret c q fun v h' => f (v ++ st') h' else none) else none
  | _ => none
def rf_ins (cal : rf_C) (ms : List (Nat × List Bool)) (nx : Nat) (i : ClassFile.Instr) (a b c : Nat) (z : Int) (ts : List Nat) (L : List (Option rf_V)) (st : List rf_V) (h : rf_H) (kr : rf_R → Option rf_R) (ks : rf_S → Option rf_R) : Option rf_R :=
  match i with
  | .iconst n => ks (nx, rf_msk (rf_look ms nx) L, .inl n :: st, h)
  | .bipush n => ks (nx, rf_msk (rf_look ms nx) L, .inl n :: st, h)
  | .sipush n => ks (nx, rf_msk (rf_look ms nx) L, .inl n :: st, h)
  | .ldc _ => ks (nx, rf_msk (rf_look ms nx) L, .inl z :: st, h)
  | .ldc_w _ => ks (nx, rf_msk (rf_look ms nx) L, .inl z :: st, h)
  | .ldc2_w _ => ks (nx, rf_msk (rf_look ms nx) L, .inr (.inl z) :: st, h)
  | .lconst _ => ks (nx, rf_msk (rf_look ms nx) L, .inr (.inl z) :: st, h)
  | .aconst_null => ks (nx, rf_msk (rf_look ms nx) L, .inr (.inr none) :: st, h)
  | .iload_n k => rf_lI L k.val fun x => ks (nx, rf_msk (rf_look ms nx) L, .inl x :: st, h)
  | .iload k => rf_lI L k fun x => ks (nx, rf_msk (rf_look ms nx) L, .inl x :: st, h)
  | .lload_n k => rf_lL L k.val fun x => ks (nx, rf_msk (rf_look ms nx) L, .inr (.inl x) :: st, h)
  | .lload k => rf_lL L k fun x => ks (nx, rf_msk (rf_look ms nx) L, .inr (.inl x) :: st, h)
  | .aload_n k => rf_lR L k.val fun x => ks (nx, rf_msk (rf_look ms nx) L, .inr (.inr x) :: st, h)
  | .aload k => rf_lR L k fun x => ks (nx, rf_msk (rf_look ms nx) L, .inr (.inr x) :: st, h)
  | .istore_n k => rf_1I st fun x st => ks (nx, rf_msk (rf_look ms nx) (rf_st1 L k.val (.inl x)), st, h)
  | .istore k => rf_1I st fun x st => ks (nx, rf_msk (rf_look ms nx) (rf_st1 L k (.inl x)), st, h)
  | .lstore_n k => rf_1L st fun x st => ks (nx, rf_msk (rf_look ms nx) (rf_st2 L k.val (.inr (.inl x))), st, h)
  | .lstore k => rf_1L st fun x st => ks (nx, rf_msk (rf_look ms nx) (rf_st2 L k (.inr (.inl x))), st, h)
  | .astore_n k => rf_1R st fun x st => ks (nx, rf_msk (rf_look ms nx) (rf_st1 L k.val (.inr (.inr x))), st, h)
  | .astore k => rf_1R st fun x st => ks (nx, rf_msk (rf_look ms nx) (rf_st1 L k (.inr (.inr x))), st, h)
  | .iinc k n => rf_lI L k fun x => ks (nx, rf_msk (rf_look ms nx) (rf_st1 L k (.inl (rf_w (x + n)))), st, h)
  | .iadd => rf_2I st fun x y st => ks (nx, rf_msk (rf_look ms nx) L, .inl (rf_w (x + y)) :: st, h)
  | .isub => rf_2I st fun x y st => ks (nx, rf_msk (rf_look ms nx) L, .inl (rf_w (x - y)) :: st, h)
  | .imul => rf_2I st fun x y st => ks (nx, rf_msk (rf_look ms nx) L, .inl (rf_w (x * y)) :: st, h)
  | .idiv => rf_2I st fun x y st => if y = 0 then none else ks (nx, rf_msk (rf_look ms nx) L, .inl (rf_w (Int.tdiv x y)) :: st, h)
  | .irem => rf_2I st fun x y st => if y = 0 then none else ks (nx, rf_msk (rf_look ms nx) L, .inl (Int.tmod x y) :: st, h)
  | .iand => rf_2I st fun x y st => ks (nx, rf_msk (rf_look ms nx) L, .inl (rf_and x y) :: st, h)
  | .ior => rf_2I st fun x y st => ks (nx, rf_msk (rf_look ms nx) L, .inl (rf_or x y) :: st, h)
  | .ixor => rf_2I st fun x y st => ks (nx, rf_msk (rf_look ms nx) L, .inl (rf_xor x y) :: st, h)
  | .ishl => rf_2I st fun x y st => ks (nx, rf_msk (rf_look ms nx) L, .inl (rf_shl x y) :: st, h)
  | .ishr => rf_2I st fun x y st => ks (nx, rf_msk (rf_look ms nx) L, .inl (rf_shr x y) :: st, h)
  | .iushr => rf_2I st fun x y st => ks (nx, rf_msk (rf_look ms nx) L, .inl (rf_ushr x y) :: st, h)
  | .ladd => rf_2L st fun x y st => ks (nx, rf_msk (rf_look ms nx) L, .inr (.inl (rf_wl (x + y))) :: st, h)
  | .lsub => rf_2L st fun x y st => ks (nx, rf_msk (rf_look ms nx) L, .inr (.inl (rf_wl (x - y))) :: st, h)
  | .lmul => rf_2L st fun x y st => ks (nx, rf_msk (rf_look ms nx) L, .inr (.inl (rf_wl (x * y))) :: st, h)
  | .ldiv => rf_2L st fun x y st => if y = 0 then none else ks (nx, rf_msk (rf_look ms nx) L, .inr (.inl (rf_wl (Int.tdiv x y))) :: st, h)
  | .lrem => rf_2L st fun x y st => if y = 0 then none else ks (nx, rf_msk (rf_look ms nx) L, .inr (.inl (Int.tmod x y)) :: st, h)
  | .i2l => rf_1I st fun x st => ks (nx, rf_msk (rf_look ms nx) L, .inr (.inl x) :: st, h)
  | .l2i => rf_1L st fun x st => ks (nx, rf_msk (rf_look ms nx) L, .inl (rf_w x) :: st, h)
  | .i2b => rf_1I st fun x st => ks (nx, rf_msk (rf_look ms nx) L, .inl (rf_w8 x) :: st, h)
  | .lcmp => rf_2L st fun x y st => ks (nx, rf_msk (rf_look ms nx) L, .inl (rf_cmp x y) :: st, h)
  | .dup => match st with
    | .inr (.inr x) :: st => ks (nx, rf_msk (rf_look ms nx) L, .inr (.inr x) :: .inr (.inr x) :: st, h)
    | .inl x :: st => ks (nx, rf_msk (rf_look ms nx) L, .inl x :: .inl x :: st, h)
    | _ => none
  | .pop => match st with
    | .inl _ :: st => ks (nx, rf_msk (rf_look ms nx) L, st, h)
    | .inr (.inr _) :: st => ks (nx, rf_msk (rf_look ms nx) L, st, h)
    | _ => none
  | .dup2 => match st with
    | .inl y :: .inr (.inr x) :: st => ks (nx, rf_msk (rf_look ms nx) L, .inl y :: .inr (.inr x) :: .inl y :: .inr (.inr x) :: st, h)
    | _ => none
  | .ifCond .eq _ => rf_1I st fun x st => if x = 0 then ks (a, rf_msk (rf_look ms a) L, st, h) else ks (nx, rf_msk (rf_look ms nx) L, st, h)
  | .ifCond .ne _ => rf_1I st fun x st => if x = 0 then ks (nx, rf_msk (rf_look ms nx) L, st, h) else ks (a, rf_msk (rf_look ms a) L, st, h)
  | .ifCond .lt _ => rf_1I st fun x st => if x < 0 then ks (a, rf_msk (rf_look ms a) L, st, h) else ks (nx, rf_msk (rf_look ms nx) L, st, h)
  | .ifCond .ge _ => rf_1I st fun x st => if x < 0 then ks (nx, rf_msk (rf_look ms nx) L, st, h) else ks (a, rf_msk (rf_look ms a) L, st, h)
  | .ifCond .gt _ => rf_1I st fun x st => if 0 < x then ks (a, rf_msk (rf_look ms a) L, st, h) else ks (nx, rf_msk (rf_look ms nx) L, st, h)
  | .ifCond .le _ => rf_1I st fun x st => if 0 < x then ks (nx, rf_msk (rf_look ms nx) L, st, h) else ks (a, rf_msk (rf_look ms a) L, st, h)
  | .if_icmp .eq _ => rf_2I st fun x y st => if x = y then ks (a, rf_msk (rf_look ms a) L, st, h) else ks (nx, rf_msk (rf_look ms nx) L, st, h)
  | .if_icmp .ne _ => rf_2I st fun x y st => if x = y then ks (nx, rf_msk (rf_look ms nx) L, st, h) else ks (a, rf_msk (rf_look ms a) L, st, h)
  | .if_icmp .lt _ => rf_2I st fun x y st => if x < y then ks (a, rf_msk (rf_look ms a) L, st, h) else ks (nx, rf_msk (rf_look ms nx) L, st, h)
  | .if_icmp .ge _ => rf_2I st fun x y st => if x < y then ks (nx, rf_msk (rf_look ms nx) L, st, h) else ks (a, rf_msk (rf_look ms a) L, st, h)
  | .if_icmp .gt _ => rf_2I st fun x y st => if y < x then ks (a, rf_msk (rf_look ms a) L, st, h) else ks (nx, rf_msk (rf_look ms nx) L, st, h)
  | .if_icmp .le _ => rf_2I st fun x y st => if y < x then ks (nx, rf_msk (rf_look ms nx) L, st, h) else ks (a, rf_msk (rf_look ms a) L, st, h)
  | .ifnull _ => rf_1R st fun x st => match x with
    | none => ks (a, rf_msk (rf_look ms a) L, st, h)
    | some _ => ks (nx, rf_msk (rf_look ms nx) L, st, h)
  | .ifnonnull _ => rf_1R st fun x st => match x with
    | none => ks (nx, rf_msk (rf_look ms nx) L, st, h)
    | some _ => ks (a, rf_msk (rf_look ms a) L, st, h)
  | .goto _ => ks (a, rf_msk (rf_look ms a) L, st, h)
  | .tableswitch _ lo _ _ => rf_1I st fun x st => rf_tsw x lo ts a fun t => ks (t, rf_msk (rf_look ms t) L, st, h)
  | .getfield _ => rf_1R st fun r st => rf_nn r fun k => match c with
    | 0 => (rf_gI h a k b).bind fun x => ks (nx, rf_msk (rf_look ms nx) L, .inl x :: st, h)
    | 1 => (rf_gI h a k b).bind fun x => ks (nx, rf_msk (rf_look ms nx) L, .inr (.inl x) :: st, h)
    | _ => (rf_gR h a k b).bind fun x => ks (nx, rf_msk (rf_look ms nx) L, .inr (.inr x) :: st, h)
  | .putfield _ => match c, st with
    | 0, .inl x :: .inr (.inr r) :: st => rf_nn r fun k => (rf_pI h a k b x).bind fun h => ks (nx, rf_msk (rf_look ms nx) L, st, h)
    | 1, .inr (.inl x) :: .inr (.inr r) :: st => rf_nn r fun k => (rf_pI h a k b x).bind fun h => ks (nx, rf_msk (rf_look ms nx) L, st, h)
    | 2, .inr (.inr x) :: .inr (.inr r) :: st => rf_nn r fun k => (rf_pR h a k b x).bind fun h => ks (nx, rf_msk (rf_look ms nx) L, st, h)
    | 3, .inl x :: .inr (.inr r) :: st => if x = 0 ∨ x = 1 then rf_nn r fun k => (rf_pI h a k b x).bind fun h => ks (nx, rf_msk (rf_look ms nx) L, st, h) else none
    | _, _ => none
  | .getstatic _ => ks (nx, rf_msk (rf_look ms nx) L, .inr (.inr (some a)) :: st, h)
  | .arraylength => rf_1R st fun r st => rf_nn r fun k => (rf_aL h k).bind fun x => ks (nx, rf_msk (rf_look ms nx) L, .inl x :: st, h)
  | .iaload => match st with
    | .inl j :: .inr (.inr r) :: st => rf_nn r fun k => (rf_aI h k j).bind fun x => ks (nx, rf_msk (rf_look ms nx) L, .inl x :: st, h)
    | _ => none
  | .baload => match st with
    | .inl j :: .inr (.inr r) :: st => rf_nn r fun k => (rf_aZ h k j).bind fun x => ks (nx, rf_msk (rf_look ms nx) L, .inl x :: st, h)
    | _ => none
  | .aaload => match st with
    | .inl j :: .inr (.inr r) :: st => rf_nn r fun k => (rf_aR h k j).bind fun x => ks (nx, rf_msk (rf_look ms nx) L, .inr (.inr x) :: st, h)
    | _ => none
  | .iastore => match st with
    | .inl x :: .inl j :: .inr (.inr r) :: st => rf_nn r fun k => (rf_sI h k j x).bind fun h => ks (nx, rf_msk (rf_look ms nx) L, st, h)
    | _ => none
  | .bastore => match st with
    | .inl x :: .inl j :: .inr (.inr r) :: st => if x = 0 ∨ x = 1 then rf_nn r fun k => (rf_sZ h k j x).bind fun h => ks (nx, rf_msk (rf_look ms nx) L, st, h) else none
    | _ => none
  | .aastore => match st with
    | .inr (.inr (some x)) :: .inl j :: .inr (.inr r) :: st => rf_nn r fun k => (rf_sR h k j x).bind fun h => ks (nx, rf_msk (rf_look ms nx) L, st, h)
    | _ => none
  | .new _ => if h.1.length < 1000000 then ks (nx, rf_msk (rf_look ms nx) L, .inr (.inr (some h.1.length)) :: st, rf_nw h (.inl a)) else none
  | .newarray _ => rf_1I st fun x st => if 0 ≤ x ∧ x ≤ 100000 ∧ h.1.length < 1000000 then ks (nx, rf_msk (rf_look ms nx) L, .inr (.inr (some h.1.length)) :: st, rf_nw h (.inr (a, x.toNat))) else none
  | .anewarray _ => rf_1I st fun x st => if 0 ≤ x ∧ x ≤ 100000 ∧ h.1.length < 1000000 then ks (nx, rf_msk (rf_look ms nx) L, .inr (.inr (some h.1.length)) :: st, rf_nw h (.inr (2, x.toNat))) else none
  | .invokevirtual _ => rf_inv cal a b c z.toNat st h fun st h => ks (nx, rf_msk (rf_look ms nx) L, st, h)
  | .invokespecial _ => match c with
    | 9 => rf_1R st fun r st => rf_nn r fun _ => bif Nat.ble (rf_cat st) 8 then ks (nx, rf_msk (rf_look ms nx) L, st, h) else none
    | _ => rf_inv cal a b c z.toNat st h fun st h => ks (nx, rf_msk (rf_look ms nx) L, st, h)
  | .invokestatic _ => match c with
    | 9 => match st with
      | .inl n :: .inl dp :: .inr (.inr rb) :: .inl sp :: .inr (.inr ra) :: st => rf_nn ra fun ka => rf_nn rb fun kb => bif Nat.ble (rf_cat st) 8 then (rf_cp h ka sp kb dp n).bind fun h => ks (nx, rf_msk (rf_look ms nx) L, st, h) else none
      | _ => none
    | _ => match rf_pop b [] st with
      | some (as, st) => bif Nat.ble (rf_cat st) 8 then (cal a as h).bind fun q => rf_ret c q fun v h => ks (nx, rf_msk (rf_look ms nx) L, v ++ st, h) else none
      | none => none
  | .ireturn => match st with
    | [.inl x] => match c with
      | 0 => kr (some (.inl x), h)
      | _ => if x = 0 ∨ x = 1 then kr (some (.inl x), h) else none
    | _ => none
  | .lreturn => match st with
    | [.inr (.inl x)] => kr (some (.inr (.inl x)), h)
    | _ => none
  | .areturn => match st with
    | [.inr (.inr x)] => kr (some (.inr (.inr x)), h)
    | _ => none
  | .return_ => match st with
    | [] => kr (none, h)
    | _ => none
  | _ => none
def rf_step (cal : rf_C) (M : rf_M) (s : rf_S) (kr : rf_R → Option rf_R) (ks : rf_S → Option rf_R) : Option rf_R :=
  match rf_find M.2.2.2.2.1 s.1 with
  | some (i, len, (a, b, c, _), z, ts) => rf_ins cal M.2.2.2.2.2 (s.1 + len) i a b c z ts s.2.1 s.2.2.1 s.2.2.2 kr ks
  | none => none
def rf_exec (cal : rf_C) (M : rf_M) (n : Nat) (s : rf_S) : Option rf_R := match n with
  | 0 => none
  | n + 1 => rf_step cal M s some (rf_exec cal M n)
def rf_args (as : List rf_V) : List (Option rf_V) := match as with
  | [] => []
  | .inr (.inl x) :: t => some (.inr (.inl x)) :: none :: rf_args t
  | v :: t => some v :: rf_args t
def rf_fill (n : Nat) (L : List (Option rf_V)) : List (Option rf_V) := match n, L with
  | 0, _ => []
  | n + 1, [] => none :: rf_fill n []
  | n + 1, x :: L => x :: rf_fill n L
noncomputable def rf_den (cal : rf_C) (M : rf_M) (s : rf_S) : Option rf_R := by
  classical
  exact if q : ∃ n r, rf_exec cal M n s = some r then some q.choose_spec.choose else none
