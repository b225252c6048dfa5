def rf_Fb (M : rf_M) (pc nx : Nat) (i : ClassFile.Instr) (a b c : Nat) (z : Int) (ts : List Nat) (mk : List Bool) : Bool := match rf_find M.2.2.2.2.1 pc with
  | some (i', len, (a', b', c', _), z', ts') => decide (i' = i) && decide (pc + len = nx) && decide (a' = a) && decide (b' = b) && decide (c' = c) && decide (z' = z) && decide (ts' = ts) && decide (rf_look M.2.2.2.2.2 nx = mk)
  | none => false
def rf_nz (x : Option Nat) (A B : Option rf_R) : Option rf_R := match x with
  | none => A
  | some _ => B
theorem rf_bc {α : Type} {o : Option α} {f g : α → Option rf_R} (h : ∀ x, f x = g x) : o.bind f = o.bind g := by rw [show f = g from funext h]
theorem rf_nc {o : Option Nat} {f g : Nat → Option rf_R} (h : ∀ x, f x = g x) : rf_nn o f = rf_nn o g := by rw [show f = g from funext h]
theorem rf_kc0 {q : rf_R} {f g : Int → rf_H → Option rf_R} (h : ∀ x y, f x y = g x y) : rf_kI q f = rf_kI q g := by rw [show f = g from funext fun x => funext (h x)]
theorem rf_kc1 {q : rf_R} {f g : Int → rf_H → Option rf_R} (h : ∀ x y, f x y = g x y) : rf_kL q f = rf_kL q g := by rw [show f = g from funext fun x => funext (h x)]
theorem rf_kc2 {q : rf_R} {f g : Option Nat → rf_H → Option rf_R} (h : ∀ x y, f x y = g x y) : rf_kR q f = rf_kR q g := by rw [show f = g from funext fun x => funext (h x)]
theorem rf_kc3 {q : rf_R} {f g : rf_H → Option rf_R} (h : ∀ y, f y = g y) : rf_kV q f = rf_kV q g := by rw [show f = g from funext h]
theorem rf_ic {b : Bool} {f g : Option rf_R} (h : f = g) : (bif b then f else none) = (bif b then g else none) := by rw [h]
section RFS
variable {cal : rf_C} {M : rf_M} {pc nx a b c : Nat} {i : ClassFile.Instr} {z : Int} {ts : List Nat} {mk : List Bool} {L L' : List (Option rf_V)} {st : List rf_V} {h : rf_H} {T : Option rf_R}
theorem rf_sx (f : rf_Fb M pc nx i a b c z ts mk = true) (L : List (Option rf_V)) (st : List rf_V) (h : rf_H) : rf_den cal M (pc, L, st, h) = rf_ins cal M.2.2.2.2.2 nx i a b c z ts L st h some (rf_den cal M) ∧ rf_look M.2.2.2.2.2 nx = mk := by
  unfold rf_Fb at f
  rw [rf_den_eq]
  unfold rf_step
  rcases hq : rf_find M.2.2.2.2.1 pc with _ | ⟨i', len, ⟨a', b', c', w⟩, z', ts'⟩
  · rw [hq] at f; cases f
  · rw [hq] at f
    simp only [Bool.and_eq_true, decide_eq_true_eq] at f
    obtain ⟨⟨⟨⟨⟨⟨⟨rfl, rfl⟩, rfl⟩, rfl⟩, rfl⟩, rfl⟩, rfl⟩, e⟩ := f
    exact ⟨by simp only [hq], e⟩
theorem rf_s_iconst {n : Int} (f : rf_Fb M pc nx (.iconst n) a b c z ts mk = true)  (hm : rf_msk mk L = L') (K : rf_den cal M (nx, L', .inl n :: st, h) = T) : rf_den cal M (pc, L, st, h) = T := by
  obtain ⟨e, hk⟩ := rf_sx (cal := cal) f L (st) h
  rw [e]
  simp only [rf_ins,  hk, hm]
  exact K
theorem rf_s_bipush {n : Int} (f : rf_Fb M pc nx (.bipush n) a b c z ts mk = true)  (hm : rf_msk mk L = L') (K : rf_den cal M (nx, L', .inl n :: st, h) = T) : rf_den cal M (pc, L, st, h) = T := by
  obtain ⟨e, hk⟩ := rf_sx (cal := cal) f L (st) h
  rw [e]
  simp only [rf_ins,  hk, hm]
  exact K
theorem rf_s_sipush {n : Int} (f : rf_Fb M pc nx (.sipush n) a b c z ts mk = true)  (hm : rf_msk mk L = L') (K : rf_den cal M (nx, L', .inl n :: st, h) = T) : rf_den cal M (pc, L, st, h) = T := by
  obtain ⟨e, hk⟩ := rf_sx (cal := cal) f L (st) h
  rw [e]
  simp only [rf_ins,  hk, hm]
  exact K
theorem rf_s_ldc {q : Nat} (f : rf_Fb M pc nx (.ldc q) a b c z ts mk = true)  (hm : rf_msk mk L = L') (K : rf_den cal M (nx, L', .inl z :: st, h) = T) : rf_den cal M (pc, L, st, h) = T := by
  obtain ⟨e, hk⟩ := rf_sx (cal := cal) f L (st) h
  rw [e]
  simp only [rf_ins,  hk, hm]
  exact K
theorem rf_s_ldc_w {q : Nat} (f : rf_Fb M pc nx (.ldc_w q) a b c z ts mk = true)  (hm : rf_msk mk L = L') (K : rf_den cal M (nx, L', .inl z :: st, h) = T) : rf_den cal M (pc, L, st, h) = T := by
  obtain ⟨e, hk⟩ := rf_sx (cal := cal) f L (st) h
  rw [e]
  simp only [rf_ins,  hk, hm]
  exact K
theorem rf_s_ldc2_w {q : Nat} (f : rf_Fb M pc nx (.ldc2_w q) a b c z ts mk = true)  (hm : rf_msk mk L = L') (K : rf_den cal M (nx, L', .inr (.inl z) :: st, h) = T) : rf_den cal M (pc, L, st, h) = T := by
  obtain ⟨e, hk⟩ := rf_sx (cal := cal) f L (st) h
  rw [e]
  simp only [rf_ins,  hk, hm]
  exact K
theorem rf_s_lconst {q : Fin 2} (f : rf_Fb M pc nx (.lconst q) a b c z ts mk = true)  (hm : rf_msk mk L = L') (K : rf_den cal M (nx, L', .inr (.inl z) :: st, h) = T) : rf_den cal M (pc, L, st, h) = T := by
  obtain ⟨e, hk⟩ := rf_sx (cal := cal) f L (st) h
  rw [e]
  simp only [rf_ins,  hk, hm]
  exact K
theorem rf_s_aconst_null  (f : rf_Fb M pc nx (.aconst_null) a b c z ts mk = true)  (hm : rf_msk mk L = L') (K : rf_den cal M (nx, L', .inr (.inr none) :: st, h) = T) : rf_den cal M (pc, L, st, h) = T := by
  obtain ⟨e, hk⟩ := rf_sx (cal := cal) f L (st) h
  rw [e]
  simp only [rf_ins,  hk, hm]
  exact K
theorem rf_s_iload_n {k : Fin 4} {x : Int} (f : rf_Fb M pc nx (.iload_n k) a b c z ts mk = true) (hl : rf_lget L k.val = some (.inl x)) (hm : rf_msk mk L = L') (K : rf_den cal M (nx, L', .inl x :: st, h) = T) : rf_den cal M (pc, L, st, h) = T := by
  obtain ⟨e, hk⟩ := rf_sx (cal := cal) f L (st) h
  rw [e]
  simp only [rf_ins, rf_lI, hl, hk, hm]
  exact K
theorem rf_s_iload {k : Nat} {x : Int} (f : rf_Fb M pc nx (.iload k) a b c z ts mk = true) (hl : rf_lget L k = some (.inl x)) (hm : rf_msk mk L = L') (K : rf_den cal M (nx, L', .inl x :: st, h) = T) : rf_den cal M (pc, L, st, h) = T := by
  obtain ⟨e, hk⟩ := rf_sx (cal := cal) f L (st) h
  rw [e]
  simp only [rf_ins, rf_lI, hl, hk, hm]
  exact K
theorem rf_s_lload_n {k : Fin 4} {x : Int} (f : rf_Fb M pc nx (.lload_n k) a b c z ts mk = true) (hl : rf_lget L k.val = some (.inr (.inl x))) (hm : rf_msk mk L = L') (K : rf_den cal M (nx, L', .inr (.inl x) :: st, h) = T) : rf_den cal M (pc, L, st, h) = T := by
  obtain ⟨e, hk⟩ := rf_sx (cal := cal) f L (st) h
  rw [e]
  simp only [rf_ins, rf_lL, hl, hk, hm]
  exact K
theorem rf_s_lload {k : Nat} {x : Int} (f : rf_Fb M pc nx (.lload k) a b c z ts mk = true) (hl : rf_lget L k = some (.inr (.inl x))) (hm : rf_msk mk L = L') (K : rf_den cal M (nx, L', .inr (.inl x) :: st, h) = T) : rf_den cal M (pc, L, st, h) = T := by
  obtain ⟨e, hk⟩ := rf_sx (cal := cal) f L (st) h
  rw [e]
  simp only [rf_ins, rf_lL, hl, hk, hm]
  exact K
theorem rf_s_aload_n {k : Fin 4} {x : Option Nat} (f : rf_Fb M pc nx (.aload_n k) a b c z ts mk = true) (hl : rf_lget L k.val = some (.inr (.inr x))) (hm : rf_msk mk L = L') (K : rf_den cal M (nx, L', .inr (.inr x) :: st, h) = T) : rf_den cal M (pc, L, st, h) = T := by
  obtain ⟨e, hk⟩ := rf_sx (cal := cal) f L (st) h
  rw [e]
  simp only [rf_ins, rf_lR, hl, hk, hm]
  exact K
theorem rf_s_aload {k : Nat} {x : Option Nat} (f : rf_Fb M pc nx (.aload k) a b c z ts mk = true) (hl : rf_lget L k = some (.inr (.inr x))) (hm : rf_msk mk L = L') (K : rf_den cal M (nx, L', .inr (.inr x) :: st, h) = T) : rf_den cal M (pc, L, st, h) = T := by
  obtain ⟨e, hk⟩ := rf_sx (cal := cal) f L (st) h
  rw [e]
  simp only [rf_ins, rf_lR, hl, hk, hm]
  exact K
theorem rf_s_istore_n {k : Fin 4} {x : Int} (f : rf_Fb M pc nx (.istore_n k) a b c z ts mk = true)  (hm : rf_msk mk (rf_st1 L k.val (.inl x)) = L') (K : rf_den cal M (nx, L', st, h) = T) : rf_den cal M (pc, L, .inl x :: st, h) = T := by
  obtain ⟨e, hk⟩ := rf_sx (cal := cal) f L (.inl x :: st) h
  rw [e]
  simp only [rf_ins, rf_1I, hk, hm]
  exact K
theorem rf_s_istore {k : Nat} {x : Int} (f : rf_Fb M pc nx (.istore k) a b c z ts mk = true)  (hm : rf_msk mk (rf_st1 L k (.inl x)) = L') (K : rf_den cal M (nx, L', st, h) = T) : rf_den cal M (pc, L, .inl x :: st, h) = T := by
  obtain ⟨e, hk⟩ := rf_sx (cal := cal) f L (.inl x :: st) h
  rw [e]
  simp only [rf_ins, rf_1I, hk, hm]
  exact K
theorem rf_s_lstore_n {k : Fin 4} {x : Int} (f : rf_Fb M pc nx (.lstore_n k) a b c z ts mk = true)  (hm : rf_msk mk (rf_st2 L k.val (.inr (.inl x))) = L') (K : rf_den cal M (nx, L', st, h) = T) : rf_den cal M (pc, L, .inr (.inl x) :: st, h) = T := by
  obtain ⟨e, hk⟩ := rf_sx (cal := cal) f L (.inr (.inl x) :: st) h
  rw [e]
  simp only [rf_ins, rf_1L, hk, hm]
  exact K
theorem rf_s_lstore {k : Nat} {x : Int} (f : rf_Fb M pc nx (.lstore k) a b c z ts mk = true)  (hm : rf_msk mk (rf_st2 L k (.inr (.inl x))) = L') (K : rf_den cal M (nx, L', st, h) = T) : rf_den cal M (pc, L, .inr (.inl x) :: st, h) = T := by
  obtain ⟨e, hk⟩ := rf_sx (cal := cal) f L (.inr (.inl x) :: st) h
  rw [e]
  simp only [rf_ins, rf_1L, hk, hm]
  exact K
theorem rf_s_astore_n {k : Fin 4} {x : Option Nat} (f : rf_Fb M pc nx (.astore_n k) a b c z ts mk = true)  (hm : rf_msk mk (rf_st1 L k.val (.inr (.inr x))) = L') (K : rf_den cal M (nx, L', st, h) = T) : rf_den cal M (pc, L, .inr (.inr x) :: st, h) = T := by
  obtain ⟨e, hk⟩ := rf_sx (cal := cal) f L (.inr (.inr x) :: st) h
  rw [e]
  simp only [rf_ins, rf_1R, hk, hm]
  exact K
theorem rf_s_astore {k : Nat} {x : Option Nat} (f : rf_Fb M pc nx (.astore k) a b c z ts mk = true)  (hm : rf_msk mk (rf_st1 L k (.inr (.inr x))) = L') (K : rf_den cal M (nx, L', st, h) = T) : rf_den cal M (pc, L, .inr (.inr x) :: st, h) = T := by
  obtain ⟨e, hk⟩ := rf_sx (cal := cal) f L (.inr (.inr x) :: st) h
  rw [e]
  simp only [rf_ins, rf_1R, hk, hm]
  exact K
theorem rf_s_iinc {k : Nat} {n x : Int} (f : rf_Fb M pc nx (.iinc k n) a b c z ts mk = true) (hl : rf_lget L k = some (.inl x)) (hm : rf_msk mk (rf_st1 L k (.inl (rf_w (x + n)))) = L') (K : rf_den cal M (nx, L', st, h) = T) : rf_den cal M (pc, L, st, h) = T := by
  obtain ⟨e, hk⟩ := rf_sx (cal := cal) f L (st) h
  rw [e]
  simp only [rf_ins, rf_lI, hl, hk, hm]
  exact K
theorem rf_s_iadd {x y : Int} (f : rf_Fb M pc nx (.iadd) a b c z ts mk = true)  (hm : rf_msk mk L = L') (K : rf_den cal M (nx, L', .inl (rf_w (x + y)) :: st, h) = T) : rf_den cal M (pc, L, .inl y :: .inl x :: st, h) = T := by
  obtain ⟨e, hk⟩ := rf_sx (cal := cal) f L (.inl y :: .inl x :: st) h
  rw [e]
  simp only [rf_ins, rf_2I, hk, hm]
  exact K
theorem rf_s_isub {x y : Int} (f : rf_Fb M pc nx (.isub) a b c z ts mk = true)  (hm : rf_msk mk L = L') (K : rf_den cal M (nx, L', .inl (rf_w (x - y)) :: st, h) = T) : rf_den cal M (pc, L, .inl y :: .inl x :: st, h) = T := by
  obtain ⟨e, hk⟩ := rf_sx (cal := cal) f L (.inl y :: .inl x :: st) h
  rw [e]
  simp only [rf_ins, rf_2I, hk, hm]
  exact K
theorem rf_s_imul {x y : Int} (f : rf_Fb M pc nx (.imul) a b c z ts mk = true)  (hm : rf_msk mk L = L') (K : rf_den cal M (nx, L', .inl (rf_w (x * y)) :: st, h) = T) : rf_den cal M (pc, L, .inl y :: .inl x :: st, h) = T := by
  obtain ⟨e, hk⟩ := rf_sx (cal := cal) f L (.inl y :: .inl x :: st) h
  rw [e]
  simp only [rf_ins, rf_2I, hk, hm]
  exact K
theorem rf_s_iand {x y : Int} (f : rf_Fb M pc nx (.iand) a b c z ts mk = true)  (hm : rf_msk mk L = L') (K : rf_den cal M (nx, L', .inl (rf_and x y) :: st, h) = T) : rf_den cal M (pc, L, .inl y :: .inl x :: st, h) = T := by
  obtain ⟨e, hk⟩ := rf_sx (cal := cal) f L (.inl y :: .inl x :: st) h
  rw [e]
  simp only [rf_ins, rf_2I, hk, hm]
  exact K
theorem rf_s_ior {x y : Int} (f : rf_Fb M pc nx (.ior) a b c z ts mk = true)  (hm : rf_msk mk L = L') (K : rf_den cal M (nx, L', .inl (rf_or x y) :: st, h) = T) : rf_den cal M (pc, L, .inl y :: .inl x :: st, h) = T := by
  obtain ⟨e, hk⟩ := rf_sx (cal := cal) f L (.inl y :: .inl x :: st) h
  rw [e]
  simp only [rf_ins, rf_2I, hk, hm]
  exact K
theorem rf_s_ixor {x y : Int} (f : rf_Fb M pc nx (.ixor) a b c z ts mk = true)  (hm : rf_msk mk L = L') (K : rf_den cal M (nx, L', .inl (rf_xor x y) :: st, h) = T) : rf_den cal M (pc, L, .inl y :: .inl x :: st, h) = T := by
  obtain ⟨e, hk⟩ := rf_sx (cal := cal) f L (.inl y :: .inl x :: st) h
  rw [e]
  simp only [rf_ins, rf_2I, hk, hm]
  exact K
theorem rf_s_ishl {x y : Int} (f : rf_Fb M pc nx (.ishl) a b c z ts mk = true)  (hm : rf_msk mk L = L') (K : rf_den cal M (nx, L', .inl (rf_shl x y) :: st, h) = T) : rf_den cal M (pc, L, .inl y :: .inl x :: st, h) = T := by
  obtain ⟨e, hk⟩ := rf_sx (cal := cal) f L (.inl y :: .inl x :: st) h
  rw [e]
  simp only [rf_ins, rf_2I, hk, hm]
  exact K
theorem rf_s_ishr {x y : Int} (f : rf_Fb M pc nx (.ishr) a b c z ts mk = true)  (hm : rf_msk mk L = L') (K : rf_den cal M (nx, L', .inl (rf_shr x y) :: st, h) = T) : rf_den cal M (pc, L, .inl y :: .inl x :: st, h) = T := by
  obtain ⟨e, hk⟩ := rf_sx (cal := cal) f L (.inl y :: .inl x :: st) h
  rw [e]
  simp only [rf_ins, rf_2I, hk, hm]
  exact K
theorem rf_s_iushr {x y : Int} (f : rf_Fb M pc nx (.iushr) a b c z ts mk = true)  (hm : rf_msk mk L = L') (K : rf_den cal M (nx, L', .inl (rf_ushr x y) :: st, h) = T) : rf_den cal M (pc, L, .inl y :: .inl x :: st, h) = T := by
  obtain ⟨e, hk⟩ := rf_sx (cal := cal) f L (.inl y :: .inl x :: st) h
  rw [e]
  simp only [rf_ins, rf_2I, hk, hm]
  exact K
theorem rf_s_ladd {x y : Int} (f : rf_Fb M pc nx (.ladd) a b c z ts mk = true)  (hm : rf_msk mk L = L') (K : rf_den cal M (nx, L', .inr (.inl (rf_wl (x + y))) :: st, h) = T) : rf_den cal M (pc, L, .inr (.inl y) :: .inr (.inl x) :: st, h) = T := by
  obtain ⟨e, hk⟩ := rf_sx (cal := cal) f L (.inr (.inl y) :: .inr (.inl x) :: st) h
  rw [e]
  simp only [rf_ins, rf_2L, hk, hm]
  exact K
theorem rf_s_lsub {x y : Int} (f : rf_Fb M pc nx (.lsub) a b c z ts mk = true)  (hm : rf_msk mk L = L') (K : rf_den cal M (nx, L', .inr (.inl (rf_wl (x - y))) :: st, h) = T) : rf_den cal M (pc, L, .inr (.inl y) :: .inr (.inl x) :: st, h) = T := by
  obtain ⟨e, hk⟩ := rf_sx (cal := cal) f L (.inr (.inl y) :: .inr (.inl x) :: st) h
  rw [e]
  simp only [rf_ins, rf_2L, hk, hm]
  exact K
theorem rf_s_lmul {x y : Int} (f : rf_Fb M pc nx (.lmul) a b c z ts mk = true)  (hm : rf_msk mk L = L') (K : rf_den cal M (nx, L', .inr (.inl (rf_wl (x * y))) :: st, h) = T) : rf_den cal M (pc, L, .inr (.inl y) :: .inr (.inl x) :: st, h) = T := by
  obtain ⟨e, hk⟩ := rf_sx (cal := cal) f L (.inr (.inl y) :: .inr (.inl x) :: st) h
  rw [e]
  simp only [rf_ins, rf_2L, hk, hm]
  exact K
theorem rf_s_idiv {x y : Int} (f : rf_Fb M pc nx (.idiv) a b c z ts mk = true) (hy : ¬ y = 0) (hm : rf_msk mk L = L') (K : rf_den cal M (nx, L', .inl (rf_w (Int.tdiv x y)) :: st, h) = T) : rf_den cal M (pc, L, .inl y :: .inl x :: st, h) = T := by
  obtain ⟨e, hk⟩ := rf_sx (cal := cal) f L (.inl y :: .inl x :: st) h
  rw [e]
  simp only [rf_ins, rf_2I, if_neg hy, hk, hm]
  exact K
theorem rf_s_idivZ {x y : Int} (f : rf_Fb M pc nx (.idiv) a b c z ts mk = true) (hm : rf_msk mk L = L') (K : rf_den cal M (nx, L', .inl (rf_w (Int.tdiv x y)) :: st, h) = T) : rf_den cal M (pc, L, .inl y :: .inl x :: st, h) = if y = 0 then none else T := by
  obtain ⟨e, hk⟩ := rf_sx (cal := cal) f L (.inl y :: .inl x :: st) h
  rw [e]
  simp only [rf_ins, rf_2I, hk, hm, K]
theorem rf_s_irem {x y : Int} (f : rf_Fb M pc nx (.irem) a b c z ts mk = true) (hy : ¬ y = 0) (hm : rf_msk mk L = L') (K : rf_den cal M (nx, L', .inl (Int.tmod x y) :: st, h) = T) : rf_den cal M (pc, L, .inl y :: .inl x :: st, h) = T := by
  obtain ⟨e, hk⟩ := rf_sx (cal := cal) f L (.inl y :: .inl x :: st) h
  rw [e]
  simp only [rf_ins, rf_2I, if_neg hy, hk, hm]
  exact K
theorem rf_s_iremZ {x y : Int} (f : rf_Fb M pc nx (.irem) a b c z ts mk = true) (hm : rf_msk mk L = L') (K : rf_den cal M (nx, L', .inl (Int.tmod x y) :: st, h) = T) : rf_den cal M (pc, L, .inl y :: .inl x :: st, h) = if y = 0 then none else T := by
  obtain ⟨e, hk⟩ := rf_sx (cal := cal) f L (.inl y :: .inl x :: st) h
  rw [e]
  simp only [rf_ins, rf_2I, hk, hm, K]
theorem rf_s_ldiv {x y : Int} (f : rf_Fb M pc nx (.ldiv) a b c z ts mk = true) (hy : ¬ y = 0) (hm : rf_msk mk L = L') (K : rf_den cal M (nx, L', .inr (.inl (rf_wl (Int.tdiv x y))) :: st, h) = T) : rf_den cal M (pc, L, .inr (.inl y) :: .inr (.inl x) :: st, h) = T := by
  obtain ⟨e, hk⟩ := rf_sx (cal := cal) f L (.inr (.inl y) :: .inr (.inl x) :: st) h
  rw [e]
  simp only [rf_ins, rf_2L, if_neg hy, hk, hm]
  exact K
theorem rf_s_ldivZ {x y : Int} (f : rf_Fb M pc nx (.ldiv) a b c z ts mk = true) (hm : rf_msk mk L = L') (K : rf_den cal M (nx, L', .inr (.inl (rf_wl (Int.tdiv x y))) :: st, h) = T) : rf_den cal M (pc, L, .inr (.inl y) :: .inr (.inl x) :: st, h) = if y = 0 then none else T := by
  obtain ⟨e, hk⟩ := rf_sx (cal := cal) f L (.inr (.inl y) :: .inr (.inl x) :: st) h
  rw [e]
  simp only [rf_ins, rf_2L, hk, hm, K]
theorem rf_s_lrem {x y : Int} (f : rf_Fb M pc nx (.lrem) a b c z ts mk = true) (hy : ¬ y = 0) (hm : rf_msk mk L = L') (K : rf_den cal M (nx, L', .inr (.inl (Int.tmod x y)) :: st, h) = T) : rf_den cal M (pc, L, .inr (.inl y) :: .inr (.inl x) :: st, h) = T := by
  obtain ⟨e, hk⟩ := rf_sx (cal := cal) f L (.inr (.inl y) :: .inr (.inl x) :: st) h
  rw [e]
  simp only [rf_ins, rf_2L, if_neg hy, hk, hm]
  exact K
theorem rf_s_lremZ {x y : Int} (f : rf_Fb M pc nx (.lrem) a b c z ts mk = true) (hm : rf_msk mk L = L') (K : rf_den cal M (nx, L', .inr (.inl (Int.tmod x y)) :: st, h) = T) : rf_den cal M (pc, L, .inr (.inl y) :: .inr (.inl x) :: st, h) = if y = 0 then none else T := by
  obtain ⟨e, hk⟩ := rf_sx (cal := cal) f L (.inr (.inl y) :: .inr (.inl x) :: st) h
  rw [e]
  simp only [rf_ins, rf_2L, hk, hm, K]
theorem rf_s_i2l {x : Int} (f : rf_Fb M pc nx (.i2l) a b c z ts mk = true)  (hm : rf_msk mk L = L') (K : rf_den cal M (nx, L', .inr (.inl x) :: st, h) = T) : rf_den cal M (pc, L, .inl x :: st, h) = T := by
  obtain ⟨e, hk⟩ := rf_sx (cal := cal) f L (.inl x :: st) h
  rw [e]
  simp only [rf_ins, rf_1I, hk, hm]
  exact K
theorem rf_s_l2i {x : Int} (f : rf_Fb M pc nx (.l2i) a b c z ts mk = true)  (hm : rf_msk mk L = L') (K : rf_den cal M (nx, L', .inl (rf_w x) :: st, h) = T) : rf_den cal M (pc, L, .inr (.inl x) :: st, h) = T := by
  obtain ⟨e, hk⟩ := rf_sx (cal := cal) f L (.inr (.inl x) :: st) h
  rw [e]
  simp only [rf_ins, rf_1L, hk, hm]
  exact K
theorem rf_s_i2b {x : Int} (f : rf_Fb M pc nx (.i2b) a b c z ts mk = true)  (hm : rf_msk mk L = L') (K : rf_den cal M (nx, L', .inl (rf_w8 x) :: st, h) = T) : rf_den cal M (pc, L, .inl x :: st, h) = T := by
  obtain ⟨e, hk⟩ := rf_sx (cal := cal) f L (.inl x :: st) h
  rw [e]
  simp only [rf_ins, rf_1I, hk, hm]
  exact K
theorem rf_s_lcmp {x y : Int} (f : rf_Fb M pc nx (.lcmp) a b c z ts mk = true)  (hm : rf_msk mk L = L') (K : rf_den cal M (nx, L', .inl (rf_cmp x y) :: st, h) = T) : rf_den cal M (pc, L, .inr (.inl y) :: .inr (.inl x) :: st, h) = T := by
  obtain ⟨e, hk⟩ := rf_sx (cal := cal) f L (.inr (.inl y) :: .inr (.inl x) :: st) h
  rw [e]
  simp only [rf_ins, rf_2L, hk, hm]
  exact K
theorem rf_s_dupA {x : Option Nat} (f : rf_Fb M pc nx (.dup) a b c z ts mk = true)  (hm : rf_msk mk L = L') (K : rf_den cal M (nx, L', .inr (.inr x) :: .inr (.inr x) :: st, h) = T) : rf_den cal M (pc, L, .inr (.inr x) :: st, h) = T := by
  obtain ⟨e, hk⟩ := rf_sx (cal := cal) f L (.inr (.inr x) :: st) h
  rw [e]
  simp only [rf_ins,  hk, hm]
  exact K
theorem rf_s_dupI {x : Int} (f : rf_Fb M pc nx (.dup) a b c z ts mk = true)  (hm : rf_msk mk L = L') (K : rf_den cal M (nx, L', .inl x :: .inl x :: st, h) = T) : rf_den cal M (pc, L, .inl x :: st, h) = T := by
  obtain ⟨e, hk⟩ := rf_sx (cal := cal) f L (.inl x :: st) h
  rw [e]
  simp only [rf_ins,  hk, hm]
  exact K
theorem rf_s_popA {x : Option Nat} (f : rf_Fb M pc nx (.pop) a b c z ts mk = true)  (hm : rf_msk mk L = L') (K : rf_den cal M (nx, L', st, h) = T) : rf_den cal M (pc, L, .inr (.inr x) :: st, h) = T := by
  obtain ⟨e, hk⟩ := rf_sx (cal := cal) f L (.inr (.inr x) :: st) h
  rw [e]
  simp only [rf_ins,  hk, hm]
  exact K
theorem rf_s_popI {x : Int} (f : rf_Fb M pc nx (.pop) a b c z ts mk = true)  (hm : rf_msk mk L = L') (K : rf_den cal M (nx, L', st, h) = T) : rf_den cal M (pc, L, .inl x :: st, h) = T := by
  obtain ⟨e, hk⟩ := rf_sx (cal := cal) f L (.inl x :: st) h
  rw [e]
  simp only [rf_ins,  hk, hm]
  exact K
theorem rf_s_dup2 {x : Option Nat} {y : Int} (f : rf_Fb M pc nx (.dup2) a b c z ts mk = true)  (hm : rf_msk mk L = L') (K : rf_den cal M (nx, L', .inl y :: .inr (.inr x) :: .inl y :: .inr (.inr x) :: st, h) = T) : rf_den cal M (pc, L, .inl y :: .inr (.inr x) :: st, h) = T := by
  obtain ⟨e, hk⟩ := rf_sx (cal := cal) f L (.inl y :: .inr (.inr x) :: st) h
  rw [e]
  simp only [rf_ins,  hk, hm]
  exact K
theorem rf_s_getstatic {q : Nat} (f : rf_Fb M pc nx (.getstatic q) a b c z ts mk = true)  (hm : rf_msk mk L = L') (K : rf_den cal M (nx, L', .inr (.inr (some a)) :: st, h) = T) : rf_den cal M (pc, L, st, h) = T := by
  obtain ⟨e, hk⟩ := rf_sx (cal := cal) f L (st) h
  rw [e]
  simp only [rf_ins,  hk, hm]
  exact K
theorem rf_s_if_eq {q x : Int} {mka : List Bool} {La : List (Option rf_V)} {Ta : Option rf_R} (f : rf_Fb M pc nx (.ifCond .eq q) a b c z ts mk = true) (hka : rf_look M.2.2.2.2.2 a = mka) (hma : rf_msk mka L = La) (hm : rf_msk mk L = L') (Ka : rf_den cal M (a, La, st, h) = Ta) (K : rf_den cal M (nx, L', st, h) = T) : rf_den cal M (pc, L, .inl x :: st, h) = if x = 0 then Ta else T := by
  obtain ⟨e, hk⟩ := rf_sx (cal := cal) f L (.inl x :: st) h
  rw [e]
  simp only [rf_ins, rf_1I, hk, hm, hka, hma, Ka, K]
theorem rf_s_if_ne {q x : Int} {mka : List Bool} {La : List (Option rf_V)} {Ta : Option rf_R} (f : rf_Fb M pc nx (.ifCond .ne q) a b c z ts mk = true) (hka : rf_look M.2.2.2.2.2 a = mka) (hma : rf_msk mka L = La) (hm : rf_msk mk L = L') (Ka : rf_den cal M (a, La, st, h) = Ta) (K : rf_den cal M (nx, L', st, h) = T) : rf_den cal M (pc, L, .inl x :: st, h) = if x = 0 then T else Ta := by
  obtain ⟨e, hk⟩ := rf_sx (cal := cal) f L (.inl x :: st) h
  rw [e]
  simp only [rf_ins, rf_1I, hk, hm, hka, hma, Ka, K]
theorem rf_s_if_lt {q x : Int} {mka : List Bool} {La : List (Option rf_V)} {Ta : Option rf_R} (f : rf_Fb M pc nx (.ifCond .lt q) a b c z ts mk = true) (hka : rf_look M.2.2.2.2.2 a = mka) (hma : rf_msk mka L = La) (hm : rf_msk mk L = L') (Ka : rf_den cal M (a, La, st, h) = Ta) (K : rf_den cal M (nx, L', st, h) = T) : rf_den cal M (pc, L, .inl x :: st, h) = if x < 0 then Ta else T := by
  obtain ⟨e, hk⟩ := rf_sx (cal := cal) f L (.inl x :: st) h
  rw [e]
  simp only [rf_ins, rf_1I, hk, hm, hka, hma, Ka, K]
theorem rf_s_if_ge {q x : Int} {mka : List Bool} {La : List (Option rf_V)} {Ta : Option rf_R} (f : rf_Fb M pc nx (.ifCond .ge q) a b c z ts mk = true) (hka : rf_look M.2.2.2.2.2 a = mka) (hma : rf_msk mka L = La) (hm : rf_msk mk L = L') (Ka : rf_den cal M (a, La, st, h) = Ta) (K : rf_den cal M (nx, L', st, h) = T) : rf_den cal M (pc, L, .inl x :: st, h) = if x < 0 then T else Ta := by
  obtain ⟨e, hk⟩ := rf_sx (cal := cal) f L (.inl x :: st) h
  rw [e]
  simp only [rf_ins, rf_1I, hk, hm, hka, hma, Ka, K]
theorem rf_s_if_gt {q x : Int} {mka : List Bool} {La : List (Option rf_V)} {Ta : Option rf_R} (f : rf_Fb M pc nx (.ifCond .gt q) a b c z ts mk = true) (hka : rf_look M.2.2.2.2.2 a = mka) (hma : rf_msk mka L = La) (hm : rf_msk mk L = L') (Ka : rf_den cal M (a, La, st, h) = Ta) (K : rf_den cal M (nx, L', st, h) = T) : rf_den cal M (pc, L, .inl x :: st, h) = if 0 < x then Ta else T := by
  obtain ⟨e, hk⟩ := rf_sx (cal := cal) f L (.inl x :: st) h
  rw [e]
  simp only [rf_ins, rf_1I, hk, hm, hka, hma, Ka, K]
theorem rf_s_if_le {q x : Int} {mka : List Bool} {La : List (Option rf_V)} {Ta : Option rf_R} (f : rf_Fb M pc nx (.ifCond .le q) a b c z ts mk = true) (hka : rf_look M.2.2.2.2.2 a = mka) (hma : rf_msk mka L = La) (hm : rf_msk mk L = L') (Ka : rf_den cal M (a, La, st, h) = Ta) (K : rf_den cal M (nx, L', st, h) = T) : rf_den cal M (pc, L, .inl x :: st, h) = if 0 < x then T else Ta := by
  obtain ⟨e, hk⟩ := rf_sx (cal := cal) f L (.inl x :: st) h
  rw [e]
  simp only [rf_ins, rf_1I, hk, hm, hka, hma, Ka, K]
theorem rf_s_icmp_eq {q x y : Int} {mka : List Bool} {La : List (Option rf_V)} {Ta : Option rf_R} (f : rf_Fb M pc nx (.if_icmp .eq q) a b c z ts mk = true) (hka : rf_look M.2.2.2.2.2 a = mka) (hma : rf_msk mka L = La) (hm : rf_msk mk L = L') (Ka : rf_den cal M (a, La, st, h) = Ta) (K : rf_den cal M (nx, L', st, h) = T) : rf_den cal M (pc, L, .inl y :: .inl x :: st, h) = if x = y then Ta else T := by
  obtain ⟨e, hk⟩ := rf_sx (cal := cal) f L (.inl y :: .inl x :: st) h
  rw [e]
  simp only [rf_ins, rf_2I, hk, hm, hka, hma, Ka, K]
theorem rf_s_icmp_ne {q x y : Int} {mka : List Bool} {La : List (Option rf_V)} {Ta : Option rf_R} (f : rf_Fb M pc nx (.if_icmp .ne q) a b c z ts mk = true) (hka : rf_look M.2.2.2.2.2 a = mka) (hma : rf_msk mka L = La) (hm : rf_msk mk L = L') (Ka : rf_den cal M (a, La, st, h) = Ta) (K : rf_den cal M (nx, L', st, h) = T) : rf_den cal M (pc, L, .inl y :: .inl x :: st, h) = if x = y then T else Ta := by
  obtain ⟨e, hk⟩ := rf_sx (cal := cal) f L (.inl y :: .inl x :: st) h
  rw [e]
  simp only [rf_ins, rf_2I, hk, hm, hka, hma, Ka, K]
theorem rf_s_icmp_lt {q x y : Int} {mka : List Bool} {La : List (Option rf_V)} {Ta : Option rf_R} (f : rf_Fb M pc nx (.if_icmp .lt q) a b c z ts mk = true) (hka : rf_look M.2.2.2.2.2 a = mka) (hma : rf_msk mka L = La) (hm : rf_msk mk L = L') (Ka : rf_den cal M (a, La, st, h) = Ta) (K : rf_den cal M (nx, L', st, h) = T) : rf_den cal M (pc, L, .inl y :: .inl x :: st, h) = if x < y then Ta else T := by
  obtain ⟨e, hk⟩ := rf_sx (cal := cal) f L (.inl y :: .inl x :: st) h
  rw [e]
  simp only [rf_ins, rf_2I, hk, hm, hka, hma, Ka, K]
theorem rf_s_icmp_ge {q x y : Int} {mka : List Bool} {La : List (Option rf_V)} {Ta : Option rf_R} (f : rf_Fb M pc nx (.if_icmp .ge q) a b c z ts mk = true) (hka : rf_look M.2.2.2.2.2 a = mka) (hma : rf_msk mka L = La) (hm : rf_msk mk L = L') (Ka : rf_den cal M (a, La, st, h) = Ta) (K : rf_den cal M (nx, L', st, h) = T) : rf_den cal M (pc, L, .inl y :: .inl x :: st, h) = if x < y then T else Ta := by
  obtain ⟨e, hk⟩ := rf_sx (cal := cal) f L (.inl y :: .inl x :: st) h
  rw [e]
  simp only [rf_ins, rf_2I, hk, hm, hka, hma, Ka, K]
theorem rf_s_icmp_gt {q x y : Int} {mka : List Bool} {La : List (Option rf_V)} {Ta : Option rf_R} (f : rf_Fb M pc nx (.if_icmp .gt q) a b c z ts mk = true) (hka : rf_look M.2.2.2.2.2 a = mka) (hma : rf_msk mka L = La) (hm : rf_msk mk L = L') (Ka : rf_den cal M (a, La, st, h) = Ta) (K : rf_den cal M (nx, L', st, h) = T) : rf_den cal M (pc, L, .inl y :: .inl x :: st, h) = if y < x then Ta else T := by
  obtain ⟨e, hk⟩ := rf_sx (cal := cal) f L (.inl y :: .inl x :: st) h
  rw [e]
  simp only [rf_ins, rf_2I, hk, hm, hka, hma, Ka, K]
theorem rf_s_icmp_le {q x y : Int} {mka : List Bool} {La : List (Option rf_V)} {Ta : Option rf_R} (f : rf_Fb M pc nx (.if_icmp .le q) a b c z ts mk = true) (hka : rf_look M.2.2.2.2.2 a = mka) (hma : rf_msk mka L = La) (hm : rf_msk mk L = L') (Ka : rf_den cal M (a, La, st, h) = Ta) (K : rf_den cal M (nx, L', st, h) = T) : rf_den cal M (pc, L, .inl y :: .inl x :: st, h) = if y < x then T else Ta := by
  obtain ⟨e, hk⟩ := rf_sx (cal := cal) f L (.inl y :: .inl x :: st) h
  rw [e]
  simp only [rf_ins, rf_2I, hk, hm, hka, hma, Ka, K]
theorem rf_s_ifnull {q : Int} {x : Option Nat} {mka : List Bool} {La : List (Option rf_V)} {Ta : Option rf_R} (f : rf_Fb M pc nx (.ifnull q) a b c z ts mk = true) (hka : rf_look M.2.2.2.2.2 a = mka) (hma : rf_msk mka L = La) (hm : rf_msk mk L = L') (Ka : rf_den cal M (a, La, st, h) = Ta) (K : rf_den cal M (nx, L', st, h) = T) : rf_den cal M (pc, L, .inr (.inr x) :: st, h) = rf_nz x Ta T := by
  obtain ⟨e, hk⟩ := rf_sx (cal := cal) f L (.inr (.inr x) :: st) h
  rw [e]
  cases x <;> simp only [rf_ins, rf_1R, rf_nz, hk, hm, hka, hma, Ka, K]
theorem rf_s_ifnullS {q : Int} {x : Nat} (f : rf_Fb M pc nx (.ifnull q) a b c z ts mk = true) (hm : rf_msk mk L = L') (K : rf_den cal M (nx, L', st, h) = T) : rf_den cal M (pc, L, .inr (.inr (some x)) :: st, h) = T := by
  obtain ⟨e, hk⟩ := rf_sx (cal := cal) f L (.inr (.inr (some x)) :: st) h
  rw [e]
  simp only [rf_ins, rf_1R, hk, hm, K]
theorem rf_s_ifnonnull {q : Int} {x : Option Nat} {mka : List Bool} {La : List (Option rf_V)} {Ta : Option rf_R} (f : rf_Fb M pc nx (.ifnonnull q) a b c z ts mk = true) (hka : rf_look M.2.2.2.2.2 a = mka) (hma : rf_msk mka L = La) (hm : rf_msk mk L = L') (Ka : rf_den cal M (a, La, st, h) = Ta) (K : rf_den cal M (nx, L', st, h) = T) : rf_den cal M (pc, L, .inr (.inr x) :: st, h) = rf_nz x T Ta := by
  obtain ⟨e, hk⟩ := rf_sx (cal := cal) f L (.inr (.inr x) :: st) h
  rw [e]
  cases x <;> simp only [rf_ins, rf_1R, rf_nz, hk, hm, hka, hma, Ka, K]
theorem rf_s_ifnonnullS {q : Int} {x : Nat} {mka : List Bool} {La : List (Option rf_V)} (f : rf_Fb M pc nx (.ifnonnull q) a b c z ts mk = true) (hka : rf_look M.2.2.2.2.2 a = mka) (hma : rf_msk mka L = La) (K : rf_den cal M (a, La, st, h) = T) : rf_den cal M (pc, L, .inr (.inr (some x)) :: st, h) = T := by
  obtain ⟨e, hk⟩ := rf_sx (cal := cal) f L (.inr (.inr (some x)) :: st) h
  rw [e]
  simp only [rf_ins, rf_1R, hka, hma, K]
theorem rf_s_goto {q : Int} {mka : List Bool} (f : rf_Fb M pc nx (.goto q) a b c z ts mk = true) (hka : rf_look M.2.2.2.2.2 a = mka) (hm : rf_msk mka L = L') (K : rf_den cal M (a, L', st, h) = T) : rf_den cal M (pc, L, st, h) = T := by
  obtain ⟨e, hk⟩ := rf_sx (cal := cal) f L st h
  rw [e]
  simp only [rf_ins, hka, hm]
  exact K
theorem rf_s_tsw {d lo hi : Int} {os : Array Int} {x : Int} (f : rf_Fb M pc nx (.tableswitch d lo hi os) a b c z ts mk = true) (K : rf_tsw x lo ts a (fun t => rf_den cal M (t, rf_msk (rf_look M.2.2.2.2.2 t) L, st, h)) = T) : rf_den cal M (pc, L, .inl x :: st, h) = T := by
  obtain ⟨e, hk⟩ := rf_sx (cal := cal) f L (.inl x :: st) h
  rw [e]
  exact K
theorem rf_tsw_c {x lo : Int} {t : Nat} {ts : List Nat} {d : Nat} {go : Nat → Option rf_R} {T1 T2 : Option rf_R} (K1 : go t = T1) (K2 : rf_tsw x (lo + 1) ts d go = T2) : rf_tsw x lo (t :: ts) d go = if x = lo then T1 else T2 := by
  show (if x = lo then go t else rf_tsw x (lo + 1) ts d go) = _
  rw [K1, K2]
theorem rf_tsw_n {x lo : Int} {d : Nat} {go : Nat → Option rf_R} {T : Option rf_R} (K : go d = T) : rf_tsw x lo [] d go = T := K
theorem rf_tsw_g {t : Nat} (hka : rf_look M.2.2.2.2.2 t = mk) (hm : rf_msk mk L = L') (K : rf_den cal M (t, L', st, h) = T) : (fun t => rf_den cal M (t, rf_msk (rf_look M.2.2.2.2.2 t) L, st, h)) t = T := by
  show rf_den cal M (t, rf_msk (rf_look M.2.2.2.2.2 t) L, st, h) = T
  rw [hka, hm]
  exact K

theorem rf_s_getIS {q : Nat} {k : Nat} {T : Int → Option rf_R} (f : rf_Fb M pc nx (.getfield q) a b 0 z ts mk = true) (hm : rf_msk mk L = L') (K : ∀ x, rf_den cal M (nx, L', .inl x :: st, h) = T x) : rf_den cal M (pc, L, .inr (.inr (some k)) :: st, h) = (rf_gI h a k b).bind fun x => T x := by
  obtain ⟨e, hk⟩ := rf_sx (cal := cal) f L (.inr (.inr (some k)) :: st) h
  rw [e]
  simp only [rf_ins, rf_nn, rf_1R, hk, hm, K]
theorem rf_s_getIR {q : Nat} {r : Option Nat} {T : Nat → Int → Option rf_R} (f : rf_Fb M pc nx (.getfield q) a b 0 z ts mk = true) (hm : rf_msk mk L = L') (K : ∀ k x, rf_den cal M (nx, L', .inl x :: st, h) = T k x) : rf_den cal M (pc, L, .inr (.inr r) :: st, h) = rf_nn r fun k => (rf_gI h a k b).bind fun x => T k x := by
  obtain ⟨e, hk⟩ := rf_sx (cal := cal) f L (.inr (.inr r) :: st) h
  rw [e]
  simp only [rf_ins, rf_1R, hk, hm]
  exact rf_nc fun k => rf_bc fun x => K k x
theorem rf_s_getLS {q : Nat} {k : Nat} {T : Int → Option rf_R} (f : rf_Fb M pc nx (.getfield q) a b 1 z ts mk = true) (hm : rf_msk mk L = L') (K : ∀ x, rf_den cal M (nx, L', .inr (.inl x) :: st, h) = T x) : rf_den cal M (pc, L, .inr (.inr (some k)) :: st, h) = (rf_gI h a k b).bind fun x => T x := by
  obtain ⟨e, hk⟩ := rf_sx (cal := cal) f L (.inr (.inr (some k)) :: st) h
  rw [e]
  simp only [rf_ins, rf_nn, rf_1R, hk, hm, K]
theorem rf_s_getLR {q : Nat} {r : Option Nat} {T : Nat → Int → Option rf_R} (f : rf_Fb M pc nx (.getfield q) a b 1 z ts mk = true) (hm : rf_msk mk L = L') (K : ∀ k x, rf_den cal M (nx, L', .inr (.inl x) :: st, h) = T k x) : rf_den cal M (pc, L, .inr (.inr r) :: st, h) = rf_nn r fun k => (rf_gI h a k b).bind fun x => T k x := by
  obtain ⟨e, hk⟩ := rf_sx (cal := cal) f L (.inr (.inr r) :: st) h
  rw [e]
  simp only [rf_ins, rf_1R, hk, hm]
  exact rf_nc fun k => rf_bc fun x => K k x
theorem rf_s_getAS {q : Nat} {k : Nat} {T : Option Nat → Option rf_R} (f : rf_Fb M pc nx (.getfield q) a b 2 z ts mk = true) (hm : rf_msk mk L = L') (K : ∀ x, rf_den cal M (nx, L', .inr (.inr x) :: st, h) = T x) : rf_den cal M (pc, L, .inr (.inr (some k)) :: st, h) = (rf_gR h a k b).bind fun x => T x := by
  obtain ⟨e, hk⟩ := rf_sx (cal := cal) f L (.inr (.inr (some k)) :: st) h
  rw [e]
  simp only [rf_ins, rf_nn, rf_1R, hk, hm, K]
theorem rf_s_getAR {q : Nat} {r : Option Nat} {T : Nat → Option Nat → Option rf_R} (f : rf_Fb M pc nx (.getfield q) a b 2 z ts mk = true) (hm : rf_msk mk L = L') (K : ∀ k x, rf_den cal M (nx, L', .inr (.inr x) :: st, h) = T k x) : rf_den cal M (pc, L, .inr (.inr r) :: st, h) = rf_nn r fun k => (rf_gR h a k b).bind fun x => T k x := by
  obtain ⟨e, hk⟩ := rf_sx (cal := cal) f L (.inr (.inr r) :: st) h
  rw [e]
  simp only [rf_ins, rf_1R, hk, hm]
  exact rf_nc fun k => rf_bc fun x => K k x
theorem rf_s_putIS {q : Nat} {v : Int} {k : Nat} {T : rf_H → Option rf_R} (f : rf_Fb M pc nx (.putfield q) a b 0 z ts mk = true) (hm : rf_msk mk L = L') (K : ∀ x, rf_den cal M (nx, L', st, x) = T x) : rf_den cal M (pc, L, .inl v :: .inr (.inr (some k)) :: st, h) = (rf_pI h a k b v).bind fun x => T x := by
  obtain ⟨e, hk⟩ := rf_sx (cal := cal) f L (.inl v :: .inr (.inr (some k)) :: st) h
  rw [e]
  simp only [rf_ins, rf_nn,  hk, hm, K]
theorem rf_s_putIR {q : Nat} {v : Int} {r : Option Nat} {T : Nat → rf_H → Option rf_R} (f : rf_Fb M pc nx (.putfield q) a b 0 z ts mk = true) (hm : rf_msk mk L = L') (K : ∀ k x, rf_den cal M (nx, L', st, x) = T k x) : rf_den cal M (pc, L, .inl v :: .inr (.inr r) :: st, h) = rf_nn r fun k => (rf_pI h a k b v).bind fun x => T k x := by
  obtain ⟨e, hk⟩ := rf_sx (cal := cal) f L (.inl v :: .inr (.inr r) :: st) h
  rw [e]
  simp only [rf_ins,  hk, hm]
  exact rf_nc fun k => rf_bc fun x => K k x
theorem rf_s_putLS {q : Nat} {v : Int} {k : Nat} {T : rf_H → Option rf_R} (f : rf_Fb M pc nx (.putfield q) a b 1 z ts mk = true) (hm : rf_msk mk L = L') (K : ∀ x, rf_den cal M (nx, L', st, x) = T x) : rf_den cal M (pc, L, .inr (.inl v) :: .inr (.inr (some k)) :: st, h) = (rf_pI h a k b v).bind fun x => T x := by
  obtain ⟨e, hk⟩ := rf_sx (cal := cal) f L (.inr (.inl v) :: .inr (.inr (some k)) :: st) h
  rw [e]
  simp only [rf_ins, rf_nn,  hk, hm, K]
theorem rf_s_putLR {q : Nat} {v : Int} {r : Option Nat} {T : Nat → rf_H → Option rf_R} (f : rf_Fb M pc nx (.putfield q) a b 1 z ts mk = true) (hm : rf_msk mk L = L') (K : ∀ k x, rf_den cal M (nx, L', st, x) = T k x) : rf_den cal M (pc, L, .inr (.inl v) :: .inr (.inr r) :: st, h) = rf_nn r fun k => (rf_pI h a k b v).bind fun x => T k x := by
  obtain ⟨e, hk⟩ := rf_sx (cal := cal) f L (.inr (.inl v) :: .inr (.inr r) :: st) h
  rw [e]
  simp only [rf_ins,  hk, hm]
  exact rf_nc fun k => rf_bc fun x => K k x
theorem rf_s_putAS {q : Nat} {v : Option Nat} {k : Nat} {T : rf_H → Option rf_R} (f : rf_Fb M pc nx (.putfield q) a b 2 z ts mk = true) (hm : rf_msk mk L = L') (K : ∀ x, rf_den cal M (nx, L', st, x) = T x) : rf_den cal M (pc, L, .inr (.inr v) :: .inr (.inr (some k)) :: st, h) = (rf_pR h a k b v).bind fun x => T x := by
  obtain ⟨e, hk⟩ := rf_sx (cal := cal) f L (.inr (.inr v) :: .inr (.inr (some k)) :: st) h
  rw [e]
  simp only [rf_ins, rf_nn,  hk, hm, K]
theorem rf_s_putAR {q : Nat} {v : Option Nat} {r : Option Nat} {T : Nat → rf_H → Option rf_R} (f : rf_Fb M pc nx (.putfield q) a b 2 z ts mk = true) (hm : rf_msk mk L = L') (K : ∀ k x, rf_den cal M (nx, L', st, x) = T k x) : rf_den cal M (pc, L, .inr (.inr v) :: .inr (.inr r) :: st, h) = rf_nn r fun k => (rf_pR h a k b v).bind fun x => T k x := by
  obtain ⟨e, hk⟩ := rf_sx (cal := cal) f L (.inr (.inr v) :: .inr (.inr r) :: st) h
  rw [e]
  simp only [rf_ins,  hk, hm]
  exact rf_nc fun k => rf_bc fun x => K k x
theorem rf_s_putZS {q : Nat} {v : Int} (hv : v = 0 ∨ v = 1) {k : Nat} {T : rf_H → Option rf_R} (f : rf_Fb M pc nx (.putfield q) a b 3 z ts mk = true) (hm : rf_msk mk L = L') (K : ∀ x, rf_den cal M (nx, L', st, x) = T x) : rf_den cal M (pc, L, .inl v :: .inr (.inr (some k)) :: st, h) = (rf_pI h a k b v).bind fun x => T x := by
  obtain ⟨e, hk⟩ := rf_sx (cal := cal) f L (.inl v :: .inr (.inr (some k)) :: st) h
  rw [e]
  simp only [rf_ins, rf_nn, if_pos hv, hk, hm, K]
theorem rf_s_putZR {q : Nat} {v : Int} (hv : v = 0 ∨ v = 1) {r : Option Nat} {T : Nat → rf_H → Option rf_R} (f : rf_Fb M pc nx (.putfield q) a b 3 z ts mk = true) (hm : rf_msk mk L = L') (K : ∀ k x, rf_den cal M (nx, L', st, x) = T k x) : rf_den cal M (pc, L, .inl v :: .inr (.inr r) :: st, h) = rf_nn r fun k => (rf_pI h a k b v).bind fun x => T k x := by
  obtain ⟨e, hk⟩ := rf_sx (cal := cal) f L (.inl v :: .inr (.inr r) :: st) h
  rw [e]
  simp only [rf_ins, if_pos hv, hk, hm]
  exact rf_nc fun k => rf_bc fun x => K k x
theorem rf_s_alenS  {k : Nat} {T : Int → Option rf_R} (f : rf_Fb M pc nx (.arraylength) a b c z ts mk = true) (hm : rf_msk mk L = L') (K : ∀ x, rf_den cal M (nx, L', .inl x :: st, h) = T x) : rf_den cal M (pc, L, .inr (.inr (some k)) :: st, h) = (rf_aL h k).bind fun x => T x := by
  obtain ⟨e, hk⟩ := rf_sx (cal := cal) f L (.inr (.inr (some k)) :: st) h
  rw [e]
  simp only [rf_ins, rf_nn, rf_1R, hk, hm, K]
theorem rf_s_alenR  {r : Option Nat} {T : Nat → Int → Option rf_R} (f : rf_Fb M pc nx (.arraylength) a b c z ts mk = true) (hm : rf_msk mk L = L') (K : ∀ k x, rf_den cal M (nx, L', .inl x :: st, h) = T k x) : rf_den cal M (pc, L, .inr (.inr r) :: st, h) = rf_nn r fun k => (rf_aL h k).bind fun x => T k x := by
  obtain ⟨e, hk⟩ := rf_sx (cal := cal) f L (.inr (.inr r) :: st) h
  rw [e]
  simp only [rf_ins, rf_1R, hk, hm]
  exact rf_nc fun k => rf_bc fun x => K k x
theorem rf_s_ialdS {j : Int} {k : Nat} {T : Int → Option rf_R} (f : rf_Fb M pc nx (.iaload) a b c z ts mk = true) (hm : rf_msk mk L = L') (K : ∀ x, rf_den cal M (nx, L', .inl x :: st, h) = T x) : rf_den cal M (pc, L, .inl j :: .inr (.inr (some k)) :: st, h) = (rf_aI h k j).bind fun x => T x := by
  obtain ⟨e, hk⟩ := rf_sx (cal := cal) f L (.inl j :: .inr (.inr (some k)) :: st) h
  rw [e]
  simp only [rf_ins, rf_nn,  hk, hm, K]
theorem rf_s_ialdR {j : Int} {r : Option Nat} {T : Nat → Int → Option rf_R} (f : rf_Fb M pc nx (.iaload) a b c z ts mk = true) (hm : rf_msk mk L = L') (K : ∀ k x, rf_den cal M (nx, L', .inl x :: st, h) = T k x) : rf_den cal M (pc, L, .inl j :: .inr (.inr r) :: st, h) = rf_nn r fun k => (rf_aI h k j).bind fun x => T k x := by
  obtain ⟨e, hk⟩ := rf_sx (cal := cal) f L (.inl j :: .inr (.inr r) :: st) h
  rw [e]
  simp only [rf_ins,  hk, hm]
  exact rf_nc fun k => rf_bc fun x => K k x
theorem rf_s_baldS {j : Int} {k : Nat} {T : Int → Option rf_R} (f : rf_Fb M pc nx (.baload) a b c z ts mk = true) (hm : rf_msk mk L = L') (K : ∀ x, rf_den cal M (nx, L', .inl x :: st, h) = T x) : rf_den cal M (pc, L, .inl j :: .inr (.inr (some k)) :: st, h) = (rf_aZ h k j).bind fun x => T x := by
  obtain ⟨e, hk⟩ := rf_sx (cal := cal) f L (.inl j :: .inr (.inr (some k)) :: st) h
  rw [e]
  simp only [rf_ins, rf_nn,  hk, hm, K]
theorem rf_s_baldR {j : Int} {r : Option Nat} {T : Nat → Int → Option rf_R} (f : rf_Fb M pc nx (.baload) a b c z ts mk = true) (hm : rf_msk mk L = L') (K : ∀ k x, rf_den cal M (nx, L', .inl x :: st, h) = T k x) : rf_den cal M (pc, L, .inl j :: .inr (.inr r) :: st, h) = rf_nn r fun k => (rf_aZ h k j).bind fun x => T k x := by
  obtain ⟨e, hk⟩ := rf_sx (cal := cal) f L (.inl j :: .inr (.inr r) :: st) h
  rw [e]
  simp only [rf_ins,  hk, hm]
  exact rf_nc fun k => rf_bc fun x => K k x
theorem rf_s_aaldS {j : Int} {k : Nat} {T : Option Nat → Option rf_R} (f : rf_Fb M pc nx (.aaload) a b c z ts mk = true) (hm : rf_msk mk L = L') (K : ∀ x, rf_den cal M (nx, L', .inr (.inr x) :: st, h) = T x) : rf_den cal M (pc, L, .inl j :: .inr (.inr (some k)) :: st, h) = (rf_aR h k j).bind fun x => T x := by
  obtain ⟨e, hk⟩ := rf_sx (cal := cal) f L (.inl j :: .inr (.inr (some k)) :: st) h
  rw [e]
  simp only [rf_ins, rf_nn,  hk, hm, K]
theorem rf_s_aaldR {j : Int} {r : Option Nat} {T : Nat → Option Nat → Option rf_R} (f : rf_Fb M pc nx (.aaload) a b c z ts mk = true) (hm : rf_msk mk L = L') (K : ∀ k x, rf_den cal M (nx, L', .inr (.inr x) :: st, h) = T k x) : rf_den cal M (pc, L, .inl j :: .inr (.inr r) :: st, h) = rf_nn r fun k => (rf_aR h k j).bind fun x => T k x := by
  obtain ⟨e, hk⟩ := rf_sx (cal := cal) f L (.inl j :: .inr (.inr r) :: st) h
  rw [e]
  simp only [rf_ins,  hk, hm]
  exact rf_nc fun k => rf_bc fun x => K k x
theorem rf_s_iastS {j v : Int} {k : Nat} {T : rf_H → Option rf_R} (f : rf_Fb M pc nx (.iastore) a b c z ts mk = true) (hm : rf_msk mk L = L') (K : ∀ x, rf_den cal M (nx, L', st, x) = T x) : rf_den cal M (pc, L, .inl v :: .inl j :: .inr (.inr (some k)) :: st, h) = (rf_sI h k j v).bind fun x => T x := by
  obtain ⟨e, hk⟩ := rf_sx (cal := cal) f L (.inl v :: .inl j :: .inr (.inr (some k)) :: st) h
  rw [e]
  simp only [rf_ins, rf_nn,  hk, hm, K]
theorem rf_s_iastR {j v : Int} {r : Option Nat} {T : Nat → rf_H → Option rf_R} (f : rf_Fb M pc nx (.iastore) a b c z ts mk = true) (hm : rf_msk mk L = L') (K : ∀ k x, rf_den cal M (nx, L', st, x) = T k x) : rf_den cal M (pc, L, .inl v :: .inl j :: .inr (.inr r) :: st, h) = rf_nn r fun k => (rf_sI h k j v).bind fun x => T k x := by
  obtain ⟨e, hk⟩ := rf_sx (cal := cal) f L (.inl v :: .inl j :: .inr (.inr r) :: st) h
  rw [e]
  simp only [rf_ins,  hk, hm]
  exact rf_nc fun k => rf_bc fun x => K k x
theorem rf_s_bastS {j v : Int} (hv : v = 0 ∨ v = 1) {k : Nat} {T : rf_H → Option rf_R} (f : rf_Fb M pc nx (.bastore) a b c z ts mk = true) (hm : rf_msk mk L = L') (K : ∀ x, rf_den cal M (nx, L', st, x) = T x) : rf_den cal M (pc, L, .inl v :: .inl j :: .inr (.inr (some k)) :: st, h) = (rf_sZ h k j v).bind fun x => T x := by
  obtain ⟨e, hk⟩ := rf_sx (cal := cal) f L (.inl v :: .inl j :: .inr (.inr (some k)) :: st) h
  rw [e]
  simp only [rf_ins, rf_nn, if_pos hv, hk, hm, K]
theorem rf_s_bastR {j v : Int} (hv : v = 0 ∨ v = 1) {r : Option Nat} {T : Nat → rf_H → Option rf_R} (f : rf_Fb M pc nx (.bastore) a b c z ts mk = true) (hm : rf_msk mk L = L') (K : ∀ k x, rf_den cal M (nx, L', st, x) = T k x) : rf_den cal M (pc, L, .inl v :: .inl j :: .inr (.inr r) :: st, h) = rf_nn r fun k => (rf_sZ h k j v).bind fun x => T k x := by
  obtain ⟨e, hk⟩ := rf_sx (cal := cal) f L (.inl v :: .inl j :: .inr (.inr r) :: st) h
  rw [e]
  simp only [rf_ins, if_pos hv, hk, hm]
  exact rf_nc fun k => rf_bc fun x => K k x
theorem rf_s_putZgS {q : Nat} {v : Int} {k : Nat} {T : rf_H → Option rf_R} (f : rf_Fb M pc nx (.putfield q) a b 3 z ts mk = true) (hm : rf_msk mk L = L') (K : ∀ x, rf_den cal M (nx, L', st, x) = T x) : rf_den cal M (pc, L, .inl v :: .inr (.inr (some k)) :: st, h) = if v = 0 ∨ v = 1 then (rf_pI h a k b v).bind fun x => T x else none := by
  by_cases hv : v = 0 ∨ v = 1
  · rw [if_pos hv]
    exact rf_s_putZS hv f hm K
  · rw [if_neg hv, (rf_sx f L (.inl v :: .inr (.inr (some k)) :: st) h).1]
    exact if_neg hv
theorem rf_s_putZgR {q : Nat} {v : Int} {r : Option Nat} {T : Nat → rf_H → Option rf_R} (f : rf_Fb M pc nx (.putfield q) a b 3 z ts mk = true) (hm : rf_msk mk L = L') (K : ∀ k x, rf_den cal M (nx, L', st, x) = T k x) : rf_den cal M (pc, L, .inl v :: .inr (.inr r) :: st, h) = if v = 0 ∨ v = 1 then rf_nn r fun k => (rf_pI h a k b v).bind fun x => T k x else none := by
  by_cases hv : v = 0 ∨ v = 1
  · rw [if_pos hv]
    exact rf_s_putZR hv f hm K
  · rw [if_neg hv, (rf_sx f L (.inl v :: .inr (.inr r) :: st) h).1]
    exact if_neg hv
theorem rf_s_invS0 {q : Nat} {as : List rf_V} {st' : List rf_V} {T : rf_R → Int → rf_H → Option rf_R} (f : rf_Fb M pc nx (.invokestatic q) a b 0 z ts mk = true) (hp : rf_pop b [] st = some (as, st')) (hc : Nat.ble (rf_cat st') 8 = true) (hm : rf_msk mk L = L') (K : ∀ q x h', rf_den cal M (nx, L', .inl x :: st', h') = T q x h') : rf_den cal M (pc, L, st, h) = (cal a as h).bind fun q => rf_kI q fun x h' => T q x h' := by
  obtain ⟨e, hk⟩ := rf_sx (cal := cal) f L st h
  rw [e]
  simp only [rf_ins, hp, hc, cond_true, rf_ret, hk, hm, List.cons_append, List.nil_append]
  exact rf_bc fun q => rf_kc0 fun x y => K q x y
theorem rf_s_invV0S {q : Nat} {as : List rf_V} {st' : List rf_V} {k : Nat} {T : rf_R → Int → rf_H → Option rf_R} (f : rf_Fb M pc nx (.invokevirtual q) a b 0 z ts mk = true) (hp : rf_pop b [] st = some (as, .inr (.inr (some k)) :: st')) (hc : Nat.ble (rf_cat st') 8 = true) (hm : rf_msk mk L = L') (K : ∀ q x h', rf_den cal M (nx, L', .inl x :: st', h') = T q x h') : rf_den cal M (pc, L, st, h) = bif rf_isO h.1 k z.toNat then (cal a (.inr (.inr (some k)) :: as) h).bind fun q => rf_kI q fun x h' => T q x h' else none := by
  obtain ⟨e, hk⟩ := rf_sx (cal := cal) f L st h
  rw [e]
  simp only [rf_ins, rf_inv, hp, hc, cond_true, rf_nn, rf_ret, hk, hm, List.cons_append, List.nil_append]
  exact rf_ic (rf_bc fun q => rf_kc0 fun x y => K q x y)
theorem rf_s_invV0R {q : Nat} {as : List rf_V} {st' : List rf_V} {r : Option Nat} {T : Nat → rf_R → Int → rf_H → Option rf_R} (f : rf_Fb M pc nx (.invokevirtual q) a b 0 z ts mk = true) (hp : rf_pop b [] st = some (as, .inr (.inr r) :: st')) (hc : Nat.ble (rf_cat st') 8 = true) (hm : rf_msk mk L = L') (K : ∀ k q x h', rf_den cal M (nx, L', .inl x :: st', h') = T k q x h') : rf_den cal M (pc, L, st, h) = rf_nn r fun k => bif rf_isO h.1 k z.toNat then (cal a (.inr (.inr (some k)) :: as) h).bind fun q => rf_kI q fun x h' => T k q x h' else none := by
  obtain ⟨e, hk⟩ := rf_sx (cal := cal) f L st h
  rw [e]
  simp only [rf_ins, rf_inv, hp, hc, cond_true, rf_ret, hk, hm, List.cons_append, List.nil_append]
  exact rf_nc fun k => rf_ic (rf_bc fun q => rf_kc0 fun x y => K k q x y)
theorem rf_s_invS1 {q : Nat} {as : List rf_V} {st' : List rf_V} {T : rf_R → Int → rf_H → Option rf_R} (f : rf_Fb M pc nx (.invokestatic q) a b 1 z ts mk = true) (hp : rf_pop b [] st = some (as, st')) (hc : Nat.ble (rf_cat st') 8 = true) (hm : rf_msk mk L = L') (K : ∀ q x h', rf_den cal M (nx, L', .inr (.inl x) :: st', h') = T q x h') : rf_den cal M (pc, L, st, h) = (cal a as h).bind fun q => rf_kL q fun x h' => T q x h' := by
  obtain ⟨e, hk⟩ := rf_sx (cal := cal) f L st h
  rw [e]
  simp only [rf_ins, hp, hc, cond_true, rf_ret, hk, hm, List.cons_append, List.nil_append]
  exact rf_bc fun q => rf_kc1 fun x y => K q x y
theorem rf_s_invV1S {q : Nat} {as : List rf_V} {st' : List rf_V} {k : Nat} {T : rf_R → Int → rf_H → Option rf_R} (f : rf_Fb M pc nx (.invokevirtual q) a b 1 z ts mk = true) (hp : rf_pop b [] st = some (as, .inr (.inr (some k)) :: st')) (hc : Nat.ble (rf_cat st') 8 = true) (hm : rf_msk mk L = L') (K : ∀ q x h', rf_den cal M (nx, L', .inr (.inl x) :: st', h') = T q x h') : rf_den cal M (pc, L, st, h) = bif rf_isO h.1 k z.toNat then (cal a (.inr (.inr (some k)) :: as) h).bind fun q => rf_kL q fun x h' => T q x h' else none := by
  obtain ⟨e, hk⟩ := rf_sx (cal := cal) f L st h
  rw [e]
  simp only [rf_ins, rf_inv, hp, hc, cond_true, rf_nn, rf_ret, hk, hm, List.cons_append, List.nil_append]
  exact rf_ic (rf_bc fun q => rf_kc1 fun x y => K q x y)
theorem rf_s_invV1R {q : Nat} {as : List rf_V} {st' : List rf_V} {r : Option Nat} {T : Nat → rf_R → Int → rf_H → Option rf_R} (f : rf_Fb M pc nx (.invokevirtual q) a b 1 z ts mk = true) (hp : rf_pop b [] st = some (as, .inr (.inr r) :: st')) (hc : Nat.ble (rf_cat st') 8 = true) (hm : rf_msk mk L = L') (K : ∀ k q x h', rf_den cal M (nx, L', .inr (.inl x) :: st', h') = T k q x h') : rf_den cal M (pc, L, st, h) = rf_nn r fun k => bif rf_isO h.1 k z.toNat then (cal a (.inr (.inr (some k)) :: as) h).bind fun q => rf_kL q fun x h' => T k q x h' else none := by
  obtain ⟨e, hk⟩ := rf_sx (cal := cal) f L st h
  rw [e]
  simp only [rf_ins, rf_inv, hp, hc, cond_true, rf_ret, hk, hm, List.cons_append, List.nil_append]
  exact rf_nc fun k => rf_ic (rf_bc fun q => rf_kc1 fun x y => K k q x y)
theorem rf_s_invS2 {q : Nat} {as : List rf_V} {st' : List rf_V} {T : rf_R → Option Nat → rf_H → Option rf_R} (f : rf_Fb M pc nx (.invokestatic q) a b 2 z ts mk = true) (hp : rf_pop b [] st = some (as, st')) (hc : Nat.ble (rf_cat st') 8 = true) (hm : rf_msk mk L = L') (K : ∀ q x h', rf_den cal M (nx, L', .inr (.inr x) :: st', h') = T q x h') : rf_den cal M (pc, L, st, h) = (cal a as h).bind fun q => rf_kR q fun x h' => T q x h' := by
  obtain ⟨e, hk⟩ := rf_sx (cal := cal) f L st h
  rw [e]
  simp only [rf_ins, hp, hc, cond_true, rf_ret, hk, hm, List.cons_append, List.nil_append]
  exact rf_bc fun q => rf_kc2 fun x y => K q x y
theorem rf_s_invV2S {q : Nat} {as : List rf_V} {st' : List rf_V} {k : Nat} {T : rf_R → Option Nat → rf_H → Option rf_R} (f : rf_Fb M pc nx (.invokevirtual q) a b 2 z ts mk = true) (hp : rf_pop b [] st = some (as, .inr (.inr (some k)) :: st')) (hc : Nat.ble (rf_cat st') 8 = true) (hm : rf_msk mk L = L') (K : ∀ q x h', rf_den cal M (nx, L', .inr (.inr x) :: st', h') = T q x h') : rf_den cal M (pc, L, st, h) = bif rf_isO h.1 k z.toNat then (cal a (.inr (.inr (some k)) :: as) h).bind fun q => rf_kR q fun x h' => T q x h' else none := by
  obtain ⟨e, hk⟩ := rf_sx (cal := cal) f L st h
  rw [e]
  simp only [rf_ins, rf_inv, hp, hc, cond_true, rf_nn, rf_ret, hk, hm, List.cons_append, List.nil_append]
  exact rf_ic (rf_bc fun q => rf_kc2 fun x y => K q x y)
theorem rf_s_invV2R {q : Nat} {as : List rf_V} {st' : List rf_V} {r : Option Nat} {T : Nat → rf_R → Option Nat → rf_H → Option rf_R} (f : rf_Fb M pc nx (.invokevirtual q) a b 2 z ts mk = true) (hp : rf_pop b [] st = some (as, .inr (.inr r) :: st')) (hc : Nat.ble (rf_cat st') 8 = true) (hm : rf_msk mk L = L') (K : ∀ k q x h', rf_den cal M (nx, L', .inr (.inr x) :: st', h') = T k q x h') : rf_den cal M (pc, L, st, h) = rf_nn r fun k => bif rf_isO h.1 k z.toNat then (cal a (.inr (.inr (some k)) :: as) h).bind fun q => rf_kR q fun x h' => T k q x h' else none := by
  obtain ⟨e, hk⟩ := rf_sx (cal := cal) f L st h
  rw [e]
  simp only [rf_ins, rf_inv, hp, hc, cond_true, rf_ret, hk, hm, List.cons_append, List.nil_append]
  exact rf_nc fun k => rf_ic (rf_bc fun q => rf_kc2 fun x y => K k q x y)
theorem rf_s_invS3 {q : Nat} {as : List rf_V} {st' : List rf_V} {T : rf_R → rf_H → Option rf_R} (f : rf_Fb M pc nx (.invokestatic q) a b 3 z ts mk = true) (hp : rf_pop b [] st = some (as, st')) (hc : Nat.ble (rf_cat st') 8 = true) (hm : rf_msk mk L = L') (K : ∀ q h', rf_den cal M (nx, L', st', h') = T q h') : rf_den cal M (pc, L, st, h) = (cal a as h).bind fun q => rf_kV q fun h' => T q h' := by
  obtain ⟨e, hk⟩ := rf_sx (cal := cal) f L st h
  rw [e]
  simp only [rf_ins, hp, hc, cond_true, rf_ret, hk, hm, List.cons_append, List.nil_append]
  exact rf_bc fun q => rf_kc3 fun y => K q y
theorem rf_s_invV3S {q : Nat} {as : List rf_V} {st' : List rf_V} {k : Nat} {T : rf_R → rf_H → Option rf_R} (f : rf_Fb M pc nx (.invokevirtual q) a b 3 z ts mk = true) (hp : rf_pop b [] st = some (as, .inr (.inr (some k)) :: st')) (hc : Nat.ble (rf_cat st') 8 = true) (hm : rf_msk mk L = L') (K : ∀ q h', rf_den cal M (nx, L', st', h') = T q h') : rf_den cal M (pc, L, st, h) = bif rf_isO h.1 k z.toNat then (cal a (.inr (.inr (some k)) :: as) h).bind fun q => rf_kV q fun h' => T q h' else none := by
  obtain ⟨e, hk⟩ := rf_sx (cal := cal) f L st h
  rw [e]
  simp only [rf_ins, rf_inv, hp, hc, cond_true, rf_nn, rf_ret, hk, hm, List.cons_append, List.nil_append]
  exact rf_ic (rf_bc fun q => rf_kc3 fun y => K q y)
theorem rf_s_invV3R {q : Nat} {as : List rf_V} {st' : List rf_V} {r : Option Nat} {T : Nat → rf_R → rf_H → Option rf_R} (f : rf_Fb M pc nx (.invokevirtual q) a b 3 z ts mk = true) (hp : rf_pop b [] st = some (as, .inr (.inr r) :: st')) (hc : Nat.ble (rf_cat st') 8 = true) (hm : rf_msk mk L = L') (K : ∀ k q h', rf_den cal M (nx, L', st', h') = T k q h') : rf_den cal M (pc, L, st, h) = rf_nn r fun k => bif rf_isO h.1 k z.toNat then (cal a (.inr (.inr (some k)) :: as) h).bind fun q => rf_kV q fun h' => T k q h' else none := by
  obtain ⟨e, hk⟩ := rf_sx (cal := cal) f L st h
  rw [e]
  simp only [rf_ins, rf_inv, hp, hc, cond_true, rf_ret, hk, hm, List.cons_append, List.nil_append]
  exact rf_nc fun k => rf_ic (rf_bc fun q => rf_kc3 fun y => K k q y)
theorem rf_s_cp {q : Nat} {n dp sp : Int} {ra rb : Option Nat} {T : Nat → Nat → rf_H → Option rf_R} (f : rf_Fb M pc nx (.invokestatic q) a b 9 z ts mk = true) (hc : Nat.ble (rf_cat st) 8 = true) (hm : rf_msk mk L = L') (K : ∀ ka kb x, rf_den cal M (nx, L', st, x) = T ka kb x) : rf_den cal M (pc, L, .inl n :: .inl dp :: .inr (.inr rb) :: .inl sp :: .inr (.inr ra) :: st, h) = rf_nn ra fun ka => rf_nn rb fun kb => (rf_cp h ka sp kb dp n).bind fun x => T ka kb x := by
  obtain ⟨e, hk⟩ := rf_sx (cal := cal) f L (.inl n :: .inl dp :: .inr (.inr rb) :: .inl sp :: .inr (.inr ra) :: st) h
  rw [e]
  simp only [rf_ins, hc, cond_true, hk, hm]
  exact rf_nc fun ka => rf_nc fun kb => rf_bc fun x => K ka kb x
theorem rf_s_iret {x : Int} (f : rf_Fb M pc nx .ireturn a b 0 z ts mk = true) : rf_den cal M (pc, L, [.inl x], h) = some (some (.inl x), h) := (rf_sx f L [.inl x] h).1
theorem rf_s_zret {x : Int} (f : rf_Fb M pc nx .ireturn a b 1 z ts mk = true) : rf_den cal M (pc, L, [.inl x], h) = if x = 0 ∨ x = 1 then some (some (.inl x), h) else none := (rf_sx f L [.inl x] h).1
theorem rf_s_zretK {x : Int} (f : rf_Fb M pc nx .ireturn a b 1 z ts mk = true) (hx : x = 0 ∨ x = 1) : rf_den cal M (pc, L, [.inl x], h) = some (some (.inl x), h) := (rf_s_zret f).trans (if_pos hx)
theorem rf_s_lret {x : Int} (f : rf_Fb M pc nx .lreturn a b c z ts mk = true) : rf_den cal M (pc, L, [.inr (.inl x)], h) = some (some (.inr (.inl x)), h) := (rf_sx f L [.inr (.inl x)] h).1
theorem rf_s_aret {x : Option Nat} (f : rf_Fb M pc nx .areturn a b c z ts mk = true) : rf_den cal M (pc, L, [.inr (.inr x)], h) = some (some (.inr (.inr x)), h) := (rf_sx f L [.inr (.inr x)] h).1
theorem rf_s_vret (f : rf_Fb M pc nx .return_ a b c z ts mk = true) : rf_den cal M (pc, L, [], h) = some (none, h) := (rf_sx f L [] h).1
theorem rf_s_newI {x : Int} {q : ClassFile.ArrayType} (f : rf_Fb M pc nx (.newarray q) 0 b c z ts mk = true) (hm : rf_msk mk L = L') (K : rf_den cal M (nx, L', .inr (.inr (some h.1.length)) :: st, rf_nw h (.inr (0, x.toNat))) = T) : rf_den cal M (pc, L, .inl x :: st, h) = if 0 ≤ x ∧ x ≤ 100000 ∧ h.1.length < 1000000 then T else none := by
  obtain ⟨e, hk⟩ := rf_sx (cal := cal) f L (.inl x :: st) h
  rw [e]
  simp only [rf_ins, rf_1I, hk, hm, K]
end RFS
