/-! What a step does with its two ends: it takes one of them, and which one doesn't hang on them. -/
def rf_Lin (c : (rf_R → Option rf_R) → (rf_S → Option rf_R) → Option rf_R) : Prop := ∀ kr ks r, c kr ks = some r → (∃ q, kr q = some r ∧ ∀ kr' ks', c kr' ks' = kr' q) ∨ (∃ s', ks s' = some r ∧ ∀ kr' ks', c kr' ks' = ks' s')
theorem rf_l0 : rf_Lin (fun _ _ => none) := fun _ _ _ h => by cases h
theorem rf_lks (s : rf_S) : rf_Lin (fun _ ks => ks s) := fun _ _ _ h => Or.inr ⟨s, h, fun _ _ => rfl⟩
theorem rf_lkr (q : rf_R) : rf_Lin (fun kr _ => kr q) := fun _ _ _ h => Or.inl ⟨q, h, fun _ _ => rfl⟩
theorem rf_lite (p : Prop) [Decidable p] {c1 c2 : (rf_R → Option rf_R) → (rf_S → Option rf_R) → Option rf_R} (h1 : rf_Lin c1) (h2 : rf_Lin c2) : rf_Lin (fun kr ks => if p then c1 kr ks else c2 kr ks) := by
  by_cases hp : p
  · simpa only [if_pos hp] using h1
  · simpa only [if_neg hp] using h2
theorem rf_lbif (b : Bool) {c1 c2 : (rf_R → Option rf_R) → (rf_S → Option rf_R) → Option rf_R} (h1 : rf_Lin c1) (h2 : rf_Lin c2) : rf_Lin (fun kr ks => bif b then c1 kr ks else c2 kr ks) := by
  cases b
  · exact h2
  · exact h1
theorem rf_lbind {α : Type} (o : Option α) {f : α → (rf_R → Option rf_R) → (rf_S → Option rf_R) → Option rf_R} (h : ∀ x, rf_Lin (f x)) : rf_Lin (fun kr ks => o.bind fun x => f x kr ks) := by
  cases o
  · exact rf_l0
  · exact h _
theorem rf_lnn (o : Option Nat) {f : Nat → (rf_R → Option rf_R) → (rf_S → Option rf_R) → Option rf_R} (h : ∀ x, rf_Lin (f x)) : rf_Lin (fun kr ks => rf_nn o fun x => f x kr ks) := by
  cases o
  · exact rf_l0
  · exact h _
theorem rf_llI (L : List (Option rf_V)) (i : Nat) {f : Int → (rf_R → Option rf_R) → (rf_S → Option rf_R) → Option rf_R} (h : ∀ x, rf_Lin (f x)) : rf_Lin (fun kr ks => rf_lI L i fun x => f x kr ks) := by
  unfold rf_lI
  rcases rf_lget L i with _ | x | x | x
  · exact rf_l0
  · exact h _
  · exact rf_l0
  · exact rf_l0
theorem rf_llL (L : List (Option rf_V)) (i : Nat) {f : Int → (rf_R → Option rf_R) → (rf_S → Option rf_R) → Option rf_R} (h : ∀ x, rf_Lin (f x)) : rf_Lin (fun kr ks => rf_lL L i fun x => f x kr ks) := by
  unfold rf_lL
  rcases rf_lget L i with _ | x | x | x
  · exact rf_l0
  · exact rf_l0
  · exact h _
  · exact rf_l0
theorem rf_llR (L : List (Option rf_V)) (i : Nat) {f : Option Nat → (rf_R → Option rf_R) → (rf_S → Option rf_R) → Option rf_R} (h : ∀ x, rf_Lin (f x)) : rf_Lin (fun kr ks => rf_lR L i fun x => f x kr ks) := by
  unfold rf_lR
  rcases rf_lget L i with _ | x | x | x
  · exact rf_l0
  · exact rf_l0
  · exact rf_l0
  · exact h _
theorem rf_l1I (st : List rf_V) {f : Int → List rf_V → (rf_R → Option rf_R) → (rf_S → Option rf_R) → Option rf_R} (h : ∀ x st, rf_Lin (f x st)) : rf_Lin (fun kr ks => rf_1I st fun x st => f x st kr ks) := by
  rcases st with _ | ⟨x | x | x, st⟩
  · exact rf_l0
  · exact h _ _
  · exact rf_l0
  · exact rf_l0
theorem rf_l1L (st : List rf_V) {f : Int → List rf_V → (rf_R → Option rf_R) → (rf_S → Option rf_R) → Option rf_R} (h : ∀ x st, rf_Lin (f x st)) : rf_Lin (fun kr ks => rf_1L st fun x st => f x st kr ks) := by
  rcases st with _ | ⟨x | x | x, st⟩
  · exact rf_l0
  · exact rf_l0
  · exact h _ _
  · exact rf_l0
theorem rf_l1R (st : List rf_V) {f : Option Nat → List rf_V → (rf_R → Option rf_R) → (rf_S → Option rf_R) → Option rf_R} (h : ∀ x st, rf_Lin (f x st)) : rf_Lin (fun kr ks => rf_1R st fun x st => f x st kr ks) := by
  rcases st with _ | ⟨x | x | x, st⟩
  · exact rf_l0
  · exact rf_l0
  · exact rf_l0
  · exact h _ _
theorem rf_l2I (st : List rf_V) {f : Int → Int → List rf_V → (rf_R → Option rf_R) → (rf_S → Option rf_R) → Option rf_R} (h : ∀ x y st, rf_Lin (f x y st)) : rf_Lin (fun kr ks => rf_2I st fun x y st => f x y st kr ks) := by
  rcases st with _ | ⟨x | x | x, _ | ⟨y | y | y, st⟩⟩ <;> first | exact rf_l0 | exact h _ _ _
theorem rf_l2L (st : List rf_V) {f : Int → Int → List rf_V → (rf_R → Option rf_R) → (rf_S → Option rf_R) → Option rf_R} (h : ∀ x y st, rf_Lin (f x y st)) : rf_Lin (fun kr ks => rf_2L st fun x y st => f x y st kr ks) := by
  rcases st with _ | ⟨x | x | x, _ | ⟨y | y | y, st⟩⟩ <;> first | exact rf_l0 | exact h _ _ _
theorem rf_lret (c : Nat) (r : rf_R) {f : List rf_V → rf_H → (rf_R → Option rf_R) → (rf_S → Option rf_R) → Option rf_R} (h : ∀ v x, rf_Lin (f v x)) : rf_Lin (fun kr ks => rf_ret c r fun v x => f v x kr ks) := by
  obtain ⟨v, x⟩ := r
  rcases c with _ | _ | _ | c <;> rcases v with _ | v | v | v <;> first | exact rf_l0 | exact h _ _
theorem rf_linv (cal : rf_C) (a b c z : Nat) (st : List rf_V) (h : rf_H) {f : List rf_V → rf_H → (rf_R → Option rf_R) → (rf_S → Option rf_R) → Option rf_R} (hf : ∀ v x, rf_Lin (f v x)) : rf_Lin (fun kr ks => rf_inv cal a b c z st h fun v x => f v x kr ks) := by
  unfold rf_inv
  rcases rf_pop b [] st with _ | ⟨as, _ | ⟨v | v | v, st'⟩⟩
  · exact rf_l0
  · exact rf_l0
  · exact rf_l0
  · exact rf_l0
  · exact rf_lnn _ fun k => rf_lbif _ (rf_lbif _ (rf_lbind _ fun q => rf_lret _ _ fun v x => hf _ _) rf_l0) rf_l0
theorem rf_ltsw (x lo : Int) (ts : List Nat) (d : Nat) {f : Nat → (rf_R → Option rf_R) → (rf_S → Option rf_R) → Option rf_R} (h : ∀ t, rf_Lin (f t)) : rf_Lin (fun kr ks => rf_tsw x lo ts d fun t => f t kr ks) := by
  induction ts generalizing lo with
  | nil => exact h d
  | cons t ts ih => exact rf_lite _ (h t) (ih (lo + 1))
set_option maxHeartbeats 4000000 in
theorem rf_lins (cal : rf_C) (ms : List (Nat × List Bool)) (nx : Nat) (i : ClassFile.Instr) (a b c : Nat) (z : Int) (ts : List Nat) (L : List (Option rf_V)) (st : List rf_V) (h : rf_H) : rf_Lin (rf_ins cal ms nx i a b c z ts L st h) := by
  cases i
  case ifCond o _ => cases o <;> exact rf_l1I _ fun x st => rf_lite _ (rf_lks _) (rf_lks _)
  case if_icmp o _ => cases o <;> exact rf_l2I _ fun x y st => rf_lite _ (rf_lks _) (rf_lks _)
  case dup => rcases st with _ | ⟨x | x | x, st⟩ <;> first | exact rf_l0 | exact rf_lks _
  case pop => rcases st with _ | ⟨x | x | x, st⟩ <;> first | exact rf_l0 | exact rf_lks _
  case dup2 => rcases st with _ | ⟨x | x | x, _ | ⟨y | y | y, st⟩⟩ <;> first | exact rf_l0 | exact rf_lks _
  case ifnull => exact rf_l1R _ fun x st => by cases x <;> exact rf_lks _
  case ifnonnull => exact rf_l1R _ fun x st => by cases x <;> exact rf_lks _
  case tableswitch => exact rf_l1I _ fun x st => rf_ltsw _ _ _ _ fun t => rf_lks _
  case getfield => exact rf_l1R _ fun r st => rf_lnn _ fun k => by rcases c with _ | _ | c <;> exact rf_lbind _ fun x => rf_lks _
  case putfield => rcases c with _ | _ | _ | _ | c <;> rcases st with _ | ⟨x | x | x, _ | ⟨y | y | y, st⟩⟩ <;> first | exact rf_l0 | exact rf_lnn _ fun k => rf_lbind _ fun x => rf_lks _ | exact rf_lite _ (rf_lnn _ fun k => rf_lbind _ fun x => rf_lks _) rf_l0
  case arraylength => exact rf_l1R _ fun r st => rf_lnn _ fun k => rf_lbind _ fun x => rf_lks _
  case iaload => rcases st with _ | ⟨x | x | x, _ | ⟨y | y | y, st⟩⟩ <;> first | exact rf_l0 | exact rf_lnn _ fun k => rf_lbind _ fun x => rf_lks _
  case baload => rcases st with _ | ⟨x | x | x, _ | ⟨y | y | y, st⟩⟩ <;> first | exact rf_l0 | exact rf_lnn _ fun k => rf_lbind _ fun x => rf_lks _
  case aaload => rcases st with _ | ⟨x | x | x, _ | ⟨y | y | y, st⟩⟩ <;> first | exact rf_l0 | exact rf_lnn _ fun k => rf_lbind _ fun x => rf_lks _
  case iastore => rcases st with _ | ⟨x | x | x, _ | ⟨y | y | y, _ | ⟨w | w | w, st⟩⟩⟩ <;> first | exact rf_l0 | exact rf_lnn _ fun k => rf_lbind _ fun x => rf_lks _
  case bastore => rcases st with _ | ⟨x | x | x, _ | ⟨y | y | y, _ | ⟨w | w | w, st⟩⟩⟩ <;> first | exact rf_l0 | exact rf_lite _ (rf_lnn _ fun k => rf_lbind _ fun x => rf_lks _) rf_l0
  case new => exact rf_lite _ (rf_lks _) rf_l0
  case aastore => rcases st with _ | ⟨x | x | (_ | x), _ | ⟨y | y | y, _ | ⟨w | w | w, st⟩⟩⟩ <;> first | exact rf_l0 | exact rf_lnn _ fun k => rf_lbind _ fun x => rf_lks _
  case newarray => exact rf_l1I _ fun x st => rf_lite _ (rf_lks _) rf_l0
  case anewarray => exact rf_l1I _ fun x st => rf_lite _ (rf_lks _) rf_l0
  case idiv => exact rf_l2I _ fun x y st => rf_lite _ rf_l0 (rf_lks _)
  case irem => exact rf_l2I _ fun x y st => rf_lite _ rf_l0 (rf_lks _)
  case ldiv => exact rf_l2L _ fun x y st => rf_lite _ rf_l0 (rf_lks _)
  case lrem => exact rf_l2L _ fun x y st => rf_lite _ rf_l0 (rf_lks _)
  case invokevirtual => exact rf_linv cal a b c z.toNat st h (f := fun v x _ ks => ks (nx, rf_msk (rf_look ms nx) L, v, x)) fun v x => rf_lks _
  case invokespecial =>
    show rf_Lin (fun kr ks => rf_ins cal ms nx (.invokespecial _) a b c z ts L st h kr ks)
    by_cases hc : c = 9
    · subst hc
      exact rf_l1R _ fun r st => rf_lnn _ fun k => rf_lbif _ (rf_lks _) rf_l0
    · have e : ∀ kr ks, rf_ins cal ms nx (.invokespecial ‹_›) a b c z ts L st h kr ks = rf_inv cal a b c z.toNat st h fun st h => ks (nx, rf_msk (rf_look ms nx) L, st, h) := by
        intro kr ks
        simp only [rf_ins]
        try (split <;> first | exact absurd rfl hc | rfl | simp_all)
      simp only [e]
      exact rf_linv _ _ _ _ _ _ _ fun v x => rf_lks _
  case invokestatic =>
    show rf_Lin (fun kr ks => rf_ins cal ms nx (.invokestatic _) a b c z ts L st h kr ks)
    by_cases hc : c = 9
    · subst hc
      rcases st with _ | ⟨x1 | x1 | x1, _ | ⟨x2 | x2 | x2, _ | ⟨x3 | x3 | x3, _ | ⟨x4 | x4 | x4, _ | ⟨x5 | x5 | x5, st⟩⟩⟩⟩⟩ <;> first | exact rf_l0 | exact rf_lnn _ fun k => rf_lnn _ fun k => rf_lbif _ (rf_lbind _ fun x => rf_lks _) rf_l0
    · have e : ∀ kr ks, rf_ins cal ms nx (.invokestatic ‹_›) a b c z ts L st h kr ks = match rf_pop b [] st with
          | some (as, st) => bif Nat.ble (rf_cat st) 8 then (cal a as h).bind fun q => rf_ret c q fun v h => ks (nx, rf_msk (rf_look ms nx) L, v ++ st, h) else none
          | none => none := by
        intro kr ks
        simp only [rf_ins]
        try (split <;> first | exact absurd rfl hc | rfl | simp_all)
      simp only [e]
      rcases rf_pop b [] st with _ | ⟨as, st'⟩
      · exact rf_l0
      · exact rf_lbif _ (rf_lbind _ fun q => rf_lret _ _ fun v x => rf_lks _) rf_l0
  case ireturn => rcases st with _ | ⟨x | x | x, _ | ⟨y, st⟩⟩ <;> first | exact rf_l0 | (rcases c with _ | c; exact rf_lkr _; exact rf_lite _ (rf_lkr _) rf_l0)
  case lreturn => rcases st with _ | ⟨x | x | x, _ | ⟨y, st⟩⟩ <;> first | exact rf_l0 | exact rf_lkr _
  case areturn => rcases st with _ | ⟨x | x | x, _ | ⟨y, st⟩⟩ <;> first | exact rf_l0 | exact rf_lkr _
  case return_ => rcases st with _ | ⟨y, st⟩ <;> first | exact rf_l0 | exact rf_lkr _
  all_goals first
    | exact rf_l0
    | exact rf_lks _
    | exact rf_llI _ _ fun x => rf_lks _
    | exact rf_llL _ _ fun x => rf_lks _
    | exact rf_llR _ _ fun x => rf_lks _
    | exact rf_l1I _ fun x st => rf_lks _
    | exact rf_l1L _ fun x st => rf_lks _
    | exact rf_l1R _ fun x st => rf_lks _
    | exact rf_l2I _ fun x y st => rf_lks _
    | exact rf_l2L _ fun x y st => rf_lks _
theorem rf_lin (cal : rf_C) (M : rf_M) (s : rf_S) : rf_Lin (rf_step cal M s) := by
  unfold rf_step
  rcases rf_find M.2.2.2.2.1 s.1 with _ | ⟨i, len, ⟨a, b, c, w⟩, z, ts⟩
  · exact rf_l0
  · exact rf_lins _ _ _ _ _ _ _ _ _ _ _ _
theorem rf_exec_up {cal : rf_C} {M : rf_M} : ∀ (n : Nat) (s : rf_S) (r : rf_R), rf_exec cal M n s = some r → rf_exec cal M (n + 1) s = some r := by
  intro n
  induction n with
  | zero => intro s r h; cases h
  | succ n ih =>
    intro s r h
    rcases rf_lin cal M s some (rf_exec cal M n) r h with ⟨q, h1, h2⟩ | ⟨s', h1, h2⟩
    · exact (h2 _ _).trans h1
    · exact (h2 _ _).trans (ih s' r h1)
theorem rf_exec_le {cal : rf_C} {M : rf_M} {n m : Nat} {s : rf_S} {r : rf_R} (hm : n ≤ m) (h : rf_exec cal M n s = some r) : rf_exec cal M m s = some r := by
  induction hm with
  | refl => exact h
  | step _ ih => exact rf_exec_up _ _ _ ih
theorem rf_den_some {cal : rf_C} {M : rf_M} {n : Nat} {s : rf_S} {r : rf_R} (h : rf_exec cal M n s = some r) : rf_den cal M s = some r := by
  have q : ∃ n r, rf_exec cal M n s = some r := ⟨n, r, h⟩
  unfold rf_den
  rw [dif_pos q]
  have h1 := q.choose_spec.choose_spec
  have h2 := rf_exec_le (Nat.le_max_left n q.choose) h
  have h3 := rf_exec_le (Nat.le_max_right n q.choose) h1
  exact h3.symm.trans h2
theorem rf_den_ex {cal : rf_C} {M : rf_M} {s : rf_S} {r : rf_R} (h : rf_den cal M s = some r) : ∃ n, rf_exec cal M n s = some r := by
  unfold rf_den at h
  split at h
  · rename_i q
    exact ⟨q.choose, by rw [← h]; exact q.choose_spec.choose_spec⟩
  · cases h
theorem rf_den_eq (cal : rf_C) (M : rf_M) (s : rf_S) : rf_den cal M s = rf_step cal M s some (rf_den cal M) := by
  apply Option.ext
  intro r
  constructor
  · intro h
    obtain ⟨n, hn⟩ := rf_den_ex h
    rcases n with _ | n
    · cases hn
    · rcases rf_lin cal M s some (rf_exec cal M n) r hn with ⟨q, h1, h2⟩ | ⟨s', h1, h2⟩
      · exact (h2 _ _).trans h1
      · exact (h2 _ _).trans (rf_den_some h1)
  · intro h
    rcases rf_lin cal M s some (rf_den cal M) r h with ⟨q, h1, h2⟩ | ⟨s', h1, h2⟩
    · exact rf_den_some (n := 1) ((h2 _ _).trans h1)
    · obtain ⟨n, hn⟩ := rf_den_ex h1
      exact rf_den_some (n := n + 1) ((h2 _ _).trans hn)
def rf_mem (l : List Nat) (k : Nat) : Bool := match l with
  | [] => false
  | x :: t => bif Nat.beq x k then true else rf_mem t k
noncomputable def rf_run (cal : rf_C) (M : rf_M) (l : List Nat) (n : Nat) (s : rf_S) : Option rf_R := match n with
  | 0 => rf_den cal M s
  | n + 1 => rf_step cal M s some fun s' => bif rf_mem l s'.1 then rf_den cal M s' else rf_run cal M l n s'
theorem rf_den_run (cal : rf_C) (M : rf_M) (l : List Nat) (n : Nat) : ∀ s : rf_S, rf_den cal M s = rf_run cal M l n s := by
  induction n with
  | zero => intro s; rfl
  | succ n ih =>
    intro s
    refine (rf_den_eq cal M s).trans ?_
    show rf_step cal M s some (rf_den cal M) = rf_step cal M s some _
    congr 1
    funext s'
    cases rf_mem l s'.1
    · exact ih s'
    · rfl
noncomputable def rf_call (d : Nat) : rf_C := match d with
  | 0 => fun _ _ _ => none
  | d + 1 => fun u as h => bif Nat.ble (rf_args as).length (rf_mt u).2.2.1 then rf_den (rf_call d) (rf_mt u) (0, rf_msk (rf_look (rf_mt u).2.2.2.2.2 0) (rf_fill (rf_mt u).2.2.1 (rf_args as)), [], h) else none
