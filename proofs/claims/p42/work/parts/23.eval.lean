/-! Runs that can be reckoned out: with fuel, and without a look at the rows that are there from the start. -/
def rf_sX (X : rf_X) (h : rf_H) : rf_H := (h.1, h.2.1, h.2.2.1, X)
def rf_rX (X : rf_X) (r : rf_R) : rf_R := (r.1, rf_sX X r.2)
def rf_tX (X : rf_X) (s : rf_S) : rf_S := (s.1, s.2.1, s.2.2.1, rf_sX X s.2.2.2)
abbrev rf_K : Type := (rf_R → Option rf_R) → (rf_S → Option rf_R) → Option rf_R
def rf_Eqv (X : rf_X) (c c' : rf_K) : Prop := ∀ kr ks kr' ks', (∀ q r, kr q = some r → kr' (rf_rX X q) = some (rf_rX X r)) → (∀ s r, ks s = some r → ks' (rf_tX X s) = some (rf_rX X r)) → ∀ r, c kr ks = some r → c' kr' ks' = some (rf_rX X r)
section RFEV
variable {X : rf_X}
theorem rf_q0 {c' : rf_K} : rf_Eqv X (fun _ _ => none) c' := fun _ _ _ _ _ _ _ h => by cases h
theorem rf_qks (s : rf_S) : rf_Eqv X (fun _ ks => ks s) (fun _ ks => ks (rf_tX X s)) := fun _ _ _ _ _ h2 r h => h2 s r h
theorem rf_qkr (q : rf_R) : rf_Eqv X (fun kr _ => kr q) (fun kr _ => kr (rf_rX X q)) := fun _ _ _ _ h1 _ r h => h1 q r h
theorem rf_qite (p : Prop) [Decidable p] {c1 c2 c1' c2' : rf_K} (h1 : rf_Eqv X c1 c1') (h2 : rf_Eqv X c2 c2') : rf_Eqv X (fun kr ks => if p then c1 kr ks else c2 kr ks) (fun kr ks => if p then c1' kr ks else c2' kr ks) := by
  by_cases hp : p
  · simpa only [if_pos hp] using h1
  · simpa only [if_neg hp] using h2
theorem rf_qbif (b : Bool) {c1 c2 c1' c2' : rf_K} (h1 : rf_Eqv X c1 c1') (h2 : rf_Eqv X c2 c2') : rf_Eqv X (fun kr ks => bif b then c1 kr ks else c2 kr ks) (fun kr ks => bif b then c1' kr ks else c2' kr ks) := by
  cases b
  · exact h2
  · exact h1
theorem rf_qbind {α : Type} (o : Option α) {f f' : α → rf_K} (h : ∀ x, rf_Eqv X (f x) (f' x)) : rf_Eqv X (fun kr ks => o.bind fun x => f x kr ks) (fun kr ks => o.bind fun x => f' x kr ks) := by
  cases o
  · exact rf_q0
  · exact h _
theorem rf_qmap (o : Option rf_H) {f f' : rf_H → rf_K} {o' : Option rf_H} (ho : o' = o.map (rf_sX X)) (h : ∀ x, rf_Eqv X (f x) (f' (rf_sX X x))) : rf_Eqv X (fun kr ks => o.bind fun x => f x kr ks) (fun kr ks => o'.bind fun x => f' x kr ks) := by
  subst ho
  cases o
  · exact rf_q0
  · exact h _
theorem rf_qnn (o : Option Nat) {f f' : Nat → rf_K} (h : ∀ x, rf_Eqv X (f x) (f' x)) : rf_Eqv X (fun kr ks => rf_nn o fun x => f x kr ks) (fun kr ks => rf_nn o fun x => f' x kr ks) := by
  cases o
  · exact rf_q0
  · exact h _
theorem rf_qlI (L : List (Option rf_V)) (i : Nat) {f f' : Int → rf_K} (h : ∀ x, rf_Eqv X (f x) (f' x)) : rf_Eqv X (fun kr ks => rf_lI L i fun x => f x kr ks) (fun kr ks => rf_lI L i fun x => f' x kr ks) := by
  unfold rf_lI
  rcases rf_lget L i with _ | x | x | x
  · exact rf_q0
  · exact h _
  · exact rf_q0
  · exact rf_q0
theorem rf_qlL (L : List (Option rf_V)) (i : Nat) {f f' : Int → rf_K} (h : ∀ x, rf_Eqv X (f x) (f' x)) : rf_Eqv X (fun kr ks => rf_lL L i fun x => f x kr ks) (fun kr ks => rf_lL L i fun x => f' x kr ks) := by
  unfold rf_lL
  rcases rf_lget L i with _ | x | x | x
  · exact rf_q0
  · exact rf_q0
  · exact h _
  · exact rf_q0
theorem rf_qlR (L : List (Option rf_V)) (i : Nat) {f f' : Option Nat → rf_K} (h : ∀ x, rf_Eqv X (f x) (f' x)) : rf_Eqv X (fun kr ks => rf_lR L i fun x => f x kr ks) (fun kr ks => rf_lR L i fun x => f' x kr ks) := by
  unfold rf_lR
  rcases rf_lget L i with _ | x | x | x
  · exact rf_q0
  · exact rf_q0
  · exact rf_q0
  · exact h _
theorem rf_q1I (st : List rf_V) {f f' : Int → List rf_V → rf_K} (h : ∀ x st, rf_Eqv X (f x st) (f' x st)) : rf_Eqv X (fun kr ks => rf_1I st fun x st => f x st kr ks) (fun kr ks => rf_1I st fun x st => f' x st kr ks) := by
  rcases st with _ | ⟨x | x | x, st⟩
  · exact rf_q0
  · exact h _ _
  · exact rf_q0
  · exact rf_q0
theorem rf_q1L (st : List rf_V) {f f' : Int → List rf_V → rf_K} (h : ∀ x st, rf_Eqv X (f x st) (f' x st)) : rf_Eqv X (fun kr ks => rf_1L st fun x st => f x st kr ks) (fun kr ks => rf_1L st fun x st => f' x st kr ks) := by
  rcases st with _ | ⟨x | x | x, st⟩
  · exact rf_q0
  · exact rf_q0
  · exact h _ _
  · exact rf_q0
theorem rf_q1R (st : List rf_V) {f f' : Option Nat → List rf_V → rf_K} (h : ∀ x st, rf_Eqv X (f x st) (f' x st)) : rf_Eqv X (fun kr ks => rf_1R st fun x st => f x st kr ks) (fun kr ks => rf_1R st fun x st => f' x st kr ks) := by
  rcases st with _ | ⟨x | x | x, st⟩
  · exact rf_q0
  · exact rf_q0
  · exact rf_q0
  · exact h _ _
theorem rf_q2I (st : List rf_V) {f f' : Int → Int → List rf_V → rf_K} (h : ∀ x y st, rf_Eqv X (f x y st) (f' x y st)) : rf_Eqv X (fun kr ks => rf_2I st fun x y st => f x y st kr ks) (fun kr ks => rf_2I st fun x y st => f' x y st kr ks) := by
  rcases st with _ | ⟨x | x | x, _ | ⟨y | y | y, st⟩⟩ <;> first | exact rf_q0 | exact h _ _ _
theorem rf_q2L (st : List rf_V) {f f' : Int → Int → List rf_V → rf_K} (h : ∀ x y st, rf_Eqv X (f x y st) (f' x y st)) : rf_Eqv X (fun kr ks => rf_2L st fun x y st => f x y st kr ks) (fun kr ks => rf_2L st fun x y st => f' x y st kr ks) := by
  rcases st with _ | ⟨x | x | x, _ | ⟨y | y | y, st⟩⟩ <;> first | exact rf_q0 | exact h _ _ _
theorem rf_qret (c : Nat) (r : rf_R) {f f' : List rf_V → rf_H → rf_K} (h : ∀ v x, rf_Eqv X (f v x) (f' v (rf_sX X x))) : rf_Eqv X (fun kr ks => rf_ret c r fun v x => f v x kr ks) (fun kr ks => rf_ret c (rf_rX X r) fun v x => f' v x kr ks) := by
  obtain ⟨v, x⟩ := r
  rcases c with _ | _ | _ | c <;> rcases v with _ | v | v | v <;> first | exact rf_q0 | exact h _ _
theorem rf_qcal {cal cal' : rf_C} (hcal : ∀ u as h q, cal u as h = some q → cal' u as (rf_sX X h) = some (rf_rX X q)) (u : Nat) (as : List rf_V) (h : rf_H) {f f' : rf_R → rf_K} (hf : ∀ q, rf_Eqv X (f q) (f' (rf_rX X q))) : rf_Eqv X (fun kr ks => (cal u as h).bind fun q => f q kr ks) (fun kr ks => (cal' u as (rf_sX X h)).bind fun q => f' q kr ks) := by
  intro kr ks kr' ks' h1 h2 r e
  obtain ⟨q, hq, e⟩ := rf_bd_inv e
  show (cal' u as (rf_sX X h)).bind (fun q => f' q kr' ks') = _
  rw [hcal _ _ _ _ hq]
  exact hf q kr ks kr' ks' h1 h2 r e
theorem rf_qinv {cal cal' : rf_C} (hcal : ∀ u as h q, cal u as h = some q → cal' u as (rf_sX X h) = some (rf_rX X q)) (a b c z : Nat) (st : List rf_V) (h : rf_H) {f f' : List rf_V → rf_H → rf_K} (hf : ∀ v x, rf_Eqv X (f v x) (f' v (rf_sX X x))) : rf_Eqv X (fun kr ks => rf_inv cal a b c z st h fun v x => f v x kr ks) (fun kr ks => rf_inv cal' a b c z st (rf_sX X h) fun v x => f' v x kr ks) := by
  unfold rf_inv
  rcases rf_pop b [] st with _ | ⟨as, _ | ⟨v | v | v, st'⟩⟩
  · exact rf_q0
  · exact rf_q0
  · exact rf_q0
  · exact rf_q0
  · exact rf_qnn _ fun k => rf_qbif _ (rf_qbif _ (rf_qcal hcal _ _ _ fun q => rf_qret _ _ fun v x => hf _ _) rf_q0) rf_q0
theorem rf_qtsw (x lo : Int) (ts : List Nat) (d : Nat) {f f' : Nat → rf_K} (h : ∀ t, rf_Eqv X (f t) (f' t)) : rf_Eqv X (fun kr ks => rf_tsw x lo ts d fun t => f t kr ks) (fun kr ks => rf_tsw x lo ts d fun t => f' t kr ks) := by
  induction ts generalizing lo with
  | nil => exact h d
  | cons t ts ih => exact rf_qite _ (h t) (ih (lo + 1))
theorem rf_xpI (h : rf_H) (c k i : Nat) (v : Int) : rf_pI (rf_sX X h) c k i v = (rf_pI h c k i v).map (rf_sX X) := by
  show rf_pI (h.1, h.2.1, h.2.2.1, X) c k i v = _
  unfold rf_pI
  cases rf_isO h.1 k c <;> rfl
theorem rf_xpR (h : rf_H) (c k i : Nat) (v : Option Nat) : rf_pR (rf_sX X h) c k i v = (rf_pR h c k i v).map (rf_sX X) := by
  show rf_pR (h.1, h.2.1, h.2.2.1, X) c k i v = _
  unfold rf_pR
  cases rf_isO h.1 k c <;> rfl
theorem rf_xsI (h : rf_H) (k : Nat) (i v : Int) : rf_sI (rf_sX X h) k i v = (rf_sI h k i v).map (rf_sX X) := by
  show rf_sI (h.1, h.2.1, h.2.2.1, X) k i v = _
  unfold rf_sI
  dsimp only
  rcases rf_len h.1 k 0 with _ | n
  · rfl
  · dsimp only
    split <;> rfl
theorem rf_xsZ (h : rf_H) (k : Nat) (i v : Int) : rf_sZ (rf_sX X h) k i v = (rf_sZ h k i v).map (rf_sX X) := by
  show rf_sZ (h.1, h.2.1, h.2.2.1, X) k i v = _
  unfold rf_sZ
  dsimp only
  rcases rf_len h.1 k 1 with _ | n
  · rfl
  · dsimp only
    split <;> rfl
theorem rf_xsR (h : rf_H) (k : Nat) (i : Int) (v : Nat) : rf_sR (rf_sX X h) k i v = (rf_sR h k i v).map (rf_sX X) := by
  show rf_sR (h.1, h.2.1, h.2.2.1, X) k i v = _
  unfold rf_sR
  dsimp only
  rcases rf_len h.1 k 2 with _ | n
  · rfl
  · dsimp only
    cases rf_isO h.1 v 2
    · rfl
    · dsimp only [cond_true]
      split <;> rfl
theorem rf_xcp (h : rf_H) (a : Nat) (sp : Int) (b : Nat) (dp n : Int) : rf_cp (rf_sX X h) a sp b dp n = (rf_cp h a sp b dp n).map (rf_sX X) := by
  show rf_cp (h.1, h.2.1, h.2.2.1, X) a sp b dp n = _
  unfold rf_cp
  dsimp only
  rcases rf_len h.1 a 0 with _ | la
  · rfl
  · rcases rf_len h.1 b 0 with _ | lb
    · rfl
    · dsimp only
      split <;> rfl
theorem rf_xaL {h : rf_H} {k : Nat} (hk : k < 1000000) : rf_aL (rf_sX X h) k = rf_aL h k := by
  have e : Nat.ble 1000000 k = false := by
    cases hb : Nat.ble 1000000 k with
    | false => rfl
    | true => exact absurd (Nat.le_of_ble_eq_true hb) (by omega)
  show rf_aL (h.1, h.2.1, h.2.2.1, X) k = _
  unfold rf_aL
  rw [e]
  rfl
theorem rf_xaI {h : rf_H} {k : Nat} {i : Int} (hk : k < 1000000) : rf_aI (rf_sX X h) k i = rf_aI h k i := by
  have e : Nat.ble 1000000 k = false := by
    cases hb : Nat.ble 1000000 k with
    | false => rfl
    | true => exact absurd (Nat.le_of_ble_eq_true hb) (by omega)
  show rf_aI (h.1, h.2.1, h.2.2.1, X) k i = _
  unfold rf_aI
  rw [e]
  rfl
/-- an array's own place, none of those that are there from the start -/
def rf_gt (i : ClassFile.Instr) (st : List rf_V) : Bool := match i with
  | .arraylength => match st with
    | .inr (.inr (some k)) :: _ => Nat.blt k 1000000
    | _ => false
  | .iaload => match st with
    | _ :: .inr (.inr (some k)) :: _ => Nat.blt k 1000000
    | _ => false
  | _ => true
set_option maxHeartbeats 4000000 in
theorem rf_qins {cal cal' : rf_C} (hcal : ∀ u as h q, cal u as h = some q → cal' u as (rf_sX X h) = some (rf_rX X q)) (ms : List (Nat × List Bool)) (nx : Nat) (i : ClassFile.Instr) (a b c : Nat) (z : Int) (ts : List Nat) (L : List (Option rf_V)) (st : List rf_V) (h : rf_H) (g : rf_gt i st = true) : rf_Eqv X (rf_ins cal ms nx i a b c z ts L st h) (rf_ins cal' ms nx i a b c z ts L st (rf_sX X h)) := by
  cases i
  case ifCond o _ => cases o <;> exact rf_q1I _ fun x st => rf_qite _ (rf_qks _) (rf_qks _)
  case if_icmp o _ => cases o <;> exact rf_q2I _ fun x y st => rf_qite _ (rf_qks _) (rf_qks _)
  case dup => rcases st with _ | ⟨x | x | x, st⟩ <;> first | exact rf_q0 | exact rf_qks _
  case pop => rcases st with _ | ⟨x | x | x, st⟩ <;> first | exact rf_q0 | exact rf_qks _
  case dup2 => rcases st with _ | ⟨x | x | x, _ | ⟨y | y | y, st⟩⟩ <;> first | exact rf_q0 | exact rf_qks _
  case ifnull => exact rf_q1R _ fun x st => by cases x <;> exact rf_qks _
  case ifnonnull => exact rf_q1R _ fun x st => by cases x <;> exact rf_qks _
  case tableswitch => exact rf_q1I _ fun x st => rf_qtsw _ _ _ _ fun t => rf_qks _
  case getfield => exact rf_q1R _ fun r st => rf_qnn _ fun k => by rcases c with _ | _ | c <;> exact rf_qbind _ fun x => rf_qks _
  case putfield => rcases c with _ | _ | _ | _ | c <;> rcases st with _ | ⟨x | x | x, _ | ⟨y | y | y, st⟩⟩ <;> first | exact rf_q0 | exact rf_qnn _ fun k => rf_qmap _ (rf_xpI _ _ _ _ _) fun x => rf_qks _ | exact rf_qnn _ fun k => rf_qmap _ (rf_xpR _ _ _ _ _) fun x => rf_qks _ | exact rf_qite _ (rf_qnn _ fun k => rf_qmap _ (rf_xpI _ _ _ _ _) fun x => rf_qks _) rf_q0
  case arraylength =>
    rcases st with _ | ⟨x | x | (_ | x), st⟩ <;> first | exact rf_q0 | skip
    have hk : x < 1000000 := by
      have g' := g
      simp [rf_gt, Nat.blt] at g'
      omega
    intro kr ks kr' ks' h1 h2 r e
    have e : (rf_aL h x).bind (fun x => ks (nx, rf_msk (rf_look ms nx) L, .inl x :: st, h)) = some r := e
    show (rf_aL (rf_sX X h) x).bind (fun x => ks' (nx, rf_msk (rf_look ms nx) L, .inl x :: st, rf_sX X h)) = some _
    rw [rf_xaL hk]
    obtain ⟨y, hy, e⟩ := rf_bd_inv e
    rw [hy]
    exact h2 _ _ e
  case iaload =>
    rcases st with _ | ⟨j | j | j, _ | ⟨x | x | (_ | x), st⟩⟩ <;> first | exact rf_q0 | skip
    have hk : x < 1000000 := by
      have g' := g
      simp [rf_gt, Nat.blt] at g'
      omega
    intro kr ks kr' ks' h1 h2 r e
    have e : (rf_aI h x j).bind (fun x => ks (nx, rf_msk (rf_look ms nx) L, .inl x :: st, h)) = some r := e
    show (rf_aI (rf_sX X h) x j).bind (fun x => ks' (nx, rf_msk (rf_look ms nx) L, .inl x :: st, rf_sX X h)) = some _
    rw [rf_xaI hk]
    obtain ⟨y, hy, e⟩ := rf_bd_inv e
    rw [hy]
    exact h2 _ _ e
  case baload => rcases st with _ | ⟨x | x | x, _ | ⟨y | y | y, st⟩⟩ <;> first | exact rf_q0 | exact rf_qnn _ fun k => rf_qbind _ fun x => rf_qks _
  case aaload => rcases st with _ | ⟨x | x | x, _ | ⟨y | y | y, st⟩⟩ <;> first | exact rf_q0 | exact rf_qnn _ fun k => rf_qbind _ fun x => rf_qks _
  case iastore => rcases st with _ | ⟨x | x | x, _ | ⟨y | y | y, _ | ⟨w | w | w, st⟩⟩⟩ <;> first | exact rf_q0 | exact rf_qnn _ fun k => rf_qmap _ (rf_xsI _ _ _ _) fun x => rf_qks _
  case bastore => rcases st with _ | ⟨x | x | x, _ | ⟨y | y | y, _ | ⟨w | w | w, st⟩⟩⟩ <;> first | exact rf_q0 | exact rf_qite _ (rf_qnn _ fun k => rf_qmap _ (rf_xsZ _ _ _ _) fun x => rf_qks _) rf_q0
  case new => exact rf_qite _ (rf_qks _) rf_q0
  case aastore => rcases st with _ | ⟨x | x | (_ | x), _ | ⟨y | y | y, _ | ⟨w | w | w, st⟩⟩⟩ <;> first | exact rf_q0 | exact rf_qnn _ fun k => rf_qmap _ (rf_xsR _ _ _ _) fun x => rf_qks _
  case newarray => exact rf_q1I _ fun x st => rf_qite _ (rf_qks _) rf_q0
  case anewarray => exact rf_q1I _ fun x st => rf_qite _ (rf_qks _) rf_q0
  case idiv => exact rf_q2I _ fun x y st => rf_qite _ rf_q0 (rf_qks _)
  case irem => exact rf_q2I _ fun x y st => rf_qite _ rf_q0 (rf_qks _)
  case ldiv => exact rf_q2L _ fun x y st => rf_qite _ rf_q0 (rf_qks _)
  case lrem => exact rf_q2L _ fun x y st => rf_qite _ rf_q0 (rf_qks _)
  case invokevirtual => exact rf_qinv hcal a b c z.toNat st h (f := fun v x _ ks => ks (nx, rf_msk (rf_look ms nx) L, v, x)) (f' := fun v x _ ks => ks (nx, rf_msk (rf_look ms nx) L, v, x)) fun v x => rf_qks _
  case invokespecial =>
    by_cases hc : c = 9
    · subst hc
      exact rf_q1R _ fun r st => rf_qnn _ fun k => rf_qbif _ (rf_qks _) rf_q0
    · have e : ∀ (cal : rf_C) (h : rf_H) kr ks, rf_ins cal ms nx (.invokespecial ‹_›) a b c z ts L st h kr ks = rf_inv cal a b c z.toNat st h fun st h => ks (nx, rf_msk (rf_look ms nx) L, st, h) := by
        intro cal h kr ks
        simp only [rf_ins]
        try (split <;> first | exact absurd rfl hc | rfl | simp_all)
      intro kr ks kr' ks'
      rw [e, e]
      exact rf_qinv hcal a b c z.toNat st h (f := fun v x _ ks => ks (nx, rf_msk (rf_look ms nx) L, v, x)) (f' := fun v x _ ks => ks (nx, rf_msk (rf_look ms nx) L, v, x)) (fun v x => rf_qks _) kr ks kr' ks'
  case invokestatic =>
    by_cases hc : c = 9
    · subst hc
      rcases st with _ | ⟨x1 | x1 | x1, _ | ⟨x2 | x2 | x2, _ | ⟨x3 | x3 | x3, _ | ⟨x4 | x4 | x4, _ | ⟨x5 | x5 | x5, st⟩⟩⟩⟩⟩ <;> first | exact rf_q0 | exact rf_qnn _ fun k => rf_qnn _ fun k => rf_qbif _ (rf_qmap _ (rf_xcp _ _ _ _ _ _) fun x => rf_qks _) rf_q0
    · have e : ∀ (cal : rf_C) (h : rf_H) kr ks, rf_ins cal ms nx (.invokestatic ‹_›) a b c z ts L st h kr ks = match rf_pop b [] st with
          | some (as, st) => bif Nat.ble (rf_cat st) 8 then (cal a as h).bind fun q => rf_ret c q fun v h => ks (nx, rf_msk (rf_look ms nx) L, v ++ st, h) else none
          | none => none := by
        intro cal h kr ks
        simp only [rf_ins]
        try (split <;> first | exact absurd rfl hc | rfl | simp_all)
      intro kr ks kr' ks'
      rw [e, e]
      rcases rf_pop b [] st with _ | ⟨as, st'⟩
      · exact fun h1 h2 r er => by cases (show (none : Option rf_R) = some r from er)
      · exact fun h1 h2 r er => (show rf_Eqv X (fun kr ks => bif Nat.ble (rf_cat st') 8 then (cal a as h).bind fun q => rf_ret c q fun v h => ks (nx, rf_msk (rf_look ms nx) L, v ++ st', h) else none) (fun kr ks => bif Nat.ble (rf_cat st') 8 then (cal' a as (rf_sX X h)).bind fun q => rf_ret c q fun v h => ks (nx, rf_msk (rf_look ms nx) L, v ++ st', h) else none) from rf_qbif _ (rf_qcal hcal _ _ _ fun q => rf_qret _ _ fun v x => rf_qks _) rf_q0) kr ks kr' ks' h1 h2 r er
  case ireturn => rcases st with _ | ⟨x | x | x, _ | ⟨y, st⟩⟩ <;> first | exact rf_q0 | (rcases c with _ | c; exact rf_qkr _; exact rf_qite _ (rf_qkr _) rf_q0)
  case lreturn => rcases st with _ | ⟨x | x | x, _ | ⟨y, st⟩⟩ <;> first | exact rf_q0 | exact rf_qkr _
  case areturn => rcases st with _ | ⟨x | x | x, _ | ⟨y, st⟩⟩ <;> first | exact rf_q0 | exact rf_qkr _
  case return_ => rcases st with _ | ⟨y, st⟩ <;> first | exact rf_q0 | exact rf_qkr _
  all_goals first
    | exact rf_q0
    | exact rf_qks _
    | exact rf_qlI _ _ fun x => rf_qks _
    | exact rf_qlL _ _ fun x => rf_qks _
    | exact rf_qlR _ _ fun x => rf_qks _
    | exact rf_q1I _ fun x st => rf_qks _
    | exact rf_q1L _ fun x st => rf_qks _
    | exact rf_q1R _ fun x st => rf_qks _
    | exact rf_q2I _ fun x y st => rf_qks _
    | exact rf_q2L _ fun x y st => rf_qks _
end RFEV
/-- a step, where no row that is there from the start is looked at -/
def rf_stepF (cal : rf_C) (M : rf_M) (s : rf_S) (kr : rf_R → Option rf_R) (ks : rf_S → Option rf_R) : Option rf_R :=
  match rf_find M.2.2.2.2.1 s.1 with
  | some (i, len, (a, b, c, _), z, ts) => bif rf_gt i s.2.2.1 then rf_ins cal M.2.2.2.2.2 (s.1 + len) i a b c z ts s.2.1 s.2.2.1 s.2.2.2 kr ks else none
  | none => none
def rf_exF (cal : rf_C) (M : rf_M) (n : Nat) (s : rf_S) : Option rf_R := match n with
  | 0 => none
  | n + 1 => rf_stepF cal M s some (rf_exF cal M n)
def rf_cF (n d : Nat) : rf_C := match d with
  | 0 => fun _ _ _ => none
  | d + 1 => fun u as h => bif Nat.ble (rf_args as).length (rf_mt u).2.2.1 then rf_exF (rf_cF n d) (rf_mt u) n (0, rf_msk (rf_look (rf_mt u).2.2.2.2.2 0) (rf_fill (rf_mt u).2.2.1 (rf_args as)), [], h) else none
theorem rf_qstep {X : rf_X} {cal cal' : rf_C} (hcal : ∀ u as h q, cal u as h = some q → cal' u as (rf_sX X h) = some (rf_rX X q)) (M : rf_M) (s : rf_S) : rf_Eqv X (rf_stepF cal M s) (rf_step cal' M (rf_tX X s)) := by
  intro kr ks kr' ks' h1 h2 r e
  unfold rf_stepF at e
  unfold rf_step
  show (match rf_find M.2.2.2.2.1 s.1 with
  | some (i, len, (a, b, c, _), z, ts) => rf_ins cal' M.2.2.2.2.2 (s.1 + len) i a b c z ts s.2.1 s.2.2.1 (rf_sX X s.2.2.2) kr' ks'
  | none => none) = _
  rcases hf : rf_find M.2.2.2.2.1 s.1 with _ | ⟨i, len, ⟨a, b, c, w⟩, z, ts⟩
  · rw [hf] at e
    cases e
  · rw [hf] at e
    obtain ⟨g, e⟩ := rf_bif_inv e
    exact rf_qins hcal _ _ _ _ _ _ _ _ _ _ _ g kr ks kr' ks' h1 h2 r e
theorem rf_qex {X : rf_X} {cal cal' : rf_C} (hcal : ∀ u as h q, cal u as h = some q → cal' u as (rf_sX X h) = some (rf_rX X q)) (M : rf_M) : ∀ (n : Nat) (s : rf_S) (r : rf_R), rf_exF cal M n s = some r → rf_den cal' M (rf_tX X s) = some (rf_rX X r)
  | 0, s, r, e => by cases e
  | n + 1, s, r, e => by
    rw [rf_den_eq]
    exact rf_qstep hcal M s some (rf_exF cal M n) some (rf_den cal' M) (fun q r h => by cases h; rfl) (fun s r h => rf_qex hcal M n s r h) r e
theorem rf_qcF (X : rf_X) (n : Nat) : ∀ (d u : Nat) (as : List rf_V) (h : rf_H) (q : rf_R), rf_cF n d u as h = some q → rf_call d u as (rf_sX X h) = some (rf_rX X q)
  | 0, u, as, h, q, e => by cases e
  | d + 1, u, as, h, q, e => by
    have e : (bif Nat.ble (rf_args as).length (rf_mt u).2.2.1 then rf_exF (rf_cF n d) (rf_mt u) n (0, rf_msk (rf_look (rf_mt u).2.2.2.2.2 0) (rf_fill (rf_mt u).2.2.1 (rf_args as)), [], h) else none) = some q := e
    obtain ⟨g, e⟩ := rf_bif_inv e
    show (bif Nat.ble (rf_args as).length (rf_mt u).2.2.1 then rf_den (rf_call d) (rf_mt u) (0, rf_msk (rf_look (rf_mt u).2.2.2.2.2 0) (rf_fill (rf_mt u).2.2.1 (rf_args as)), [], rf_sX X h) else none) = some _
    rw [g]
    exact rf_qex (rf_qcF X n d) (rf_mt u) n _ q e
