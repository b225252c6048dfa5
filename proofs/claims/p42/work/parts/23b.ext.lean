theorem rf_bif_invI {α : Type} {P : Bool} {x : Option α} {r : α} (e : (bif P then x else none) = some r) : P = true ∧ x = some r := by
  cases P
  · cases e
  · exact ⟨rfl, e⟩
/-! More heap than a run looks at: what is there behind it stays as it is, and the run is the same. -/
def rf_mE (E : List rf_Sh) (n : Nat) (Pq : rf_P) (h : rf_H) : rf_H := (h.1 ++ E, h.2.1, (fun k i => if k < n then h.2.2.1 k i else Pq k i), h.2.2.2)
def rf_eR (E : List rf_Sh) (n : Nat) (Pq : rf_P) (r : rf_R) : rf_R := (r.1, rf_mE E n Pq r.2)
def rf_eS (E : List rf_Sh) (n : Nat) (Pq : rf_P) (s : rf_S) : rf_S := (s.1, s.2.1, s.2.2.1, rf_mE E n Pq s.2.2.2)
def rf_EqE (E : List rf_Sh) (n : Nat) (Pq : rf_P) (m : Nat) (c c' : rf_K) : Prop := n ≤ m → ∀ kr ks kr' ks', (∀ q r, kr q = some r → n ≤ q.2.1.length → q.2.1.length ≤ r.2.1.length ∧ (r.2.1.length = n → kr' (rf_eR E n Pq q) = some (rf_eR E n Pq r))) → (∀ s r, ks s = some r → n ≤ s.2.2.2.1.length → s.2.2.2.1.length ≤ r.2.1.length ∧ (r.2.1.length = n → ks' (rf_eS E n Pq s) = some (rf_eR E n Pq r))) → ∀ r, c kr ks = some r → m ≤ r.2.1.length ∧ (r.2.1.length = n → c' kr' ks' = some (rf_eR E n Pq r))
section RFEX
variable {E : List rf_Sh} {n : Nat} {Pq : rf_P} {m : Nat}
theorem rf_e0 {c' : rf_K} : rf_EqE E n Pq m (fun _ _ => none) c' := fun _ _ _ _ _ _ _ _ h => by cases h
theorem rf_eks (s : rf_S) (hm : s.2.2.2.1.length = m) : rf_EqE E n Pq m (fun _ ks => ks s) (fun _ ks => ks (rf_eS E n Pq s)) := fun hn _ _ _ _ _ h2 r h => by
  have g := h2 s r h (by omega)
  exact ⟨by omega, g.2⟩
theorem rf_ekr (q : rf_R) (hm : q.2.1.length = m) : rf_EqE E n Pq m (fun kr _ => kr q) (fun kr _ => kr (rf_eR E n Pq q)) := fun hn _ _ _ _ h1 _ r h => by
  have g := h1 q r h (by omega)
  exact ⟨by omega, g.2⟩
theorem rf_enw (s : rf_S) (hm : s.2.2.2.1.length = m + 1) (c' : rf_K) : rf_EqE E n Pq m (fun _ ks => ks s) c' := fun hn _ _ _ _ _ h2 r h => by
  have g := h2 s r h (by omega)
  exact ⟨by omega, fun e => by omega⟩
theorem rf_eup {c c' : rf_K} {m' : Nat} (h : rf_EqE E n Pq m' c c') (hm : m' = m) : rf_EqE E n Pq m c c' := hm ▸ h
theorem rf_eite (p : Prop) [Decidable p] {c1 c2 c1' c2' : rf_K} (h1 : rf_EqE E n Pq m c1 c1') (h2 : rf_EqE E n Pq m c2 c2') : rf_EqE E n Pq m (fun kr ks => if p then c1 kr ks else c2 kr ks) (fun kr ks => if p then c1' kr ks else c2' kr ks) := by
  by_cases hp : p
  · simpa only [if_pos hp] using h1
  · simpa only [if_neg hp] using h2
theorem rf_eitn (p p' : Prop) [Decidable p] [Decidable p'] {c1 c1' : rf_K} (h1 : rf_EqE E n Pq m c1 c1') (hp' : m = n → p → p') : rf_EqE E n Pq m (fun kr ks => if p then c1 kr ks else none) (fun kr ks => if p' then c1' kr ks else none) := fun hn kr ks kr' ks' a b r e => by
  obtain ⟨hp, e⟩ := rf_if_inv e
  obtain ⟨g1, g2⟩ := h1 hn kr ks kr' ks' a b r e
  refine ⟨g1, fun z => ?_⟩
  show (if p' then c1' kr' ks' else none) = _
  rw [if_pos (hp' (by omega) hp)]
  exact g2 z
theorem rf_ebif (b b' : Bool) {c1 c1' : rf_K} (hb : m = n → b = true → b' = true) (h1 : rf_EqE E n Pq m c1 c1') : rf_EqE E n Pq m (fun kr ks => bif b then c1 kr ks else none) (fun kr ks => bif b' then c1' kr ks else none) := fun hn kr ks kr' ks' p q r e => by
  obtain ⟨hp, e⟩ := rf_bif_inv e
  obtain ⟨g1, g2⟩ := h1 hn kr ks kr' ks' p q r e
  refine ⟨g1, fun z => ?_⟩
  show (bif b' then c1' kr' ks' else none) = _
  rw [hb (by omega) hp]
  exact g2 z
theorem rf_ebind {α : Type} (o o' : Option α) {f f' : α → rf_K} (ho : m = n → ∀ x, o = some x → o' = some x) (h : ∀ x, rf_EqE E n Pq m (f x) (f' x)) : rf_EqE E n Pq m (fun kr ks => o.bind fun x => f x kr ks) (fun kr ks => o'.bind fun x => f' x kr ks) := fun hn kr ks kr' ks' p q r e => by
  obtain ⟨x, hx, e⟩ := rf_bd_inv e
  obtain ⟨g1, g2⟩ := h x hn kr ks kr' ks' p q r e
  refine ⟨g1, fun z => ?_⟩
  show o'.bind (fun x => f' x kr' ks') = _
  rw [ho (by omega) x hx]
  exact g2 z
theorem rf_emap (o o' : Option rf_H) {f f' : rf_H → rf_K} (hl : ∀ x, o = some x → x.1.length = m) (ho : m = n → ∀ x, o = some x → o' = some (rf_mE E n Pq x)) (h : ∀ x, x.1.length = m → rf_EqE E n Pq m (f x) (f' (rf_mE E n Pq x))) : rf_EqE E n Pq m (fun kr ks => o.bind fun x => f x kr ks) (fun kr ks => o'.bind fun x => f' x kr ks) := fun hn kr ks kr' ks' p q r e => by
  obtain ⟨x, hx, e⟩ := rf_bd_inv e
  obtain ⟨g1, g2⟩ := h x (hl x hx) hn kr ks kr' ks' p q r e
  refine ⟨g1, fun z => ?_⟩
  show o'.bind (fun x => f' x kr' ks') = _
  rw [ho (by omega) x hx]
  exact g2 z
theorem rf_enn (o : Option Nat) {f f' : Nat → rf_K} (h : ∀ x, rf_EqE E n Pq m (f x) (f' x)) : rf_EqE E n Pq m (fun kr ks => rf_nn o fun x => f x kr ks) (fun kr ks => rf_nn o fun x => f' x kr ks) := by
  cases o
  · exact rf_e0
  · exact h _
theorem rf_elI (L : List (Option rf_V)) (i : Nat) {f f' : Int → rf_K} (h : ∀ x, rf_EqE E n Pq m (f x) (f' x)) : rf_EqE E n Pq m (fun kr ks => rf_lI L i fun x => f x kr ks) (fun kr ks => rf_lI L i fun x => f' x kr ks) := by
  unfold rf_lI
  rcases rf_lget L i with _ | x | x | x
  · exact rf_e0
  · exact h _
  · exact rf_e0
  · exact rf_e0
theorem rf_elL (L : List (Option rf_V)) (i : Nat) {f f' : Int → rf_K} (h : ∀ x, rf_EqE E n Pq m (f x) (f' x)) : rf_EqE E n Pq m (fun kr ks => rf_lL L i fun x => f x kr ks) (fun kr ks => rf_lL L i fun x => f' x kr ks) := by
  unfold rf_lL
  rcases rf_lget L i with _ | x | x | x
  · exact rf_e0
  · exact rf_e0
  · exact h _
  · exact rf_e0
theorem rf_elR (L : List (Option rf_V)) (i : Nat) {f f' : Option Nat → rf_K} (h : ∀ x, rf_EqE E n Pq m (f x) (f' x)) : rf_EqE E n Pq m (fun kr ks => rf_lR L i fun x => f x kr ks) (fun kr ks => rf_lR L i fun x => f' x kr ks) := by
  unfold rf_lR
  rcases rf_lget L i with _ | x | x | x
  · exact rf_e0
  · exact rf_e0
  · exact rf_e0
  · exact h _
theorem rf_e1I (st : List rf_V) {f f' : Int → List rf_V → rf_K} (h : ∀ x st, rf_EqE E n Pq m (f x st) (f' x st)) : rf_EqE E n Pq m (fun kr ks => rf_1I st fun x st => f x st kr ks) (fun kr ks => rf_1I st fun x st => f' x st kr ks) := by
  rcases st with _ | ⟨x | x | x, st⟩
  · exact rf_e0
  · exact h _ _
  · exact rf_e0
  · exact rf_e0
theorem rf_e1L (st : List rf_V) {f f' : Int → List rf_V → rf_K} (h : ∀ x st, rf_EqE E n Pq m (f x st) (f' x st)) : rf_EqE E n Pq m (fun kr ks => rf_1L st fun x st => f x st kr ks) (fun kr ks => rf_1L st fun x st => f' x st kr ks) := by
  rcases st with _ | ⟨x | x | x, st⟩
  · exact rf_e0
  · exact rf_e0
  · exact h _ _
  · exact rf_e0
theorem rf_e1R (st : List rf_V) {f f' : Option Nat → List rf_V → rf_K} (h : ∀ x st, rf_EqE E n Pq m (f x st) (f' x st)) : rf_EqE E n Pq m (fun kr ks => rf_1R st fun x st => f x st kr ks) (fun kr ks => rf_1R st fun x st => f' x st kr ks) := by
  rcases st with _ | ⟨x | x | x, st⟩
  · exact rf_e0
  · exact rf_e0
  · exact rf_e0
  · exact h _ _
theorem rf_e2I (st : List rf_V) {f f' : Int → Int → List rf_V → rf_K} (h : ∀ x y st, rf_EqE E n Pq m (f x y st) (f' x y st)) : rf_EqE E n Pq m (fun kr ks => rf_2I st fun x y st => f x y st kr ks) (fun kr ks => rf_2I st fun x y st => f' x y st kr ks) := by
  rcases st with _ | ⟨x | x | x, _ | ⟨y | y | y, st⟩⟩ <;> first | exact rf_e0 | exact h _ _ _
theorem rf_e2L (st : List rf_V) {f f' : Int → Int → List rf_V → rf_K} (h : ∀ x y st, rf_EqE E n Pq m (f x y st) (f' x y st)) : rf_EqE E n Pq m (fun kr ks => rf_2L st fun x y st => f x y st kr ks) (fun kr ks => rf_2L st fun x y st => f' x y st kr ks) := by
  rcases st with _ | ⟨x | x | x, _ | ⟨y | y | y, st⟩⟩ <;> first | exact rf_e0 | exact h _ _ _
theorem rf_eret (c : Nat) (r : rf_R) (hm : r.2.1.length = m) {f f' : List rf_V → rf_H → rf_K} (h : ∀ v x, x.1.length = m → rf_EqE E n Pq m (f v x) (f' v (rf_mE E n Pq x))) : rf_EqE E n Pq m (fun kr ks => rf_ret c r fun v x => f v x kr ks) (fun kr ks => rf_ret c (rf_eR E n Pq r) fun v x => f' v x kr ks) := by
  obtain ⟨v, x⟩ := r
  rcases c with _ | _ | _ | c <;> rcases v with _ | v | v | v <;> first | exact rf_e0 | exact h _ _ hm
theorem rf_ecal {cal cal' : rf_C} (hcal : ∀ u as h q, n ≤ h.1.length → cal u as h = some q → h.1.length ≤ q.2.1.length ∧ (q.2.1.length = n → cal' u as (rf_mE E n Pq h) = some (rf_eR E n Pq q))) (u : Nat) (as : List rf_V) (h : rf_H) (hh : h.1.length = m) {f f' : rf_R → rf_K} (hf : ∀ q, rf_EqE E n Pq q.2.1.length (f q) (f' (rf_eR E n Pq q))) : rf_EqE E n Pq m (fun kr ks => (cal u as h).bind fun q => f q kr ks) (fun kr ks => (cal' u as (rf_mE E n Pq h)).bind fun q => f' q kr ks) := by
  intro hn kr ks kr' ks' h1 h2 r e
  obtain ⟨q, hq, e⟩ := rf_bd_inv e
  obtain ⟨c1, c2⟩ := hcal u as h q (by omega) hq
  obtain ⟨g1, g2⟩ := hf q (by omega) kr ks kr' ks' h1 h2 r e
  refine ⟨by omega, fun z => ?_⟩
  show (cal' u as (rf_mE E n Pq h)).bind (fun q => f' q kr' ks') = _
  rw [c2 (by omega)]
  exact g2 z
theorem rf_esh {T : List rf_Sh} {k : Nat} {x : rf_Sh} (h : rf_sh T k = some x) : rf_sh (T ++ E) k = some x := by
  rw [rf_sh_get] at h ⊢
  rw [List.getElem?_append_left (List.getElem?_eq_some_iff.mp h).1]
  exact h
theorem rf_eO_s {T : List rf_Sh} {k c : Nat} (h : rf_isO T k c = true) : ∃ c', rf_sh T k = some (.inl c') := by
  unfold rf_isO at h
  split at h
  · exact ⟨_, by assumption⟩
  · cases h
theorem rf_eO {T : List rf_Sh} {k c : Nat} (h : rf_isO T k c = true) : rf_isO (T ++ E) k c = true := by
  obtain ⟨c', hs⟩ := rf_eO_s h
  unfold rf_isO at h ⊢
  rw [hs] at h
  rw [rf_esh hs]
  exact h
theorem rf_eO_lt {T : List rf_Sh} {k c : Nat} (h : rf_isO T k c = true) : k < T.length := by
  obtain ⟨c', hs⟩ := rf_eO_s h
  exact rf_sh_lt hs
theorem rf_eL_s {T : List rf_Sh} {k t l : Nat} (h : rf_len T k t = some l) : ∃ t', rf_sh T k = some (.inr (t', l)) := by
  unfold rf_len at h
  split at h
  · rename_i t' l' hs
    cases hb : Nat.beq t' t with
    | true =>
      rw [hb] at h
      cases h
      exact ⟨_, hs⟩
    | false =>
      rw [hb] at h
      cases h
  · cases h
theorem rf_eL {T : List rf_Sh} {k t l : Nat} (h : rf_len T k t = some l) : rf_len (T ++ E) k t = some l := by
  obtain ⟨t', hs⟩ := rf_eL_s h
  unfold rf_len at h ⊢
  rw [hs] at h
  rw [rf_esh hs]
  exact h
theorem rf_eL_lt {T : List rf_Sh} {k t l : Nat} (h : rf_len T k t = some l) : k < T.length := by
  obtain ⟨t', hs⟩ := rf_eL_s h
  exact rf_sh_lt hs
section RFEH
variable {h : rf_H}
theorem rf_egI {c k i : Nat} : m = n → ∀ x, rf_gI h c k i = some x → rf_gI (rf_mE E n Pq h) c k i = some x := fun _ x e => by
  obtain ⟨a, e⟩ := rf_bif_invI e
  show (bif rf_isO (h.1 ++ E) k c then some (h.2.1 k i) else none) = _
  rw [rf_eO a]
  exact e
theorem rf_egR (hm : h.1.length = m) {c k i : Nat} : m = n → ∀ x, rf_gR h c k i = some x → rf_gR (rf_mE E n Pq h) c k i = some x := fun z x e => by
  obtain ⟨a, e⟩ := rf_bif_invI e
  have := rf_eO_lt a
  show (bif rf_isO (h.1 ++ E) k c then some (if k < n then h.2.2.1 k i else Pq k i) else none) = _
  rw [rf_eO a, if_pos (by omega)]
  exact e
theorem rf_epI_l (hm : h.1.length = m) {c k i : Nat} {v : Int} : ∀ x, rf_pI h c k i v = some x → x.1.length = m := fun x e => by
  obtain ⟨a, e⟩ := rf_bif_invI e
  cases e
  exact hm
theorem rf_epI {c k i : Nat} {v : Int} : m = n → ∀ x, rf_pI h c k i v = some x → rf_pI (rf_mE E n Pq h) c k i v = some (rf_mE E n Pq x) := fun z x e => by
  obtain ⟨a, e⟩ := rf_bif_invI e
  cases e
  show (bif rf_isO (h.1 ++ E) k c then _ else none) = _
  rw [rf_eO a]
  rfl
theorem rf_epR_l (hm : h.1.length = m) {c k i : Nat} {v : Option Nat} : ∀ x, rf_pR h c k i v = some x → x.1.length = m := fun x e => by
  obtain ⟨a, e⟩ := rf_bif_invI e
  cases e
  exact hm
theorem rf_eup2 {P Pq : rf_P} {k i n : Nat} {v : Option Nat} (hk : k < n) : rf_up2 (fun k i => if k < n then P k i else Pq k i) k i v = fun a b => if a < n then rf_up2 P k i v a b else Pq a b := by
  funext a b
  unfold rf_up2
  by_cases h1 : a = k ∧ b = i
  · rw [if_pos h1, if_pos (by omega), if_pos h1]
  · rw [if_neg h1, if_neg h1]
theorem rf_epR (hm : h.1.length = m) {c k i : Nat} {v : Option Nat} : m = n → ∀ x, rf_pR h c k i v = some x → rf_pR (rf_mE E n Pq h) c k i v = some (rf_mE E n Pq x) := fun z x e => by
  obtain ⟨a, e⟩ := rf_bif_invI e
  have := rf_eO_lt a
  cases e
  show (bif rf_isO (h.1 ++ E) k c then some (h.1 ++ E, h.2.1, rf_up2 (fun k i => if k < n then h.2.2.1 k i else Pq k i) k i v, h.2.2.2) else none) = _
  rw [rf_eO a, rf_eup2 (by omega)]
  rfl
theorem rf_eaL {k : Nat} : m = n → ∀ x, rf_aL h k = some x → rf_aL (rf_mE E n Pq h) k = some x := fun _ x e => by
  unfold rf_aL at e ⊢
  cases hb : Nat.ble 1000000 k with
  | true =>
    rw [hb] at e
    exact e
  | false =>
    rw [hb] at e
    simp only [cond_false] at e ⊢
    split at e
    · rename_i t l hs
      show (match rf_sh (h.1 ++ E) k with | some (.inr (_, n)) => some (n : Int) | _ => none) = _
      rw [rf_esh hs]
      exact e
    · cases e
theorem rf_eaI {k : Nat} {j : Int} : m = n → ∀ x, rf_aI h k j = some x → rf_aI (rf_mE E n Pq h) k j = some x := fun _ x e => by
  unfold rf_aI at e ⊢
  cases hb : Nat.ble 1000000 k with
  | true =>
    rw [hb] at e
    exact e
  | false =>
    rw [hb] at e
    simp only [cond_false] at e ⊢
    split at e
    · rename_i l hs
      show (match rf_len (h.1 ++ E) k 0 with | some n => if 0 ≤ j ∧ j < (n : Int) then some (h.2.1 k j.toNat) else none | none => none) = _
      rw [rf_eL hs]
      exact e
    · cases e
theorem rf_eaZ {k : Nat} {j : Int} : m = n → ∀ x, rf_aZ h k j = some x → rf_aZ (rf_mE E n Pq h) k j = some x := fun _ x e => by
  unfold rf_aZ at e ⊢
  split at e
  · rename_i l hs
    show (match rf_len (h.1 ++ E) k 1 with | some n => if 0 ≤ j ∧ j < (n : Int) then some (h.2.1 k j.toNat) else none | none => none) = _
    rw [rf_eL hs]
    exact e
  · cases e
theorem rf_eaR (hm : h.1.length = m) {k : Nat} {j : Int} : m = n → ∀ x, rf_aR h k j = some x → rf_aR (rf_mE E n Pq h) k j = some x := fun z x e => by
  unfold rf_aR at e ⊢
  split at e
  · rename_i l hs
    have := rf_eL_lt hs
    show (match rf_len (h.1 ++ E) k 2 with | some l => if 0 ≤ j ∧ j < (l : Int) then some (if k < n then h.2.2.1 k j.toNat else Pq k j.toNat) else none | none => none) = _
    rw [rf_eL hs, if_pos (show k < n by omega)]
    exact e
  · cases e
theorem rf_esI_l (hm : h.1.length = m) {k : Nat} {j v : Int} : ∀ x, rf_sI h k j v = some x → x.1.length = m := fun x e => by
  unfold rf_sI at e
  split at e
  · split at e
    · cases e
      exact hm
    · cases e
  · cases e
theorem rf_esI {k : Nat} {j v : Int} : m = n → ∀ x, rf_sI h k j v = some x → rf_sI (rf_mE E n Pq h) k j v = some (rf_mE E n Pq x) := fun _ x e => by
  unfold rf_sI at e ⊢
  split at e
  · rename_i l hs
    split at e
    · rename_i hj
      cases e
      show (match rf_len (h.1 ++ E) k 0 with | some n => if 0 ≤ j ∧ j < (n : Int) then _ else none | none => none) = _
      rw [rf_eL hs]
      simp only
      rw [if_pos hj]
      rfl
    · cases e
  · cases e
theorem rf_esZ_l (hm : h.1.length = m) {k : Nat} {j v : Int} : ∀ x, rf_sZ h k j v = some x → x.1.length = m := fun x e => by
  unfold rf_sZ at e
  split at e
  · split at e
    · cases e
      exact hm
    · cases e
  · cases e
theorem rf_esZ {k : Nat} {j v : Int} : m = n → ∀ x, rf_sZ h k j v = some x → rf_sZ (rf_mE E n Pq h) k j v = some (rf_mE E n Pq x) := fun _ x e => by
  unfold rf_sZ at e ⊢
  split at e
  · rename_i l hs
    split at e
    · rename_i hj
      cases e
      show (match rf_len (h.1 ++ E) k 1 with | some n => if 0 ≤ j ∧ j < (n : Int) then _ else none | none => none) = _
      rw [rf_eL hs]
      simp only
      rw [if_pos hj]
      rfl
    · cases e
  · cases e
theorem rf_esR_l (hm : h.1.length = m) {k v : Nat} {j : Int} : ∀ x, rf_sR h k j v = some x → x.1.length = m := fun x e => by
  unfold rf_sR at e
  split at e
  · obtain ⟨_, e⟩ := rf_bif_invI e
    split at e
    · cases e
      exact hm
    · cases e
  · cases e
theorem rf_esR (hm : h.1.length = m) {k v : Nat} {j : Int} : m = n → ∀ x, rf_sR h k j v = some x → rf_sR (rf_mE E n Pq h) k j v = some (rf_mE E n Pq x) := fun z x e => by
  unfold rf_sR at e ⊢
  split at e
  · rename_i l hs
    obtain ⟨a, e⟩ := rf_bif_invI e
    split at e
    · rename_i hj
      cases e
      have := rf_eL_lt hs
      show (match rf_len (h.1 ++ E) k 2 with | some l => bif rf_isO (h.1 ++ E) v 2 then (if 0 ≤ j ∧ j < (l : Int) then some (h.1 ++ E, h.2.1, rf_up2 (fun k i => if k < n then h.2.2.1 k i else Pq k i) k j.toNat (some v), h.2.2.2) else none) else none | none => none) = _
      rw [rf_eL hs, rf_eup2 (by omega)]
      simp only
      rw [rf_eO a, if_pos hj]
      rfl
    · cases e
  · cases e
theorem rf_ecp_l (hm : h.1.length = m) {a b : Nat} {sp dp l : Int} : ∀ x, rf_cp h a sp b dp l = some x → x.1.length = m := fun x e => by
  unfold rf_cp at e
  split at e
  · split at e
    · cases e
      exact hm
    · cases e
  · cases e
theorem rf_ecp {a b : Nat} {sp dp l : Int} : m = n → ∀ x, rf_cp h a sp b dp l = some x → rf_cp (rf_mE E n Pq h) a sp b dp l = some (rf_mE E n Pq x) := fun _ x e => by
  unfold rf_cp at e ⊢
  split at e
  · rename_i la lb ha hb
    split at e
    · rename_i hj
      cases e
      show (match rf_len (h.1 ++ E) a 0, rf_len (h.1 ++ E) b 0 with | some la, some lb => if 0 ≤ sp ∧ 0 ≤ dp ∧ 0 ≤ l ∧ sp + l ≤ (la : Int) ∧ dp + l ≤ (lb : Int) then _ else none | _, _ => none) = _
      rw [rf_eL ha, rf_eL hb]
      simp only
      rw [if_pos hj]
      rfl
    · cases e
  · cases e
end RFEH
theorem rf_einv {cal cal' : rf_C} (hcal : ∀ u as h q, n ≤ h.1.length → cal u as h = some q → h.1.length ≤ q.2.1.length ∧ (q.2.1.length = n → cal' u as (rf_mE E n Pq h) = some (rf_eR E n Pq q))) (a b c z : Nat) (st : List rf_V) (h : rf_H) (hh : h.1.length = m) {f f' : List rf_V → rf_H → rf_K} (hf : ∀ v x, rf_EqE E n Pq x.1.length (f v x) (f' v (rf_mE E n Pq x))) : rf_EqE E n Pq m (fun kr ks => rf_inv cal a b c z st h fun v x => f v x kr ks) (fun kr ks => rf_inv cal' a b c z st (rf_mE E n Pq h) fun v x => f' v x kr ks) := by
  unfold rf_inv
  rcases rf_pop b [] st with _ | ⟨as, _ | ⟨v | v | v, st'⟩⟩
  · exact rf_e0
  · exact rf_e0
  · exact rf_e0
  · exact rf_e0
  · exact rf_enn _ fun k => rf_ebif _ _ (fun _ q => q) (rf_ebif _ _ (fun _ q => rf_eO q) (rf_ecal hcal _ _ _ hh fun q => rf_eret _ _ rfl fun v x hx => rf_eup (hf _ _) hx))
theorem rf_etsw (x lo : Int) (ts : List Nat) (d : Nat) {f f' : Nat → rf_K} (h : ∀ t, rf_EqE E n Pq m (f t) (f' t)) : rf_EqE E n Pq m (fun kr ks => rf_tsw x lo ts d fun t => f t kr ks) (fun kr ks => rf_tsw x lo ts d fun t => f' t kr ks) := by
  induction ts generalizing lo with
  | nil => exact h d
  | cons t ts ih => exact rf_eite _ (h t) (ih (lo + 1))
set_option maxHeartbeats 4000000 in
theorem rf_eins {cal cal' : rf_C} (hcal : ∀ u as h q, n ≤ h.1.length → cal u as h = some q → h.1.length ≤ q.2.1.length ∧ (q.2.1.length = n → cal' u as (rf_mE E n Pq h) = some (rf_eR E n Pq q))) (ms : List (Nat × List Bool)) (nx : Nat) (i : ClassFile.Instr) (a b c : Nat) (z : Int) (ts : List Nat) (L : List (Option rf_V)) (st : List rf_V) (h : rf_H) (hh : h.1.length = m) : rf_EqE E n Pq m (rf_ins cal ms nx i a b c z ts L st h) (rf_ins cal' ms nx i a b c z ts L st (rf_mE E n Pq h)) := by
  cases i
  case ifCond o _ => cases o <;> exact rf_e1I _ fun x st => rf_eite _ (rf_eks _ hh) (rf_eks _ hh)
  case if_icmp o _ => cases o <;> exact rf_e2I _ fun x y st => rf_eite _ (rf_eks _ hh) (rf_eks _ hh)
  case dup => rcases st with _ | ⟨x | x | x, st⟩ <;> first | exact rf_e0 | exact rf_eks _ hh
  case pop => rcases st with _ | ⟨x | x | x, st⟩ <;> first | exact rf_e0 | exact rf_eks _ hh
  case dup2 => rcases st with _ | ⟨x | x | x, _ | ⟨y | y | y, st⟩⟩ <;> first | exact rf_e0 | exact rf_eks _ hh
  case ifnull => exact rf_e1R _ fun x st => by cases x <;> exact rf_eks _ hh
  case ifnonnull => exact rf_e1R _ fun x st => by cases x <;> exact rf_eks _ hh
  case tableswitch => exact rf_e1I _ fun x st => rf_etsw _ _ _ _ fun t => rf_eks _ hh
  case getfield => exact rf_e1R _ fun r st => rf_enn _ fun k => by rcases c with _ | _ | c <;> first | exact rf_ebind _ _ rf_egI fun x => rf_eks _ hh | exact rf_ebind _ _ (rf_egR hh) fun x => rf_eks _ hh
  case putfield => rcases c with _ | _ | _ | _ | c <;> rcases st with _ | ⟨x | x | x, _ | ⟨y | y | y, st⟩⟩ <;> first | exact rf_e0 | exact rf_enn _ fun k => rf_emap _ _ (rf_epI_l hh) rf_epI fun x hx => rf_eks _ hx | exact rf_enn _ fun k => rf_emap _ _ (rf_epR_l hh) (rf_epR hh) fun x hx => rf_eks _ hx | exact rf_eitn _ _ (rf_enn _ fun k => rf_emap _ _ (rf_epI_l hh) rf_epI fun x hx => rf_eks _ hx) fun _ q => q
  case arraylength => exact rf_e1R _ fun r st => rf_enn _ fun k => rf_ebind _ _ rf_eaL fun x => rf_eks _ hh
  case iaload => rcases st with _ | ⟨x | x | x, _ | ⟨y | y | y, st⟩⟩ <;> first | exact rf_e0 | exact rf_enn _ fun k => rf_ebind _ _ rf_eaI fun x => rf_eks _ hh
  case baload => rcases st with _ | ⟨x | x | x, _ | ⟨y | y | y, st⟩⟩ <;> first | exact rf_e0 | exact rf_enn _ fun k => rf_ebind _ _ rf_eaZ fun x => rf_eks _ hh
  case aaload => rcases st with _ | ⟨x | x | x, _ | ⟨y | y | y, st⟩⟩ <;> first | exact rf_e0 | exact rf_enn _ fun k => rf_ebind _ _ (rf_eaR hh) fun x => rf_eks _ hh
  case iastore => rcases st with _ | ⟨x | x | x, _ | ⟨y | y | y, _ | ⟨w | w | w, st⟩⟩⟩ <;> first | exact rf_e0 | exact rf_enn _ fun k => rf_emap _ _ (rf_esI_l hh) rf_esI fun x hx => rf_eks _ hx
  case bastore => rcases st with _ | ⟨x | x | x, _ | ⟨y | y | y, _ | ⟨w | w | w, st⟩⟩⟩ <;> first | exact rf_e0 | exact rf_eitn _ _ (rf_enn _ fun k => rf_emap _ _ (rf_esZ_l hh) rf_esZ fun x hx => rf_eks _ hx) fun _ q => q
  case aastore => rcases st with _ | ⟨x | x | (_ | x), _ | ⟨y | y | y, _ | ⟨w | w | w, st⟩⟩⟩ <;> first | exact rf_e0 | exact rf_enn _ fun k => rf_emap _ _ (rf_esR_l hh) (rf_esR hh) fun x hx => rf_eks _ hx
  case new => 
    intro hn kr ks kr' ks' h1 h2 r e
    obtain ⟨hp, e⟩ := rf_if_inv e
    exact rf_enw _ (by show (h.1 ++ [_]).length = _; rw [List.length_append, hh]; rfl) _ hn kr ks kr' ks' h1 h2 r e
  case newarray =>
    rcases st with _ | ⟨x | x | x, st⟩ <;> first | exact rf_e0 | skip
    intro hn kr ks kr' ks' h1 h2 r e
    obtain ⟨hp, e⟩ := rf_if_inv e
    exact rf_enw _ (by show (h.1 ++ [_]).length = _; rw [List.length_append, hh]; rfl) _ hn kr ks kr' ks' h1 h2 r e
  case anewarray =>
    rcases st with _ | ⟨x | x | x, st⟩ <;> first | exact rf_e0 | skip
    intro hn kr ks kr' ks' h1 h2 r e
    obtain ⟨hp, e⟩ := rf_if_inv e
    exact rf_enw _ (by show (h.1 ++ [_]).length = _; rw [List.length_append, hh]; rfl) _ hn kr ks kr' ks' h1 h2 r e
  case idiv => exact rf_e2I _ fun x y st => rf_eite _ rf_e0 (rf_eks _ hh)
  case irem => exact rf_e2I _ fun x y st => rf_eite _ rf_e0 (rf_eks _ hh)
  case ldiv => exact rf_e2L _ fun x y st => rf_eite _ rf_e0 (rf_eks _ hh)
  case lrem => exact rf_e2L _ fun x y st => rf_eite _ rf_e0 (rf_eks _ hh)
  case invokevirtual => exact rf_einv hcal a b c z.toNat st h hh (f := fun v x _ ks => ks (nx, rf_msk (rf_look ms nx) L, v, x)) (f' := fun v x _ ks => ks (nx, rf_msk (rf_look ms nx) L, v, x)) fun v x => rf_eks _ rfl
  case invokespecial =>
    by_cases hc : c = 9
    · subst hc
      exact rf_e1R _ fun r st => rf_enn _ fun k => rf_ebif _ _ (fun _ q => q) (rf_eks _ hh)
    · have e : ∀ (cal : rf_C) (h : rf_H) kr ks, rf_ins cal ms nx (.invokespecial ‹_›) a b c z ts L st h kr ks = rf_inv cal a b c z.toNat st h fun st h => ks (nx, rf_msk (rf_look ms nx) L, st, h) := by
        intro cal h kr ks
        simp only [rf_ins]
        try (split <;> first | exact absurd rfl hc | rfl | simp_all)
      intro hn kr ks kr' ks'
      rw [e, e]
      exact rf_einv hcal a b c z.toNat st h hh (f := fun v x _ ks => ks (nx, rf_msk (rf_look ms nx) L, v, x)) (f' := fun v x _ ks => ks (nx, rf_msk (rf_look ms nx) L, v, x)) (fun v x => rf_eks _ rfl) hn kr ks kr' ks'
  case invokestatic =>
    by_cases hc : c = 9
    · subst hc
      rcases st with _ | ⟨x1 | x1 | x1, _ | ⟨x2 | x2 | x2, _ | ⟨x3 | x3 | x3, _ | ⟨x4 | x4 | x4, _ | ⟨x5 | x5 | x5, st⟩⟩⟩⟩⟩ <;> first | exact rf_e0 | exact rf_enn _ fun k => rf_enn _ fun k => rf_ebif _ _ (fun _ q => q) (rf_emap _ _ (rf_ecp_l hh) rf_ecp fun x hx => rf_eks _ hx)
    · have e : ∀ (cal : rf_C) (h : rf_H) kr ks, rf_ins cal ms nx (.invokestatic ‹_›) a b c z ts L st h kr ks = match rf_pop b [] st with
          | some (as, st) => bif Nat.ble (rf_cat st) 8 then (cal a as h).bind fun q => rf_ret c q fun v h => ks (nx, rf_msk (rf_look ms nx) L, v ++ st, h) else none
          | none => none := by
        intro cal h kr ks
        simp only [rf_ins]
        try (split <;> first | exact absurd rfl hc | rfl | simp_all)
      intro hn kr ks kr' ks'
      rw [e, e]
      rcases rf_pop b [] st with _ | ⟨as, st'⟩
      · exact fun h1 h2 r er => by cases (show (none : Option rf_R) = some r from er)
      · exact fun h1 h2 r er => (show rf_EqE E n Pq m (fun kr ks => bif Nat.ble (rf_cat st') 8 then (cal a as h).bind fun q => rf_ret c q fun v h => ks (nx, rf_msk (rf_look ms nx) L, v ++ st', h) else none) (fun kr ks => bif Nat.ble (rf_cat st') 8 then (cal' a as (rf_mE E n Pq h)).bind fun q => rf_ret c q fun v h => ks (nx, rf_msk (rf_look ms nx) L, v ++ st', h) else none) from rf_ebif _ _ (fun _ q => q) (rf_ecal hcal _ _ _ hh fun q => rf_eret _ _ rfl fun v x hx => rf_eks _ hx)) hn kr ks kr' ks' h1 h2 r er
  case ireturn => rcases st with _ | ⟨x | x | x, _ | ⟨y, st⟩⟩ <;> first | exact rf_e0 | (rcases c with _ | c; exact rf_ekr _ hh; exact rf_eite _ (rf_ekr _ hh) rf_e0)
  case lreturn => rcases st with _ | ⟨x | x | x, _ | ⟨y, st⟩⟩ <;> first | exact rf_e0 | exact rf_ekr _ hh
  case areturn => rcases st with _ | ⟨x | x | x, _ | ⟨y, st⟩⟩ <;> first | exact rf_e0 | exact rf_ekr _ hh
  case return_ => rcases st with _ | ⟨y, st⟩ <;> first | exact rf_e0 | exact rf_ekr _ hh
  all_goals first
    | exact rf_e0
    | exact rf_eks _ hh
    | exact rf_elI _ _ fun x => rf_eks _ hh
    | exact rf_elL _ _ fun x => rf_eks _ hh
    | exact rf_elR _ _ fun x => rf_eks _ hh
    | exact rf_e1I _ fun x st => rf_eks _ hh
    | exact rf_e1L _ fun x st => rf_eks _ hh
    | exact rf_e1R _ fun x st => rf_eks _ hh
    | exact rf_e2I _ fun x y st => rf_eks _ hh
    | exact rf_e2L _ fun x y st => rf_eks _ hh
theorem rf_eex {cal cal' : rf_C} (hcal : ∀ u as h q, n ≤ h.1.length → cal u as h = some q → h.1.length ≤ q.2.1.length ∧ (q.2.1.length = n → cal' u as (rf_mE E n Pq h) = some (rf_eR E n Pq q))) (M : rf_M) : ∀ (f : Nat) (s : rf_S) (r : rf_R), rf_exec cal M f s = some r → n ≤ s.2.2.2.1.length → s.2.2.2.1.length ≤ r.2.1.length ∧ (r.2.1.length = n → rf_den cal' M (rf_eS E n Pq s) = some (rf_eR E n Pq r))
  | 0, s, r, e, _ => by cases e
  | f + 1, s, r, e, hn => by
    have e : rf_step cal M s some (rf_exec cal M f) = some r := e
    unfold rf_step at e
    rcases hf : rf_find M.2.2.2.2.1 s.1 with _ | ⟨i, len, ⟨a, b, c, w⟩, z, ts⟩
    · rw [hf] at e
      cases e
    · rw [hf] at e
      have g := rf_eins hcal M.2.2.2.2.2 (s.1 + len) i a b c z ts s.2.1 s.2.2.1 s.2.2.2 rfl hn some (rf_exec cal M f) some (rf_den cal' M) (fun q r h hq => by cases h; exact ⟨Nat.le_refl _, fun _ => rfl⟩) (fun s r h hs => rf_eex hcal M f s r h hs) r e
      refine ⟨g.1, fun z => ?_⟩
      rw [rf_den_eq]
      unfold rf_step
      show (match rf_find M.2.2.2.2.1 s.1 with
        | some (i, len, (a, b, c, _), z, ts) => rf_ins cal' M.2.2.2.2.2 (s.1 + len) i a b c z ts s.2.1 s.2.2.1 (rf_mE E n Pq s.2.2.2) some (rf_den cal' M)
        | none => none) = _
      rw [hf]
      exact g.2 z
end RFEX
theorem rf_ecl (E : List rf_Sh) (n : Nat) (Pq : rf_P) : ∀ (d u : Nat) (as : List rf_V) (h : rf_H) (q : rf_R), n ≤ h.1.length → rf_call d u as h = some q → h.1.length ≤ q.2.1.length ∧ (q.2.1.length = n → rf_call d u as (rf_mE E n Pq h) = some (rf_eR E n Pq q))
  | 0, u, as, h, q, _, e => by cases e
  | d + 1, u, as, h, q, hn, e => by
    have e : (bif Nat.ble (rf_args as).length (rf_mt u).2.2.1 then rf_den (rf_call d) (rf_mt u) (0, rf_msk (rf_look (rf_mt u).2.2.2.2.2 0) (rf_fill (rf_mt u).2.2.1 (rf_args as)), [], h) else none) = some q := e
    obtain ⟨g, e⟩ := rf_bif_inv e
    obtain ⟨f, ef⟩ := rf_den_ex e
    have r := rf_eex (cal' := rf_call d) (rf_ecl E n Pq d) (rf_mt u) f _ q ef hn
    refine ⟨r.1, fun z => ?_⟩
    show (bif Nat.ble (rf_args as).length (rf_mt u).2.2.1 then rf_den (rf_call d) (rf_mt u) (0, rf_msk (rf_look (rf_mt u).2.2.2.2.2 0) (rf_fill (rf_mt u).2.2.1 (rf_args as)), [], rf_mE E n Pq h) else none) = some _
    rw [g]
    exact r.2 z
