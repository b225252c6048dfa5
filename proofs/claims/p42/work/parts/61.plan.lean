/-! plans: the pure side -/
def pn_st (s : Nat → Int) (t : Nat) : Nat → Int := (sp_does s (t : Int) (sp_rail s)).2
/-- the first thing from which a plan can be found -/
def pn_fl (F : (Nat → Int) → Option (List Int)) (s : Nat → Int) : Nat → Nat → Option (List Int)
  | 0, _ => none
  | c + 1, t => if sp_can s (t : Int) = true then (match F (pn_st s t) with | some l => some ((t : Int) :: l) | none => pn_fl F s c (t + 1)) else pn_fl F s c (t + 1)
theorem pn_fl_y {F : (Nat → Int) → Option (List Int)} {s : Nat → Int} {c t : Nat} {l : List Int} (a : sp_can s (t : Int) = true) (h : F (pn_st s t) = some l) : pn_fl F s (c + 1) t = some ((t : Int) :: l) := by
  have e : pn_fl F s (c + 1) t = (if sp_can s (t : Int) = true then (match F (pn_st s t) with | some l => some ((t : Int) :: l) | none => pn_fl F s c (t + 1)) else pn_fl F s c (t + 1)) := rfl
  rw [e, if_pos a, h]
theorem pn_fl_o {F : (Nat → Int) → Option (List Int)} {s : Nat → Int} {c t : Nat} (a : sp_can s (t : Int) = true) (h : F (pn_st s t) = none) : pn_fl F s (c + 1) t = pn_fl F s c (t + 1) := by
  have e : pn_fl F s (c + 1) t = (if sp_can s (t : Int) = true then (match F (pn_st s t) with | some l => some ((t : Int) :: l) | none => pn_fl F s c (t + 1)) else pn_fl F s c (t + 1)) := rfl
  rw [e, if_pos a, h]
theorem pn_fl_n {F : (Nat → Int) → Option (List Int)} {s : Nat → Int} {c t : Nat} (a : ¬ sp_can s (t : Int) = true) : pn_fl F s (c + 1) t = pn_fl F s c (t + 1) := if_neg a
theorem pn_fl_none {F : (Nat → Int) → Option (List Int)} {s : Nat → Int} : ∀ (c t : Nat), pn_fl F s c t = none ↔ ∀ u, t ≤ u → u < t + c → sp_can s (u : Int) = true → F (pn_st s u) = none
  | 0, t => ⟨fun _ u h1 h2 => by omega, fun _ => rfl⟩
  | c + 1, t => by
    have ih := pn_fl_none (F := F) (s := s) c (t + 1)
    by_cases a : sp_can s (t : Int) = true
    · cases h : F (pn_st s t) with
      | some l =>
        rw [pn_fl_y a h]
        constructor
        · intro z
          cases z
        · intro z
          have y := z t (Nat.le_refl t) (by omega) a
          rw [h] at y
          cases y
      | none =>
        rw [pn_fl_o a h, ih]
        refine ⟨fun z u h1 h2 h3 => ?_, fun z u h1 h2 h3 => z u (by omega) (by omega) h3⟩
        by_cases y : u = t
        · rw [y]
          exact h
        · exact z u (by omega) (by omega) h3
    · rw [pn_fl_n a, ih]
      refine ⟨fun z u h1 h2 h3 => ?_, fun z u h1 h2 h3 => z u (by omega) (by omega) h3⟩
      by_cases y : u = t
      · rw [y] at h3
        exact absurd h3 a
      · exact z u (by omega) (by omega) h3
theorem pn_fl_cong {F G : (Nat → Int) → Option (List Int)} {s : Nat → Int} : ∀ (c t : Nat), (∀ u, t ≤ u → u < t + c → sp_can s (u : Int) = true → F (pn_st s u) = G (pn_st s u)) → pn_fl F s c t = pn_fl G s c t
  | 0, _, _ => rfl
  | c + 1, t, e => by
    have ih := pn_fl_cong (F := F) (G := G) (s := s) c (t + 1) fun u h1 h2 h3 => e u (by omega) (by omega) h3
    by_cases a : sp_can s (t : Int) = true
    · have et := e t (Nat.le_refl t) (by omega) a
      cases h : F (pn_st s t) with
      | some l => rw [pn_fl_y a h, pn_fl_y a (et ▸ h)]
      | none => rw [pn_fl_o a h, pn_fl_o a (et ▸ h), ih]
    · rw [pn_fl_n a, pn_fl_n a, ih]
theorem pn_fl_ext {F : (Nat → Int) → Option (List Int)} {s : Nat → Int} (e : Nat) : ∀ (c t : Nat), (∀ u, t + c ≤ u → u < t + c + e → sp_can s (u : Int) = true → F (pn_st s u) = none) → pn_fl F s (c + e) t = pn_fl F s c t
  | 0, t, h => by
    rw [Nat.zero_add]
    exact (pn_fl_none e t).2 fun u h1 h2 h3 => h u (by omega) (by omega) h3
  | c + 1, t, h => by
    have ih := pn_fl_ext (F := F) (s := s) e c (t + 1) fun u h1 h2 h3 => h u (by omega) (by omega) h3
    rw [show c + 1 + e = (c + e) + 1 by omega]
    by_cases a : sp_can s (t : Int) = true
    · cases h' : F (pn_st s t) with
      | some l => rw [pn_fl_y a h', pn_fl_y a h']
      | none => rw [pn_fl_o a h', pn_fl_o a h', ih]
    · rw [pn_fl_n a, pn_fl_n a, ih]
/-- the first plan of just so many things that starts -/
def pn_fx (g : Int) : Nat → (Nat → Int) → Option (List Int)
  | 0, s => if g < s 35 then some [] else none
  | k + 1, s => pn_fl (pn_fx g k) s 15 0
/-- the first one of so many at most -/
def pn_wu (g : Int) : Nat → (Nat → Int) → Option (List Int)
  | 0, _ => none
  | k + 1, s => pn_fl (fun u => if g < u 35 then some [] else pn_wu g k u) s 15 0
theorem pn_35 {s : Nat → Int} {m : Int} (hs : sp_st m s) (hm : 0 ≤ m ∧ m ≤ 1000000) (t : Nat) : pn_st s t 35 = s 35 ∨ pn_st s t 35 = s 35 + 1 := (sp_does_st hs hm (t : Int) (sp_rail s)).2.2
theorem pn_wu_none {g : Int} : ∀ (k : Nat) (s : Nat → Int), pn_wu g k s = none ↔ ∀ j, 1 ≤ j → j ≤ k → pn_fx g j s = none
  | 0, s => ⟨fun _ j h1 h2 => by omega, fun _ => rfl⟩
  | k + 1, s => by
    have ih := fun u => pn_wu_none (g := g) k u
    show pn_fl (fun u => if g < u 35 then some [] else pn_wu g k u) s 15 0 = none ↔ _
    rw [pn_fl_none]
    constructor
    · intro z j h1 h2
      obtain ⟨i, rfl⟩ : ∃ i, j = i + 1 := ⟨j - 1, by omega⟩
      show pn_fl (pn_fx g i) s 15 0 = none
      refine (pn_fl_none 15 0).2 fun u u1 u2 u3 => ?_
      have y := z u u1 u2 u3
      by_cases q : g < pn_st s u 35
      · rw [if_pos q] at y
        cases y
      · rw [if_neg q] at y
        cases i with
        | zero => exact if_neg q
        | succ i => exact (ih _).1 y (i + 1) (by omega) (by omega)
    · intro z u u1 u2 u3
      have y : ∀ i, i ≤ k → pn_fx g i (pn_st s u) = none := fun i hi => by
        have w : pn_fl (pn_fx g i) s 15 0 = none := z (i + 1) (by omega) (by omega)
        exact (pn_fl_none 15 0).1 w u u1 u2 u3
      have y0 : (if g < pn_st s u 35 then some [] else none : Option (List Int)) = none := y 0 (Nat.zero_le k)
      by_cases q : g < pn_st s u 35
      · rw [if_pos q] at y0
        cases y0
      · rw [if_neg q]
        exact (ih _).2 fun j _ h2 => y j h2
theorem pn_wu_fx {g : Int} : ∀ (k : Nat) (s : Nat → Int), (∀ j, 1 ≤ j → j ≤ k → pn_fx g j s = none) → pn_wu g (k + 1) s = pn_fx g (k + 1) s
  | 0, s, _ => by
    show pn_fl (fun u => if g < u 35 then some [] else pn_wu g 0 u) s 15 0 = pn_fl (pn_fx g 0) s 15 0
    exact pn_fl_cong 15 0 fun u _ _ _ => rfl
  | k + 1, s, h => by
    show pn_fl (fun u => if g < u 35 then some [] else pn_wu g (k + 1) u) s 15 0 = pn_fl (pn_fx g (k + 1)) s 15 0
    refine pn_fl_cong 15 0 fun u u1 u2 u3 => ?_
    have y : ∀ i, i ≤ k → pn_fx g i (pn_st s u) = none := fun i hi => by
      have w : pn_fl (pn_fx g i) s 15 0 = none := h (i + 1) (by omega) (by omega)
      exact (pn_fl_none 15 0).1 w u u1 u2 u3
    have y0 : (if g < pn_st s u 35 then some [] else none : Option (List Int)) = none := y 0 (Nat.zero_le k)
    by_cases q : g < pn_st s u 35
    · rw [if_pos q] at y0
      cases y0
    · show (if g < pn_st s u 35 then some [] else pn_wu g (k + 1) (pn_st s u)) = pn_fx g (k + 1) (pn_st s u)
      rw [if_neg q]
      exact pn_wu_fx k _ fun j _ h2 => y j h2
theorem pn_fl_len {F : (Nat → Int) → Option (List Int)} {s : Nat → Int} {n : Nat} (hF : ∀ u l, F u = some l → l.length = n) : ∀ (c t : Nat) (l : List Int), pn_fl F s c t = some l → l.length = n + 1
  | 0, t, l, h => by cases h
  | c + 1, t, l, h => by
    by_cases a : sp_can s (t : Int) = true
    · cases h' : F (pn_st s t) with
      | some l' =>
        rw [pn_fl_y a h'] at h
        injection h with h
        rw [← h, List.length_cons, hF _ _ h']
      | none =>
        rw [pn_fl_o a h'] at h
        exact pn_fl_len hF c (t + 1) l h
    · rw [pn_fl_n a] at h
      exact pn_fl_len hF c (t + 1) l h
theorem pn_fx_len {g : Int} : ∀ (k : Nat) (s : Nat → Int) (l : List Int), pn_fx g k s = some l → l.length = k
  | 0, s, l, h => by
    have h' : (if g < s 35 then some [] else none) = some l := h
    by_cases q : g < s 35
    · rw [if_pos q] at h'
      injection h' with h'
      rw [← h']
      try rfl
    · rw [if_neg q] at h'
      cases h'
  | k + 1, s, l, h => pn_fl_len (fun u l' h' => pn_fx_len k u l' h') 15 0 l h
/-! steam that does as one less -/
def pn_by (s : Nat → Int) (c : Int) : Nat → Int :=
  if c = 1 then rg_ui (rg_ui (rg_ui s 30 0) 29 (if 9 < rf_w (s 29 + 1) then 9 else rf_w (s 29 + 1))) 27 (if rf_w (s 27 - 2) < 0 then 0 else rf_w (s 27 - 2))
  else if c = 3 then rg_ui (rg_ui (rg_ui (sp_less s 1) 36 (s 33)) 31 0) 32 0
  else if c = 2 then rg_ui (sp_less s 1) 33 (rf_w (s 33 + 1))
  else if c = 4 then rg_ui (sp_less s 1) 35 (rf_w (s 35 + 1))
  else if c = 5 then rg_ui (sp_less s 1) 33 0 else sp_less s 1
theorem pn_gives {s : Nat → Int} {st r : Int} (h : 0 < st) : (sp_gives s st r).2 = pn_by s (sp_gives s st r).1 := by
  have L : sp_less s st = sp_less s 1 := by
    unfold sp_less
    rw [if_pos h, if_pos (by decide : (0 : Int) < 1)]
  unfold sp_gives
  rw [L]
  by_cases a : sp_grip s r < rf_w (2 * st)
  · rw [if_pos a]
    try rfl
  · rw [if_neg a]
    by_cases b : sp_takes s st = true
    · rw [if_pos b]
      by_cases c : sp_tears s st = true
      · rw [if_pos c]
        try rfl
      · rw [if_neg c]
        try rfl
    · rw [if_neg b]
      by_cases c : sp_goes s st = true
      · rw [if_pos c]
        try rfl
      · rw [if_neg c]
        by_cases d : sp_rolls s st = true
        · rw [if_pos d]
          try rfl
        · rw [if_neg d]
          try rfl
def pn_ls (s : Nat → Int) (t : Nat) : Bool := decide (1 < (t : Int) ∧ (t : Int) ≤ 9 ∧ (sp_gives s (t : Int) (sp_rail s)).1 = (sp_gives s ((t : Int) - 1) (sp_rail s)).1)
theorem sp_does_lt {s : Nat → Int} {t r : Int} (h : t < 10) : sp_does s t r = ((sp_gives s t r).1, sp_tick (sp_gives s t r).2) := by
  unfold sp_does
  rw [if_pos h]
theorem sp_does_ge {s : Nat → Int} {t r : Int} (h : ¬ t < 10) : sp_does s t r = (6, sp_tick (sp_other s t)) := by
  unfold sp_does
  rw [if_neg h]
theorem pn_ls_i {s : Nat → Int} {a b r : Int} (h1 : 1 < a) (h2 : a ≤ 9) (hb : b = a - 1) (h3 : (sp_gives s a r).1 = (sp_gives s b r).1) : (sp_does s a r).2 = (sp_does s b r).2 ∧ (sp_can s a = true → sp_can s b = true) ∧ (sp_does s a r).1 = (sp_does s b r).1 := by
  rw [sp_does_lt (t := a) (by omega), sp_does_lt (t := b) (by omega)]
  dsimp only
  refine ⟨?_, fun z => ?_, h3⟩
  · rw [pn_gives (st := a) (by omega), pn_gives (st := b) (by omega), h3]
  · unfold sp_can at *
    rw [if_pos (by omega)] at z ⊢
    have z' := of_decide_eq_true z
    exact decide_eq_true (by omega)
theorem pn_ls_st {s : Nat → Int} {t : Nat} (h : pn_ls s (t + 1) = true) : pn_st s (t + 1) = pn_st s t ∧ (sp_can s ((t + 1 : Nat) : Int) = true → sp_can s (t : Int) = true) ∧ (sp_does s ((t + 1 : Nat) : Int) (sp_rail s)).1 = (sp_does s (t : Int) (sp_rail s)).1 := by
  obtain ⟨h1, h2, h3⟩ := of_decide_eq_true h
  have e : (t : Int) = ((t + 1 : Nat) : Int) - 1 := by omega
  rw [← e] at h3
  exact pn_ls_i h1 h2 e h3
theorem pn_ls_0 (s : Nat → Int) : pn_ls s 0 = false := decide_eq_false fun h => by
  have := h.1
  omega
/-- the search that looks once at steam that does as one less -/
def pn_fp (F : (Nat → Int) → Option (List Int)) (s : Nat → Int) : Nat → Nat → Option (List Int)
  | 0, _ => none
  | c + 1, t => if sp_can s (t : Int) = true then (if pn_ls s t = true then pn_fp F s c (t + 1) else (match F (pn_st s t) with | some l => some ((t : Int) :: l) | none => pn_fp F s c (t + 1))) else pn_fp F s c (t + 1)
theorem pn_fp_fl {F : (Nat → Int) → Option (List Int)} {s : Nat → Int} : ∀ (c t : Nat), (∀ u, t = u + 1 → sp_can s (u : Int) = true → F (pn_st s u) = none) → pn_fp F s c t = pn_fl F s c t
  | 0, _, _ => rfl
  | c + 1, t, hp' => by
    have e : pn_fp F s (c + 1) t = (if sp_can s (t : Int) = true then (if pn_ls s t = true then pn_fp F s c (t + 1) else (match F (pn_st s t) with | some l => some ((t : Int) :: l) | none => pn_fp F s c (t + 1))) else pn_fp F s c (t + 1)) := rfl
    rw [e]
    by_cases a : sp_can s (t : Int) = true
    · rw [if_pos a]
      by_cases b : pn_ls s t = true
      · rw [if_pos b]
        have n : F (pn_st s t) = none := by
          cases t with
          | zero =>
            rw [pn_ls_0] at b
            cases b
          | succ u =>
            have q := pn_ls_st b
            rw [q.1]
            exact hp' u rfl (q.2.1 a)
        rw [pn_fl_o a n]
        exact pn_fp_fl c (t + 1) fun u hu _ => by
          have : u = t := by omega
          rw [this]
          exact n
      · rw [if_neg b]
        cases h : F (pn_st s t) with
        | some l => rw [pn_fl_y a h]
        | none =>
          rw [pn_fl_o a h]
          exact pn_fp_fl c (t + 1) fun u hu _ => by
            have : u = t := by omega
            rw [this]
            exact h
    · rw [if_neg a, pn_fl_n a]
      exact pn_fp_fl c (t + 1) fun u hu hc => by
        have : u = t := by omega
        rw [this] at hc
        exact absurd hc a
def pn_wi (g : Int) : Nat → (Nat → Int) → Option (List Int)
  | 0, _ => none
  | k + 1, s => pn_fp (fun u => if g < u 35 then some [] else pn_wi g k u) s (if k = 0 then 10 else 15) 0
theorem pn_o35 {s : Nat → Int} {t : Nat} (h : 10 ≤ t) : pn_st s t 35 = s 35 := by
  unfold pn_st sp_does
  rw [if_neg (by omega)]
  show sp_tick (sp_other s (t : Int)) 35 = s 35
  unfold sp_tick sp_other
  rw [rg_ui_n (by decide)]
  split
  · rfl
  · split
    · rfl
    · split <;> rfl
theorem pn_wi_wu {g : Int} : ∀ (k : Nat) (s : Nat → Int) (m : Int), sp_st m s → 0 ≤ m → m + (k : Int) ≤ 1000000 → s 35 = g → pn_wi g k s = pn_wu g k s
  | 0, _, _, _, _, _, _ => rfl
  | k + 1, s, m, hs, m0, hm, h35 => by
    show pn_fp (fun u => if g < u 35 then some [] else pn_wi g k u) s (if k = 0 then 10 else 15) 0 = pn_fl (fun u => if g < u 35 then some [] else pn_wu g k u) s 15 0
    rw [pn_fp_fl _ 0 fun u hu => by omega]
    have c : pn_fl (fun u => if g < u 35 then some [] else pn_wi g k u) s (if k = 0 then 10 else 15) 0 = pn_fl (fun u => if g < u 35 then some [] else pn_wi g k u) s 15 0 := by
      by_cases z : k = 0
      · rw [if_pos z]
        refine (pn_fl_ext 5 10 0 fun u u1 u2 _ => ?_).symm
        show (if g < pn_st s u 35 then some [] else pn_wi g k (pn_st s u)) = none
        rw [if_neg (by rw [pn_o35 (by omega)]; omega), z]
        try rfl
      · rw [if_neg z]
    rw [c]
    refine pn_fl_cong 15 0 fun u _ _ _ => ?_
    show (if g < pn_st s u 35 then some [] else pn_wi g k (pn_st s u)) = (if g < pn_st s u 35 then some [] else pn_wu g k (pn_st s u))
    have q := pn_35 hs (by omega) u
    by_cases y : g < pn_st s u 35
    · rw [if_pos y, if_pos y]
    · rw [if_neg y, if_neg y]
      exact pn_wi_wu k _ (m + 1) (sp_does_st hs (by omega) (u : Int) (sp_rail s)).1 (by omega) (by omega) (by omega)
/-! how many plans start -/
def ct_p (s : Nat → Int) (F : Nat → Int) : Nat → Nat → Int
  | 0, _ => 0
  | c + 1, t => (if sp_can s (t : Int) = true then F t else 0) + ct_p s F c (t + 1)
/-- all of them; those that come to so many wagons -/
def pn_ct (g : Int) : Nat → (Nat → Int) → Int
  | 0, s => if g < s 35 then 1 else 0
  | k + 1, s => ct_p s (fun t => pn_ct g k (pn_st s t)) 15 0
def pn_cw (g M : Int) : Nat → (Nat → Int) → Int
  | 0, s => if g < s 35 then (if s 36 = M then 1 else 0) else 0
  | k + 1, s => ct_p s (fun t => pn_cw g M k (pn_st s t)) 15 0
/-- those that tear nothing -/
def pn_cn (g : Int) : Nat → (Nat → Int) → Int
  | 0, s => if g < s 35 then 1 else 0
  | k + 1, s => ct_p s (fun t => if (sp_does s (t : Int) (sp_rail s)).1 = 3 then 0 else pn_cn g k (pn_st s t)) 15 0
theorem ct_p_of {s : Nat → Int} {F G : Nat → Int} : ∀ (c t : Nat), (∀ u, t ≤ u → u < t + c → sp_can s (u : Int) = true → F u = G u) → ct_p s F c t = ct_p s G c t
  | 0, _, _ => rfl
  | c + 1, t, e => by
    show (if sp_can s (t : Int) = true then F t else 0) + ct_p s F c (t + 1) = (if sp_can s (t : Int) = true then G t else 0) + ct_p s G c (t + 1)
    rw [ct_p_of c (t + 1) fun u h1 h2 h3 => e u (by omega) (by omega) h3]
    by_cases a : sp_can s (t : Int) = true
    · rw [if_pos a, if_pos a, e t (Nat.le_refl t) (by omega) a]
    · rw [if_neg a, if_neg a]
theorem ct_p_0 {s : Nat → Int} {F : Nat → Int} : ∀ (c t : Nat), (∀ u, t ≤ u → u < t + c → sp_can s (u : Int) = true → F u = 0) → ct_p s F c t = 0
  | 0, _, _ => rfl
  | c + 1, t, e => by
    show (if sp_can s (t : Int) = true then F t else 0) + ct_p s F c (t + 1) = 0
    rw [ct_p_0 c (t + 1) fun u h1 h2 h3 => e u (by omega) (by omega) h3]
    by_cases a : sp_can s (t : Int) = true
    · rw [if_pos a, e t (Nat.le_refl t) (by omega) a]
      try rfl
    · rw [if_neg a]
      try rfl
theorem ct_p_b {s : Nat → Int} {F : Nat → Int} {B : Int} (hF : ∀ u, 0 ≤ F u ∧ F u ≤ B) : ∀ (c t : Nat), 0 ≤ ct_p s F c t ∧ ct_p s F c t ≤ (c : Int) * B
  | 0, _ => by
    show 0 ≤ (0 : Int) ∧ (0 : Int) ≤ ((0 : Nat) : Int) * B
    rw [show ((0 : Nat) : Int) = 0 from rfl, Int.zero_mul]
    exact ⟨Int.le_refl _, Int.le_refl _⟩
  | c + 1, t => by
    have ih := ct_p_b (s := s) hF c (t + 1)
    have f := hF t
    have e : ((c + 1 : Nat) : Int) * B = (c : Int) * B + B := by
      rw [show ((c + 1 : Nat) : Int) = (c : Int) + 1 by omega, Int.add_mul, Int.one_mul]
    rw [e]
    show 0 ≤ (if sp_can s (t : Int) = true then F t else 0) + ct_p s F c (t + 1) ∧ (if sp_can s (t : Int) = true then F t else 0) + ct_p s F c (t + 1) ≤ (c : Int) * B + B
    split <;> omega
def pw (k : Nat) : Int := match k with
  | 0 => 1
  | k + 1 => 15 * pw k
theorem pn_ct_b {g : Int} : ∀ (k : Nat) (s : Nat → Int), 0 ≤ pn_ct g k s ∧ pn_ct g k s ≤ pw k
  | 0, s => by
    show 0 ≤ (if g < s 35 then (1 : Int) else 0) ∧ (if g < s 35 then (1 : Int) else 0) ≤ 1
    split <;> decide
  | k + 1, s => ct_p_b (fun u => pn_ct_b k (pn_st s u)) 15 0
theorem pn_cw_b {g M : Int} : ∀ (k : Nat) (s : Nat → Int), 0 ≤ pn_cw g M k s ∧ pn_cw g M k s ≤ pw k
  | 0, s => by
    show 0 ≤ (if g < s 35 then (if s 36 = M then (1 : Int) else 0) else 0) ∧ (if g < s 35 then (if s 36 = M then (1 : Int) else 0) else 0) ≤ 1
    split
    · split <;> decide
    · decide
  | k + 1, s => ct_p_b (fun u => pn_cw_b k (pn_st s u)) 15 0
theorem pn_cn_b {g : Int} : ∀ (k : Nat) (s : Nat → Int), 0 ≤ pn_cn g k s ∧ pn_cn g k s ≤ pw k
  | 0, s => by
    show 0 ≤ (if g < s 35 then (1 : Int) else 0) ∧ (if g < s 35 then (1 : Int) else 0) ≤ 1
    split <;> decide
  | k + 1, s => ct_p_b (fun u => by
      have b := pn_cn_b (g := g) k (pn_st s u)
      split <;> omega) 15 0
theorem pw_b : ∀ {k : Nat}, k ≤ 4 → 1 ≤ pw k ∧ pw k ≤ 50625 := by
  intro k h
  have e : k = 0 ∨ k = 1 ∨ k = 2 ∨ k = 3 ∨ k = 4 := by omega
  rcases e with e | e | e | e | e <;> subst e <;> decide
/-! what tears has fewer wagons -/
theorem pn_gv36 {s : Nat → Int} (st r : Int) : ((sp_gives s st r).1 = 3 ∧ (sp_gives s st r).2 36 = s 33 ∧ s 33 ≠ s 36) ∨ ((sp_gives s st r).1 ≠ 3 ∧ (sp_gives s st r).2 36 = s 36) := by
  have l36 : sp_less s st 36 = s 36 := rfl
  unfold sp_gives
  by_cases a : sp_grip s r < rf_w (2 * st)
  · rw [if_pos a]
    exact Or.inr ⟨(show (1 : Int) ≠ 3 by decide), rfl⟩
  · rw [if_neg a]
    by_cases b : sp_takes s st = true
    · rw [if_pos b]
      by_cases c : sp_tears s st = true
      · rw [if_pos c]
        exact Or.inl ⟨rfl, rfl, (of_decide_eq_true b).1⟩
      · rw [if_neg c]
        exact Or.inr ⟨(show (2 : Int) ≠ 3 by decide), rfl⟩
    · rw [if_neg b]
      by_cases c : sp_goes s st = true
      · rw [if_pos c]
        exact Or.inr ⟨(show (4 : Int) ≠ 3 by decide), rfl⟩
      · rw [if_neg c]
        by_cases d : sp_rolls s st = true
        · rw [if_pos d]
          exact Or.inr ⟨(show (5 : Int) ≠ 3 by decide), rfl⟩
        · rw [if_neg d]
          exact Or.inr ⟨(show (0 : Int) ≠ 3 by decide), rfl⟩
theorem pn_36i {s : Nat → Int} {m : Int} (hs : sp_st m s) (t r : Int) : ((sp_does s t r).1 = 3 ∧ (sp_does s t r).2 36 < s 36) ∨ ((sp_does s t r).1 ≠ 3 ∧ (sp_does s t r).2 36 = s 36) := by
  have b33 := hs.2.2.2.2.2.2.1
  have tk : ∀ u : Nat → Int, sp_tick u 36 = u 36 := fun u => by
    unfold sp_tick
    rw [rg_ui_n (by decide)]
  by_cases a : t < 10
  · rw [sp_does_lt a]
    dsimp only
    rw [tk]
    rcases pn_gv36 (s := s) t r with ⟨h1, h2, h3⟩ | ⟨h1, h2⟩
    · exact Or.inl ⟨h1, by omega⟩
    · exact Or.inr ⟨h1, h2⟩
  · rw [sp_does_ge a]
    dsimp only
    rw [tk]
    refine Or.inr ⟨by decide, ?_⟩
    unfold sp_other
    split
    · rfl
    · split
      · rfl
      · split <;> rfl
theorem pn_36 {s : Nat → Int} {m : Int} (hs : sp_st m s) (t : Nat) : ((sp_does s (t : Int) (sp_rail s)).1 = 3 ∧ pn_st s t 36 < s 36) ∨ ((sp_does s (t : Int) (sp_rail s)).1 ≠ 3 ∧ pn_st s t 36 = s 36) := pn_36i hs (t : Int) (sp_rail s)
theorem pn_cw_0 {g M : Int} : ∀ (k : Nat) (s : Nat → Int) (m : Int), sp_st m s → 0 ≤ m → m + (k : Int) ≤ 1000000 → s 36 < M → pn_cw g M k s = 0
  | 0, s, m, hs, _, _, h => by
    show (if g < s 35 then (if s 36 = M then (1 : Int) else 0) else 0) = 0
    rw [if_neg (show ¬ s 36 = M by omega)]
    split <;> rfl
  | k + 1, s, m, hs, m0, hm, h => ct_p_0 15 0 fun u _ _ _ => by
      refine pn_cw_0 k (pn_st s u) (m + 1) (sp_does_st hs (by omega) (u : Int) (sp_rail s)).1 (by omega) (by omega) ?_
      rcases pn_36 hs u with ⟨_, z⟩ | ⟨_, z⟩ <;> omega
theorem pn_cw_cn {g M : Int} : ∀ (k : Nat) (s : Nat → Int) (m : Int), sp_st m s → 0 ≤ m → m + (k : Int) ≤ 1000000 → s 36 = M → pn_cw g M k s = pn_cn g k s
  | 0, s, m, hs, _, _, h => by
    show (if g < s 35 then (if s 36 = M then (1 : Int) else 0) else 0) = (if g < s 35 then (1 : Int) else 0)
    rw [if_pos h]
  | k + 1, s, m, hs, m0, hm, h => ct_p_of 15 0 fun u _ _ _ => by
      have st := (sp_does_st hs (by omega) (u : Int) (sp_rail s)).1
      show pn_cw g M k (pn_st s u) = (if (sp_does s (u : Int) (sp_rail s)).1 = 3 then 0 else pn_cn g k (pn_st s u))
      rcases pn_36 hs u with ⟨y, z⟩ | ⟨y, z⟩
      · rw [if_pos y]
        exact pn_cw_0 k (pn_st s u) (m + 1) st (by omega) (by omega) (by omega)
      · rw [if_neg y]
        exact pn_cw_cn k (pn_st s u) (m + 1) st (by omega) (by omega) (by omega)
