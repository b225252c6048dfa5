/-! What the answers are to each other: plans found and counted, plans done and reckoned, chances, the book, the tries. -/
theorem pq_fl_y {F : (Nat → Int) → Option (List Int)} {s : Nat → Int} : ∀ (c t : Nat) (l : List Int), pn_fl F s c t = some l → ∃ (u : Nat) (l' : List Int), t ≤ u ∧ u < t + c ∧ sp_can s (u : Int) = true ∧ F (pn_st s u) = some l' ∧ l = (u : Int) :: l'
  | 0, t, l, h => by cases h
  | c + 1, t, l, h => by
    by_cases a : sp_can s (t : Int) = true
    · cases hF : F (pn_st s t) with
      | some l' =>
        rw [pn_fl_y a hF] at h
        cases h
        exact ⟨t, l', Nat.le_refl _, by omega, a, hF, rfl⟩
      | none =>
        rw [pn_fl_o a hF] at h
        obtain ⟨u, l', h1, h2, h3⟩ := pq_fl_y c (t + 1) l h
        exact ⟨u, l', by omega, by omega, h3⟩
    · rw [pn_fl_n a] at h
      obtain ⟨u, l', h1, h2, h3⟩ := pq_fl_y c (t + 1) l h
      exact ⟨u, l', by omega, by omega, h3⟩
theorem pq_fx_s {g : Int} {k : Nat} {s : Nat → Int} {l : List Int} (h : pn_fx g (k + 1) s = some l) : ∃ (u : Nat) (l' : List Int), u ≤ 14 ∧ sp_can s (u : Int) = true ∧ pn_fx g k (pn_st s u) = some l' ∧ l = (u : Int) :: l' := by
  obtain ⟨u, l', h1, h2, h3, h4, h5⟩ := pq_fl_y 15 0 l h
  exact ⟨u, l', by omega, h3, h4, h5⟩
theorem pq_ct_0 {s : Nat → Int} {F : Nat → Int} (hF : ∀ u, 0 ≤ F u) : ∀ (c t : Nat), 0 ≤ ct_p s F c t ∧ (ct_p s F c t = 0 ↔ ∀ u, t ≤ u → u < t + c → sp_can s (u : Int) = true → F u = 0)
  | 0, t => ⟨Int.le_refl _, fun _ u h1 h2 => by omega, fun _ => rfl⟩
  | c + 1, t => by
    obtain ⟨i1, i2⟩ := pq_ct_0 (s := s) hF c (t + 1)
    have e : ct_p s F (c + 1) t = (if sp_can s (t : Int) = true then F t else 0) + ct_p s F c (t + 1) := rfl
    have f := hF t
    rw [e]
    by_cases a : sp_can s (t : Int) = true
    · rw [if_pos a]
      refine ⟨by omega, fun h u h1 h2 h3 => ?_, fun h => ?_⟩
      · by_cases z : u = t
        · rw [z]
          omega
        · exact i2.1 (by omega) u (by omega) (by omega) h3
      · have := i2.2 fun u h1 h2 h3 => h u (by omega) (by omega) h3
        have := h t (Nat.le_refl _) (by omega) a
        omega
    · rw [if_neg a]
      refine ⟨by omega, fun h u h1 h2 h3 => ?_, fun h => ?_⟩
      · by_cases z : u = t
        · rw [z] at h3
          exact absurd h3 a
        · exact i2.1 (by omega) u (by omega) (by omega) h3
      · have := i2.2 fun u h1 h2 h3 => h u (by omega) (by omega) h3
        omega
theorem pq_ct_fx {g : Int} : ∀ (k : Nat) (s : Nat → Int), pn_ct g k s = 0 ↔ pn_fx g k s = none
  | 0, s => by
    show (if g < s 35 then (1 : Int) else 0) = 0 ↔ (if g < s 35 then some ([] : List Int) else none) = none
    by_cases a : g < s 35
    · rw [if_pos a, if_pos a]
      exact ⟨fun h => by omega, fun h => by cases h⟩
    · rw [if_neg a, if_neg a]
      exact ⟨fun _ => rfl, fun _ => rfl⟩
  | k + 1, s => by
    have e := (pq_ct_0 (s := s) (F := fun t => pn_ct g k (pn_st s t)) (fun u => (pn_ct_b k (pn_st s u)).1) 15 0).2
    have e2 := pn_fl_none (F := pn_fx g k) (s := s) 15 0
    show ct_p s (fun t => pn_ct g k (pn_st s t)) 15 0 = 0 ↔ pn_fl (pn_fx g k) s 15 0 = none
    rw [e, e2]
    exact ⟨fun h u h1 h2 h3 => (pq_ct_fx k _).1 (h u h1 h2 h3), fun h u h1 h2 h3 => (pq_ct_fx k _).2 (h u h1 h2 h3)⟩
theorem pq_ct_le {s : Nat → Int} {F G : Nat → Int} (h : ∀ u, F u ≤ G u) : ∀ (c t : Nat), ct_p s F c t ≤ ct_p s G c t
  | 0, _ => Int.le_refl _
  | c + 1, t => by
    have i := pq_ct_le (s := s) h c (t + 1)
    have a := h t
    show (if sp_can s (t : Int) = true then F t else 0) + ct_p s F c (t + 1) ≤ (if sp_can s (t : Int) = true then G t else 0) + ct_p s G c (t + 1)
    split <;> omega
theorem pq_cn_ct {g : Int} : ∀ (k : Nat) (s : Nat → Int), pn_cn g k s ≤ pn_ct g k s
  | 0, _ => Int.le_refl _
  | k + 1, s => by
    refine pq_ct_le (fun u => ?_) 15 0
    show (if (sp_does s (u : Int) (sp_rail s)).1 = 3 then 0 else pn_cn g k (pn_st s u)) ≤ pn_ct g k (pn_st s u)
    split
    · exact (pn_ct_b k _).1
    · exact pq_cn_ct k _
/-- the shortest: found first at J -/
theorem pq_sh_fx {A : Nat → Int} : ∀ (c j J : Nat) (l : List Int), sh_v A c j = some (J, l) → pn_fx (A 35) J A = some l ∧ ∀ i, j ≤ i → i < J → pn_fx (A 35) i A = none
  | 0, _, _, _, h => by cases h
  | c + 1, j, J, l, h => by
    cases hf : pn_fx (A 35) j A with
    | some l' =>
      rw [sh_y hf] at h
      cases h
      exact ⟨hf, fun i h1 h2 => by omega⟩
    | none =>
      rw [sh_n hf] at h
      obtain ⟨h1, h2⟩ := pq_sh_fx c (j + 1) J l h
      refine ⟨h1, fun i h3 h4 => ?_⟩
      by_cases z : i = j
      · rw [z]
        exact hf
      · exact h2 i (by omega) h4
theorem pq_sh_no {A : Nat → Int} : ∀ (c j : Nat), sh_v A c j = none → ∀ i, j ≤ i → i < j + c → pn_fx (A 35) i A = none
  | 0, _, _, i, h1, h2 => by omega
  | c + 1, j, h, i, h1, h2 => by
    cases hf : pn_fx (A 35) j A with
    | some l' =>
      rw [sh_y hf] at h
      cases h
    | none =>
      rw [sh_n hf] at h
      by_cases z : i = j
      · rw [z]
        exact hf
      · exact pq_sh_no c (j + 1) h i (by omega) (by omega)
theorem pq_sa_b {A : Nat → Int} {n : Nat} : ∀ (c k : Nat), sa_v A n c k = -9 ∨ ((k : Int) ≤ sa_v A n c k ∧ sa_v A n c k < (k : Int) + (c : Int))
  | 0, _ => Or.inl rfl
  | c + 1, k => by
    show (if sf_v A n k = true then (k : Int) else sa_v A n c (k + 1)) = -9 ∨ _
    have e : sa_v A n (c + 1) k = (if sf_v A n k = true then (k : Int) else sa_v A n c (k + 1)) := rfl
    rw [e]
    split
    · right
      omega
    · rcases pq_sa_b (A := A) (n := n) c (k + 1) with h | h
      · exact Or.inl h
      · right
        omega
theorem pq_sa_0 {A : Nat → Int} {n c : Nat} (h33 : A 33 ≤ A 36) {J : Nat} {l : List Int} (h : pn_fx (A 35) J A = some l) (j1 : 1 ≤ J) (jn : J ≤ n) : sa_v A n (c + 1) 0 = 0 := by
  have e : sa_v A n (c + 1) 0 = (if sf_v A n 0 = true then ((0 : Nat) : Int) else sa_v A n c (0 + 1)) := rfl
  have hs : sf_v A n 0 = true := by
    unfold sf_v
    rw [show ((0 : Nat) : Int) = 0 from rfl, sy_0 h33]
    cases hw : pn_wu (A 35) n A with
    | some _ => rfl
    | none =>
      have := (pn_wu_none n A).1 hw J j1 jn
      rw [h] at this
      cases this
  rw [e, if_pos hs]
  rfl
/-- a plan that is found starts -/
theorem pq_rn_fx {s f : Nat → Int} {g : Int} : ∀ (k i : Nat) (l : List Int), pn_fx g k (rn_s s f i) = some l → (∀ (q : Nat) (v : Int), l[q]? = some v → f (i + q) = v) → g < rn_s s f (i + k) 35 ∧ ∀ q, q < k → (0 ≤ f (i + q) ∧ f (i + q) ≤ 14) ∧ sp_can (rn_s s f (i + q)) (f (i + q)) = true
  | 0, i, l, h, _ => by
    have h' : (if g < rn_s s f i 35 then some ([] : List Int) else none) = some l := h
    by_cases a : g < rn_s s f i 35
    · exact ⟨a, fun q hq => by omega⟩
    · rw [if_neg a] at h'
      cases h'
  | k + 1, i, l, h, hl => by
    obtain ⟨u, l', h1, h2, h3, rfl⟩ := pq_fx_s h
    have f0 : f i = (u : Int) := hl 0 _ rfl
    have st : rn_s s f (i + 1) = pn_st (rn_s s f i) u := by
      show (if sp_can (rn_s s f i) (f i) = true then (sp_does (rn_s s f i) (f i) (sp_rail (rn_s s f i))).2 else rn_s s f i) = _
      rw [f0, if_pos h2]
      rfl
    rw [← st] at h3
    obtain ⟨i1, i2⟩ := pq_rn_fx k (i + 1) l' h3 fun q v hq => by
      have := hl (q + 1) v hq
      rw [show i + 1 + q = i + (q + 1) by omega]
      exact this
    refine ⟨by rw [show i + (k + 1) = i + 1 + k by omega]; exact i1, fun q hq => ?_⟩
    by_cases z : q = 0
    · rw [z, Nat.add_zero, f0]
      exact ⟨by omega, h2⟩
    · have := i2 (q - 1) (by omega)
      rw [show i + 1 + (q - 1) = i + q by omega] at this
      exact this
/-! the worst minute -/
theorem pq_ba {s : Nat → Int} : ∀ (k : Nat), (ba_v s k).1 ≤ sp_grip s (ba_r s 0) ∧ s 34 ≤ (ba_v s k).2 ∧ (ba_v s k).2 ≤ s 34 + (k : Int)
  | 0 => ⟨Int.le_refl _, Int.le_refl _, by show s 34 ≤ s 34 + ((0 : Nat) : Int); omega⟩
  | k + 1 => by
    obtain ⟨i1, i2, i3⟩ := pq_ba (s := s) k
    have e : ba_v s (k + 1) = (if sp_grip s (ba_r s (k + 1)) < (ba_v s k).1 then (sp_grip s (ba_r s (k + 1)), s 34 + ((k + 1 : Nat) : Int)) else ba_v s k) := rfl
    rw [e]
    split
    · exact ⟨by show sp_grip s (ba_r s (k + 1)) ≤ _; omega, by show s 34 ≤ s 34 + ((k + 1 : Nat) : Int); omega, by show s 34 + ((k + 1 : Nat) : Int) ≤ _; omega⟩
    · exact ⟨i1, i2, by omega⟩
/-! steam -/
theorem pq_gv {s : Nat → Int} {st r : Int} (s0 : 0 ≤ st) (s9 : st ≤ 9) : (0 ≤ (sp_gives s st r).1 ∧ (sp_gives s st r).1 ≤ 5) ∧ ((sp_gives s st r).1 = 1 ↔ sp_grip s r < 2 * st) := by
  have x : rf_w (2 * st) = 2 * st := rg_w (by omega) (by omega)
  unfold sp_gives
  rw [x]
  by_cases a : sp_grip s r < 2 * st
  · rw [if_pos a]
    exact ⟨⟨(by decide : (0 : Int) ≤ 1), (by decide : (1 : Int) ≤ 5)⟩, fun _ => a, fun _ => rfl⟩
  · rw [if_neg a]
    have key : ∀ (z : Int) (f : Nat → Int), (z = 0 ∨ (2 ≤ z ∧ z ≤ 5)) → (0 ≤ ((z, f) : Int × (Nat → Int)).1 ∧ ((z, f) : Int × (Nat → Int)).1 ≤ 5) ∧ (((z, f) : Int × (Nat → Int)).1 = 1 ↔ sp_grip s r < 2 * st) := fun z f hv => by
      show (0 ≤ z ∧ z ≤ 5) ∧ (z = 1 ↔ sp_grip s r < 2 * st)
      exact ⟨by omega, fun h => by omega, fun h => absurd h a⟩
    split
    · split
      · exact key 3 _ (Or.inr ⟨by decide, by decide⟩)
      · exact key 2 _ (Or.inr ⟨by decide, by decide⟩)
    · split
      · exact key 4 _ (Or.inr ⟨by decide, by decide⟩)
      · split
        · exact key 5 _ (Or.inr ⟨by decide, by decide⟩)
        · exact key 0 _ (Or.inl rfl)
theorem pq_do {s : Nat → Int} {t r : Int} (t0 : 0 ≤ t) (t14 : t ≤ 14) : 0 ≤ (sp_does s t r).1 ∧ (sp_does s t r).1 ≤ 6 := by
  by_cases a : t < 10
  · rw [sp_does_lt a]
    have := (pq_gv (s := s) (st := t) (r := r) t0 (by omega)).1
    exact ⟨this.1, by show (sp_gives s t r).1 ≤ 6; omega⟩
  · rw [sp_does_ge a]
    exact ⟨(by decide : (0 : Int) ≤ 6), Int.le_refl 6⟩
/-! chances -/
theorem pq_od12 {f p : Nat → Int} {g : Int} (h0 : p 0 = 12) (h1 : p 1 = 0) (h2 : p 2 = 0) : ∀ (k i : Nat) (s : Nat → Int), od_v f p g k i s = 0 ∨ od_v f p g k i s = tw k
  | 0, i, s => by
    show (if g < s 35 then (1 : Int) else 0) = 0 ∨ (if g < s 35 then (1 : Int) else 0) = 1
    split
    · exact Or.inr rfl
    · exact Or.inl rfl
  | k + 1, i, s => by
    have t : tw (k + 1) = 12 * tw k := rfl
    have key : ∀ z : Int, (z = 0 ∨ z = tw k) → 12 * z = 0 ∨ 12 * z = tw (k + 1) := fun z hz => by
      rw [t]
      rcases hz with h | h <;> rw [h]
      · exact Or.inl rfl
      · exact Or.inr rfl
    have e : od_v f p g (k + 1) i s = (if sp_can s (f i) = true then (if 9 < f i then 12 * od_v f p g k (i + 1) (sp_does s (f i) 0).2 else (p 0 * od_v f p g k (i + 1) (sp_does s (f i) 0).2 + p 1 * od_v f p g k (i + 1) (sp_does s (f i) 1).2) + p 2 * od_v f p g k (i + 1) (sp_does s (f i) 2).2) else 12 * od_v f p g k (i + 1) s) := rfl
    rw [e]
    split
    · split
      · exact key _ (pq_od12 h0 h1 h2 k (i + 1) _)
      · rw [h0, h1, h2, Int.zero_mul, Int.zero_mul, Int.add_zero, Int.add_zero]
        exact key _ (pq_od12 h0 h1 h2 k (i + 1) _)
    · exact key _ (pq_od12 h0 h1 h2 k (i + 1) _)
theorem pq_gc0 : ∀ k, k < 7 → gc_v 128 0 (tw k) = tw k ∧ gc_v 128 (tw k) (tw k) = tw k := by decide +kernel
theorem pq_div {a b g : Int} (h0 : 0 ≤ a) (h1 : a ≤ b) (hg : 1 ≤ g) (hb : b ≤ 2985984) : 0 ≤ rf_wl (Int.tdiv a g) ∧ rf_wl (Int.tdiv a g) ≤ rf_wl (Int.tdiv b g) := by
  have e1 : Int.tdiv a g = a / g := Int.tdiv_eq_ediv_of_nonneg h0
  have e2 : Int.tdiv b g = b / g := Int.tdiv_eq_ediv_of_nonneg (by omega)
  have a0 : 0 ≤ a / g := Int.ediv_nonneg h0 (by omega)
  have b0 : 0 ≤ b / g := Int.ediv_nonneg (by omega) (by omega)
  have ab : a / g ≤ b / g := Int.ediv_le_ediv (by omega) h1
  have bb : b / g ≤ b := Int.ediv_le_self g (by omega)
  rw [e1, e2, xs_wl a0 (by omega), xs_wl b0 (by omega)]
  exact ⟨a0, ab⟩
theorem pq_one {b : Int} (h : 1 ≤ b) (hb : b ≤ 2985984) : rf_wl (Int.tdiv b b) = 1 := by
  rw [Int.tdiv_self (by omega)]
  rfl
/-! the book -/
theorem pq_ct0 {f : Nat → Int} {w : Int} : ∀ (T : Nat), (∀ t, t < T → li_v f w t = 0) → ct_v f w T = 0
  | 0, _ => rfl
  | T + 1, h => by
    have i := pq_ct0 T fun t ht => h t (by omega)
    show (if li_v f w T = 0 then rf_w (ct_v f w T + 0) else rf_w (ct_v f w T + 1)) = 0
    rw [if_pos (h T (by omega)), i]
    rfl
def pq_wf (b : Nat → Bool) : Nat → Int
  | 0 => 0
  | k + 1 => if b (k + 1) = true then rf_or (pq_wf b k) (rf_shl 1 ((k + 1 : Nat) : Int)) else pq_wf b k
theorem pq_wf_c {b c : Nat → Bool} : ∀ (k : Nat), (∀ w, 1 ≤ w → w ≤ k → b w = c w) → pq_wf b k = pq_wf c k
  | 0, _ => rfl
  | k + 1, h => by
    show (if b (k + 1) = true then rf_or (pq_wf b k) (rf_shl 1 ((k + 1 : Nat) : Int)) else pq_wf b k) = (if c (k + 1) = true then rf_or (pq_wf c k) (rf_shl 1 ((k + 1 : Nat) : Int)) else pq_wf c k)
    rw [pq_wf_c k fun w h1 h2 => h w h1 (by omega), h (k + 1) (by omega) (by omega)]
theorem pq_wt_wf (f : Nat → Int) (T : Nat) : ∀ (k : Nat), wt_v f T k = pq_wf (fun w => decide (ct_v f (w : Int) T = 0)) k
  | 0 => rfl
  | k + 1 => by
    show (if ct_v f ((k + 1 : Nat) : Int) T = 0 then rf_or (wt_v f T k) (rf_shl 1 ((k + 1 : Nat) : Int)) else wt_v f T k) = (if decide (ct_v f ((k + 1 : Nat) : Int) T = 0) = true then rf_or (pq_wf (fun w => decide (ct_v f (w : Int) T = 0)) k) (rf_shl 1 ((k + 1 : Nat) : Int)) else pq_wf (fun w => decide (ct_v f (w : Int) T = 0)) k)
    rw [pq_wt_wf f T k]
    by_cases z : ct_v f ((k + 1 : Nat) : Int) T = 0
    · rw [if_pos z, if_pos (decide_eq_true z)]
    · rw [if_neg z, if_neg (by rw [decide_eq_true_eq]; exact z)]
def pq_bv (b1 b2 b3 b4 b5 b6 b7 b8 b9 : Bool) (w : Nat) : Bool := match w with
  | 1 => b1
  | 2 => b2
  | 3 => b3
  | 4 => b4
  | 5 => b5
  | 6 => b6
  | 7 => b7
  | 8 => b8
  | 9 => b9
  | _ => false
def pq_bc (b : Nat → Bool) : Bool := decide (0 ≤ pq_wf b 9 ∧ pq_wf b 9 < 1024 ∧ rf_and (pq_wf b 9) (-1023) = 0) && (List.range 9).all fun i => decide (rf_and (rf_shr (pq_wf b 9) ((i + 1 : Nat) : Int)) 1 = if b (i + 1) = true then 1 else 0)
theorem pq_b0 : ∀ b3 b4 b5 b6 b7 b8 b9 : Bool, pq_bc (pq_bv false false b3 b4 b5 b6 b7 b8 b9) = true := by decide +kernel
theorem pq_b1 : ∀ b3 b4 b5 b6 b7 b8 b9 : Bool, pq_bc (pq_bv true false b3 b4 b5 b6 b7 b8 b9) = true := by decide +kernel
theorem pq_b2 : ∀ b3 b4 b5 b6 b7 b8 b9 : Bool, pq_bc (pq_bv false true b3 b4 b5 b6 b7 b8 b9) = true := by decide +kernel
theorem pq_b3 : ∀ b3 b4 b5 b6 b7 b8 b9 : Bool, pq_bc (pq_bv true true b3 b4 b5 b6 b7 b8 b9) = true := by decide +kernel
theorem pq_ball (b : Nat → Bool) : (0 ≤ pq_wf b 9 ∧ pq_wf b 9 < 1024 ∧ rf_and (pq_wf b 9) (-1023) = 0) ∧ ∀ w : Nat, 1 ≤ w → w ≤ 9 → rf_and (rf_shr (pq_wf b 9) (w : Int)) 1 = if b w = true then 1 else 0 := by
  have e := pq_wf_c (b := b) (c := pq_bv (b 1) (b 2) (b 3) (b 4) (b 5) (b 6) (b 7) (b 8) (b 9)) 9 fun w h1 h2 => by
    have h : w = 1 ∨ w = 2 ∨ w = 3 ∨ w = 4 ∨ w = 5 ∨ w = 6 ∨ w = 7 ∨ w = 8 ∨ w = 9 := by omega
    rcases h with rfl | rfl | rfl | rfl | rfl | rfl | rfl | rfl | rfl <;> rfl
  have c : pq_bc (pq_bv (b 1) (b 2) (b 3) (b 4) (b 5) (b 6) (b 7) (b 8) (b 9)) = true := by
    cases b 1 <;> cases b 2
    · exact pq_b0 _ _ _ _ _ _ _
    · exact pq_b2 _ _ _ _ _ _ _
    · exact pq_b1 _ _ _ _ _ _ _
    · exact pq_b3 _ _ _ _ _ _ _
  rw [e]
  unfold pq_bc at c
  obtain ⟨c1, c2⟩ := Bool.and_eq_true_iff.mp c
  refine ⟨of_decide_eq_true c1, fun w h1 h2 => ?_⟩
  have c3 := of_decide_eq_true (List.all_eq_true.mp c2 (w - 1) (List.mem_range.mpr (by omega)))
  rw [show w - 1 + 1 = w by omega] at c3
  rw [c3]
  have h : w = 1 ∨ w = 2 ∨ w = 3 ∨ w = 4 ∨ w = 5 ∨ w = 6 ∨ w = 7 ∨ w = 8 ∨ w = 9 := by omega
  rcases h with rfl | rfl | rfl | rfl | rfl | rfl | rfl | rfl | rfl <;> rfl
/-! the tries -/
theorem pq_tr {set rail : Int} (r0 : 0 ≤ rail) (r2 : rail ≤ 2) : ∀ (k : Nat), k ≤ 9 → (0 ≤ (tr_v set rail k).1 ∧ (tr_v set rail k).1 ≤ (k : Int)) ∧ (tr_v set rail k).2 ≤ pc_v set 9 ∧ pc_v set 9 ≤ 2 * (tr_v set rail k).2
  | 0, _ => by
    have b := sg_b set rail 0 (k := 9) (by decide)
    exact ⟨⟨Int.le_refl _, Int.le_refl _⟩, Int.le_refl _, by show pc_v set 9 ≤ 2 * pc_v set 9; omega⟩
  | k + 1, h => by
    obtain ⟨i1, i2, i3⟩ := pq_tr (set := set) r0 r2 k (by omega)
    have b := sg_b set rail ((k + 1 : Nat) : Int) (k := 9) (by decide)
    have mo : pc_v set 9 ≤ 2 * mo_v set rail ((k + 1 : Nat) : Int) ∧ mo_v set rail ((k + 1 : Nat) : Int) ≤ pc_v set 9 := by
      unfold mo_v
      split <;> omega
    have e : tr_v set rail (k + 1) = (if mo_v set rail ((k + 1 : Nat) : Int) < (tr_v set rail k).2 then (((k + 1 : Nat) : Int), mo_v set rail ((k + 1 : Nat) : Int)) else tr_v set rail k) := rfl
    rw [e]
    split
    · exact ⟨⟨by show 0 ≤ ((k + 1 : Nat) : Int); omega, Int.le_refl _⟩, mo.2, mo.1⟩
    · exact ⟨⟨i1.1, by omega⟩, i2, i3⟩
