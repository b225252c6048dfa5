/-! The chain of a train's states: which places count, and what bounds them. -/
def E37 (u s : Nat → Int) : Prop := ∀ j, j < 37 → u j = s j
def pt (s w : Nat → Int) : Nat → Int := fun j => if j < 37 then s j else w j
theorem pt_lt {s w : Nat → Int} {j : Nat} (h : j < 37) : pt s w j = s j := if_pos h
theorem pt_ui {s w : Nat → Int} {i : Nat} {v : Int} (h : i < 37) : rg_ui (pt s w) i v = pt (rg_ui s i v) w := by
  funext j
  by_cases e : j = i
  · rw [e, rg_ui_s, pt_lt h, rg_ui_s]
  · rw [rg_ui_n e]
    unfold pt
    rw [rg_ui_n e]
theorem pt_E {u s : Nat → Int} (h : E37 u s) : u = pt s u := by
  funext j
  by_cases e : j < 37
  · rw [pt_lt e, h j e]
  · unfold pt
    rw [if_neg e]
theorem pt_weighs {s w : Nat → Int} {n : Nat} (h : n ≤ 6) : sp_weighs (pt s w) (n : Int) = sp_weighs s (n : Int) := by
  unfold sp_weighs sp_plain sp_kind sp_tons
  rw [pt_lt (show (9 + 3 * (n : Int)).toNat < 37 by omega), pt_lt (show (9 + 3 * (n : Int) + 1).toNat < 37 by omega), pt_lt (show 31 < 37 by decide), pt_lt (show 1 < 37 by decide)]
theorem pt_load {s w : Nat → Int} : ∀ {n : Nat}, n ≤ 7 → sp_load (pt s w) n = sp_load s n
  | 0, _ => rfl
  | n + 1, h => by
    show rf_w (sp_load (pt s w) n + sp_weighs (pt s w) (n : Int)) = rf_w (sp_load s n + sp_weighs s (n : Int))
    rw [pt_load (by omega), pt_weighs (by omega)]
theorem pt_holds {s w : Nat → Int} {i : Int} (h0 : 0 ≤ i) (h : i ≤ 6) : sp_holds (pt s w) i = sp_holds s i := by
  unfold sp_holds sp_kind sp_coup
  rw [pt_lt (show (9 + 3 * i).toNat < 37 by omega), pt_lt (show (9 + 3 * i + 2).toNat < 37 by omega)]
theorem pt_slack {s w : Nat → Int} {i : Int} (h0 : 0 ≤ i) (h : i ≤ 6) : sp_slack (pt s w) i = sp_slack s i := by
  unfold sp_slack sp_kind
  rw [pt_lt (show (9 + 3 * i).toNat < 37 by omega)]
theorem pt_grip {s w : Nat → Int} {r : Int} : sp_grip (pt s w) r = sp_grip s r := by
  unfold sp_grip sp_bare
  rw [pt_lt (show 0 < 37 by decide), pt_lt (show 29 < 37 by decide), pt_lt (show 30 < 37 by decide)]
theorem pt_takes {s w : Nat → Int} (h0 : 0 ≤ s 33) (h : s 33 ≤ 6) {st : Int} : sp_takes (pt s w) st = sp_takes s st := by
  unfold sp_takes
  rw [pt_lt (show 33 < 37 by decide), pt_lt (show 36 < 37 by decide), pt_lt (show 31 < 37 by decide), pt_load (by omega)]
theorem pt_tears {s w : Nat → Int} (h0 : 0 ≤ s 33) (h : s 33 ≤ 6) {st : Int} : sp_tears (pt s w) st = sp_tears s st := by
  unfold sp_tears
  rw [pt_lt (show 33 < 37 by decide), pt_load (by omega), pt_holds h0 h, pt_slack h0 h]
theorem pt_goes {s w : Nat → Int} (h0 : 0 ≤ s 33) (h : s 33 ≤ 6) {st : Int} : sp_goes (pt s w) st = sp_goes s st := by
  unfold sp_goes
  rw [pt_lt (show 33 < 37 by decide), pt_lt (show 36 < 37 by decide), pt_lt (show 31 < 37 by decide), pt_load (by omega)]
theorem pt_rolls {s w : Nat → Int} (h0 : 0 ≤ s 33) (h : s 33 ≤ 6) {st : Int} : sp_rolls (pt s w) st = sp_rolls s st := by
  unfold sp_rolls
  rw [pt_lt (show 33 < 37 by decide), pt_lt (show 31 < 37 by decide), pt_load (by omega)]
theorem pt_less {s w : Nat → Int} {st : Int} : sp_less (pt s w) st = pt (sp_less s st) w := by
  unfold sp_less
  rw [pt_ui (by decide), pt_lt (show 27 < 37 by decide), pt_ui (by decide)]
theorem pt_gives {s w : Nat → Int} (h0 : 0 ≤ s 33) (h : s 33 ≤ 6) {st r : Int} : sp_gives (pt s w) st r = ((sp_gives s st r).1, pt (sp_gives s st r).2 w) := by
  unfold sp_gives
  rw [pt_grip, pt_takes h0 h, pt_tears h0 h, pt_goes h0 h, pt_rolls h0 h, pt_less, pt_lt (show 29 < 37 by decide), pt_lt (show 27 < 37 by decide), pt_lt (show 33 < 37 by decide), pt_lt (show 35 < 37 by decide)]
  by_cases a : sp_grip s r < rf_w (2 * st)
  · rw [if_pos a, if_pos a, pt_ui (by decide), pt_ui (by decide), pt_ui (by decide)]
  · rw [if_neg a, if_neg a]
    by_cases b : sp_takes s st = true
    · rw [if_pos b, if_pos b]
      by_cases c : sp_tears s st = true
      · rw [if_pos c, if_pos c, pt_ui (by decide), pt_ui (by decide), pt_ui (by decide)]
      · rw [if_neg c, if_neg c, pt_ui (by decide)]
    · rw [if_neg b, if_neg b]
      by_cases c : sp_goes s st = true
      · rw [if_pos c, if_pos c, pt_ui (by decide)]
      · rw [if_neg c, if_neg c]
        by_cases e : sp_rolls s st = true
        · rw [if_pos e, if_pos e, pt_ui (by decide)]
        · rw [if_neg e, if_neg e]
theorem pt_other {s w : Nat → Int} {t : Int} : sp_other (pt s w) t = pt (sp_other s t) w := by
  unfold sp_other
  rw [pt_lt (show 28 < 37 by decide), pt_lt (show 27 < 37 by decide)]
  by_cases a : t = 10
  · rw [if_pos a, if_pos a, pt_ui (by decide), pt_ui (by decide)]
  · rw [if_neg a, if_neg a]
    by_cases b : t = 11
    · rw [if_pos b, if_pos b, pt_ui (by decide)]
    · rw [if_neg b, if_neg b]
      by_cases c : t = 12
      · rw [if_pos c, if_pos c, pt_ui (by decide)]
      · rw [if_neg c, if_neg c, pt_ui (by decide)]
theorem pt_tick {s w : Nat → Int} : sp_tick (pt s w) = pt (sp_tick s) w := by
  unfold sp_tick
  rw [pt_lt (show 34 < 37 by decide), pt_ui (by decide)]
theorem pt_does {s w : Nat → Int} (h0 : 0 ≤ s 33) (h : s 33 ≤ 6) {t r : Int} : sp_does (pt s w) t r = ((sp_does s t r).1, pt (sp_does s t r).2 w) := by
  unfold sp_does
  by_cases a : t < 10
  · rw [if_pos a, if_pos a, pt_gives h0 h]
    show (_, sp_tick (pt _ w)) = _
    rw [pt_tick]
  · rw [if_neg a, if_neg a, pt_other, pt_tick]
theorem pt_rail {s w : Nat → Int} (h : 0 ≤ s 34) (h1 : 1 ≤ s 2) (h2 : s 2 ≤ 6) : sp_rail (pt s w) = sp_rail s := by
  have a : 0 ≤ Int.tmod (s 34) (s 2) := Int.tmod_nonneg _ h
  have b : Int.tmod (s 34) (s 2) < s 2 := Int.tmod_lt_of_pos _ (by omega)
  unfold sp_rail
  rw [pt_lt (show 34 < 37 by decide), pt_lt (show 2 < 37 by decide), pt_lt (by omega)]
theorem pt_can {s w : Nat → Int} {t : Int} : sp_can (pt s w) t = sp_can s t := by
  unfold sp_can
  rw [pt_lt (show 27 < 37 by decide), pt_lt (show 28 < 37 by decide), pt_lt (show 32 < 37 by decide)]
theorem E37.does {u s : Nat → Int} (h : E37 u s) (h0 : 0 ≤ s 33) (h6 : s 33 ≤ 6) (t r : Int) : (sp_does u t r).1 = (sp_does s t r).1 ∧ E37 (sp_does u t r).2 (sp_does s t r).2 := by
  have e := pt_does (w := u) h0 h6 (t := t) (r := r)
  rw [← pt_E h] at e
  rw [e]
  exact ⟨rfl, fun j hj => pt_lt hj⟩
theorem E37.rail {u s : Nat → Int} (h : E37 u s) (h34 : 0 ≤ s 34) (h1 : 1 ≤ s 2) (h2 : s 2 ≤ 6) : sp_rail u = sp_rail s := by
  have e := pt_rail (w := u) h34 h1 h2
  rw [← pt_E h] at e
  exact e
theorem E37.st {u s : Nat → Int} (h : E37 u s) {m : Int} (hs : sp_st m s) : sp_st m u := by
  unfold sp_st
  rw [h 27 (by decide), h 28 (by decide), h 29 (by decide), h 30 (by decide), h 31 (by decide), h 32 (by decide), h 33 (by decide), h 34 (by decide), h 35 (by decide), h 36 (by decide)]
  exact hs
theorem sp_gives_36 {s : Nat → Int} {m : Int} (hs : sp_st m s) (st r : Int) : (sp_gives s st r).2 36 ≤ s 36 := by
  have a := hs.2.2.2.2.2.2.1
  have l36 : sp_less s st 36 = s 36 := rfl
  unfold sp_gives
  split
  · exact Int.le_refl _
  · split
    · split
      · exact a.2.1
      · exact Int.le_refl _
    · split
      · exact Int.le_refl _
      · split
        · exact Int.le_refl _
        · exact Int.le_refl _
theorem sp_does_36 {s : Nat → Int} {m : Int} (hs : sp_st m s) (t r : Int) : (sp_does s t r).2 36 ≤ s 36 := by
  unfold sp_does
  split
  · exact sp_gives_36 hs t r
  · unfold sp_other
    show sp_tick _ 36 ≤ _
    split
    · exact Int.le_refl _
    · split
      · exact Int.le_refl _
      · split
        · exact Int.le_refl _
        · exact Int.le_refl _
theorem sp_bg_of {A A' : Nat → Int} (h : ∀ j, j < 27 → A' j = A j) (a b W : Int) : sp_bg A' a b W = sp_bg A a b W := by
  funext j
  unfold sp_bg
  by_cases e : j < 27
  · rw [if_pos e, if_pos e, h j e]
  · rw [if_neg e, if_neg e]
theorem sp_ch_of {A A' e e' : Nat → Int} (h : ∀ j, j < 27 → A' j = A j) (a b W : Int) : ∀ {k : Nat}, (∀ i, i < k → e' i = e i) → sp_ch A' e' a b W k = sp_ch A e a b W k
  | 0, _ => sp_bg_of h a b W
  | k + 1, he => by
    show (sp_does (sp_ch A' e' a b W k) (e' k) (sp_rail (sp_ch A' e' a b W k))).2 = (sp_does (sp_ch A e a b W k) (e k) (sp_rail (sp_ch A e a b W k))).2
    rw [sp_ch_of h a b W (k := k) (fun i hi => he i (by omega)), he k (by omega)]
theorem sp_bg_st {A : Nat → Int} {a b W : Int} (ha : 0 ≤ a ∧ a ≤ 9) (hb : 0 ≤ b ∧ b ≤ 9) (hW : 0 ≤ W ∧ W ≤ 6) : sp_st 0 (sp_bg A a b W) := by
  refine ⟨ha, ⟨?_, hb.2⟩, ?_, Or.inl rfl, Or.inr rfl, Or.inr rfl, ?_, ?_, ?_⟩
  · show -0 ≤ b
    omega
  · show 0 ≤ (0 : Int) ∧ (0 : Int) ≤ 9
    omega
  · show 0 ≤ (0 : Int) ∧ (0 : Int) ≤ W ∧ W ≤ 6
    omega
  · show 0 ≤ (0 : Int) ∧ (0 : Int) ≤ 0
    omega
  · show 0 ≤ (0 : Int) ∧ (0 : Int) ≤ 0
    omega
theorem sp_ch_hd {A e : Nat → Int} {a b W : Int} : ∀ (k j : Nat), j < 27 → sp_ch A e a b W k j = A j
  | 0, j, h => by
    show sp_bg A a b W j = A j
    unfold sp_bg
    rw [if_pos h]
  | k + 1, j, h => by
    show (sp_does (sp_ch A e a b W k) (e k) (sp_rail (sp_ch A e a b W k))).2 j = A j
    rw [sp_does_hd _ _ _ _ h, sp_ch_hd k j h]
theorem sp_ch_st {A e : Nat → Int} {a b W : Int} (ha : 0 ≤ a ∧ a ≤ 9) (hb : 0 ≤ b ∧ b ≤ 9) (hW : 0 ≤ W ∧ W ≤ 6) : ∀ (k : Nat), k ≤ 1000 → sp_st (k : Int) (sp_ch A e a b W k) ∧ sp_ch A e a b W k 36 ≤ W ∧ sp_ch A e a b W k 34 = (k : Int)
  | 0, _ => ⟨sp_bg_st ha hb hW, Int.le_refl _, rfl⟩
  | k + 1, hk => by
    obtain ⟨h1, h2, h3⟩ := sp_ch_st ha hb hW (A := A) (e := e) k (by omega)
    have d := sp_does_st h1 (by omega) (e k) (sp_rail (sp_ch A e a b W k))
    refine ⟨?_, ?_, ?_⟩
    · rw [show ((k + 1 : Nat) : Int) = (k : Int) + 1 by omega]
      exact d.1
    · exact Int.le_trans (sp_does_36 h1 (e k) (sp_rail (sp_ch A e a b W k))) h2
    · show (sp_does (sp_ch A e a b W k) (e k) (sp_rail (sp_ch A e a b W k))).2 34 = _
      rw [d.2.1, h3]
      omega
/-! What a row says that has the log of its things -/
theorem LG.st {A e : Nat → Int} {a b W : Int} {n : Nat} (h : LG A e a b W n) (hn : n ≤ 60) (ha : 0 ≤ a ∧ a ≤ 9) (hb : 0 ≤ b ∧ b ≤ 9) (hW : 0 ≤ W ∧ W ≤ 6) : sp_st (n : Int) A ∧ A 36 ≤ W ∧ A 34 = (n : Int) := by
  have c := sp_ch_st (A := A) (e := e) ha hb hW n (by omega)
  have q : E37 A (sp_ch A e a b W n) := h.2.1
  refine ⟨q.st c.1, ?_, ?_⟩
  · rw [h.2.1 36 (by decide)]
    exact c.2.1
  · rw [h.2.1 34 (by decide)]
    exact c.2.2
/-- one thing more -/
theorem LG.next {A e s' : Nat → Int} {a b W : Int} {n : Nat} (h : LG A e a b W n) (hn : n ≤ 59) (ha : 0 ≤ a ∧ a ≤ 9) (hb : 0 ≤ b ∧ b ≤ 9) (hW : 0 ≤ W ∧ W ≤ 6) (hd : sp_hd A) {s : Nat → Int} (hs : E37 s A) {t : Int} (hs' : s' = (sp_does s t (sp_rail s)).2) {e' : Nat → Int} (he : ∀ k, k < n → e' k = e k) (het : e' n = t) : LG (sp_log A s' n) e' a b W (n + 1) := by
  obtain ⟨h1, h2, h3⟩ := h
  have c := sp_ch_st (A := A) (e := e) ha hb hW n (by omega)
  have z1 : 1 ≤ A 2 ∧ A 2 ≤ 6 := hd.2.2.1
  have eA : E37 s (sp_ch A e a b W n) := fun j hj => (hs j hj).trans (h2 j hj)
  have hdc : ∀ k j, j < 27 → sp_ch A e a b W k j = A j := fun k j hj => sp_ch_hd k j hj
  have r := eA.rail (by rw [c.2.2]; omega) (by rw [hdc n 2 (by decide)]; exact z1.1) (by rw [hdc n 2 (by decide)]; exact z1.2)
  have b33 := c.1.2.2.2.2.2.2.1
  have dd := eA.does b33.1 (by omega) t (sp_rail s)
  have hA : ∀ j, j < 27 → sp_log A s' n j = A j := fun j hj => by
    unfold sp_log
    rw [if_neg (by omega), if_neg (by omega), if_neg (by omega)]
  have ch : ∀ k, k ≤ n → sp_ch (sp_log A s' n) e' a b W k = sp_ch A e a b W k := fun k hk => sp_ch_of hA a b W fun i hi => he i (by omega)
  have c1 : sp_ch (sp_log A s' n) e' a b W (n + 1) = (sp_does (sp_ch A e a b W n) t (sp_rail (sp_ch A e a b W n))).2 := by
    show (sp_does (sp_ch (sp_log A s' n) e' a b W n) (e' n) (sp_rail (sp_ch (sp_log A s' n) e' a b W n))).2 = _
    rw [ch n (Nat.le_refl n), het]
  rw [r] at dd
  refine ⟨?_, fun j hj => ?_, fun k hk i hi => ?_⟩
  · unfold sp_log
    rw [if_pos rfl]
    omega
  · rw [c1]
    by_cases j27 : j < 27
    · rw [hA j j27, sp_does_hd _ _ _ _ j27, hdc n j j27]
    · rw [← dd.2 j hj]
      unfold sp_log
      rw [if_neg (by omega), if_pos (by omega), hs', r]
  · rw [ch k (by omega)]
    unfold sp_log
    rw [if_neg (by omega), if_neg (by omega)]
    by_cases kn : k = n
    · rw [if_pos (by omega), kn, show 27 + (38 + 10 * n + i - (38 + 10 * n)) = 27 + i by omega]
      exact h2 (27 + i) (by omega)
    · rw [if_neg (by omega)]
      exact h3 k (by omega) i hi
/-- back to the n-th thing -/
theorem LG.back {A B e : Nat → Int} {a b W : Int} {n m : Nat} (h : LG A e a b W n) (hm : m < n) (h37 : B 37 = (m : Int)) (hA : ∀ j, j < 27 → B j = A j) (hB : ∀ i, i < 10 → B (27 + i) = A (38 + 10 * m + i)) (hL : ∀ j, 38 ≤ j → B j = A j) : LG B e a b W m := by
  have ch : ∀ k, sp_ch B e a b W k = sp_ch A e a b W k := fun k => sp_ch_of hA a b W fun i _ => rfl
  refine ⟨h37, fun j hj => ?_, fun k hk i hi => ?_⟩
  · rw [ch]
    by_cases j27 : j < 27
    · rw [hA j j27, sp_ch_hd _ _ j27]
    · have e := hB (j - 27) (by omega)
      rw [show 27 + (j - 27) = j by omega] at e
      rw [e, h.2.2 m hm (j - 27) (by omega), show 27 + (j - 27) = j by omega]
  · rw [ch, hL _ (by omega)]
    exact h.2.2 k (by omega) i hi
/-- a row that says the same in its first 638 places (all that a log of 60 needs) -/
theorem LG.of {A B e e' : Nat → Int} {a b W : Int} {n : Nat} (h : LG A e a b W n) (hn : n ≤ 60) (hA : ∀ j, j < 638 → B j = A j) (he : ∀ k, k < n → e' k = e k) : LG B e' a b W n := by
  have ch : ∀ k, k ≤ n → sp_ch B e' a b W k = sp_ch A e a b W k := fun k hk => sp_ch_of (fun j hj => hA j (by omega)) a b W fun i hi => he i (by omega)
  refine ⟨by rw [hA 37 (by decide)]; exact h.1, fun j hj => ?_, fun k hk i hi => ?_⟩
  · rw [ch n (Nat.le_refl n), hA j (by omega)]
    exact h.2.1 j hj
  · rw [ch k (by omega), hA _ (by omega)]
    exact h.2.2 k hk i hi
