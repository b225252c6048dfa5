/-! What bounds a train's numbers; what they come to then. -/
def sp_hd (s : Nat → Int) : Prop := (1 ≤ s 0 ∧ s 0 ≤ 9) ∧ (0 ≤ s 1 ∧ s 1 ≤ 3) ∧ (1 ≤ s 2 ∧ s 2 ≤ 6) ∧ (∀ i : Nat, i < 6 → 0 ≤ s (3 + i) ∧ s (3 + i) ≤ 2) ∧ ∀ i : Nat, i < 6 → (0 ≤ s (9 + 3 * i) ∧ s (9 + 3 * i) ≤ 5) ∧ (0 ≤ s (10 + 3 * i) ∧ s (10 + 3 * i) ≤ 9) ∧ (0 ≤ s (11 + 3 * i) ∧ s (11 + 3 * i) ≤ 9)
def sp_st (m : Int) (s : Nat → Int) : Prop := (0 ≤ s 27 ∧ s 27 ≤ 9) ∧ (-m ≤ s 28 ∧ s 28 ≤ 9) ∧ (0 ≤ s 29 ∧ s 29 ≤ 9) ∧ (s 30 = 0 ∨ s 30 = 1) ∧ (s 31 = 0 ∨ s 31 = 1) ∧ (s 32 = 0 ∨ s 32 = 1) ∧ (0 ≤ s 33 ∧ s 33 ≤ s 36 ∧ s 36 ≤ 6) ∧ (0 ≤ s 34 ∧ s 34 ≤ m) ∧ (0 ≤ s 35 ∧ s 35 ≤ m)
theorem sp_wg {s : Nat → Int} (h : sp_hd s) {i : Int} (i0 : 0 ≤ i) (i6 : i < 6) : 0 ≤ sp_weighs s i ∧ sp_weighs s i ≤ 24 := by
  obtain ⟨n, rfl⟩ := Int.eq_ofNat_of_zero_le i0
  obtain ⟨-, h1, -, -, hw⟩ := h
  have hw := hw n (by omega)
  have e1 : sp_tons s (n : Int) = s (10 + 3 * n) := by unfold sp_tons; congr 1; omega
  have hp : 0 ≤ sp_plain s (n : Int) ∧ sp_plain s (n : Int) ≤ 18 := by
    unfold sp_plain
    rw [e1, rg_w (by omega) (by omega), rg_w (by omega) (by omega)]
    split
    · omega
    · split
      · omega
      · split
        · split <;> omega
        · omega
  unfold sp_weighs
  have hb : 0 ≤ (if sp_kind s (n : Int) = 5 then (if s 31 = 1 then (3 : Int) else 0) else 0) ∧ (if sp_kind s (n : Int) = 5 then (if s 31 = 1 then (3 : Int) else 0) else 0) ≤ 3 := by
    split
    · split <;> omega
    · omega
  rw [rg_w (z := sp_plain s (n : Int) + _) (by omega) (by omega), rg_w (by omega) (by omega)]
  omega
theorem sp_ld {s : Nat → Int} (h : sp_hd s) : ∀ {n : Nat}, n ≤ 6 → 0 ≤ sp_load s n ∧ sp_load s n ≤ 24 * (n : Int)
  | 0, _ => by
    show 0 ≤ (0 : Int) ∧ (0 : Int) ≤ _
    omega
  | n + 1, hn => by
    have a := sp_ld h (n := n) (by omega)
    have b := sp_wg h (i := (n : Int)) (by omega) (by omega)
    show 0 ≤ rf_w (sp_load s n + sp_weighs s (n : Int)) ∧ rf_w (sp_load s n + sp_weighs s (n : Int)) ≤ _
    rw [rg_w (by omega) (by omega)]
    omega
theorem sp_hb {s : Nat → Int} (h : sp_hd s) {i : Int} (i0 : 0 ≤ i) (i6 : i < 6) : (0 ≤ sp_holds s i ∧ sp_holds s i ≤ 9) ∧ (0 ≤ sp_slack s i ∧ sp_slack s i ≤ 2) := by
  obtain ⟨n, rfl⟩ := Int.eq_ofNat_of_zero_le i0
  have hw := h.2.2.2.2 n (by omega)
  have e1 : sp_coup s (n : Int) = s (11 + 3 * n) := by unfold sp_coup; congr 1; omega
  constructor
  · unfold sp_holds
    rw [e1]
    split
    · have e2 : Int.tdiv (s (11 + 3 * n)) 2 = s (11 + 3 * n) / 2 := Int.tdiv_eq_ediv_of_nonneg (by omega)
      rw [e2, rg_w (by omega) (by omega)]
      omega
    · omega
  · unfold sp_slack
    split
    · omega
    · split <;> omega
theorem sp_bb {s : Nat → Int} (h : sp_hd s) {m : Int} (hs : sp_st m s) {r : Int} (r0 : 0 ≤ r) (r2 : r ≤ 2) : 0 ≤ sp_bare s r ∧ sp_bare s r ≤ 27 ∧ sp_bare s r = (if s 0 * (3 - r) - s 29 < 0 then 0 else s 0 * (3 - r) - s 29) := by
  have a := h.1
  have b := hs.2.2.1
  have e : 0 ≤ s 0 * (3 - r) ∧ s 0 * (3 - r) ≤ 27 := by
    rcases (show r = 0 ∨ r = 1 ∨ r = 2 by omega) with rfl | rfl | rfl <;> omega
  unfold sp_bare
  rw [rg_w (z := 3 - r) (by omega) (by omega), rg_w (z := s 0 * (3 - r)) (by omega) (by omega), rg_w (by omega) (by omega)]
  split <;> omega
theorem sp_gb {s : Nat → Int} (h : sp_hd s) {m : Int} (hs : sp_st m s) {r : Int} (r0 : 0 ≤ r) (r2 : r ≤ 2) : sp_grip s r = sp_bare s r + (if s 30 = 1 then 3 else 0) ∧ 0 ≤ sp_grip s r ∧ sp_grip s r ≤ 30 := by
  have a := sp_bb h hs r0 r2
  unfold sp_grip
  have hb : 0 ≤ (if s 30 = 1 then (3 : Int) else 0) ∧ (if s 30 = 1 then (3 : Int) else 0) ≤ 3 := by split <;> omega
  rw [rg_w (by omega) (by omega)]
  omega
/-! what is kept -/
theorem sp_hd_of {s u : Nat → Int} (h : sp_hd s) (e : ∀ k, k < 27 → u k = s k) : sp_hd u := by
  obtain ⟨h0, h1, h2, h3, h4⟩ := h
  refine ⟨by rw [e 0 (by omega)]; exact h0, by rw [e 1 (by omega)]; exact h1, by rw [e 2 (by omega)]; exact h2, fun i hi => by rw [e (3 + i) (by omega)]; exact h3 i hi, fun i hi => ?_⟩
  rw [e (9 + 3 * i) (by omega), e (10 + 3 * i) (by omega), e (11 + 3 * i) (by omega)]
  exact h4 i hi
theorem sp_gives_hd (s : Nat → Int) (st r : Int) (k : Nat) (hk : k < 27) : (sp_gives s st r).2 k = s k := by
  have n : ∀ (f : Nat → Int) (j : Nat) (v : Int), 27 ≤ j → rg_ui f j v k = f k := fun f j v hj => rg_ui_n (by omega)
  unfold sp_gives
  split
  · show rg_ui _ _ _ k = _
    rw [n _ _ _ (by omega), n _ _ _ (by omega), n _ _ _ (by omega)]
  · split
    · split
      · show rg_ui _ _ _ k = _
        rw [n _ _ _ (by omega), n _ _ _ (by omega), n _ _ _ (by omega), sp_less_w _ _ _ hk]
      · show rg_ui _ _ _ k = _
        rw [n _ _ _ (by omega), sp_less_w _ _ _ hk]
    · split
      · show rg_ui _ _ _ k = _
        rw [n _ _ _ (by omega), sp_less_w _ _ _ hk]
      · split
        · show rg_ui _ _ _ k = _
          rw [n _ _ _ (by omega), sp_less_w _ _ _ hk]
        · exact sp_less_w _ _ _ hk
theorem sp_other_hd (s : Nat → Int) (t : Int) (k : Nat) (hk : k < 27) : sp_other s t k = s k := by
  have n : ∀ (f : Nat → Int) (j : Nat) (v : Int), 27 ≤ j → rg_ui f j v k = f k := fun f j v hj => rg_ui_n (by omega)
  unfold sp_other
  split
  · rw [n _ _ _ (by omega), n _ _ _ (by omega)]
  · split
    · rw [n _ _ _ (by omega)]
    · split
      · rw [n _ _ _ (by omega)]
      · rw [n _ _ _ (by omega)]
theorem sp_does_hd (s : Nat → Int) (t r : Int) (k : Nat) (hk : k < 27) : (sp_does s t r).2 k = s k := by
  unfold sp_does sp_tick
  split
  · show rg_ui _ _ _ k = _
    rw [rg_ui_n (by omega), sp_gives_hd _ _ _ _ hk]
  · show rg_ui _ _ _ k = _
    rw [rg_ui_n (by omega), sp_other_hd _ _ _ hk]
/-- the ten numbers behind steam given: each by what came of it -/
theorem sp_gives_st {s : Nat → Int} {m : Int} (hs : sp_st m s) (hm : 0 ≤ m ∧ m ≤ 1000000) (st r : Int) : sp_st m (rg_ui (sp_gives s st r).2 35 (s 35)) ∧ (sp_gives s st r).2 34 = s 34 ∧ ((sp_gives s st r).2 35 = s 35 ∨ (sp_gives s st r).2 35 = s 35 + 1) := by
  obtain ⟨a27, a28, a29, a30, a31, a32, a33, a34, a35⟩ := hs
  have l27 : sp_less s st 27 = s 27 - (if 0 < st then (if 0 < s 27 then 1 else 0) else 0) := by
    show rf_w _ = _
    have : 0 ≤ (if 0 < st then (if 0 < s 27 then (1 : Int) else 0) else 0) ∧ (if 0 < st then (if 0 < s 27 then (1 : Int) else 0) else 0) ≤ 1 := by
      split
      · split <;> omega
      · omega
    exact rg_w (by omega) (by omega)
  have b27 : 0 ≤ sp_less s st 27 ∧ sp_less s st 27 ≤ 9 := by
    rw [l27]
    split
    · split <;> omega
    · omega
  have l28 : sp_less s st 28 = s 28 := rfl
  have l29 : sp_less s st 29 = s 29 := rfl
  have l30 : sp_less s st 30 = 0 := rfl
  have l31 : sp_less s st 31 = s 31 := rfl
  have l32 : sp_less s st 32 = s 32 := rfl
  have l33 : sp_less s st 33 = s 33 := rfl
  have l34 : sp_less s st 34 = s 34 := rfl
  have l35 : sp_less s st 35 = s 35 := rfl
  have l36 : sp_less s st 36 = s 36 := rfl
  unfold sp_gives
  split
  · refine ⟨⟨?_, ?_, ?_, Or.inl rfl, a31, a32, a33, a34, a35⟩, rfl, Or.inl rfl⟩
    · show 0 ≤ (if rf_w (s 27 - 2) < 0 then 0 else rf_w (s 27 - 2)) ∧ (if rf_w (s 27 - 2) < 0 then 0 else rf_w (s 27 - 2)) ≤ 9
      rw [rg_w (by omega) (by omega)]
      split <;> omega
    · exact a28
    · show 0 ≤ (if 9 < rf_w (s 29 + 1) then 9 else rf_w (s 29 + 1)) ∧ (if 9 < rf_w (s 29 + 1) then 9 else rf_w (s 29 + 1)) ≤ 9
      rw [rg_w (by omega) (by omega)]
      split <;> omega
  · split
    · rename_i ht
      have ht := of_decide_eq_true ht
      split
      · refine ⟨⟨b27, a28, a29, Or.inl rfl, Or.inl rfl, Or.inl rfl, ?_, a34, a35⟩, rfl, Or.inl rfl⟩
        show 0 ≤ s 33 ∧ s 33 ≤ s 33 ∧ s 33 ≤ 6
        omega
      · refine ⟨⟨b27, a28, a29, Or.inl rfl, a31, a32, ?_, a34, a35⟩, rfl, Or.inl rfl⟩
        show 0 ≤ rf_w (s 33 + 1) ∧ rf_w (s 33 + 1) ≤ s 36 ∧ s 36 ≤ 6
        rw [rg_w (by omega) (by omega)]
        omega
    · split
      · refine ⟨⟨b27, a28, a29, Or.inl rfl, a31, a32, a33, a34, a35⟩, rfl, Or.inr ?_⟩
        show rf_w (s 35 + 1) = _
        exact rg_w (by omega) (by omega)
      · split
        · refine ⟨⟨b27, a28, a29, Or.inl rfl, a31, a32, ?_, a34, a35⟩, rfl, Or.inl rfl⟩
          show 0 ≤ (0 : Int) ∧ (0 : Int) ≤ s 36 ∧ s 36 ≤ 6
          omega
        · exact ⟨⟨b27, a28, a29, Or.inl rfl, a31, a32, a33, a34, a35⟩, rfl, Or.inl rfl⟩
theorem sp_does_st {s : Nat → Int} {m : Int} (hs : sp_st m s) (hm : 0 ≤ m ∧ m ≤ 1000000) (t r : Int) : sp_st (m + 1) (sp_does s t r).2 ∧ (sp_does s t r).2 34 = s 34 + 1 ∧ ((sp_does s t r).2 35 = s 35 ∨ (sp_does s t r).2 35 = s 35 + 1) := by
  have e34 : ∀ u : Nat → Int, u 34 = s 34 → sp_tick u 34 = s 34 + 1 := by
    intro u hu
    show rf_w (u 34 + 1) = _
    rw [hu]
    have := hs.2.2.2.2.2.2.2.1
    exact rg_w (by omega) (by omega)
  unfold sp_does
  split
  · obtain ⟨⟨a27, a28, a29, a30, a31, a32, a33, a34, a35⟩, b34, b35⟩ := sp_gives_st hs hm t r
    have c34 := e34 _ b34
    have h35 := hs.2.2.2.2.2.2.2.2
    have h34 := hs.2.2.2.2.2.2.2.1
    refine ⟨⟨a27, ⟨?_, a28.2⟩, a29, a30, a31, a32, a33, ?_, ?_⟩, c34, b35⟩
    · have := a28.1
      show -(m + 1) ≤ (sp_gives s t r).2 28
      have e : rg_ui (sp_gives s t r).2 35 (s 35) 28 = (sp_gives s t r).2 28 := rfl
      omega
    · show 0 ≤ sp_tick (sp_gives s t r).2 34 ∧ sp_tick (sp_gives s t r).2 34 ≤ m + 1
      rw [c34]
      omega
    · show 0 ≤ (sp_gives s t r).2 35 ∧ (sp_gives s t r).2 35 ≤ m + 1
      omega
  · obtain ⟨a27, a28, a29, a30, a31, a32, a33, a34, a35⟩ := hs
    unfold sp_other
    split
    · have c34 := e34 (rg_ui (rg_ui s 28 (rf_w (s 28 - 1))) 30 1) rfl
      refine ⟨⟨a27, ?_, a29, Or.inr rfl, a31, a32, a33, ?_, ?_⟩, c34, Or.inl rfl⟩
      · show -(m + 1) ≤ rf_w (s 28 - 1) ∧ rf_w (s 28 - 1) ≤ 9
        rw [rg_w (by omega) (by omega)]
        omega
      · dsimp only; rw [c34]; omega
      · show 0 ≤ s 35 ∧ s 35 ≤ m + 1
        omega
    · split
      · have c34 := e34 (rg_ui s 27 (if 9 < rf_w (s 27 + 2) then 9 else rf_w (s 27 + 2))) rfl
        refine ⟨⟨?_, ⟨by show -(m + 1) ≤ s 28; omega, a28.2⟩, a29, a30, a31, a32, a33, ?_, ?_⟩, c34, Or.inl rfl⟩
        · show 0 ≤ (if 9 < rf_w (s 27 + 2) then 9 else rf_w (s 27 + 2)) ∧ (if 9 < rf_w (s 27 + 2) then 9 else rf_w (s 27 + 2)) ≤ 9
          rw [rg_w (by omega) (by omega)]
          split <;> omega
        · dsimp only; rw [c34]; omega
        · show 0 ≤ s 35 ∧ s 35 ≤ m + 1
          omega
      · split
        · have c34 := e34 (rg_ui s 33 0) rfl
          refine ⟨⟨a27, ⟨by show -(m + 1) ≤ s 28; omega, a28.2⟩, a29, a30, a31, a32, ?_, ?_, ?_⟩, c34, Or.inl rfl⟩
          · show 0 ≤ (0 : Int) ∧ (0 : Int) ≤ s 36 ∧ s 36 ≤ 6
            omega
          · dsimp only; rw [c34]; omega
          · show 0 ≤ s 35 ∧ s 35 ≤ m + 1
            omega
        · have c34 := e34 (rg_ui s 31 (if t = 14 then 1 else 0)) rfl
          refine ⟨⟨a27, ⟨by show -(m + 1) ≤ s 28; omega, a28.2⟩, a29, a30, ?_, a32, a33, ?_, ?_⟩, c34, Or.inl rfl⟩
          · show (if t = 14 then (1 : Int) else 0) = 0 ∨ (if t = 14 then (1 : Int) else 0) = 1
            split <;> omega
          · dsimp only; rw [c34]; omega
          · show 0 ≤ s 35 ∧ s 35 ≤ m + 1
            omega
