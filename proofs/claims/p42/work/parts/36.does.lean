/-! A thing done by a train of the class. -/
def tf_29 (f : Nat → Int) (came v : Int) : Nat → Int := if came = 1 then rg_ui (rg_ui f 2 (if 0 < v then v else 0)) 4 (if rf_w (f 4 + 1) < 9 then rf_w (f 4 + 1) else 9) else if came = 1 + 1 then rg_ui (rg_ui f 2 (if 0 < v then v else 0)) 5 (rf_w (f 5 + 1)) else if came = 1 + 1 + 1 then rg_ui (rg_ui (rg_ui (rg_ui f 2 (if 0 < v then v else 0)) 6 (f 5)) 10 0) 11 1 else if came = 1 + 1 + 1 + 1 then rg_ui (rg_ui f 2 (if 0 < v then v else 0)) 7 (rf_w (f 7 + 1)) else if came = 1 + 1 + 1 + 1 + 1 then rg_ui (rg_ui f 2 (if 0 < v then v else 0)) 5 0 else rg_ui f 2 (if 0 < v then v else 0)
def tf_gives (f : Nat → Int) (st came : Int) : Nat → Int := tf_29 (rg_ui f 9 0) came (rf_w (f 2 - (if came = 1 then 2 else if 0 < st then 1 else 0)))
def tf_other (f : Nat → Int) (th : Int) : Nat → Int := if th = 10 then rg_ui (rg_ui f 3 (rf_w (f 3 - 1))) 9 1 else if th = 10 + 1 then rg_ui f 2 (if rf_w (f 2 + 2) < 9 then rf_w (f 2 + 2) else 9) else if th = 10 + 1 + 1 then rg_ui f 5 0 else if th = 10 + 1 + 1 + 1 then rg_ui f 10 0 else rg_ui f 10 1
section RGT2
variable {X : rf_X} {D : rf_D} {t : Nat} {s : Nat → Int} {W g m : Int}
theorem rg_T_gs29 (h : rg_tr t) (d : Nat) (came a b : Int) : rf_j_T_givesSteam_29 (d + 1) t came (some t) 0 a b (hp X D) = some (none, hp X (rg_up D t (tf_29 (D t) came (rf_w (a - b))))) := by
  rw [rf_e_T_givesSteam_29]
  simp only [rg_J_max, rg_T_pI h, rg_T_gI h, Int.reduceToNat, rg_kIs, rg_kLs, rg_kRs, rg_kVs, rg_nns, rg_bs, cond_true, cond_false]
  unfold tf_29
  by_cases a1 : came = 1
  · rw [if_pos a1, if_pos a1]
    simp (disch := omega) only [rg_J_min, rg_T_pI h, rg_T_gI h, Int.reduceToNat, rg_kIs, rg_kLs, rg_kRs, rg_kVs, rg_nns, rg_bs, cond_true, cond_false, rg_up_s, rg_up_n, rg_up_u, rg_ui_s, rg_ui_n, rg_ui_u]
  · rw [if_neg a1, if_neg a1]
    by_cases a2 : came = 1 + 1
    · rw [if_pos a2, if_pos a2]
      simp (disch := omega) only [rg_T_pI h, rg_T_gI h, Int.reduceToNat, rg_kIs, rg_kLs, rg_kRs, rg_kVs, rg_nns, rg_bs, cond_true, cond_false, rg_up_s, rg_up_n, rg_up_u, rg_ui_s, rg_ui_n, rg_ui_u]
    · rw [if_neg a2, if_neg a2]
      by_cases a3 : came = 1 + 1 + 1
      · rw [if_pos a3, if_pos a3]
        simp (disch := omega) only [rg_T_pI h, rg_T_gI h, Int.reduceToNat, rg_kIs, rg_kLs, rg_kRs, rg_kVs, rg_nns, rg_bs, cond_true, cond_false, rg_up_s, rg_up_n, rg_up_u, rg_ui_s, rg_ui_n, rg_ui_u]
      · rw [if_neg a3, if_neg a3]
        by_cases a4 : came = 1 + 1 + 1 + 1
        · rw [if_pos a4, if_pos a4]
          simp (disch := omega) only [rg_T_pI h, rg_T_gI h, Int.reduceToNat, rg_kIs, rg_kLs, rg_kRs, rg_kVs, rg_nns, rg_bs, cond_true, cond_false, rg_up_s, rg_up_n, rg_up_u, rg_ui_s, rg_ui_n, rg_ui_u]
        · rw [if_neg a4, if_neg a4]
          by_cases a5 : came = 1 + 1 + 1 + 1 + 1
          · rw [if_pos a5, if_pos a5]
            simp (disch := omega) only [rg_T_pI h, rg_T_gI h, Int.reduceToNat, rg_kIs, rg_kLs, rg_kRs, rg_kVs, rg_nns, rg_bs, cond_true, cond_false, rg_up_s, rg_up_n, rg_up_u, rg_ui_s, rg_ui_n, rg_ui_u]
          · rw [if_neg a5, if_neg a5]
theorem rg_T_givesSteam (h : rg_tr t) (d : Nat) (st came : Int) : rf_call (d + 2) 46 [.inr (.inr (some t)), .inl st, .inl came] (hp X D) = some (none, hp X (rg_up D t (tf_gives (D t) st came))) := by
  rw [rf_e_T_givesSteam]
  simp (disch := omega) only [rg_T_pI h, rg_T_gI h, Int.reduceToNat, rg_kIs, rg_kLs, rg_kRs, rg_kVs, rg_nns, rg_bs, cond_true, cond_false, rg_up_s, rg_up_n, rg_up_u, rg_ui_s, rg_ui_n, rg_ui_u]
  unfold tf_gives
  by_cases a1 : came = 1
  · rw [if_pos a1, if_pos a1, rg_T_gs29 h]
    simp (disch := omega) only [rg_up_s, rg_up_n, rg_up_u, rg_ui_s, rg_ui_n, rg_ui_u]
  · rw [if_neg a1, if_neg a1]
    by_cases a2 : 0 < st
    · rw [if_pos a2, if_pos a2, rg_T_gs29 h]
      simp (disch := omega) only [rg_up_s, rg_up_n, rg_up_u, rg_ui_s, rg_ui_n, rg_ui_u]
    · rw [if_neg a2, if_neg a2, rg_T_gs29 h]
      simp (disch := omega) only [rg_up_s, rg_up_n, rg_up_u, rg_ui_s, rg_ui_n, rg_ui_u]
theorem rg_T_doesOther (h : rg_tr t) (d : Nat) (th : Int) : rf_call (d + 2) 45 [.inr (.inr (some t)), .inl th] (hp X D) = some (none, hp X (rg_up D t (tf_other (D t) th))) := by
  rw [rf_e_T_doesOther]
  unfold tf_other
  by_cases a1 : th = 10
  · rw [if_pos a1, if_pos a1]
    simp (disch := omega) only [rg_T_pI h, rg_T_gI h, Int.reduceToNat, rg_kIs, rg_kLs, rg_kRs, rg_kVs, rg_nns, rg_bs, cond_true, cond_false, rg_up_s, rg_up_n, rg_up_u, rg_ui_s, rg_ui_n, rg_ui_u]
  · rw [if_neg a1, if_neg a1]
    by_cases a2 : th = 10 + 1
    · rw [if_pos a2, if_pos a2]
      simp (disch := omega) only [rg_T_pI h, rg_T_gI h, rg_J_min, Int.reduceToNat, rg_kIs, rg_kLs, rg_kRs, rg_kVs, rg_nns, rg_bs, cond_true, cond_false, rg_up_s, rg_up_n, rg_up_u, rg_ui_s, rg_ui_n, rg_ui_u]
    · rw [if_neg a2, if_neg a2]
      by_cases a3 : th = 10 + 1 + 1
      · rw [if_pos a3, if_pos a3]
        simp (disch := omega) only [rg_T_pI h, rg_T_gI h, Int.reduceToNat, rg_kIs, rg_kLs, rg_kRs, rg_kVs, rg_nns, rg_bs, cond_true, cond_false, rg_up_s, rg_up_n, rg_up_u, rg_ui_s, rg_ui_n, rg_ui_u]
      · rw [if_neg a3, if_neg a3]
        by_cases a4 : th = 10 + 1 + 1 + 1
        · rw [if_pos a4, if_pos a4]
          simp (disch := omega) only [rg_T_pI h, rg_T_gI h, Int.reduceToNat, rg_kIs, rg_kLs, rg_kRs, rg_kVs, rg_nns, rg_bs, cond_true, cond_false, rg_up_s, rg_up_n, rg_up_u, rg_ui_s, rg_ui_n, rg_ui_u]
        · rw [if_neg a4, if_neg a4]
          simp (disch := omega) only [rg_T_pI h, rg_T_gI h, Int.reduceToNat, rg_kIs, rg_kLs, rg_kRs, rg_kVs, rg_nns, rg_bs, cond_true, cond_false, rg_up_s, rg_up_n, rg_up_u, rg_ui_s, rg_ui_n, rg_ui_u]
theorem rg_T_d17 (h : rg_tr t) (d : Nat) (th came : Int) : rf_j_T_does_17 (d + 2) t th came (hp X D) = some (some (.inl came), hp X (rg_up D t (if came = 6 then tf_other (rg_ui (D t) 8 (rf_w (D t 8 + 1))) th else tf_gives (rg_ui (D t) 8 (rf_w (D t 8 + 1))) th came))) := by
  rw [rf_e_T_does_17]
  simp only [rg_T_pI h, rg_T_gI h, rg_hp1, h.1, Int.reduceToNat, rg_kIs, rg_kLs, rg_kRs, rg_kVs, rg_nns, rg_bs, cond_true, cond_false]
  by_cases a1 : came = 6
  · rw [if_pos a1, if_pos a1, rg_T_doesOther h]
    simp (disch := omega) only [Int.reduceToNat, rg_kIs, rg_kLs, rg_kRs, rg_kVs, rg_nns, rg_bs, cond_true, cond_false, rg_up_s, rg_up_n, rg_up_u, rg_ui_s, rg_ui_n, rg_ui_u]
  · rw [if_neg a1, if_neg a1, rg_T_givesSteam h]
    simp (disch := omega) only [Int.reduceToNat, rg_kIs, rg_kLs, rg_kRs, rg_kVs, rg_nns, rg_bs, cond_true, cond_false, rg_up_s, rg_up_n, rg_up_u, rg_ui_s, rg_ui_n, rg_ui_u]
theorem tr_gives {f s : Nat → Int} {g m : Int} (hT : TR f s g) (hs : sp_st m s) (hm : m ≤ 1000000) (hg : 0 ≤ g ∧ g ≤ 1000000) (st r : Int) : (sp_gives s st r).1 ≠ 6 ∧ TR (tf_gives (rg_ui f 8 (rf_w (f 8 + 1))) st (sp_gives s st r).1) (sp_tick (sp_gives s st r).2) g := by
  obtain ⟨⟨e2, e3, e4⟩, ⟨e9, e10, e11⟩, e5, e8, e7, e6⟩ := hT
  obtain ⟨a27, a28, a29, a30, a31, a32, a33, a34, a35⟩ := hs
  have i8 : rf_w (f 8 + 1) = rf_w (s 34 + 1) := by rw [e8]
  have l27 : (if 0 < rf_w (f 2 - (if 0 < st then 1 else 0)) then rf_w (f 2 - (if 0 < st then 1 else 0)) else 0) = rf_w (s 27 - (if 0 < st then (if 0 < s 27 then 1 else 0) else 0)) := by
    rw [e2]
    by_cases q : 0 < st
    · rw [if_pos q, if_pos q, rg_w (z := s 27 - 1) (by omega) (by omega)]
      by_cases q2 : 0 < s 27
      · rw [if_pos q2, rg_w (by omega) (by omega)]
        split <;> omega
      · rw [if_neg q2, rg_w (by omega) (by omega)]
        split <;> omega
    · rw [if_neg q, if_neg q, rg_w (by omega) (by omega)]
      split <;> omega
  unfold sp_gives
  by_cases b0 : sp_grip s r < rf_w (2 * st)
  · rw [if_pos b0]
    refine ⟨by show (1 : Int) ≠ 6; decide, ?_⟩
    refine ⟨⟨?_, e3, ?_⟩, ⟨rfl, e10, e11⟩, e5, i8, e7, e6⟩
    · show (if 0 < rf_w (f 2 - 2) then rf_w (f 2 - 2) else 0) = (if rf_w (s 27 - 2) < 0 then 0 else rf_w (s 27 - 2))
      rw [e2, rg_w (by omega) (by omega)]
      by_cases q : 0 < s 27 - 2
      · rw [if_pos q, if_neg (by omega)]
      · rw [if_neg q]
        split <;> omega
    · show (if rf_w (f 4 + 1) < 9 then rf_w (f 4 + 1) else 9) = (if 9 < rf_w (s 29 + 1) then 9 else rf_w (s 29 + 1))
      rw [e4, rg_w (by omega) (by omega)]
      by_cases q : s 29 + 1 < 9
      · rw [if_pos q, if_neg (by omega)]
      · rw [if_neg q]
        split <;> omega
  · rw [if_neg b0]
    by_cases b1 : sp_takes s st = true
    · rw [if_pos b1]
      by_cases b2 : sp_tears s st = true
      · rw [if_pos b2]
        refine ⟨by show (3 : Int) ≠ 6; decide, ?_⟩
        exact ⟨⟨l27, e3, e4⟩, ⟨rfl, rfl, rfl⟩, e5, i8, e7, e5⟩
      · rw [if_neg b2]
        refine ⟨by show (2 : Int) ≠ 6; decide, ?_⟩
        refine ⟨⟨l27, e3, e4⟩, ⟨rfl, e10, e11⟩, ?_, i8, e7, e6⟩
        show rf_w (f 5 + 1) = rf_w (s 33 + 1)
        rw [e5]
    · rw [if_neg b1]
      by_cases b2 : sp_goes s st = true
      · rw [if_pos b2]
        refine ⟨by show (4 : Int) ≠ 6; decide, ?_⟩
        refine ⟨⟨l27, e3, e4⟩, ⟨rfl, e10, e11⟩, e5, i8, ?_, e6⟩
        show rf_w (f 7 + 1) = rf_w (s 35 + 1) - g
        rw [e7, rg_w (by omega) (by omega), rg_w (by omega) (by omega)]
        omega
      · rw [if_neg b2]
        by_cases b3 : sp_rolls s st = true
        · rw [if_pos b3]
          refine ⟨by show (5 : Int) ≠ 6; decide, ?_⟩
          exact ⟨⟨l27, e3, e4⟩, ⟨rfl, e10, e11⟩, rfl, i8, e7, e6⟩
        · rw [if_neg b3]
          refine ⟨by show (0 : Int) ≠ 6; decide, ?_⟩
          exact ⟨⟨l27, e3, e4⟩, ⟨rfl, e10, e11⟩, e5, i8, e7, e6⟩
theorem tr_other {f s : Nat → Int} {g m : Int} (hT : TR f s g) (hs : sp_st m s) (hm : m ≤ 1000000) {th : Int} (t0 : 10 ≤ th) (t14 : th ≤ 14) : TR (tf_other (rg_ui f 8 (rf_w (f 8 + 1))) th) (sp_tick (sp_other s th)) g := by
  obtain ⟨⟨e2, e3, e4⟩, ⟨e9, e10, e11⟩, e5, e8, e7, e6⟩ := hT
  obtain ⟨a27, a28, a29, a30, a31, a32, a33, a34, a35⟩ := hs
  have i8 : rf_w (f 8 + 1) = rf_w (s 34 + 1) := by rw [e8]
  unfold tf_other sp_other
  by_cases b0 : th = 10
  · rw [if_pos b0, if_pos b0]
    refine ⟨⟨e2, ?_, e4⟩, ⟨rfl, e10, e11⟩, e5, i8, e7, e6⟩
    show rf_w (f 3 - 1) = rf_w (s 28 - 1)
    rw [e3]
  · rw [if_neg b0, if_neg b0]
    by_cases b1 : th = 10 + 1
    · rw [if_pos b1, if_pos (show th = 11 by omega)]
      refine ⟨⟨?_, e3, e4⟩, ⟨e9, e10, e11⟩, e5, i8, e7, e6⟩
      show (if rf_w (f 2 + 2) < 9 then rf_w (f 2 + 2) else 9) = (if 9 < rf_w (s 27 + 2) then 9 else rf_w (s 27 + 2))
      rw [e2, rg_w (by omega) (by omega)]
      by_cases q : s 27 + 2 < 9
      · rw [if_pos q, if_neg (by omega)]
      · rw [if_neg q]
        split <;> omega
    · rw [if_neg b1, if_neg (show ¬ th = 11 by omega)]
      by_cases b2 : th = 10 + 1 + 1
      · rw [if_pos b2, if_pos (show th = 12 by omega)]
        exact ⟨⟨e2, e3, e4⟩, ⟨e9, e10, e11⟩, rfl, i8, e7, e6⟩
      · rw [if_neg b2, if_neg (show ¬ th = 12 by omega)]
        by_cases b3 : th = 10 + 1 + 1 + 1
        · rw [if_pos b3, if_neg (show ¬ th = 14 by omega)]
          exact ⟨⟨e2, e3, e4⟩, ⟨e9, rfl, e11⟩, e5, i8, e7, e6⟩
        · rw [if_neg b3, if_pos (show th = 14 by omega)]
          exact ⟨⟨e2, e3, e4⟩, ⟨e9, rfl, e11⟩, e5, i8, e7, e6⟩
theorem rg_T_does (h : rg_tr t) (hC : CR D 28 s W) (hd : sp_hd s) (hT : TR (D t) s g) (hs : sp_st m s) (hm : m ≤ 1000000) (hg : 0 ≤ g ∧ g ≤ 1000000) (hW : s 36 ≤ W) (d : Nat) {th r : Int} (t0 : 0 ≤ th) (t14 : th ≤ 14) (hr : th < 10 → 0 ≤ r ∧ r ≤ 2) : ∃ f', rf_call (d + 5) 40 [.inr (.inr (some t)), .inl th, .inl r] (hp X D) = some (some (.inl (sp_does s th r).1), hp X (rg_up D t f')) ∧ TR f' (sp_does s th r).2 g := by
  rw [rf_e_T_does]
  unfold sp_does
  by_cases a0 : 9 < th
  · rw [if_pos a0, if_neg (show ¬ th < 10 by omega), rg_T_d17 h (d + 2), if_pos rfl]
    exact ⟨_, rfl, tr_other hT hs hm (by omega) t14⟩
  · have hr := hr (by omega)
    rw [if_neg a0, if_pos (show th < 10 by omega)]
    simp only [rg_hp1, h.1, Int.reduceToNat, rg_kIs, rg_kLs, rg_kRs, rg_kVs, rg_nns, rg_bs, cond_true, cond_false]
    rw [rg_T_comesOf h hC hd hT hs hW d t0 (by omega) hr.1 hr.2]
    simp only [Int.reduceToNat, rg_kIs, rg_kLs, rg_kRs, rg_kVs, rg_nns, rg_bs, cond_true, cond_false]
    have k := tr_gives hT hs hm hg th r
    rw [rg_T_d17 h (d + 2), if_neg k.1]
    exact ⟨_, rfl, k.2⟩
theorem rg_T_becomes {p : Nat} (h : rg_tr t) (hp' : rg_tr p) (hne : p ≠ t) (d : Nat) (z9 : D p 9 = 0 ∨ D p 9 = 1) (z10 : D p 10 = 0 ∨ D p 10 = 1) (z11 : D p 11 = 0 ∨ D p 11 = 1) : ∃ f', rf_call (d + 1) 48 [.inr (.inr (some t)), .inr (.inr (some p))] (hp X D) = some (none, hp X (rg_up D t f')) ∧ ∀ j, 2 ≤ j → j ≤ 11 → f' j = D p j := by
  rw [rf_e_T_becomes]
  have n : ∀ f : Nat → Int, rg_up D t f p = D p := fun f => rg_up_n hne
  simp only [rg_T_pI h, rg_T_gI hp', rg_up_u, rg_up_s, n, Int.reduceToNat, rg_kIs, rg_kLs, rg_kRs, rg_kVs, rg_nns, rg_bs, cond_true, cond_false]
  rw [if_pos z9]
  try simp only [rg_T_pI h, rg_T_gI hp', rg_up_u, rg_up_s, n, Int.reduceToNat, rg_kIs, rg_kLs, rg_kRs, rg_kVs, rg_nns, rg_bs, cond_true, cond_false]
  rw [if_pos z10]
  try simp only [rg_T_pI h, rg_T_gI hp', rg_up_u, rg_up_s, n, Int.reduceToNat, rg_kIs, rg_kLs, rg_kRs, rg_kVs, rg_nns, rg_bs, cond_true, cond_false]
  rw [if_pos z11]
  try simp only [rg_T_pI h, rg_T_gI hp', rg_up_u, rg_up_s, n, Int.reduceToNat, rg_kIs, rg_kLs, rg_kRs, rg_kVs, rg_nns, rg_bs, cond_true, cond_false]
  refine ⟨_, rfl, fun j h2 h11 => ?_⟩
  rcases (show j = 2 ∨ j = 3 ∨ j = 4 ∨ j = 5 ∨ j = 6 ∨ j = 7 ∨ j = 8 ∨ j = 9 ∨ j = 10 ∨ j = 11 by omega) with rfl | rfl | rfl | rfl | rfl | rfl | rfl | rfl | rfl | rfl <;> rfl
theorem TR.zo {f s : Nat → Int} {g m : Int} (hT : TR f s g) (hs : sp_st m s) : (f 9 = 0 ∨ f 9 = 1) ∧ (f 10 = 0 ∨ f 10 = 1) ∧ (f 11 = 0 ∨ f 11 = 1) := by
  obtain ⟨⟨e2, e3, e4⟩, ⟨e9, e10, e11⟩, e5, e8, e7, e6⟩ := hT
  obtain ⟨a27, a28, a29, a30, a31, a32, a33, a34, a35⟩ := hs
  omega
theorem TR.of {f f' s : Nat → Int} {g : Int} (hT : TR f s g) (e : ∀ j, 2 ≤ j → j ≤ 11 → f' j = f j) : TR f' s g := by
  unfold TR
  rw [e 2 (by omega) (by omega), e 3 (by omega) (by omega), e 4 (by omega) (by omega), e 5 (by omega) (by omega), e 6 (by omega) (by omega), e 7 (by omega) (by omega), e 8 (by omega) (by omega), e 9 (by omega) (by omega), e 10 (by omega) (by omega), e 11 (by omega) (by omega)]
  exact hT
theorem TR.ofs {f s u : Nat → Int} {g : Int} (hT : TR f s g) (e : ∀ j, 27 ≤ j → j ≤ 36 → u j = s j) : TR f u g := by
  unfold TR
  rw [e 27 (by omega) (by omega), e 28 (by omega) (by omega), e 29 (by omega) (by omega), e 30 (by omega) (by omega), e 31 (by omega) (by omega), e 32 (by omega) (by omega), e 33 (by omega) (by omega), e 34 (by omega) (by omega), e 35 (by omega) (by omega), e 36 (by omega) (by omega)]
  exact hT
/-- the consist is not touched where it doesn't stand -/
theorem CR.of {D D' : rf_D} {c : Nat} {s : Nat → Int} {W : Int} (h : CR D c s W) (e : ∀ a, c ≤ a → a ≤ c + 14 → D' a = D a) : CR D' c s W := by
  unfold CR
  rw [e c (by omega) (by omega), e (c + 1) (by omega) (by omega), e (c + 2) (by omega) (by omega), e (c + 3) (by omega) (by omega), e (c + 4) (by omega) (by omega), e (c + 5) (by omega) (by omega), e (c + 6) (by omega) (by omega), e (c + 7) (by omega) (by omega), e (c + 8) (by omega) (by omega), e (c + 9) (by omega) (by omega), e (c + 10) (by omega) (by omega), e (c + 11) (by omega) (by omega), e (c + 12) (by omega) (by omega), e (c + 13) (by omega) (by omega), e (c + 14) (by omega) (by omega)]
  exact h
theorem CR.up {D : rf_D} {c : Nat} {s : Nat → Int} {W : Int} (h : CR D c s W) {k : Nat} {f : Nat → Int} (hk : k < c ∨ c + 14 < k) : CR (rg_up D k f) c s W := h.of fun a h1 h2 => rg_up_n (by omega)
/-- the consist's side looks at the header alone -/
theorem CR.ofs {D : rf_D} {c : Nat} {s u : Nat → Int} {W : Int} (h : CR D c s W) (hz : s 2 ≤ 6) (e : ∀ k, k < 27 → u k = s k) : CR D c u W := by
  obtain ⟨h1, h2, h3, h4, h5, h6⟩ := h
  refine ⟨by rw [e 0 (by omega), e 1 (by omega), e 2 (by omega)]; exact h1, fun i hi => ?_, h3, h4, fun i hi => ?_, fun n hn => ?_⟩
  · rw [e 2 (by omega)] at hi
    rw [e (3 + i) (by omega)]
    exact h2 i hi
  · have k := h5 i hi
    rw [e (9 + 3 * i) (by omega), e (10 + 3 * i) (by omega), e (11 + 3 * i) (by omega), sp_holds_of (s := s) (u := u) (fun k _ hk => e k hk) (by omega) (by omega), sp_slack_of (s := s) (u := u) (fun k _ hk => e k hk) (by omega) (by omega)]
    exact k
  · have k := h6 n hn
    have eb : ∀ b : Int, sp_load (rg_ui u 31 b) n = sp_load (rg_ui s 31 b) n := fun b => sp_load_of (by rw [rg_ui_n (by omega), rg_ui_n (by omega), e 1 (by omega)]) (by rw [rg_ui_s, rg_ui_s]) (fun k h9 h27 => by rw [rg_ui_n (by omega), rg_ui_n (by omega), e k h27]) (by omega)
    rw [eb, eb]
    exact k
theorem rg_T_less (h : rg_tr t) (hC : CR D 28 s W) (hd : sp_hd s) (hT : TR (D t) s g) (hs : sp_st m s) (hm : m ≤ 1000000) (hW : s 36 ≤ W) (d : Nat) {th : Int} (t0 : 0 ≤ th) (t14 : th ≤ 14) : rf_call (d + 5) 49 [.inr (.inr (some t)), .inl th] (hp X D) = some (some (.inl (if 1 < th ∧ th ≤ 9 ∧ (sp_gives s th (sp_rail s)).1 = (sp_gives s (th - 1) (sp_rail s)).1 then 1 else 0)), hp X D) := by
  have hr := sp_rail_02 hd hs
  have e8 := hT.2.2.2.1
  rw [rf_e_T_doesAsOneLess]
  by_cases a1 : 1 < th
  · rw [if_pos a1]
    by_cases a2 : 9 < th
    · rw [if_pos a2, if_neg (show ¬ (1 < th ∧ th ≤ 9 ∧ (sp_gives s th (sp_rail s)).1 = (sp_gives s (th - 1) (sp_rail s)).1) from fun q => by omega)]
    · rw [if_neg a2]
      simp only [rg_hp1, h.1, Int.reduceToNat, rg_kIs, rg_kLs, rg_kRs, rg_kVs, rg_nns, rg_bs, cond_true, cond_false]
      rw [rg_T_rail h hC hd hs hm (d + 1) e8]
      simp only [rg_hp1, h.1, Int.reduceToNat, rg_kIs, rg_kLs, rg_kRs, rg_kVs, rg_nns, rg_bs, cond_true, cond_false]
      rw [rg_T_comesOf h hC hd hT hs hW d t0 (by omega) hr.1 hr.2]
      simp only [rg_hp1, h.1, Int.reduceToNat, rg_kIs, rg_kLs, rg_kRs, rg_kVs, rg_nns, rg_bs, cond_true, cond_false]
      rw [rg_T_rail h hC hd hs hm (d + 1) e8]
      simp only [rg_hp1, h.1, Int.reduceToNat, rg_kIs, rg_kLs, rg_kRs, rg_kVs, rg_nns, rg_bs, cond_true, cond_false]
      rw [rg_w (by omega) (by omega), rg_T_comesOf h hC hd hT hs hW d (by omega) (by omega) hr.1 hr.2]
      simp only [Int.reduceToNat, rg_kIs, rg_kLs, rg_kRs, rg_kVs, rg_nns, rg_bs, cond_true, cond_false]
      by_cases a3 : (sp_gives s th (sp_rail s)).1 = (sp_gives s (th - 1) (sp_rail s)).1
      · rw [if_pos a3, if_pos (show 1 < th ∧ th ≤ 9 ∧ (sp_gives s th (sp_rail s)).1 = (sp_gives s (th - 1) (sp_rail s)).1 from ⟨a1, by omega, a3⟩)]
      · rw [if_neg a3, if_neg (show ¬ (1 < th ∧ th ≤ 9 ∧ (sp_gives s th (sp_rail s)).1 = (sp_gives s (th - 1) (sp_rail s)).1) from fun q => a3 q.2.2)]
  · rw [if_neg a1, if_neg (show ¬ (1 < th ∧ th ≤ 9 ∧ (sp_gives s th (sp_rail s)).1 = (sp_gives s (th - 1) (sp_rail s)).1) from fun q => a1 q.1)]
theorem rg_T_begins (h : rg_tr t) (ht : t ≠ 28 ∧ t ≠ 31) (d : Nat) : ∃ f', rf_call (d + 1) 38 [.inr (.inr (some t))] (hp X D) = some (none, hp X (rg_up D t f')) ∧ (f' 2 = D 28 8 ∧ f' 3 = D 28 9 ∧ f' 4 = 0) ∧ (f' 9 = 0 ∧ f' 10 = 1 ∧ f' 11 = 0) ∧ (f' 5 = 0 ∧ f' 8 = 0 ∧ f' 7 = 0 ∧ f' 6 = D 31 1) := by
  rw [rf_e_T_begins]
  have hc := rg_con_28
  have n28 : ∀ f : Nat → Int, rg_up D t f 28 = D 28 := fun f => rg_up_n (Ne.symm ht.1)
  have n31 : ∀ f : Nat → Int, rg_up D t f 31 = D 31 := fun f => rg_up_n (Ne.symm ht.2)
  have r31 : ∀ (D : rf_D) (i : Nat), rf_gI (hp X D) 2 31 i = some (D 31 i) := fun D i => rg_row_gI rg_row_31 i
  have g1 : ∀ D : rf_D, rf_gR (hp X D) 0 28 1 = some (some 31) := fun D => rg_C_g1 hc
  simp only [rg_T_pI h, rg_T_g0 h, rg_C_gI hc, g1, r31, rg_up_u, rg_up_s, n28, n31, Int.reduceToNat, rg_kIs, rg_kLs, rg_kRs, rg_kVs, rg_nns, rg_bs, cond_true, cond_false]
  exact ⟨_, rfl, ⟨rfl, rfl, rfl⟩, ⟨rfl, rfl, rfl⟩, rfl, rfl, rfl, rfl⟩
end RGT2
