/-! The law's body: the book of tries, the trial; undone and gone on from; its answer. -/
section PQO
variable {P : rf_P} {X : rf_X} {D : rf_D} {G E : Nat → Int} {n d : Nat}
theorem lw_lay (hP : ∀ k i, k < 77 → P k i = rg_P k i) (h : lwS X G E n D) {T I : Nat} (T7 : T ≤ 7) (hZ : D 54 1 = ((3 * T : Nat) : Int)) (hI : I < 3 * T) (v : Int) (d : Nat) : ∃ D' : rf_D, rf_call (d + 8) 58 [.inr (.inr (some 0)), .inl 5, .inl (I : Int), .inl v] (lh P X D) = some (some (.inl 1), lh P X D') ∧ lwS X G E n D' ∧ D' 54 1 = ((3 * T : Nat) : Int) ∧ D' 55 = rg_ui (D 55) I v := by
  have la := pq_lay (X := X) (D := D) (R := 5) (I := I) (by decide) h.1.1.1 (by rw [show 44 + 2 * 5 = 54 from rfl, hZ]; omega) (by rw [show 44 + 2 * 5 = 54 from rfl, hZ]; omega) v d
  rw [show ((5 : Nat) : Int) = 5 from rfl, show 44 + 2 * 5 + 1 = 55 from rfl] at la
  refine ⟨_, lh_up hP la, ?_, ?_, ?_⟩
  · have e : lwS X G E n (rg_up D 55 (rg_ui (D 55) I v)) := h.of (fun a ha => rg_up_n (by omega)) (by rw [rg_up_n (by decide)])
    exact e.tl _
  · rw [wtl_n (by decide), rg_up_n (by decide)]
    exact hZ
  · rw [wtl_n (by decide), rg_up_s]
theorem lw_u (X : rf_X) (k : Int) : 0 ≤ Int.tmod (rf_w (Int.tdiv (lc_cl X k) 4)) 10 ∧ Int.tmod (rf_w (Int.tdiv (lc_cl X k) 4)) 10 < 10 := by
  have b := lc_cl_b X k
  generalize lc_cl X k = c at b ⊢
  have e : Int.tdiv c 4 = c / 4 := Int.tdiv_eq_ediv_of_nonneg b.1
  refine pq_tm ?_ (by decide)
  rw [e, rg_w (by omega) (by omega)]
  omega
/-- a try that is no lie at such a weight -/
def lwL (f : Nat → Int) (w : Int) (j : Nat) : Prop := (0 ≤ f (3 * j) ∧ f (3 * j) ≤ 2) ∧ (0 ≤ f (3 * j + 1) ∧ f (3 * j + 1) ≤ 9) ∧ (0 ≤ f (3 * j + 2) ∧ f (3 * j + 2) ≤ 1) ∧ li_v f w j = 0
theorem lwL.of {f g : Nat → Int} {w : Int} {j : Nat} (h : lwL f w j) (e0 : g (3 * j) = f (3 * j)) (e1 : g (3 * j + 1) = f (3 * j + 1)) (e2 : g (3 * j + 2) = f (3 * j + 2)) : lwL g w j := by
  unfold lwL li_v at *
  rw [e0, e1, e2]
  exact h
theorem lwL.nw (f : Nat → Int) {w r u sl : Int} (j : Nat) (hr : 0 ≤ r ∧ r < 3) (hu : 0 ≤ u ∧ u < 10) (hs : (rf_w (w * rf_w (3 - r)) < rf_w (2 * u) ∧ sl = 1) ∨ (¬ rf_w (w * rf_w (3 - r)) < rf_w (2 * u) ∧ sl = 0)) : lwL (rg_ui (rg_ui (rg_ui f (3 * j) r) (3 * j + 1) u) (3 * j + 2) sl) w j := by
  unfold lwL li_v
  rw [rg_ui_s, rg_ui_n (show 3 * j ≠ 3 * j + 2 by omega), rg_ui_n (show 3 * j ≠ 3 * j + 1 by omega), rg_ui_s, rg_ui_n (show 3 * j + 1 ≠ 3 * j + 2 by omega), rg_ui_s]
  rcases hs with ⟨c, e⟩ | ⟨c, e⟩
  · rw [e, if_pos rfl, if_pos c]
    exact ⟨⟨hr.1, by omega⟩, ⟨hu.1, by omega⟩, by decide, rfl⟩
  · rw [e, if_neg (by decide), if_neg c]
    exact ⟨⟨hr.1, by omega⟩, ⟨hu.1, by omega⟩, by decide, rfl⟩
/-- an equation that is not looked into -/
def lwEq (a b : Int) : Prop := a = b
theorem lwEq.e {a b : Int} (h : lwEq a b) : a = b := h
theorem lwEq.m (b : Int) : ∃ a, lwEq a b := ⟨b, rfl⟩
theorem lw_961 (hP : ∀ k i, k < 77 → P k i = rg_P k i) {T : Nat} (T7 : T ≤ 7) (d : Nat) : ∀ (k i : Nat) (D : rf_D), i + k = T → lwS X G E n D → D 54 1 = ((3 * T : Nat) : Int) → (∀ j, j < i → lwL (D 55) (lc_fi X 0) j) → ∃ D' : rf_D, rf_j_L_law_961 (d + 15) 1000000 0 1 (some 78) (n : Int) (T : Int) (i : Int) (lh P X D) = rf_j_L_law_961 (d + 15) 1000000 0 1 (some 78) (n : Int) (T : Int) (T : Int) (lh P X D') ∧ lwS X G E n D' ∧ D' 54 1 = ((3 * T : Nat) : Int) ∧ ∀ j, j < T → lwL (D' 55) (lc_fi X 0) j
  | 0, i, D, hk, h, hZ, hf => by
    have e : i = T := by omega
    rw [e] at hf ⊢
    exact ⟨D, rfl, h, hZ, hf⟩
  | k + 1, i, D, hk, h, hZ, hf => by
    have w21 : rf_w (21 + (i : Int)) = 21 + (i : Int) := rg_w (by omega) (by omega)
    have w3 : rf_w (3 * (i : Int)) = ((3 * i : Nat) : Int) := (rg_w (by omega) (by omega)).trans (by omega)
    have w31 : rf_w (((3 * i : Nat) : Int) + 1) = ((3 * i + 1 : Nat) : Int) := (rg_w (by omega) (by omega)).trans (by omega)
    have w32 : rf_w (((3 * i : Nat) : Int) + 2) = ((3 * i + 2 : Nat) : Int) := (rg_w (by omega) (by omega)).trans (by omega)
    have i21 : 0 ≤ 21 + (i : Int) := by omega
    have rb := pq_tm (x := lc_cl X (21 + (i : Int))) (y := 3) (lc_cl_b X _).1 (by decide)
    have ub := lw_u X (21 + (i : Int))
    obtain ⟨r, hr⟩ := lwEq.m (Int.tmod (lc_cl X (21 + (i : Int))) 3)
    obtain ⟨u, hu⟩ := lwEq.m (Int.tmod (rf_w (Int.tdiv (lc_cl X (21 + (i : Int))) 4)) 10)
    rw [← hr.e] at rb
    rw [← hu.e] at ub
    obtain ⟨D1, a1, a2, a3, a4⟩ := lw_lay hP h T7 hZ (I := 3 * i) (by omega) r (d + 7)
    obtain ⟨D2, b1, b2, b3, b4⟩ := lw_lay hP a2 T7 a3 (I := 3 * i + 1) (by omega) u (d + 7)
    have head : rf_j_L_law_961 (d + 15) 1000000 0 1 (some 78) (n : Int) (T : Int) (i : Int) (lh P X D) = (if rf_w (lc_fi X 0 * rf_w (3 - r)) < rf_w (2 * u) then ((rf_call (d + 15) 58 [.inr (.inr (some 0)), .inl 5, .inl ((3 * i + 2 : Nat) : Int), .inl 1] (lh P X D2)).bind fun q31 => rf_kI q31 fun x32 h33 => (if x32 = 1 then rf_j_L_law_1066 (d + 15) 1000000 0 (some 78) (n : Int) (T : Int) (i : Int) h33 else rf_j_L_law_1070 (d + 15) 1000000 0 (some 78) (n : Int) (T : Int) (i : Int) h33)) else ((rf_call (d + 15) 58 [.inr (.inr (some 0)), .inl 5, .inl ((3 * i + 2 : Nat) : Int), .inl 0] (lh P X D2)).bind fun q28 => rf_kI q28 fun x29 h30 => (if x29 = 1 then rf_j_L_law_1066 (d + 15) 1000000 0 (some 78) (n : Int) (T : Int) (i : Int) h30 else rf_j_L_law_1070 (d + 15) 1000000 0 (some 78) (n : Int) (T : Int) (i : Int) h30))) := by
      rw [rf_e_L_law_961, if_pos (by omega), w21, q_I (lq_cell (lh_X P X D) (d + 14) i21), ← hr.e, ← hu.e, w3, w31, w32, if_neg (by decide), q_o, q_I a1, if_pos (by first | rfl | trivial), q_o, q_I b1, if_pos (by first | rfl | trivial), q_I (lq_first (lh_X P X D2) (d + 13) 0), q_o, q_o]
    have step : ∃ D3 : rf_D, rf_j_L_law_961 (d + 15) 1000000 0 1 (some 78) (n : Int) (T : Int) (i : Int) (lh P X D) = rf_j_L_law_961 (d + 15) 1000000 0 1 (some 78) (n : Int) (T : Int) ((i + 1 : Nat) : Int) (lh P X D3) ∧ lwS X G E n D3 ∧ D3 54 1 = ((3 * T : Nat) : Int) ∧ ∃ sl, D3 55 = rg_ui (D2 55) (3 * i + 2) sl ∧ ((rf_w (lc_fi X 0 * rf_w (3 - r)) < rf_w (2 * u) ∧ sl = 1) ∨ (¬ rf_w (lc_fi X 0 * rf_w (3 - r)) < rf_w (2 * u) ∧ sl = 0)) := by
      by_cases y : rf_w (lc_fi X 0 * rf_w (3 - r)) < rf_w (2 * u)
      · obtain ⟨D3, c1, c2, c3, c4⟩ := lw_lay hP b2 T7 b3 (I := 3 * i + 2) (by omega) 1 (d + 7)
        refine ⟨D3, ?_, c2, c3, 1, c4, Or.inl ⟨y, rfl⟩⟩
        rw [head, if_pos y, q_I c1, if_pos (by first | rfl | trivial), rf_e_L_law_1066, rf_e_L_law_1072, xs_1 (show i ≤ 1000 by omega)]
      · obtain ⟨D3, c1, c2, c3, c4⟩ := lw_lay hP b2 T7 b3 (I := 3 * i + 2) (by omega) 0 (d + 7)
        refine ⟨D3, ?_, c2, c3, 0, c4, Or.inr ⟨y, rfl⟩⟩
        rw [head, if_neg y, q_I c1, if_pos (by first | rfl | trivial), rf_e_L_law_1066, rf_e_L_law_1072, xs_1 (show i ≤ 1000 by omega)]
    obtain ⟨D3, s1, s2, s3, sl, s4, s5⟩ := step
    rw [b4, a4] at s4
    obtain ⟨D', e1, e2, e3, e4⟩ := lw_961 hP T7 d k (i + 1) D3 (by omega) s2 s3 (fun j hj => by
      rw [s4]
      by_cases z : j = i
      · rw [z]
        exact lwL.nw (D 55) i rb ub s5
      · refine (hf j (by omega)).of ?_ ?_ ?_
        · rw [rg_ui_n (by omega), rg_ui_n (by omega), rg_ui_n (by omega)]
        · rw [rg_ui_n (by omega), rg_ui_n (by omega), rg_ui_n (by omega)]
        · rw [rg_ui_n (by omega), rg_ui_n (by omega), rg_ui_n (by omega)])
    exact ⟨D', s1.trans e1, e2, e3, e4⟩
theorem lw_921 (hP : ∀ k i, k < 77 → P k i = rg_P k i) (h : lwS X G E n D) (d : Nat) : ∃ (D' : rf_D) (T : Nat), rf_j_L_law_921 (d + 15) 1000000 0 1 (some 78) (n : Int) (lh P X D) = rf_j_L_law_961 (d + 15) 1000000 0 1 (some 78) (n : Int) (T : Int) (T : Int) (lh P X D') ∧ lwS X G E n D' ∧ T ≤ 7 ∧ D' 54 1 = ((3 * T : Nat) : Int) ∧ ∀ j, j < T → lwL (D' 55) (lc_fi X 0) j := by
  obtain ⟨T, hT, T8⟩ := lw_m X 20 (y := 8) (by decide)
  have T7 : T ≤ 7 := by omega
  have w3 : rf_w (3 * (T : Int)) = ((3 * T : Nat) : Int) := (rg_w (by omega) (by omega)).trans (by omega)
  have ro := pq_row (X := X) (D := D) (R := 5) (N := 3 * T) (by decide) (by omega) (d + 7)
  rw [show ((5 : Nat) : Int) = 5 from rfl, show 44 + 2 * 5 + 1 = 55 from rfl, show 44 + 2 * 5 = 54 from rfl] at ro
  obtain ⟨D1, hD1⟩ : ∃ D1, D1 = rg_up (rg_up D 54 (rg_ui (D 54) 1 ((3 * T : Nat) : Int))) 55 (fun j => if (j : Int) < ((3 * T : Nat) : Int) then 0 else D 55 j) := ⟨_, rfl⟩
  rw [← hD1] at ro
  have S1 : lwS X G E n D1 := h.of (fun a ha => by rw [hD1, rg_up_n (by omega), rg_up_n (by omega)]) (by rw [hD1, rg_up_n (by decide), rg_up_n (by decide)])
  obtain ⟨D', e1, e2, e3, e4⟩ := lw_961 hP T7 d T 0 D1 (by omega) S1 (by rw [hD1, rg_up_n (by decide), rg_up_s, rg_ui_s]) (fun j hj => by omega)
  have e1 : rf_j_L_law_961 (d + 15) 1000000 0 1 (some 78) (n : Int) (T : Int) 0 (lh P X D1) = _ := e1
  refine ⟨D', T, ?_, e2, T7, e3, e4⟩
  rw [rf_e_L_law_921, q_I (lq_cell (lh_X P X D) (d + 14) (by decide)), if_neg (by decide), hT, w3, q_o, q_I (lh_up hP ro), if_pos (by first | rfl | trivial), rf_e_L_law_958, e1]
end PQO
