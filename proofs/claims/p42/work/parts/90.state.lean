/-! The law's row begins; what stays while the law asks. -/
theorem q_I {c : Option rf_R} {x : Int} {h : rf_H} {F : Int → rf_H → Option rf_R} (e : c = some (some (.inl x), h)) : (c.bind fun q => rf_kI q F) = F x h := by
  rw [e]
  rfl
theorem q_L {c : Option rf_R} {x : Int} {h : rf_H} {F : Int → rf_H → Option rf_R} (e : c = some (some (.inr (.inl x)), h)) : (c.bind fun q => rf_kL q F) = F x h := by
  rw [e]
  rfl
theorem q_R {c : Option rf_R} {x : Option Nat} {h : rf_H} {F : Option Nat → rf_H → Option rf_R} (e : c = some (some (.inr (.inr x)), h)) : (c.bind fun q => rf_kR q F) = F x h := by
  rw [e]
  rfl
theorem q_B {α : Type} {c : Option α} {x : α} {F : α → Option rf_R} (e : c = some x) : c.bind F = F x := by
  rw [e]
  rfl
theorem q_n {k : Nat} {F : Nat → Option rf_R} : rf_nn (some k) F = F k := rfl
section PQJ
variable {P : rf_P} {X : rf_X} {D : rf_D}
theorem q_o {A : Option rf_R} : (bif rf_isO (lh P X D).1 0 4 then A else none) = A := by
  rw [lh_o]
  rfl
theorem lh_aI {j : Int} (j0 : 0 ≤ j) (j1 : j < 11) : rf_aI (lh P X D) 78 j = some (D 78 j.toNat) := by
  have e := lo_aI (P := P) (X := X) (D := D) (o := D 78) j0 j1
  rw [lo_lh] at e
  exact e
theorem lq_begins (hP : ∀ k i, k < 77 → P k i = rg_P k i) (d : Nat) (G : Nat → Int) : ∃ (P2 : rf_P) (D2 : rf_D), rf_call (d + 10) 122 [.inr (.inr (some 1000000))] (tp P X D) = some (some (.inr (.inr (some 78))), lh P2 X D2) ∧ (∀ k i, k < 77 → P2 k i = rg_P k i) ∧ (∀ k, k ≠ 78 → D2 k = D k) ∧ lc_ON (D2 78) (sp_bg G (lc_fi X 1) (lc_fi X 2) (lc_ws X)) := by
  obtain ⟨D1, P1, w1, w2, w3, w4⟩ := pq_nw (rg_T ++ [.inr (0, 64)]) D P X (L := 78) rfl 11
  have hl : (tp P X D).1.length = 78 := rfl
  have w1 : rf_nw (tp P X D) (.inr (0, 11)) = ((rg_T ++ [.inr (0, 64)]) ++ [.inr (0, 11)], D1, P1, X) := w1
  rw [List.append_assoc] at w1
  have w1 : rf_nw (tp P X D) (.inr (0, 11)) = lh P1 X D1 := w1
  rw [← lo_lh] at w1
  have lX : ∀ o, (lo P1 X D1 o).2.2.2 = X := fun _ => rfl
  refine ⟨P1, rg_up D1 78 (rg_ui (rg_ui (rg_ui (rg_ui (rg_ui (D1 78) 0 (lc_fi X 1)) 1 (lc_fi X 2)) 4 1) 5 1) 9 (lc_ws X)), ?_, fun k i h => (w3 k i (by omega)).trans (hP k i h), fun k h => by rw [rg_up_n h, w2 k h], ?_⟩
  · rw [rf_e_L_begins, hl, if_pos (by decide), show Int.toNat 11 = 11 from rfl, w1, q_I (lq_first (lX _) (d + 7) 1), q_B (lo_sI (by decide) (by decide)), q_I (lq_first (lX _) (d + 7) 2), q_B (lo_sI (by decide) (by decide)), q_B (lo_sI (by decide) (by decide)), q_B (lo_sI (by decide) (by decide)), q_I (lq_wagons (lX _) (d + 7)), q_B (lo_sI (by decide) (by decide))]
    rfl
  · intro j hj
    rw [rg_up_s]
    have e : j = 0 ∨ j = 1 ∨ j = 2 ∨ j = 3 ∨ j = 4 ∨ j = 5 ∨ j = 6 ∨ j = 7 ∨ j = 8 ∨ j = 9 := by omega
    have z : ∀ k : Nat, k ≠ 0 → k ≠ 1 → k ≠ 4 → k ≠ 5 → k ≠ 9 → rg_ui (rg_ui (rg_ui (rg_ui (rg_ui (D1 78) 0 (lc_fi X 1)) 1 (lc_fi X 2)) 4 1) 5 1) 9 (lc_ws X) k = 0 := fun k y1 y2 y3 y4 y5 => by
      rw [rg_ui_n y5, rg_ui_n y4, rg_ui_n y3, rg_ui_n y2, rg_ui_n y1, w4]
    rcases e with rfl | rfl | rfl | rfl | rfl | rfl | rfl | rfl | rfl | rfl
    · rw [rg_ui_n (by decide), rg_ui_n (by decide), rg_ui_n (by decide), rg_ui_n (by decide), rg_ui_s]
      rfl
    · rw [rg_ui_n (by decide), rg_ui_n (by decide), rg_ui_n (by decide), rg_ui_s]
      rfl
    · exact z 2 (by decide) (by decide) (by decide) (by decide) (by decide)
    · exact z 3 (by decide) (by decide) (by decide) (by decide) (by decide)
    · rw [rg_ui_n (by decide), rg_ui_n (by decide), rg_ui_s]
      rfl
    · rw [rg_ui_n (by decide), rg_ui_s]
      rfl
    · exact z 6 (by decide) (by decide) (by decide) (by decide) (by decide)
    · exact z 7 (by decide) (by decide) (by decide) (by decide) (by decide)
    · exact z 8 (by decide) (by decide) (by decide) (by decide) (by decide)
    · rw [rg_ui_s]
      rfl
/-- the train behind the law's deeds -/
def lz (X : rf_X) (G E : Nat → Int) (n : Nat) : Nat → Int := sp_ch G E (lc_fi X 1) (lc_fi X 2) (lc_ws X) n
def lwS (X : rf_X) (G E : Nat → Int) (n : Nat) (D : rf_D) : Prop := pq_DS D G (lc_fi X 1) (lc_fi X 2) (lc_ws X) n ∧ (∀ j, j < n → D 5 j = E j) ∧ (D 68 1 = (n : Int) ∧ ∀ j, j < n → D 69 j = E j) ∧ lc_ON (D 78) (lz X G E n)
def lwG (X : rf_X) (G E : Nat → Int) (n : Nat) (f : Nat → Int) (k c : Nat) (D : rf_D) : Prop := (c ≤ k ∧ k ≤ 12 ∧ n ≤ 6) ∧ pq_DS D G (lc_fi X 1) (lc_fi X 2) (lc_ws X) (n + c) ∧ (∀ j, j < n → D 5 j = E j) ∧ (D 68 1 = (n : Int) ∧ ∀ j, j < n → D 69 j = E j) ∧ lc_ON (D 78) (lz X G E n) ∧ sp_ch G (D 5) (lc_fi X 1) (lc_fi X 2) (lc_ws X) (n + c) = rn_s (lz X G E n) f k
variable {G E f : Nat → Int} {n k c : Nat}
theorem lwS.e (h : lwS X G E n D) : sp_ch G (D 5) (lc_fi X 1) (lc_fi X 2) (lc_ws X) n = lz X G E n := sp_ch_of (fun _ _ => rfl) _ _ _ (fun i hi => h.2.1 i hi)
theorem lwS.rs (h : lwS X G E n D) : pq_RS D (lz X G E n) (lc_ws X) (n : Int) := by
  have r := h.1.rs
  rw [h.e] at r
  exact r
theorem lwS.of {D' : rf_D} (h : lwS X G E n D) (e : ∀ k, (k = 4 ∨ k = 5 ∨ k = 6 ∨ k = 8 ∨ k = 10 ∨ (28 ≤ k ∧ k ≤ 43) ∨ k = 68 ∨ k = 69 ∨ k = 78) → D' k = D k) (e0 : D' 0 12 = D 0 12) : lwS X G E n D' := by
  refine ⟨h.1.of (fun k hk => e k (by omega)) e0, fun j hj => ?_, ⟨?_, fun j hj => ?_⟩, ?_⟩
  · rw [e 5 (by omega)]
    exact h.2.1 j hj
  · rw [e 68 (by omega)]
    exact h.2.2.1.1
  · rw [e 69 (by omega)]
    exact h.2.2.1.2 j hj
  · rw [e 78 (by omega)]
    exact h.2.2.2
theorem lwS.fq {D' : rf_D} (h : lwS X G E n D) (g : pq_FQ D D') : lwS X G E n D' := h.of (fun k hk => g.1 k (by omega) (by omega) (by omega) (by omega)) g.2
theorem lwS.tl (h : lwS X G E n D) (v : Int) : lwS X G E n (wtl v D) := h.fq ((pq_FQ.rf D).tl v)
theorem lwS.g (h : lwS X G E n D) (n6 : n ≤ 6) (f : Nat → Int) : lwG X G E n f 0 0 D := ⟨⟨Nat.le_refl 0, by omega, n6⟩, h.1, h.2.1, h.2.2.1, h.2.2.2, h.e⟩
theorem lwG.of {D' : rf_D} (h : lwG X G E n f k c D) (e : ∀ k, (k = 4 ∨ k = 5 ∨ k = 6 ∨ k = 8 ∨ k = 10 ∨ (28 ≤ k ∧ k ≤ 43) ∨ k = 68 ∨ k = 69 ∨ k = 78) → D' k = D k) (e0 : D' 0 12 = D 0 12) : lwG X G E n f k c D' := by
  refine ⟨h.1, h.2.1.of (fun k hk => e k (by omega)) e0, fun j hj => ?_, ⟨?_, fun j hj => ?_⟩, ?_, ?_⟩
  · rw [e 5 (by omega)]
    exact h.2.2.1 j hj
  · rw [e 68 (by omega)]
    exact h.2.2.2.1.1
  · rw [e 69 (by omega)]
    exact h.2.2.2.1.2 j hj
  · rw [e 78 (by omega)]
    exact h.2.2.2.2.1
  · rw [e 5 (by omega)]
    exact h.2.2.2.2.2
theorem lwG.tl (h : lwG X G E n f k c D) (v : Int) : lwG X G E n f k c (wtl v D) := h.of (fun a ha => wtl_n (by omega)) ((pq_FQ.rf D).tl v).2
theorem lwG.rs (h : lwG X G E n f k c D) : pq_RS D (rn_s (lz X G E n) f k) (lc_ws X) ((n + c : Nat) : Int) := by
  have r := h.2.1.rs
  rw [h.2.2.2.2.2] at r
  exact r
/-- one deed more -/
theorem lwG.go (hP : ∀ k i, k < 77 → P k i = rg_P k i) (h : lwG X G E n f k c D) (k12 : k < 12) {t : Int} (ht : t = f k) (t0 : 0 ≤ t) (t14 : t ≤ 14) (d : Nat) : ∃ (D' : rf_D) (x : Int) (c' : Nat), rf_call (d + 10) 77 [.inr (.inr (some 0)), .inl t] (lh P X D) = some (some (.inl x), lh P X D') ∧ lwG X G E n f (k + 1) c' D' ∧ (∀ q, q ≠ 4 → q ≠ 5 → q ≠ 43 → D' q = D q) ∧ -4 ≤ x ∧ (sp_can (rn_s (lz X G E n) f k) t = true → c' = c + 1 ∧ x = (sp_does (rn_s (lz X G E n) f k) t (sp_rail (rn_s (lz X G E n) f k))).1 ∧ 0 ≤ x) ∧ (¬ sp_can (rn_s (lz X G E n) f k) t = true → c' = c ∧ x = -4) := by
  obtain ⟨⟨ck, kk, n6⟩, hD, h5, h6, h7, h8⟩ := h
  have r1 : rn_s (lz X G E n) f (k + 1) = if sp_can (rn_s (lz X G E n) f k) (f k) = true then (sp_does (rn_s (lz X G E n) f k) (f k) (sp_rail (rn_s (lz X G E n) f k))).2 else rn_s (lz X G E n) f k := rfl
  rw [← ht] at r1
  by_cases cc : sp_can (rn_s (lz X G E n) f k) t = true
  · obtain ⟨D', g1, g2, g3, g4, g5⟩ := pq_go (X := X) hD (by omega) t0 t14 (by rw [h8]; exact cc) d
    rw [h8] at g1
    have b := pq_do (s := rn_s (lz X G E n) f k) (r := sp_rail (rn_s (lz X G E n) f k)) t0 t14
    refine ⟨D', _, c + 1, lh_up hP g1, ⟨⟨by omega, by omega, n6⟩, g2, fun j hj => ?_, ⟨?_, fun j hj => ?_⟩, ?_, ?_⟩, g3, by omega, fun _ => ⟨rfl, rfl, b.1⟩, fun z => absurd cc z⟩
    · rw [g4 j (by omega)]
      exact h5 j hj
    · rw [g3 68 (by decide) (by decide) (by decide)]
      exact h6.1
    · rw [g3 69 (by decide) (by decide) (by decide)]
      exact h6.2 j hj
    · rw [g3 78 (by decide) (by decide) (by decide)]
      exact h7
    · rw [r1, if_pos cc]
      show (sp_does (sp_ch G (D' 5) (lc_fi X 1) (lc_fi X 2) (lc_ws X) (n + c)) (D' 5 (n + c)) (sp_rail (sp_ch G (D' 5) (lc_fi X 1) (lc_fi X 2) (lc_ws X) (n + c)))).2 = _
      rw [g5, sp_ch_of (A := G) (A' := G) (e := D 5) (fun _ _ => rfl) _ _ _ (k := n + c) (fun i hi => g4 i hi), h8]
  · have g1 := pq_goN (X := X) hD t0 t14 (by rw [h8]; exact cc) d
    refine ⟨D, -4, c, lh_up hP g1, ⟨⟨by omega, by omega, n6⟩, hD, h5, h6, h7, ?_⟩, fun _ _ _ _ => rfl, by omega, fun z => absurd z cc, fun _ => ⟨rfl, rfl⟩⟩
    rw [r1, if_neg cc]
    exact h8
theorem lwG.undo (hP : ∀ k i, k < 77 → P k i = rg_P k i) (h : lwG X G E n f k c D) (d : Nat) : ∃ D' : rf_D, rf_call (d + 8) 79 [.inr (.inr (some 0)), .inl (n : Int)] (lh P X D) = some (some (.inl (c : Int)), lh P X D') ∧ lwS X G E n D' ∧ ∀ q, q ≠ 4 → q ≠ 43 → D' q = D q := by
  obtain ⟨⟨ck, kk, n6⟩, hD, h5, h6, h7, h8⟩ := h
  obtain ⟨D', e1, e2, e3⟩ := pq_undo (X := X) hD (k := n) (by omega) d
  rw [show ((n + c : Nat) : Int) - (n : Int) = (c : Int) by omega] at e1
  refine ⟨D', lh_up hP e1, ⟨e2, fun j hj => ?_, ⟨?_, fun j hj => ?_⟩, ?_⟩, e3⟩
  · rw [e3 5 (by decide) (by decide)]
    exact h5 j hj
  · rw [e3 68 (by decide) (by decide)]
    exact h6.1
  · rw [e3 69 (by decide) (by decide)]
    exact h6.2 j hj
  · rw [e3 78 (by decide) (by decide)]
    exact h7
theorem lw_on (hP : ∀ k i, k < 77 → P k i = rg_P k i) {m : Nat} (hD : pq_DS D G (lc_fi X 1) (lc_fi X 2) (lc_ws X) m) (hE : DE E n) (h6 : D 68 1 = (n : Int) ∧ ∀ j, j < n → D 69 j = E j) (h7 : lc_ON (D 78) (lz X G E n)) (d : Nat) : ∃ D' : rf_D, rf_call (d + 8) 81 [.inr (.inr (some 0)), .inl 2] (lh P X D) = some (some (.inl (n : Int)), lh P X D') ∧ lwS X G E n D' ∧ ∀ q, q ≠ 4 → q ≠ 5 → q ≠ 43 → D' q = D q := by
  obtain ⟨D', e1, e2, e3, e4⟩ := pq_on (X := X) hD h6.1 ⟨hE.1, fun j hj => by rw [h6.2 j hj]; exact hE.2 j hj⟩ d
  refine ⟨D', lh_up hP e1, ⟨e2, fun j hj => ?_, ⟨?_, fun j hj => ?_⟩, ?_⟩, e3⟩
  · rw [e4 j hj]
    exact h6.2 j hj
  · rw [e3 68 (by decide) (by decide) (by decide)]
    exact h6.1
  · rw [e3 69 (by decide) (by decide) (by decide)]
    exact h6.2 j hj
  · rw [e3 78 (by decide) (by decide) (by decide)]
    exact h7
theorem lwG.de (h : lwG X G E n f k c D) : DE E n := by
  have e : DE (D 5) (n + c) := h.2.1.2.2.2.2.2.2.2.2.1
  exact ⟨by have := h.1; omega, fun j hj => by rw [← h.2.2.1 j hj]; exact e.2 j (by omega)⟩
theorem lwG.on (hP : ∀ k i, k < 77 → P k i = rg_P k i) (h : lwG X G E n f k c D) (d : Nat) : ∃ D' : rf_D, rf_call (d + 8) 81 [.inr (.inr (some 0)), .inl 2] (lh P X D) = some (some (.inl (n : Int)), lh P X D') ∧ lwS X G E n D' ∧ ∀ q, q ≠ 4 → q ≠ 5 → q ≠ 43 → D' q = D q := lw_on hP h.2.1 h.de h.2.2.2.1 h.2.2.2.2.1 d
end PQJ
