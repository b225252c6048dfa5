/-! A thing done by the law's row; some of them done by both. -/
section PQG
variable {P : rf_P} {X : rf_X} {D : rf_D} {o s : Nat → Int} {m t c : Int}
theorem ld_20n (h : ¬ t = 10) (h1 : -100000 ≤ o 1) (h2 : o 1 ≤ 100000) (d : Nat) : rf_j_L_does_20 d 78 t c (lo P X D o) = rf_j_L_does_37 d 78 t c (lo P X D o) := by
  rw [rf_e_L_does_20, lo_aI (by decide) (by decide)]
  simp only [Int.reduceToNat, rg_bs, rg_kIs]
  rw [if_neg h, lo_sI (by decide) (by decide)]
  simp only [Int.reduceToNat, rg_bs, rg_kIs]
  rw [rg_w (z := o 1 - 0) (by omega) (by omega), show o 1 - 0 = o 1 by omega, rg_ui_i]
theorem ld_20y (h : t = 10) (d : Nat) : rf_j_L_does_20 d 78 t c (lo P X D o) = rf_j_L_does_37 d 78 t c (lo P X D (rg_ui o 1 (rf_w (o 1 - 1)))) := by
  rw [rf_e_L_does_20, lo_aI (by decide) (by decide)]
  simp only [Int.reduceToNat, rg_bs, rg_kIs]
  rw [if_pos h, lo_sI (by decide) (by decide)]
  simp only [Int.reduceToNat, rg_bs, rg_kIs]
theorem ld_37n (h : ¬ t = 10) (d : Nat) : rf_j_L_does_37 d 78 t c (lo P X D o) = rf_j_L_does_53 d 78 t c (lo P X D o) := by
  rw [rf_e_L_does_37, if_neg h, lo_aI (by decide) (by decide)]
  simp only [Int.reduceToNat, rg_bs, rg_kIs]
  rw [lo_sI (by decide) (by decide)]
  simp only [Int.reduceToNat, rg_bs, rg_kIs]
  rw [rg_ui_i]
theorem ld_37y (h : t = 10) (d : Nat) : rf_j_L_does_37 d 78 t c (lo P X D o) = rf_j_L_does_53 d 78 t c (lo P X D (rg_ui o 3 1)) := by
  rw [rf_e_L_does_37, if_pos h, lo_sI (by decide) (by decide)]
  simp only [Int.reduceToNat, rg_bs, rg_kIs]
theorem ld_53n (h : ¬ t = 11) (d : Nat) : rf_j_L_does_53 d 78 t c (lo P X D o) = rf_j_L_does_86 d 78 t c (lo P X D o) := by
  rw [rf_e_L_does_53, if_neg h, lo_aI (by decide) (by decide)]
  simp only [Int.reduceToNat, rg_bs, rg_kIs]
  rw [lo_sI (by decide) (by decide)]
  simp only [Int.reduceToNat, rg_bs, rg_kIs]
  rw [rg_ui_i]
theorem ld_53y (h : t = 11) (d : Nat) : rf_j_L_does_53 d 78 t c (lo P X D o) = rf_j_L_does_86 d 78 t c (lo P X D (rg_ui o 0 (if 7 < o 0 then 9 else rf_w (o 0 + 2)))) := by
  rw [rf_e_L_does_53, if_pos h, lo_aI (by decide) (by decide)]
  simp only [Int.reduceToNat, rg_bs, rg_kIs]
  by_cases q : 7 < o 0
  · rw [if_pos q, if_pos q, lo_sI (by decide) (by decide)]
    simp only [Int.reduceToNat, rg_bs, rg_kIs]
  · rw [if_neg q, if_neg q, lo_sI (by decide) (by decide)]
    simp only [Int.reduceToNat, rg_bs, rg_kIs]
theorem ld_86n (h : ¬ t = 12) (d : Nat) : rf_j_L_does_86 d 78 t c (lo P X D o) = rf_j_L_does_104 d 78 t c (lo P X D o) := by
  rw [rf_e_L_does_86, if_neg h, lo_aI (by decide) (by decide)]
  simp only [Int.reduceToNat, rg_bs, rg_kIs]
  rw [lo_sI (by decide) (by decide)]
  simp only [Int.reduceToNat, rg_bs, rg_kIs]
  rw [rg_ui_i]
theorem ld_86y (h : t = 12) (d : Nat) : rf_j_L_does_86 d 78 t c (lo P X D o) = rf_j_L_does_104 d 78 t c (lo P X D (rg_ui o 6 0)) := by
  rw [rf_e_L_does_86, if_pos h, lo_sI (by decide) (by decide)]
  simp only [Int.reduceToNat, rg_bs, rg_kIs]
theorem ld_104n (h : ¬ t = 13) (h2 : ¬ t = 14) (d : Nat) : rf_j_L_does_104 d 78 t c (lo P X D o) = rf_j_L_does_130 d 78 c (lo P X D o) := by
  rw [rf_e_L_does_104, if_neg h, if_neg h2, lo_aI (by decide) (by decide)]
  simp only [Int.reduceToNat, rg_bs, rg_kIs]
  rw [lo_sI (by decide) (by decide)]
  simp only [Int.reduceToNat, rg_bs, rg_kIs]
  rw [rg_ui_i]
theorem ld_104y (h : t = 13) (d : Nat) : rf_j_L_does_104 d 78 t c (lo P X D o) = rf_j_L_does_130 d 78 c (lo P X D (rg_ui o 4 0)) := by
  rw [rf_e_L_does_104, if_pos h, lo_sI (by decide) (by decide)]
  simp only [Int.reduceToNat, rg_bs, rg_kIs]
theorem ld_104z (h : t = 14) (d : Nat) : rf_j_L_does_104 d 78 t c (lo P X D o) = rf_j_L_does_130 d 78 c (lo P X D (rg_ui o 4 1)) := by
  rw [rf_e_L_does_104, if_neg (by omega), if_pos h, lo_sI (by decide) (by decide)]
  simp only [Int.reduceToNat, rg_bs, rg_kIs]
theorem ld_130 (d : Nat) : rf_j_L_does_130 d 78 c (lo P X D o) = some (some (.inl c), lo P X D (rg_ui o 7 (rf_w (o 7 + 1)))) := by
  rw [rf_e_L_does_130, lo_aI (by decide) (by decide)]
  simp only [Int.reduceToNat, rg_bs, rg_kIs]
  rw [lo_sI (by decide) (by decide)]
  simp only [Int.reduceToNat, rg_bs, rg_kIs]
theorem lc_ON.tick {o s : Nat → Int} (h : lc_ON o s) : lc_ON (rg_ui o 7 (rf_w (o 7 + 1))) (sp_tick s) := by
  have e : o 7 = s 34 := h 7 (by decide)
  unfold sp_tick
  rw [e]
  exact h.ui 7 _
theorem lq_d20 (hO : lc_ON o s) (b27 : 0 ≤ s 27 ∧ s 27 ≤ 9) (b28 : -1000 ≤ s 28 ∧ s 28 ≤ 9) (t0 : 0 ≤ t) (t14 : t ≤ 14) (d : Nat) : ∃ o', rf_j_L_does_20 d 78 t c (lo P X D o) = some (some (.inl c), lo P X D o') ∧ lc_ON o' (sp_tick (if t < 10 then s else sp_other s t)) := by
  have e0 : o 0 = s 27 := hO 0 (by decide)
  have e1 : o 1 = s 28 := hO 1 (by decide)
  have h : t < 10 ∨ t = 10 ∨ t = 11 ∨ t = 12 ∨ t = 13 ∨ t = 14 := by omega
  unfold sp_other
  rcases h with h | h | h | h | h | h
  · rw [ld_20n (by omega) (by omega) (by omega), ld_37n (by omega), ld_53n (by omega), ld_86n (by omega), ld_104n (by omega) (by omega), ld_130, if_pos h]
    exact ⟨_, rfl, hO.tick⟩
  · rw [ld_20y h, ld_37y h, ld_53n (by omega), ld_86n (by omega), ld_104n (by omega) (by omega), ld_130, if_neg (by omega), if_pos h, e1]
    exact ⟨_, rfl, ((hO.ui 1 _).ui 3 1).tick⟩
  · rw [ld_20n (by omega) (by omega) (by omega), ld_37n (by omega), ld_53y h, ld_86n (by omega), ld_104n (by omega) (by omega), ld_130, if_neg (show ¬ t < 10 by omega), if_neg (show ¬ t = 10 by omega), if_pos h, e0]
    refine ⟨_, rfl, lc_ON.tick ?_⟩
    have e : (if 7 < s 27 then 9 else rf_w (s 27 + 2)) = (if 9 < rf_w (s 27 + 2) then 9 else rf_w (s 27 + 2)) := by
      rw [rg_w (z := s 27 + 2) (by omega) (by omega)]
      split <;> split <;> omega
    rw [e]
    exact hO.ui 0 _
  · rw [ld_20n (by omega) (by omega) (by omega), ld_37n (by omega), ld_53n (by omega), ld_86y h, ld_104n (by omega) (by omega), ld_130, if_neg (show ¬ t < 10 by omega), if_neg (show ¬ t = 10 by omega), if_neg (show ¬ t = 11 by omega), if_pos h]
    exact ⟨_, rfl, (hO.ui 6 0).tick⟩
  · rw [ld_20n (by omega) (by omega) (by omega), ld_37n (by omega), ld_53n (by omega), ld_86n (by omega), ld_104y h, ld_130, if_neg (show ¬ t < 10 by omega), if_neg (show ¬ t = 10 by omega), if_neg (show ¬ t = 11 by omega), if_neg (show ¬ t = 12 by omega), if_neg (show ¬ t = 14 by omega)]
    exact ⟨_, rfl, (hO.ui 4 0).tick⟩
  · rw [ld_20n (by omega) (by omega) (by omega), ld_37n (by omega), ld_53n (by omega), ld_86n (by omega), ld_104z h, ld_130, if_neg (show ¬ t < 10 by omega), if_neg (show ¬ t = 10 by omega), if_neg (show ¬ t = 11 by omega), if_neg (show ¬ t = 12 by omega), if_pos h]
    exact ⟨_, rfl, (hO.ui 4 1).tick⟩
theorem lq_does (hA : lc_AX X s) (hO : lc_ON o s) (hs : sp_st m s) (hm0 : 0 ≤ m) (hm : m ≤ 1000) (hW : s 36 ≤ lc_ws X) (t0 : 0 ≤ t) (t14 : t ≤ 14) {r : Int} (r0 : 0 ≤ r) (r2 : r ≤ 2) (d : Nat) : ∃ o', rf_call (d + 6) 130 [.inr (.inr (some 1000000)), .inr (.inr (some 78)), .inl t, .inl r] (lo P X D o) = some (some (.inl (sp_does s t r).1), lo P X D o') ∧ lc_ON o' (sp_does s t r).2 := by
  rw [rf_e_L_does]
  by_cases a : 9 < t
  · rw [if_pos a, sp_does_ge (show ¬ t < 10 by omega)]
    obtain ⟨o', h1, h2⟩ := lq_d20 (P := P) (X := X) (D := D) (c := 6) hO hs.1 (by have := hs.2.1; omega) t0 t14 (d + 5)
    rw [if_neg (show ¬ t < 10 by omega)] at h2
    exact ⟨o', h1, h2⟩
  · obtain ⟨o1, g1, g2⟩ := lq_gives (P := P) (D := D) hA hO hs hm hW t0 (by omega) r0 r2 d
    rw [if_neg a, sp_does_lt (show t < 10 by omega), g1]
    simp only [Int.reduceToNat, rg_bs, rg_kIs]
    have st := (sp_gives_st hs ⟨hm0, by omega⟩ t r).1
    have b27 := st.1
    have b28 := st.2.1
    rw [rg_ui_n (show (27 : Nat) ≠ 35 by decide)] at b27
    rw [rg_ui_n (show (28 : Nat) ≠ 35 by decide)] at b28
    obtain ⟨o', h1, h2⟩ := lq_d20 (P := P) (X := X) (D := D) (c := (sp_gives s t r).1) g2 b27 (by omega) t0 t14 (d + 5)
    rw [if_pos (show t < 10 by omega)] at h2
    exact ⟨o', h1, h2⟩
/-- the law's heap -/
def lh (P : rf_P) (X : rf_X) (D : rf_D) : rf_H := (rg_T ++ [.inr (0, 64), .inr (0, 11)], D, P, X)
theorem lo_lh (P : rf_P) (X : rf_X) (D : rf_D) : lo P X D (D 78) = lh P X D := by
  unfold lo lh
  rw [rg_up_i]
theorem lo_up (P : rf_P) (X : rf_X) (D : rf_D) (o : Nat → Int) : lo P X D o = lh P X (rg_up D 78 o) := rfl
theorem lh_up (hP : ∀ k i, k < 77 → P k i = rg_P k i) {D' : rf_D} {d u : Nat} {as : List rf_V} {v : Option rf_V} (e : rf_call d u as (hp X D) = some (v, hp X D')) : rf_call d u as (lh P X D) = some (v, lh P X D') := pq_up hP e
theorem lh_o (P : rf_P) (X : rf_X) (D : rf_D) : rf_isO (lh P X D).1 0 4 = true := rfl
theorem lh_X (P : rf_P) (X : rf_X) (D : rf_D) : (lh P X D).2.2.2 = X := rfl
theorem lq_passes_6 (hP : ∀ k i, k < 77 → P k i = rg_P k i) {A : Nat → Int} {a b W : Int} (hA : lc_AX X A) (hW : W ≤ lc_ws X) (d : Nat) {M : Nat} (hM : M ≤ 6) : ∀ (j k n : Nat) (D : rf_D), k + j = M → n ≤ k → pq_DS D A a b W n → lc_ON (D 78) (sp_ch A (D 5) a b W n) → ∃ (D' : rf_D) (n' : Nat), rf_j_L_passes_6 (d + 10) 0 1000000 78 10 (M : Int) 1 (k : Int) (lh P X D) = some (some (.inl 1), lh P X D') ∧ n' ≤ M ∧ pq_DS D' A a b W n' ∧ lc_ON (D' 78) (sp_ch A (D' 5) a b W n') ∧ ∀ q, q ≠ 4 → q ≠ 5 → q ≠ 43 → q ≠ 78 → D' q = D q
  | 0, k, n, D, hk, hn, hD, hO => by
    refine ⟨D, n, ?_, by omega, hD, hO, fun _ _ _ _ _ => rfl⟩
    rw [rf_e_L_passes_6, if_neg (by omega), if_pos (Or.inr rfl)]
  | j + 1, k, n, D, hk, hn, hD, hO => by
    have cb := lc_cl_b X (10 + (k : Int))
    have tb := pq_tm (x := lc_cl X (10 + (k : Int))) (y := 15) cb.1 (by decide)
    have x10 : rf_w (10 + (k : Int)) = 10 + (k : Int) := rg_w (by omega) (by omega)
    obtain ⟨t, ht⟩ : ∃ t, t = Int.tmod (lc_cl X (10 + (k : Int))) 15 := ⟨_, rfl⟩
    rw [← ht] at tb
    have hr := hD.rs
    obtain ⟨s, hs⟩ : ∃ s, s = sp_ch A (D 5) a b W n := ⟨_, rfl⟩
    rw [← hs] at hr hO
    have AS : lc_AX X s := hA.of fun q hq => by rw [hs]; exact sp_ch_hd n q hq
    have b34 := hr.2.2.2.2.2.1.2.2.2.2.2.2.2.1
    have cn := lq_can (P := P) (X := X) (D := D) (t := t) hO (d + 9)
    have head : rf_j_L_passes_6 (d + 10) 0 1000000 78 10 (M : Int) 1 (k : Int) (lh P X D) = (rf_call (d + 10) 77 [.inr (.inr (some 0)), .inl t] (lh P X D)).bind fun q4 => rf_kI q4 fun x5 h6 => ((rf_call (d + 10) 128 [.inr (.inr (some 78)), .inl t] h6).bind fun q7 => rf_kI q7 fun x8 h9 => (if x8 = 0 then (if x5 = (-4) then rf_j_L_passes_66 (d + 10) 0 1000000 78 10 (M : Int) (k : Int) h9 else rf_j_L_passes_70 (d + 10) 0 1000000 78 10 (M : Int) (k : Int) h9) else ((rf_call (d + 10) 131 [.inr (.inr (some 1000000)), .inr (.inr (some 78))] h9).bind fun q10 => rf_kI q10 fun x11 h12 => ((rf_call (d + 10) 130 [.inr (.inr (some 1000000)), .inr (.inr (some 78)), .inl t, .inl x11] h12).bind fun q13 => rf_kI q13 fun x14 h15 => (if x5 = x14 then rf_j_L_passes_66 (d + 10) 0 1000000 78 10 (M : Int) (k : Int) h15 else rf_j_L_passes_70 (d + 10) 0 1000000 78 10 (M : Int) (k : Int) h15))))) := by
      rw [rf_e_L_passes_6, if_pos (by omega), x10, lq_cell (lh_X P X D) (d + 9) (by omega)]
      simp only [Int.reduceToNat, rg_bs, rg_kIs]
      rw [if_neg (by decide), lh_o, ← ht]
      rfl
    rw [head]
    have next : ∀ h : rf_H, rf_j_L_passes_66 (d + 10) 0 1000000 78 10 (M : Int) (k : Int) h = rf_j_L_passes_6 (d + 10) 0 1000000 78 10 (M : Int) 1 ((k + 1 : Nat) : Int) h := fun h => by
      rw [rf_e_L_passes_66, rf_e_L_passes_73, xs_1 (show k ≤ 1000 by omega)]
    by_cases c : sp_can s t = true
    · obtain ⟨D1, g1, g2, g3, g4, g5⟩ := pq_go (X := X) hD (by omega) tb.1 (by omega) (by rw [← hs]; exact c) d
      rw [← hs] at g1
      have f78 : D1 78 = D 78 := g3 78 (by decide) (by decide) (by decide)
      have hO1 : lc_ON (D1 78) s := by rw [f78]; exact hO
      have cn1 := lq_can (P := P) (X := X) (D := D1) (t := t) hO1 (d + 9)
      have nw := lq_now (P := P) (X := X) (D := D1) AS hO1 b34.1 (d + 6)
      have rl := sp_rail_02 hr.2.2.1 hr.2.2.2.2.2.1
      obtain ⟨o', e1, e2⟩ := lq_does (P := P) (D := D1) AS hO1 hr.2.2.2.2.2.1 (by omega) (by omega) (by have := hr.2.2.2.2.2.2.2; omega) tb.1 (show t ≤ 14 by omega) rl.1 rl.2 (d + 4)
      rw [lo_lh] at cn1 nw e1
      rw [if_pos c] at cn1
      rw [lo_up] at e1
      have D5 : (rg_up D1 78 o') 5 = D1 5 := rg_up_n (by decide)
      have sn : sp_ch A (D1 5) a b W (n + 1) = (sp_does s t (sp_rail s)).2 := by
        show (sp_does (sp_ch A (D1 5) a b W n) (D1 5 n) (sp_rail (sp_ch A (D1 5) a b W n))).2 = _
        rw [g5, sp_ch_of (A := A) (A' := A) (e := D 5) (fun _ _ => rfl) a b W (k := n) (fun i hi => g4 i hi), ← hs]
      obtain ⟨D2, n2, i1, i2, i3, i4, i5⟩ := lq_passes_6 hP hA hW d hM j (k + 1) (n + 1) (rg_up D1 78 o') (by omega) (by omega) (g2.of (fun q hq => rg_up_n (by omega)) (by rw [rg_up_n (by decide)])) (by rw [D5, rg_up_s, sn]; exact e2)
      refine ⟨D2, n2, ?_, i2, i3, i4, fun q y1 y2 y3 y4 => ?_⟩
      · rw [lh_up hP g1]
        simp only [Int.reduceToNat, rg_bs, rg_kIs]
        rw [cn1]
        simp only [Int.reduceToNat, rg_bs, rg_kIs]
        rw [if_neg (by decide), nw]
        simp only [Int.reduceToNat, rg_bs, rg_kIs]
        rw [e1]
        simp only [Int.reduceToNat, rg_bs, rg_kIs]
        rw [if_pos (by first | rfl | trivial), next]
        exact i1
      · rw [i5 q y1 y2 y3 y4, rg_up_n y4, g3 q y1 y2 y3]
    · have g1 := pq_goN (X := X) hD tb.1 (show t ≤ 14 by omega) (by rw [← hs]; exact c) d
      rw [lo_lh] at cn
      rw [if_neg c] at cn
      obtain ⟨D2, n2, i1, i2, i3, i4, i5⟩ := lq_passes_6 hP hA hW d hM j (k + 1) n D (by omega) (by omega) hD (by rw [← hs]; exact hO)
      refine ⟨D2, n2, ?_, i2, i3, i4, i5⟩
      rw [lh_up hP g1]
      simp only [Int.reduceToNat, rg_bs, rg_kIs]
      rw [cn]
      simp only [Int.reduceToNat, rg_bs, rg_kIs]
      rw [if_pos (by first | rfl | trivial), if_pos (by first | rfl | trivial), next]
      exact i1
end PQG
