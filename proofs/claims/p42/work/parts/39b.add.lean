section RGCA
variable {X : rf_X} {D : rf_D} {c : Nat} {g g' : Nat → Int} {W : Int}
theorem rg_R_addC {D : rf_D} {k n : Nat} (hr : rg_row (c + k) n) (hk : 0 < k) (d : Nat) {v : Int} {z : Nat} (hz : D (c + k) 1 = (z : Int)) (h2 : z < n) (hn : n ≤ 100000) : ∃ D1, rf_call (d + 3) 10 [.inr (.inr (some (c + k))), .inl v] (hp X D) = some (none, hp X D1) ∧ (∀ a, a ≠ c + k → a ≠ c + k + 1 → D1 a = D a) ∧ (∀ j, j ≠ k → j ≠ k + 1 → D1 (c + j) = D (c + j)) ∧ D1 c = D c ∧ D1 (c + k) 1 = (z : Int) + 1 ∧ D1 (c + k + 1) z = v ∧ ∀ j, j ≠ z → D1 (c + k + 1) j = D (c + k + 1) j := by
  obtain ⟨D1, q, f, s, v1, ot⟩ := rg_R_addE (X := X) (D := D) hr d (v := v) hz (by omega) (by omega) hn
  have mt : ((z : Int)).toNat = z := by omega
  rw [mt] at v1 ot
  exact ⟨D1, q, f, fun j h1 h2 => f _ (by omega) (by omega), f _ (by omega) (by omega), s, v1, ot⟩
/-- the bare numbers of the wagon that is added -/
theorem sp_new_w {m : Nat} {k t : Int} (t1 : 1 ≤ t) (t9 : t ≤ 9) (l0 : 0 ≤ g 1) (l3 : g 1 ≤ 3) (hm : m < 6) (eh : ∀ j, j < 9 → g' j = g j) (ew : ∀ j : Nat, 9 ≤ j → (j : Int) < 9 + 3 * (m : Int) → g' j = g j) (e1 : g' (9 + 3 * (m : Int)).toNat = k) (e2 : g' (9 + 3 * (m : Int) + 1).toNat = t) : (∀ (b : Int) (j : Nat), j ≤ m → sp_load (rg_ui g' 31 b) j = sp_load (rg_ui g 31 b) j) ∧ ∀ b : Int, sp_load (rg_ui g' 31 b) (m + 1) = rf_w (sp_load (rg_ui g 31 b) m + sp_wt k t b (g 1)) := by
  have ebar : ∀ (b : Int) (j : Nat), j ≤ m → sp_load (rg_ui g' 31 b) j = sp_load (rg_ui g 31 b) j := by
    intro b j
    induction j with
    | zero => intro _; rfl
    | succ j ih =>
      intro hj
      show rf_w (sp_load (rg_ui g' 31 b) j + sp_weighs (rg_ui g' 31 b) (j : Int)) = rf_w (sp_load (rg_ui g 31 b) j + sp_weighs (rg_ui g 31 b) (j : Int))
      rw [ih (by omega)]
      have e : sp_weighs (rg_ui g' 31 b) (j : Int) = sp_weighs (rg_ui g 31 b) (j : Int) := by
        unfold sp_weighs sp_plain sp_kind sp_tons
        rw [rg_ui_n (show (9 + 3 * (j : Int)).toNat ≠ 31 by omega), rg_ui_n (show (9 + 3 * (j : Int)).toNat ≠ 31 by omega), rg_ui_n (show (9 + 3 * (j : Int) + 1).toNat ≠ 31 by omega), rg_ui_n (show (9 + 3 * (j : Int) + 1).toNat ≠ 31 by omega), rg_ui_s, rg_ui_s, rg_ui_n (show (1 : Nat) ≠ 31 by decide), rg_ui_n (show (1 : Nat) ≠ 31 by decide), ew _ (by omega) (by omega), ew _ (by omega) (by omega), eh 1 (by omega)]
      rw [e]
  refine ⟨ebar, fun b => ?_⟩
  show rf_w (sp_load (rg_ui g' 31 b) m + sp_weighs (rg_ui g' 31 b) (m : Int)) = _
  have hk : sp_kind (rg_ui g' 31 b) (m : Int) = k := by
    unfold sp_kind
    rw [rg_ui_n (by omega)]
    exact e1
  have ht : sp_tons (rg_ui g' 31 b) (m : Int) = t := by
    unfold sp_tons
    rw [rg_ui_n (by omega)]
    exact e2
  have h1 : rg_ui g' 31 b 1 = g 1 := by rw [rg_ui_n (by decide)]; exact eh 1 (by omega)
  rw [ebar b m (Nat.le_refl _), sp_wt_eq (by omega) (by rw [ht]; omega) (by rw [ht]; exact t9) (by rw [h1]; exact l0) (by rw [h1]; exact l3), hk, ht, h1, rg_ui_s]
theorem sp_new_s {k u : Int} (u1 : 1 ≤ u) (u9 : u ≤ 9) : rf_w ((if k = 4 then rf_w (Int.tdiv u 2) else u) - (if k = 2 ∨ k = 5 then 2 else 0)) = (if k = 4 then rf_w (Int.tdiv u 2) else u) - (if k = 2 then 2 else if k = 5 then 2 else 0) := by
  have hh : 0 ≤ (if k = 4 then rf_w (Int.tdiv u 2) else u) ∧ (if k = 4 then rf_w (Int.tdiv u 2) else u) ≤ 9 := by
    by_cases q : k = 4
    · rw [if_pos q, Int.tdiv_eq_ediv_of_nonneg (by omega), rg_w (by omega) (by omega)]
      omega
    · rw [if_neg q]
      omega
  have hs : (if k = 2 ∨ k = 5 then (2 : Int) else 0) = (if k = 2 then 2 else if k = 5 then 2 else 0) := by
    by_cases q : k = 2
    · rw [if_pos (Or.inl q), if_pos q]
    · rw [if_neg q]
      by_cases q2 : k = 5
      · rw [if_pos (Or.inr q2), if_pos q2]
      · rw [if_neg q2, if_neg (by omega)]
  have hs2 : 0 ≤ (if k = 2 then (2 : Int) else if k = 5 then 2 else 0) ∧ (if k = 2 then (2 : Int) else if k = 5 then 2 else 0) ≤ 2 := by
    split
    · omega
    · split <;> omega
  rw [hs, rg_w (by omega) (by omega)]
theorem rx_1 {i m : Nat} (h : (i : Int) < (m : Int) + 1) (h2 : i ≠ m) : (i : Int) < (m : Int) := by omega
theorem rx_2 {i m : Nat} (h : (i : Int) < (m : Int)) : (9 ≤ 9 + 3 * i ∧ ((9 + 3 * i : Nat) : Int) < 9 + 3 * (m : Int)) ∧ (9 ≤ 10 + 3 * i ∧ ((10 + 3 * i : Nat) : Int) < 9 + 3 * (m : Int)) ∧ (9 ≤ 11 + 3 * i ∧ ((11 + 3 * i : Nat) : Int) < 9 + 3 * (m : Int)) := by omega
theorem rx_2t {i : Nat} : (9 + 3 * (i : Int)).toNat = 9 + 3 * i ∧ (9 + 3 * (i : Int) + 2).toNat = 11 + 3 * i := by omega
theorem rx_3 {i : Nat} {z : Int} (h : (i : Int) < z) (hz : z ≤ 6) : 3 + i < 9 := by omega
theorem rx_4 {j m : Nat} (h : (j : Int) ≤ (m : Int) + 1) (h2 : j ≠ m + 1) : j ≤ m ∧ (j : Int) ≤ (m : Int) := by omega
theorem rx_5 {a c : Nat} (h : a < c + 3 ∨ c + 14 < a) (k : Nat) (h1 : 3 ≤ k) (h2 : k ≤ 14) : a ≠ c + k := by omega
theorem rx_6 {s g : Nat → Int} {i : Nat} {m : Int} (h : ∀ j : Nat, 9 ≤ j → (j : Int) < 9 + 3 * m → s j = g j) (h1 : 9 ≤ 9 + 3 * i ∧ ((9 + 3 * i : Nat) : Int) < 9 + 3 * m) (h2 : 9 ≤ 11 + 3 * i ∧ ((11 + 3 * i : Nat) : Int) < 9 + 3 * m) : sp_holds s (i : Int) = sp_holds g (i : Int) ∧ sp_slack s (i : Int) = sp_slack g (i : Int) := by
  unfold sp_holds sp_slack sp_kind sp_coup
  rw [rx_2t.1, rx_2t.2, h _ h1.1 h1.2, h _ h2.1 h2.2]
  exact ⟨rfl, rfl⟩
set_option maxHeartbeats 1000000 in
theorem rg_C_add (hc : rg_con c) (h : CR D c g W) (hW : W < 6) (d : Nat) {k t u : Int} (t1 : 1 ≤ t) (t9 : t ≤ 9) (u1 : 1 ≤ u) (u9 : u ≤ 9) (l0 : 0 ≤ g 1) (l3 : g 1 ≤ 3) (eh : ∀ j, j < 9 → g' j = g j) (hz : g 2 ≤ 6) (ew : ∀ j : Nat, 9 ≤ j → (j : Int) < 9 + 3 * W → g' j = g j) (e1 : g' (9 + 3 * W).toNat = k) (e2 : g' (9 + 3 * W + 1).toNat = t) (e3 : g' (9 + 3 * W + 2).toNat = u) : ∃ D', rf_call (d + 4) 20 [.inr (.inr (some c)), .inl k, .inl t, .inl u] (hp X D) = some (none, hp X D') ∧ (∀ a, (a < c + 3 ∨ c + 14 < a) → D' a = D a) ∧ CR D' c g' (W + 1) := by
  obtain ⟨⟨a7, a10, a1⟩, ar, ⟨w3, w5, w7, w9, w11, w13⟩, ⟨W0, W6⟩, aw, al⟩ := h
  obtain ⟨m, rfl⟩ := Int.eq_ofNat_of_zero_le W0
  have hm : m < 6 := by omega
  have sn := sp_new_w (g := g) (g' := g') t1 t9 l0 l3 hm eh ew e1 e2
  have ss := sp_new_s (k := k) u1 u9
  have mt : ((m : Int)).toNat = m := by omega
  have mt1 : ((m : Int) + 1).toNat = m + 1 := by omega
  have ek : sp_kind g' (m : Int) = k := e1
  have et : sp_tons g' (m : Int) = t := e2
  have eu : sp_coup g' (m : Int) = u := e3
  have n1 : (9 + 3 * (m : Int)).toNat = 9 + 3 * m := by omega
  have n2 : (9 + 3 * (m : Int) + 1).toNat = 10 + 3 * m := by omega
  have n3 : (9 + 3 * (m : Int) + 2).toNat = 11 + 3 * m := by omega
  rw [n1] at e1
  rw [n2] at e2
  rw [n3] at e3
  have mz : (0 : Int) ≤ (m : Int) := by omega
  have hm7 : m + 1 < 7 := by omega
  have mc : (m : Int) + 1 = ((m + 1 : Nat) : Int) := by omega
  have mc2 : ((m + 1 : Nat) : Int) + 1 = (m : Int) + 1 + 1 := by omega
  have mz1 : (0 : Int) ≤ (m : Int) + 1 := by omega
  have m6 : (m : Int) < 6 := by omega
  have m61 : (m : Int) + 1 ≤ 6 := by omega
  have ml : (m : Int) < (m : Int) + 1 := by omega
  have m7 : (m : Int) + 1 ≤ ((7 : Nat) : Int) := by omega
  have m62 : (m : Int) + 1 ≤ ((6 : Nat) : Int) := by omega
  rw [rf_e_C_addWagon]
  simp only [rg_C_g1 hc, rg_row_gI hc.r3, rg_hp1, rg_row_o hc.r3, Int.reduceToNat, rg_kIs, rg_kLs, rg_kRs, rg_kVs, rg_nns, rg_bs, cond_true, cond_false]
  rw [w3]
  obtain ⟨D1, q1, F1, f1, g1, s1, v1, o1⟩ := rg_R_addC (X := X) (D := D) (c := c) (k := 3) hc.r3 (by decide) d (v := k) (z := m) (w3) (by omega) (by decide)
  have v1 : D1 (c + 4) (m) = k := v1
  have o1 : ∀ j, j ≠ m → D1 (c + 4) j = D (c + 4) j := o1
  rw [q1]
  simp only [rg_C_g2 hc, rg_hp1, rg_row_o hc.r5, Int.reduceToNat, rg_kIs, rg_kLs, rg_kRs, rg_kVs, rg_nns, rg_bs, cond_true, cond_false]
  obtain ⟨D2, q2, F2, f2, g2, s2, v2, o2⟩ := rg_R_addC (X := X) (D := D1) (c := c) (k := 5) hc.r5 (by decide) d (v := t) (z := m) (by rw [f1 5 (by decide) (by decide)]; exact w5) (by omega) (by decide)
  have v2 : D2 (c + 6) (m) = t := v2
  have o2 : ∀ j, j ≠ m → D2 (c + 6) j = D1 (c + 6) j := o2
  rw [q2]
  simp only [rg_C_g3 hc, rg_hp1, rg_row_o hc.r7, Int.reduceToNat, rg_kIs, rg_kLs, rg_kRs, rg_kVs, rg_nns, rg_bs, cond_true, cond_false]
  obtain ⟨D3, q3, F3, f3, g3, s3, v3, o3⟩ := rg_R_addC (X := X) (D := D2) (c := c) (k := 7) hc.r7 (by decide) d (v := u) (z := m) (by rw [f2 7 (by decide) (by decide), f1 7 (by decide) (by decide)]; exact w7) (by omega) (by decide)
  have v3 : D3 (c + 8) (m) = u := v3
  have o3 : ∀ j, j ≠ m → D3 (c + 8) j = D2 (c + 8) j := o3
  rw [q3]
  simp only [rg_C_g4 hc, rg_hp1, hc.1, Int.reduceToNat, rg_kIs, rg_kLs, rg_kRs, rg_kVs, rg_nns, rg_bs, cond_true, cond_false]
  have p3 : D3 (c + 3) 1 = (m : Int) + 1 := by rw [f3 3 (by decide) (by decide), f2 3 (by decide) (by decide)]; exact s1
  have p4 : D3 (c + 4) m = k := by rw [f3 4 (by decide) (by decide), f2 4 (by decide) (by decide)]; exact v1
  have p5 : D3 (c + 5) 1 = (m : Int) + 1 := by rw [f3 5 (by decide) (by decide)]; exact s2
  have p6 : D3 (c + 6) m = t := by rw [f3 6 (by decide) (by decide)]; exact v2
  have p10 : D3 c 10 = g 1 := by rw [g3, g2, g1]; exact a10
  have p3l : (m : Int) < D3 (c + 3) 1 := by rw [p3]; exact ml
  have p3g : D3 (c + 3) 1 ≤ 6 := by rw [p3]; exact m61
  have p5l : (m : Int) < D3 (c + 5) 1 := by rw [p5]; exact ml
  have p5g : D3 (c + 5) 1 ≤ 6 := by rw [p5]; exact m61
  have p4' : D3 (c + 4) ((m : Int)).toNat = k := by rw [mt]; exact p4
  have p6' : D3 (c + 6) ((m : Int)).toNat = t := by rw [mt]; exact p6
  rw [rg_C_holds (D := D3) hc d (i := (m : Int)) (k := k) (v := u) mz p3l p3g p4' (by rw [s3]; exact m61) (by rw [s3]; exact ml) (by rw [mt]; exact v3)]
  simp only [rg_hp1, hc.1, Int.reduceToNat, rg_kIs, rg_kLs, rg_kRs, rg_kVs, rg_nns, rg_bs, cond_true, cond_false]
  rw [rg_C_slack (D := D3) hc d (i := (m : Int)) (k := k) mz p3l p3g p4']
  simp only [rg_hp1, rg_row_o hc.r9, Int.reduceToNat, rg_kIs, rg_kLs, rg_kRs, rg_kVs, rg_nns, rg_bs, cond_true, cond_false]
  obtain ⟨D4, q4, F4, f4, g4, s4, v4, o4⟩ := rg_R_addC (X := X) (D := D3) (c := c) (k := 9) hc.r9 (by decide) d (v := rf_w ((if k = 4 then rf_w (Int.tdiv u 2) else u) - (if k = 2 ∨ k = 5 then 2 else 0))) (z := m) (by rw [f3 9 (by decide) (by decide), f2 9 (by decide) (by decide), f1 9 (by decide) (by decide)]; exact w9) (by omega) (by decide)
  have v4 : D4 (c + 10) (m) = rf_w ((if k = 4 then rf_w (Int.tdiv u 2) else u) - (if k = 2 ∨ k = 5 then 2 else 0)) := v4
  have o4 : ∀ j, j ≠ m → D4 (c + 10) j = D3 (c + 10) j := o4
  rw [q4]
  simp only [rg_C_g5 hc, rg_hp1, rg_row_o hc.r11, Int.reduceToNat, rg_kIs, rg_kLs, rg_kRs, rg_kVs, rg_nns, rg_bs, cond_true, cond_false]
  have z11 : D4 (c + 11) 1 = (m : Int) + 1 := by rw [f4 11 (by decide) (by decide), f3 11 (by decide) (by decide), f2 11 (by decide) (by decide), f1 11 (by decide) (by decide)]; exact w11
  rw [rg_R_cellI (D := D4) hc.r11 (d + 2) mz (by rw [z11]; exact ml) (by rw [z11]; exact m7)]
  simp only [rg_hp1, hc.1, Int.reduceToNat, rg_kIs, rg_kLs, rg_kRs, rg_kVs, rg_nns, rg_bs, cond_true, cond_false]
  have wt : ∀ (D' : rf_D) (b : Int), D' (c + 3) = D3 (c + 3) → D' (c + 4) = D3 (c + 4) → D' (c + 5) = D3 (c + 5) → D' (c + 6) = D3 (c + 6) → D' c = D3 c → (b = 0 ∨ b = 1) → rf_call (d + 3) 24 [.inr (.inr (some c)), .inl (m : Int), .inl b] (hp X D') = some (some (.inl (sp_wt k t b (g 1))), hp X D') := by
    intro D' b h3 h4 h5 h6 hcc hb
    have e := rg_C_weighs (X := X) (D := D') hc (d + 1) (i := (m : Int)) (b := b) (k := k) (t := t) mz (by rw [h3]; exact p3l) (by rw [h3]; exact p3g) (by rw [h4]; exact p4') (by rw [h5]; exact p5g) (by rw [h5]; exact p5l) (by rw [h6]; exact p6') (by omega) t9 (by rw [hcc, p10]; exact l0) (by rw [hcc, p10]; exact l3) hb
    rw [hcc, p10] at e
    exact e
  rw [wt D4 1 (f4 3 (by decide) (by decide)) (f4 4 (by decide) (by decide)) (f4 5 (by decide) (by decide)) (f4 6 (by decide) (by decide)) g4 (Or.inr rfl)]
  simp only [rg_hp1, rg_row_o hc.r11, Int.reduceToNat, rg_kIs, rg_kLs, rg_kRs, rg_kVs, rg_nns, rg_bs, cond_true, cond_false]
  rw [mt, show c + 11 + 1 = c + 12 from rfl]
  have b4 : D4 (c + 12) m = sp_load (rg_ui g 31 1) m := by rw [f4 12 (by decide) (by decide), f3 12 (by decide) (by decide), f2 12 (by decide) (by decide), f1 12 (by decide) (by decide)]; exact (al m (Int.le_refl _)).1
  have zz5 : D4 (c + 11) 1 = ((m + 1 : Nat) : Int) := by rw [f4 11 (by decide) (by decide), f3 11 (by decide) (by decide), f2 11 (by decide) (by decide), f1 11 (by decide) (by decide), w11]; exact mc
  obtain ⟨D5, q5, F5, f5, g5, s5, v5, o5⟩ := rg_R_addC (X := X) (D := D4) (c := c) (k := 11) (n := 7) hc.r11 (by decide) d (v := rf_w (D4 (c + 12) m + sp_wt k t 1 (g 1))) (z := m + 1) zz5 hm7 (by decide)
  have s5 : D5 (c + 11) 1 = (m : Int) + 1 + 1 := s5.trans mc2
  have v5 : D5 (c + 12) (m + 1) = rf_w (D4 (c + 12) m + sp_wt k t 1 (g 1)) := v5
  have o5 : ∀ j, j ≠ m + 1 → D5 (c + 12) j = D4 (c + 12) j := o5
  rw [q5]
  simp only [rg_C_g6 hc, rg_hp1, rg_row_o hc.r13, Int.reduceToNat, rg_kIs, rg_kLs, rg_kRs, rg_kVs, rg_nns, rg_bs, cond_true, cond_false]
  have z13 : D5 (c + 13) 1 = (m : Int) + 1 := by rw [f5 13 (by decide) (by decide), f4 13 (by decide) (by decide), f3 13 (by decide) (by decide), f2 13 (by decide) (by decide), f1 13 (by decide) (by decide)]; exact w13
  rw [rg_R_cellI (D := D5) hc.r13 (d + 2) mz (by rw [z13]; exact ml) (by rw [z13]; exact m7)]
  simp only [rg_hp1, hc.1, Int.reduceToNat, rg_kIs, rg_kLs, rg_kRs, rg_kVs, rg_nns, rg_bs, cond_true, cond_false]
  rw [wt D5 0 (by rw [f5 3 (by decide) (by decide), f4 3 (by decide) (by decide)]) (by rw [f5 4 (by decide) (by decide), f4 4 (by decide) (by decide)]) (by rw [f5 5 (by decide) (by decide), f4 5 (by decide) (by decide)]) (by rw [f5 6 (by decide) (by decide), f4 6 (by decide) (by decide)]) (by rw [g5, g4]) (Or.inl rfl)]
  simp only [rg_hp1, rg_row_o hc.r13, Int.reduceToNat, rg_kIs, rg_kLs, rg_kRs, rg_kVs, rg_nns, rg_bs, cond_true, cond_false]
  rw [mt, show c + 13 + 1 = c + 14 from rfl]
  have b5 : D5 (c + 14) m = sp_load (rg_ui g 31 0) m := by rw [f5 14 (by decide) (by decide), f4 14 (by decide) (by decide), f3 14 (by decide) (by decide), f2 14 (by decide) (by decide), f1 14 (by decide) (by decide)]; exact (al m (Int.le_refl _)).2
  have zz6 : D5 (c + 13) 1 = ((m + 1 : Nat) : Int) := by rw [f5 13 (by decide) (by decide), f4 13 (by decide) (by decide), f3 13 (by decide) (by decide), f2 13 (by decide) (by decide), f1 13 (by decide) (by decide), w13]; exact mc
  obtain ⟨D6, q6, F6, f6, g6, s6, v6, o6⟩ := rg_R_addC (X := X) (D := D5) (c := c) (k := 13) (n := 7) hc.r13 (by decide) d (v := rf_w (D5 (c + 14) m + sp_wt k t 0 (g 1))) (z := m + 1) zz6 hm7 (by decide)
  have s6 : D6 (c + 13) 1 = (m : Int) + 1 + 1 := s6.trans mc2
  have v6 : D6 (c + 14) (m + 1) = rf_w (D5 (c + 14) m + sp_wt k t 0 (g 1)) := v6
  have o6 : ∀ j, j ≠ m + 1 → D6 (c + 14) j = D5 (c + 14) j := o6
  rw [q6]
  simp only [Int.reduceToNat, rg_kIs, rg_kLs, rg_kRs, rg_kVs, rg_nns, rg_bs, cond_true, cond_false]
  refine ⟨D6, rfl, fun a ha => ?_, ?_⟩
  · rw [F6 a (rx_5 ha 13 (by decide) (by decide)) (rx_5 ha 14 (by decide) (by decide)), F5 a (rx_5 ha 11 (by decide) (by decide)) (rx_5 ha 12 (by decide) (by decide)), F4 a (rx_5 ha 9 (by decide) (by decide)) (rx_5 ha 10 (by decide) (by decide)), F3 a (rx_5 ha 7 (by decide) (by decide)) (rx_5 ha 8 (by decide) (by decide)), F2 a (rx_5 ha 5 (by decide) (by decide)) (rx_5 ha 6 (by decide) (by decide)), F1 a (rx_5 ha 3 (by decide) (by decide)) (rx_5 ha 4 (by decide) (by decide))]
  refine ⟨⟨?_, ?_, ?_⟩, fun i hi => ?_, ⟨?_, ?_, ?_, ?_, ?_, ?_⟩, ⟨mz1, m61⟩, fun i hi => ?_, fun j hj => ?_⟩
  · rw [g6, g5, g4, g3, g2, g1, eh 0 (by decide)]
    exact a7
  · rw [g6, g5, g4, g3, g2, g1, eh 1 (by decide)]
    exact a10
  · rw [f6 1 (by decide) (by decide), f5 1 (by decide) (by decide), f4 1 (by decide) (by decide), f3 1 (by decide) (by decide), f2 1 (by decide) (by decide), f1 1 (by decide) (by decide), eh 2 (by decide)]
    exact a1
  · rw [eh 2 (by decide)] at hi
    rw [f6 2 (by decide) (by decide), f5 2 (by decide) (by decide), f4 2 (by decide) (by decide), f3 2 (by decide) (by decide), f2 2 (by decide) (by decide), f1 2 (by decide) (by decide), eh (3 + i) (rx_3 hi hz)]
    exact ar i hi
  · rw [f6 3 (by decide) (by decide), f5 3 (by decide) (by decide), f4 3 (by decide) (by decide)]
    exact p3
  · rw [f6 5 (by decide) (by decide), f5 5 (by decide) (by decide), f4 5 (by decide) (by decide)]
    exact p5
  · rw [f6 7 (by decide) (by decide), f5 7 (by decide) (by decide), f4 7 (by decide) (by decide)]
    exact s3
  · rw [f6 9 (by decide) (by decide), f5 9 (by decide) (by decide)]
    exact s4
  · rw [f6 11 (by decide) (by decide)]
    exact s5
  · exact s6
  · rw [f6 4 (by decide) (by decide), f5 4 (by decide) (by decide), f4 4 (by decide) (by decide), f3 4 (by decide) (by decide), f2 4 (by decide) (by decide), f6 6 (by decide) (by decide), f5 6 (by decide) (by decide), f4 6 (by decide) (by decide), f3 6 (by decide) (by decide), f6 8 (by decide) (by decide), f5 8 (by decide) (by decide), f4 8 (by decide) (by decide), f6 10 (by decide) (by decide), f5 10 (by decide) (by decide)]
    by_cases hi2 : i = m
    · subst hi2
      rw [v1, v2, v3, v4, ss]
      refine ⟨e1.symm, e2.symm, e3.symm, ?_⟩
      unfold sp_holds sp_slack
      rw [ek, eu]
    · have him := rx_1 hi hi2
      have hx := rx_2 him
      have hy := rx_6 (s := g') (g := g) ew hx.1 hx.2.2
      have k1 := aw i him
      rw [o1 i hi2, o2 i hi2, o3 i hi2, o4 i hi2, f1 6 (by decide) (by decide), f2 8 (by decide) (by decide), f1 8 (by decide) (by decide), f3 10 (by decide) (by decide), f2 10 (by decide) (by decide), f1 10 (by decide) (by decide)]
      rw [ew (9 + 3 * i) hx.1.1 hx.1.2, ew (10 + 3 * i) hx.2.1.1 hx.2.1.2, ew (11 + 3 * i) hx.2.2.1 hx.2.2.2, hy.1, hy.2]
      exact k1
  · rw [f6 12 (by decide) (by decide)]
    by_cases hj2 : j = m + 1
    · subst hj2
      rw [v5, v6, b4, b5, sn.2 1, sn.2 0]
      exact ⟨rfl, rfl⟩
    · rw [o5 j hj2, o6 j hj2, sn.1 1 j (rx_4 hj hj2).1, sn.1 0 j (rx_4 hj hj2).1, f4 12 (by decide) (by decide), f3 12 (by decide) (by decide), f2 12 (by decide) (by decide), f1 12 (by decide) (by decide), f5 14 (by decide) (by decide), f4 14 (by decide) (by decide), f3 14 (by decide) (by decide), f2 14 (by decide) (by decide), f1 14 (by decide) (by decide)]
      exact al j (rx_4 hj hj2).2
end RGCA
