/-! Plans, looked at: what each answers of the train as it stands. -/
theorem pq_plok {f : Nat → Int} {z most : Int} (h0 : 0 ≤ z) (hm : z ≤ most) (hf : ∀ j : Nat, (j : Int) < z → 0 ≤ f j ∧ f j < 15) : pl_v f z most = 0 := by
  have key : ∀ (k i : Nat), (∀ j, i ≤ j → j < i + k → 0 ≤ f j ∧ f j < 15) → pl_all f i k = true := by
    intro k
    induction k with
    | zero => intro i _; rfl
    | succ k ih =>
      intro i h
      have a := ih (i + 1) fun j h1 h2 => h j (by omega) (by omega)
      have b := h i (Nat.le_refl _) (by omega)
      show (pl_c f i && pl_all f (i + 1) k) = true
      rw [a, show pl_c f i = true from decide_eq_true b]
      rfl
  unfold pl_v
  rw [if_neg (by omega), if_neg (by omega), if_pos (key z.toNat 0 fun j _ h2 => hf j (by omega))]
theorem pq_gc {a b : Int} (ha : 0 ≤ a) (h1 : 1 ≤ b) (h2 : b ≤ 2985984) (d : Nat) (h : rf_H) : ∃ gv, 1 ≤ gv ∧ rf_j_W_commonDivisor_9 d a b 0 h = some (some (.inr (.inl gv)), h) ∧ gv = gc_v 128 a b := by
  have t := gt_p2 22 a b ha (by omega) (by rw [show p2 22 = 4194304 from rfl]; omega)
  have w := rg_W_cd_9 d h 128 0 a b (by omega)
  exact ⟨gc_v 128 a b, gc_1 ha (by omega) (Or.inr (by omega)) (gt_le t 84), w, rfl⟩
section PQB
variable {X : rf_X} {D : rf_D} {s : Nat → Int} {W m : Int}
theorem pq_run (h : pq_RS D s W m) {R Z : Nat} (hR : R < 6) (hZ : D (44 + 2 * R) 1 = (Z : Int)) (Z12 : Z ≤ 12) (hf : ∀ j, j < Z → 0 ≤ D (44 + 2 * R + 1) j ∧ D (44 + 2 * R + 1) j < 15) (d : Nat) : ∃ D', rf_call (d + 8) 87 [.inr (.inr (some 0)), .inl (R : Int)] (hp X D) = some (some (.inl (rn_s s (D (44 + 2 * R + 1)) Z 35 - s 35)), hp X D') ∧ pq_FQ D D' ∧ D' 0 13 = rn_s s (D (44 + 2 * R + 1)) Z 36 := by
  obtain ⟨hS, h12, hd, hC, hT, st, hm, hW⟩ := h
  have row := rg_rowN (X := X) (D := D) hR
  have b33 := st.2.2.2.2.2.2.1
  have b35 := st.2.2.2.2.2.2.2.2
  have wb := rg_W_rp (X := X) (D := D) row.1 (by omega) (by omega) (by decide) hS.1 h12 (d + 3) 12
  rw [if_pos (pq_plok (by omega) (by omega) fun j hj => hf j (by omega))] at wb
  obtain ⟨f1, a1, a2⟩ := rg_W_aside (X := X) hT st (d + 5) (k := 0) (by decide) (by omega)
  rw [sy_0 b33.2.1] at a2
  obtain ⟨f2, w1⟩ := rg_W_run_37 (X := X) (f := D (44 + 2 * R + 1)) (s := s) (g := s 35) row.1 (by omega) (Z := Z) (by omega) (by decide) hd st (by omega) hW (by omega) hf d Z 0 (rg_up D 76 f1) (by omega) (hC.up (by omega)) (by rw [rg_up_s]; exact a2) (by rw [rg_up_n (by omega)]; exact hZ) (fun j hj => by rw [rg_up_n (by omega)])
  rw [rg_up_u, show ((0 : Nat) : Int) = 0 from rfl] at w1
  obtain ⟨s1, hs1⟩ : ∃ s1, s1 = rn_s s (D (44 + 2 * R + 1)) Z := ⟨_, rfl⟩
  rw [← hs1] at w1 ⊢
  refine ⟨wtl (s1 36) (rg_up D 76 f2), ?_, pq_FQ.tl ⟨fun a y1 y2 y3 y4 => rg_up_n (by omega), by rw [rg_up_n (by decide)]⟩ _, pq_tl _ _⟩
  rw [rf_e_W_run]
  try simp only [rg_gR_0_0, Int.reduceToNat, rg_kIs, rg_kLs, rg_kRs, rg_kVs, rg_nns, rg_bs, cond_true, cond_false]
  rw [rg_W_pick_y (n := 6) (d + 6) (rg_aL_1 X D) (by omega) row.2]
  try simp only [rg_hp1, rg_o_0, rg_row_o row.1, rg_nzs, Int.reduceToNat, rg_kIs, rg_kLs, rg_kRs, rg_kVs, rg_nns, rg_bs, cond_true, cond_false]
  rw [wb]
  try simp only [Int.reduceToNat, rg_kIs, rg_kLs, rg_kRs, rg_kVs, rg_nns, rg_bs, cond_true, cond_false]
  rw [if_pos (by decide)]
  try simp only [rg_hp1, rg_o_0, Int.reduceToNat, rg_kIs, rg_kLs, rg_kRs, rg_kVs, rg_nns, rg_bs, cond_true, cond_false]
  rw [a1]
  try simp only [Int.reduceToNat, rg_kIs, rg_kLs, rg_kRs, rg_kVs, rg_nns, rg_bs, cond_true, cond_false]
  rw [w1]
theorem pq_shortest (h : pq_RS D s W m) {R n : Nat} (hR : R < 6) (hn : n ≤ 4) (d : Nat) : ∃ D', (∀ a, a ≠ 0 → a ≠ 9 → a ≠ 44 + 2 * R → a ≠ 44 + 2 * R + 1 → (a < 70 ∨ 77 ≤ a) → D' a = D a) ∧ D' 0 = D 0 ∧
    (sh_v s n 1 = none → rf_call (d + 15) 90 [.inr (.inr (some 0)), .inl (n : Int), .inl (R : Int)] (hp X D) = some (some (.inl (-9)), hp X D') ∧ pq_FQ D D') ∧
    ∀ J l, sh_v s n 1 = some (J, l) → rf_call (d + 15) 90 [.inr (.inr (some 0)), .inl (n : Int), .inl (R : Int)] (hp X D) = some (some (.inl (J : Int)), hp X D') ∧ D' (44 + 2 * R) 1 = (J : Int) ∧ ∀ (q : Nat) (v : Int), l[q]? = some v → D' (44 + 2 * R + 1) q = v := by
  obtain ⟨hS, h12, hd, hC, hT, st, hm, hW⟩ := h
  have row := rg_rowN (X := X) (D := D) hR
  have b33 := st.2.2.2.2.2.2.1
  have b35 := st.2.2.2.2.2.2.2.2
  obtain ⟨f1, a1, a2⟩ := rg_W_aside (X := X) hT st (d + 12) (k := 0) (by decide) (by omega)
  rw [sy_0 b33.2.1] at a2
  obtain ⟨F, hF⟩ : ∃ F, F = rg_up D 76 f1 := ⟨_, rfl⟩
  have Fn : ∀ a, a ≠ 76 → F a = D a := fun a y => by rw [hF, rg_up_n y]
  have F76 : TR (F 76) s (s 35) := by
    rw [hF, rg_up_s]
    exact a2
  obtain ⟨o, ho⟩ : ∃ o, o = 44 + 2 * R := ⟨_, rfl⟩
  rw [← ho] at row ⊢
  obtain ⟨G, g1, g2, g3⟩ := rg_W_sho_42 (X := X) (A := s) (m := m) (W := W) (n := n) (o := o) row.1 (by omega) hn hd st (by omega) (by omega) hW (by omega) d n 1 F (by omega) (by omega) (hC.of fun a _ _ => Fn a (by omega)) F76 (by rw [Fn 8 (by decide)]; exact hS.2.1) (fun i h1 h2 => by omega)
  have Gn : ∀ a, a ≠ 9 → a ≠ o → a ≠ o + 1 → (a < 70 ∨ 77 ≤ a) → G a = D a := fun a y1 y2 y3 y4 => by rw [g1 a y1 y2 y3 (by omega), Fn a (by omega)]
  rw [show ((1 : Nat) : Int) = 1 from rfl] at g2 g3
  have W0 : ∀ z T, rf_j_W_shortest_42 (d + 14) 0 (n : Int) (some o) 1 (hp X F) = some (some (.inl z), T) → rf_call (d + 15) 90 [.inr (.inr (some 0)), .inl (n : Int), .inl (R : Int)] (hp X D) = some (some (.inl z), T) := fun z T e => by
    rw [rf_e_W_shortest]
    try simp only [rg_gR_0_0, Int.reduceToNat, rg_kIs, rg_kLs, rg_kRs, rg_kVs, rg_nns, rg_bs, cond_true, cond_false]
    rw [rg_W_pick_y (n := 6) (d + 13) (rg_aL_1 X D) (by omega) row.2]
    try simp only [Int.reduceToNat, rg_kIs, rg_kLs, rg_kRs, rg_kVs, rg_nns, rg_bs, cond_true, cond_false]
    rw [rg_nzs, if_neg (by omega), if_neg (by omega)]
    try simp only [rg_gI_0, Int.reduceToNat, rg_kIs, rg_kLs, rg_kRs, rg_kVs, rg_nns, rg_bs, cond_true, cond_false]
    rw [if_neg (by omega)]
    try simp only [rg_hp1, rg_o_0, Int.reduceToNat, rg_kIs, rg_kLs, rg_kRs, rg_kVs, rg_nns, rg_bs, cond_true, cond_false]
    rw [a1, ← hF]
    try simp only [Int.reduceToNat, rg_kIs, rg_kLs, rg_kRs, rg_kVs, rg_nns, rg_bs, cond_true, cond_false]
    exact e
  refine ⟨G, fun a _ y1 y2 y3 y4 => Gn a y1 y2 y3 y4, Gn 0 (by decide) (by omega) (by omega) (by decide), fun hv => ?_, fun J l hv => ?_⟩
  · obtain ⟨w1, w2, w3⟩ := g2 hv
    refine ⟨W0 _ _ w1, fun a y1 y2 y3 y4 => ?_, by rw [Gn 0 (by decide) (by omega) (by omega) (by decide)]⟩
    by_cases z : a = o
    · rw [z, w2, Fn o (by omega)]
    · by_cases z1 : a = o + 1
      · rw [z1, w3, Fn (o + 1) (by omega)]
      · exact Gn a y2 z z1 y4
  · obtain ⟨w1, w2, w3⟩ := g3 J l hv
    exact ⟨W0 _ _ w1, w2, w3⟩
theorem pq_ways (h : pq_RS D s W m) {n : Nat} (n4 : n ≤ 4) (d : Nat) : ∃ D', rf_call (d + 15) 91 [.inr (.inr (some 0)), .inl (n : Int)] (hp X D) = some (some (.inl (pn_ct (s 35) n s)), hp X D') ∧ pq_FQ D D' ∧ D' 0 13 = pn_cn (s 35) n s := by
  obtain ⟨hS, h12, hd, hC, hT, st, hm, hW⟩ := h
  have b33 := st.2.2.2.2.2.2.1
  have b35 := st.2.2.2.2.2.2.2.2
  obtain ⟨f1, a1, a2⟩ := rg_W_aside (X := X) hT st (d + 12) (k := 0) (by decide) (by omega)
  rw [sy_0 b33.2.1] at a2
  obtain ⟨F, hF⟩ : ∃ F, F = rg_up D 76 f1 := ⟨_, rfl⟩
  have Fn : ∀ a, a ≠ 76 → F a = D a := fun a y => by rw [hF, rg_up_n y]
  have F76 : TR (F (70 + 6)) s (s 35) := by
    rw [hF]
    show TR (rg_up D 76 f1 76) s (s 35)
    rw [rg_up_s]
    exact a2
  obtain ⟨G, g1, g2⟩ := rg_P_sy (X := X) (W := W) (g := s 35) (b := 0) (by omega) (Or.inl rfl) (d + 7 - n) n 6 F s m n4 (by omega) (by decide) (hC.of fun a _ _ => Fn a (by omega)) hd F76 st (by omega) (by omega) hW
  have Gn : ∀ a, (a < 70 ∨ 77 ≤ a) → G a = D a := fun a y => by rw [g2 a (by omega), Fn a (by omega)]
  have G76 : G 76 = F 76 := g2 76 (by omega)
  obtain ⟨G2, c1, c2⟩ := rg_P_sy (X := X) (W := W) (g := s 35) (b := 1) (by omega) (Or.inr rfl) (d + 7 - n) n 6 G s m n4 (by omega) (by decide) (hC.of fun a _ _ => Gn a (by omega)) hd (by show TR (G 76) s (s 35); rw [G76]; exact F76) st (by omega) (by omega) hW
  have G2n : ∀ a, (a < 70 ∨ 77 ≤ a) → G2 a = D a := fun a y => by rw [c2 a (by omega), Gn a y]
  rw [show d + 7 - n + 7 + n = d + 14 by omega, show (70 + 6 : Nat) = 76 from rfl] at g1 c1
  have e0 : pn_v 0 (s 35) n s = pn_cn (s 35) n s := if_pos rfl
  have e1 : pn_v 1 (s 35) n s = pn_ct (s 35) n s := if_neg (by decide)
  rw [e0] at g1
  rw [e1] at c1
  generalize pn_cn (s 35) n s = v0 at g1 ⊢
  generalize pn_ct (s 35) n s = v1 at c1 ⊢
  refine ⟨wtl v0 G2, ?_, pq_FQ.tl ⟨fun a y1 y2 y3 y4 => G2n a y4, by rw [G2n 0 (by decide)]⟩ _, pq_tl _ _⟩
  rw [rf_e_W_ways, if_neg (by omega), if_neg (by omega)]
  try simp only [rg_gI_0, Int.reduceToNat, rg_kIs, rg_kLs, rg_kRs, rg_kVs, rg_nns, rg_bs, cond_true, cond_false]
  rw [if_neg (by omega)]
  try simp only [rg_hp1, rg_o_0, Int.reduceToNat, rg_kIs, rg_kLs, rg_kRs, rg_kVs, rg_nns, rg_bs, cond_true, cond_false]
  rw [a1, ← hF]
  try simp only [rg_gR_0_11, Int.reduceToNat, rg_kIs, rg_kLs, rg_kRs, rg_kVs, rg_nns, rg_bs, cond_true, cond_false]
  rw [g1]
  try simp only [rg_gR_0_11, Int.reduceToNat, rg_kIs, rg_kLs, rg_kRs, rg_kVs, rg_nns, rg_bs, cond_true, cond_false]
  rw [c1]
  try simp only [rg_hp1, rg_o_0, Int.reduceToNat, rg_kIs, rg_kLs, rg_kRs, rg_kVs, rg_nns, rg_bs, cond_true, cond_false]
  rw [rg_W_tell]
  try simp only [Int.reduceToNat, rg_kIs, rg_kLs, rg_kRs, rg_kVs, rg_nns, rg_bs, cond_true, cond_false]
theorem pq_stay (h : pq_RS D s W m) {n N : Nat} (n4 : n ≤ 4) (hN : s 36 = (N : Int)) (d : Nat) : ∃ D', rf_call (d + 15) 92 [.inr (.inr (some 0)), .inl (n : Int)] (hp X D) = some (some (.inl (sa_v s n (N + 1) 0)), hp X D') ∧ pq_FQ D D' := by
  obtain ⟨hS, h12, hd, hC, hT, st, hm, hW⟩ := h
  have b35 := st.2.2.2.2.2.2.2.2
  obtain ⟨G, w1, w2⟩ := rg_W_stay_23 (X := X) (n := n) (W := W) n4 hd st (by omega) (by omega) hW (by omega) hN d (N + 1) 0 D (by omega) hC hT hS.2.1
  rw [show ((0 : Nat) : Int) = 0 from rfl] at w1
  refine ⟨G, ?_, fun a y1 y2 y3 y4 => w2 a y2 y4, by rw [w2 0 (by decide) (by decide)]⟩
  rw [rf_e_W_stay, if_neg (by omega), if_neg (by omega)]
  try simp only [rg_gI_0, Int.reduceToNat, rg_kIs, rg_kLs, rg_kRs, rg_kVs, rg_nns, rg_bs, cond_true, cond_false]
  rw [if_neg (by omega)]
  exact w1
theorem pq_odds (h : pq_RS D s W m) {R Z : Nat} (hR : R < 6) (hZ : D (44 + 2 * R) 1 = (Z : Int)) (Z6 : Z ≤ 6) (hf : ∀ j, j < Z → 0 ≤ D (44 + 2 * R + 1) j ∧ D (44 + 2 * R + 1) j < 15) {dd w : Int} (d0 : 0 ≤ dd) (w0 : 0 ≤ w) (dw : dd + w ≤ 12) (d : Nat) : ∃ (D' : rf_D) (p : Nat → Int) (gv : Int), rf_call (d + 15) 94 [.inr (.inr (some 0)), .inl (R : Int), .inl dd, .inl w] (hp X D) = some (some (.inl 1), hp X D') ∧ pq_FQ D D' ∧ (p 0 = dd ∧ p 1 = w ∧ p 2 = 12 - dd - w) ∧ 1 ≤ gv ∧ gv = gc_v 128 (od_v (D (44 + 2 * R + 1)) p (s 35) Z 0 s) (tw Z) ∧ D' 0 14 = rf_wl (Int.tdiv (od_v (D (44 + 2 * R + 1)) p (s 35) Z 0 s) gv) ∧ D' 0 15 = rf_wl (Int.tdiv (tw Z) gv) := by
  obtain ⟨hS, h12, hd, hC, hT, st, hm, hW⟩ := h
  have row := rg_rowN (X := X) (D := D) hR
  have b33 := st.2.2.2.2.2.2.1
  have b35 := st.2.2.2.2.2.2.2.2
  have x12 : rf_w (12 - dd) = 12 - dd := rg_w (by omega) (by omega)
  have x13 : rf_w (12 - dd - w) = 12 - dd - w := rg_w (by omega) (by omega)
  have wb := rg_W_rp (X := X) (D := D) row.1 (by omega) (by omega) (by decide) hS.1 h12 (d + 10) 6
  rw [if_pos (pq_plok (by omega) (by omega) fun j hj => hf j (by omega))] at wb
  obtain ⟨f, hF⟩ : ∃ f, f = D (44 + 2 * R + 1) := ⟨_, rfl⟩
  rw [← hF] at hf ⊢
  obtain ⟨p, hp'⟩ : ∃ p : Nat → Int, p = rg_ui (rg_ui (rg_ui (D 11) 0 dd) 1 w) 2 (12 - dd - w) := ⟨_, rfl⟩
  have p0 : p 0 = dd := by rw [hp']; rfl
  have p1 : p 1 = w := by rw [hp']; rfl
  have p2' : p 2 = 12 - dd - w := by rw [hp']; rfl
  have pp : PP p := ⟨by omega, by omega, by omega, by omega⟩
  obtain ⟨E, hE⟩ : ∃ E, E = rg_up D 11 p := ⟨_, rfl⟩
  have En : ∀ a, a ≠ 11 → E a = D a := fun a y => by rw [hE, rg_up_n y]
  have h10 := hS.2.2
  have s1 := rg_R_setI (X := X) (D := D) rg_row_10 (d + 12) (i := 0) (v := dd) (by decide) (by omega) (by omega)
  have s2 := rg_R_setI (X := X) (D := rg_up D 11 (rg_ui (D 11) 0 dd)) rg_row_10 (d + 12) (i := 1) (v := w) (by decide) (by rw [rg_up_n (by decide)]; omega) (by rw [rg_up_n (by decide)]; omega)
  have s3 := rg_R_setI (X := X) (D := rg_up D 11 (rg_ui (rg_ui (D 11) 0 dd) 1 w)) rg_row_10 (d + 12) (i := 2) (v := 12 - dd - w) (by decide) (by rw [rg_up_n (by decide)]; omega) (by rw [rg_up_n (by decide)]; omega)
  rw [show (10 + 1 : Nat) = 11 from rfl] at s1 s2 s3
  rw [rg_up_s, rg_up_u] at s2 s3
  rw [show (0 : Int).toNat = 0 from rfl] at s1
  rw [show (1 : Int).toNat = 1 from rfl] at s2
  rw [show (2 : Int).toNat = 2 from rfl, ← hp', ← hE] at s3
  have hT1 : TR (E 43) s 0 := by rw [En 43 (by decide)]; exact hT
  obtain ⟨f1, a1, a2⟩ := rg_W_aside (X := X) (D := E) hT1 st (d + 12) (k := 0) (by decide) (by omega)
  rw [sy_0 b33.2.1] at a2
  obtain ⟨F, hFF⟩ : ∃ F, F = rg_up E 76 f1 := ⟨_, rfl⟩
  have Fn : ∀ a, a ≠ 11 → a ≠ 76 → F a = D a := fun a y1 y2 => by rw [hFF, rg_up_n y2, En a y1]
  have F11 : F 11 = p := by rw [hFF, rg_up_n (by decide), hE, rg_up_s]
  obtain ⟨G, g1, g2⟩ := rg_P_ch (X := X) (W := W) (g := s 35) row.1 (by omega) (Z := Z) (by omega) (by decide) Z6 (f := f) pp (by omega) hf Z 0 6 (d + 7 - Z) F s m (by omega) Z6 (by decide) (hC.of fun a _ _ => Fn a (by omega) (by omega)) hd (by rw [hFF]; show TR (rg_up E 76 f1 76) s (s 35); rw [rg_up_s]; exact a2) st (by omega) hW (by rw [Fn (44 + 2 * R) (by omega) (by omega)]; exact hZ) (fun q _ => by rw [Fn (44 + 2 * R + 1) (by omega) (by omega), hF]) (by rw [Fn 10 (by decide) (by decide)]; exact h10) (fun q _ => by rw [F11])
  rw [show d + 7 - Z + 7 + Z = d + 14 by omega, show ((0 : Nat) : Int) = 0 from rfl, show (70 + 6 : Nat) = 76 from rfl] at g1
  have ob := od_b (f := f) (g := s 35) pp Z 0 s
  have tb := tw_b Z6
  obtain ⟨gv, v1, v2, v3⟩ := pq_gc (a := od_v f p (s 35) Z 0 s) (b := tw Z) ob.1 tb.1 tb.2 (d + 12) (hp X G)
  have vW : ∀ D0 : rf_D, rf_j_W_commonDivisor_9 (d + 12) (od_v f p (s 35) Z 0 s) (tw Z) 0 (hp X D0) = some (some (.inr (.inl gv)), hp X D0) := fun D0 => by
    obtain ⟨gw, u1, u2, u3⟩ := pq_gc (a := od_v f p (s 35) Z 0 s) (b := tw Z) ob.1 tb.1 tb.2 (d + 12) (hp X D0)
    rw [v3, ← u3]
    exact u2
  obtain ⟨u, hu⟩ : ∃ u, u = rf_wl (Int.tdiv (od_v f p (s 35) Z 0 s) gv) := ⟨_, rfl⟩
  obtain ⟨v, hv⟩ : ∃ v, v = rf_wl (Int.tdiv (tw Z) gv) := ⟨_, rfl⟩
  have tc := rg_W_tc (X := X) (D := G) (d + 11) v1 vW
  rw [← hu, ← hv] at tc
  have Gn : ∀ a, a ≠ 11 → (a < 70 ∨ 77 ≤ a) → G a = D a := fun a y1 y2 => by rw [g2 a (by omega), Fn a y1 (by omega)]
  have wl1 := rg_W_od_100 (X := X) (D := F) row.1 (Z := Z) (by rw [Fn (44 + 2 * R) (by omega) (by omega)]; exact hZ) Z6 (d + 14) Z 0 (by omega)
  rw [show tw 0 = 1 from rfl, show ((0 : Nat) : Int) = 0 from rfl] at wl1
  refine ⟨wud u v G, p, gv, ?_, ⟨fun a y1 y2 y3 y4 => ?_, ?_⟩, ⟨p0, p1, p2'⟩, v1, v3, ?_, ?_⟩
  · rw [rf_e_W_odds]
    try simp only [rg_gR_0_0, Int.reduceToNat, rg_kIs, rg_kLs, rg_kRs, rg_kVs, rg_nns, rg_bs, cond_true, cond_false]
    rw [rg_W_pick_y (n := 6) (d + 13) (rg_aL_1 X D) (by omega) row.2]
    try simp only [rg_hp1, rg_o_0, rg_row_o row.1, rg_nzs, Int.reduceToNat, rg_kIs, rg_kLs, rg_kRs, rg_kVs, rg_nns, rg_bs, cond_true, cond_false]
    rw [if_neg (by omega), if_neg (by omega), if_neg (by omega), x12, if_neg (by omega), wb]
    try simp only [Int.reduceToNat, rg_kIs, rg_kLs, rg_kRs, rg_kVs, rg_nns, rg_bs, cond_true, cond_false]
    rw [if_pos (by decide)]
    try simp only [rg_gR_0_6, rg_hp1, rg_row_o rg_row_10, Int.reduceToNat, rg_kIs, rg_kLs, rg_kRs, rg_kVs, rg_nns, rg_bs, cond_true, cond_false]
    rw [s1]
    try simp only [rg_gR_0_6, rg_hp1, rg_row_o rg_row_10, Int.reduceToNat, rg_kIs, rg_kLs, rg_kRs, rg_kVs, rg_nns, rg_bs, cond_true, cond_false]
    rw [s2]
    try simp only [rg_gR_0_6, rg_hp1, rg_row_o rg_row_10, Int.reduceToNat, rg_kIs, rg_kLs, rg_kRs, rg_kVs, rg_nns, rg_bs, cond_true, cond_false]
    rw [x13, s3]
    try simp only [rg_hp1, rg_o_0, Int.reduceToNat, rg_kIs, rg_kLs, rg_kRs, rg_kVs, rg_nns, rg_bs, cond_true, cond_false]
    rw [a1, ← hFF]
    try simp only [Int.reduceToNat, rg_kIs, rg_kLs, rg_kRs, rg_kVs, rg_nns, rg_bs, cond_true, cond_false]
    rw [wl1, rf_e_W_odds_100]
    try simp only [rg_row_gI row.1, Int.reduceToNat, rg_kIs, rg_kLs, rg_kRs, rg_kVs, rg_nns, rg_bs, cond_true, cond_false]
    rw [Fn (44 + 2 * R) (by omega) (by omega), hZ, if_neg (by omega)]
    try simp only [rg_gR_0_6, rg_gR_0_11, Int.reduceToNat, rg_kIs, rg_kLs, rg_kRs, rg_kVs, rg_nns, rg_bs, cond_true, cond_false]
    rw [g1]
    try simp only [rg_hp1, rg_o_0, Int.reduceToNat, rg_kIs, rg_kLs, rg_kRs, rg_kVs, rg_nns, rg_bs, cond_true, cond_false]
    rw [tc]
    try simp only [Int.reduceToNat, rg_kIs, rg_kLs, rg_kRs, rg_kVs, rg_nns, rg_bs, cond_true, cond_false]
  · unfold wud
    rw [rg_up_n y1]
    exact Gn a y3 y4
  · unfold wud
    rw [rg_up_s, rg_ui_n (by decide), rg_ui_n (by decide), Gn 0 (by decide) (by decide)]
  · unfold wud
    rw [rg_up_s, rg_ui_n (by decide), rg_ui_s]
    exact hu
  · unfold wud
    rw [rg_up_s, rg_ui_s]
    exact hv
end PQB
