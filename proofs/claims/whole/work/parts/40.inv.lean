/-! The invariant of class and reference: one desk of rows, texts, numbers; one train. -/
def IB (D : rf_D) (b cnt cap S C : Nat) (bt : Prop) : Prop := ∀ r : Nat, r < cnt → D S r = D (b + 2 * r) 1 ∧ -1 ≤ D (b + 2 * r) 1 ∧ D (b + 2 * r) 1 ≤ (cap : Int) ∧ ∀ j : Nat, (j : Int) < D (b + 2 * r) 1 → D C (cap * r + j) = D (b + 2 * r + 1) j ∧ (bt → -128 ≤ D (b + 2 * r + 1) j ∧ D (b + 2 * r + 1) j ≤ 127)
def ICt (D : rf_D) : Prop := (∀ i : Nat, i < 6 → D 85 i = D 7 i) ∧ D 6 1 = 6 ∧ D 77 8 = D 0 16 ∧ D 77 9 = D 0 13 ∧ D 77 10 = D 0 14 ∧ D 77 11 = D 0 15
def ISz (D : rf_D) : Prop := D 8 1 = 4 ∧ D 10 1 = 3
/-- the train as it begins -/
def sp_bg (A : Nat → Int) (a b W : Int) : Nat → Int := fun j => if j < 27 then A j else if j = 27 then a else if j = 28 then b else if j = 31 then 1 else if j = 32 then 1 else if j = 36 then W else 0
/-- the train behind its first k things -/
def sp_ch (A e : Nat → Int) (a b W : Int) : Nat → (Nat → Int)
  | 0 => sp_bg A a b W
  | k + 1 => (sp_does (sp_ch A e a b W k) (e k) (sp_rail (sp_ch A e a b W k))).2
def LG (A e : Nat → Int) (a b W : Int) (n : Nat) : Prop := A 37 = (n : Int) ∧ (∀ j, j < 37 → A j = sp_ch A e a b W n j) ∧ ∀ k, k < n → ∀ i, i < 10 → A (38 + 10 * k + i) = sp_ch A e a b W k (27 + i)
def DE (e : Nat → Int) (n : Nat) : Prop := n ≤ 60 ∧ ∀ k, k < n → 0 ≤ e k ∧ e k ≤ 14
def IKp (D : rf_D) (k : Nat) : Prop := (D 84 k = 0 ∧ D (64 + 2 * k) 1 = -1) ∨ (D 84 k = 1 ∧ ∃ m : Nat, D (64 + 2 * k) 1 = (m : Int) ∧ DE (D (64 + 2 * k + 1)) m ∧ (∀ j, j < 27 → D 83 (638 * k + j) = D 82 j) ∧ LG (fun j => D 83 (638 * k + j)) (D (64 + 2 * k + 1)) (D 28 8) (D 28 9) (D 31 1) m)
def IYes (D : rf_D) : Prop := sp_hd (D 82) ∧ CR D 28 (D 82) (D 31 1) ∧ (0 ≤ D 28 8 ∧ D 28 8 ≤ 9) ∧ (0 ≤ D 28 9 ∧ D 28 9 ≤ 9) ∧ TR (D 43) (D 82) 0 ∧ (∃ n : Nat, D 4 1 = (n : Int) ∧ DE (D 5) n ∧ LG (D 82) (D 5) (D 28 8) (D 28 9) (D 31 1) n) ∧ ∀ k, k < 3 → IKp D k
def INo (D : rf_D) : Prop := (∀ j, j < 38 → D 82 j = 0) ∧ D 4 1 = 0 ∧ D 43 6 = 0 ∧ (D 43 10 = 0 ∨ D 43 10 = 1) ∧ (D 29 1 = 0 ∧ D 31 1 = 0 ∧ D 33 1 = 0 ∧ D 35 1 = 0 ∧ D 37 1 = 0 ∧ D 39 1 = 1 ∧ D 41 1 = 1) ∧ (D 40 0 = 0 ∧ D 42 0 = 0) ∧ ∀ k, k < 3 → D 84 k = 0 ∧ D (64 + 2 * k) 1 = -1
def ITr (D : rf_D) : Prop := (D 0 12 = 0 ∧ INo D) ∨ (D 0 12 = 1 ∧ IYes D)
def Inv (D : rf_D) : Prop := IB D 44 6 40 78 79 False ∧ IB D 56 4 60 80 81 True ∧ ICt D ∧ ISz D ∧ ITr D
/-! What each looks at -/
theorem IB.of {D D' : rf_D} {b cnt cap S C : Nat} {bt : Prop} (h : IB D b cnt cap S C bt) (hS : D' S = D S) (hC : D' C = D C) (e : ∀ a, b ≤ a → a < b + 2 * cnt → D' a = D a) : IB D' b cnt cap S C bt := by
  intro r hr
  rw [hS, hC, e (b + 2 * r) (by omega) (by omega), e (b + 2 * r + 1) (by omega) (by omega)]
  exact h r hr
theorem IB.set {D D' : rf_D} {b cnt cap S C : Nat} {bt : Prop} (h : IB D b cnt cap S C bt) (r : Nat) (hS : ∀ q, q < cnt → q ≠ r → D' S q = D S q) (hC : ∀ q j, q < cnt → q ≠ r → j < cap → D' C (cap * q + j) = D C (cap * q + j)) (e : ∀ q, q < cnt → q ≠ r → D' (b + 2 * q) = D (b + 2 * q) ∧ D' (b + 2 * q + 1) = D (b + 2 * q + 1)) (hr : D' S r = D' (b + 2 * r) 1 ∧ -1 ≤ D' (b + 2 * r) 1 ∧ D' (b + 2 * r) 1 ≤ (cap : Int) ∧ ∀ j : Nat, (j : Int) < D' (b + 2 * r) 1 → D' C (cap * r + j) = D' (b + 2 * r + 1) j ∧ (bt → -128 ≤ D' (b + 2 * r + 1) j ∧ D' (b + 2 * r + 1) j ≤ 127)) : IB D' b cnt cap S C bt := by
  intro q hq
  by_cases z : q = r
  · rw [z]
    exact hr
  · have hh := h q hq
    rw [hS q hq z, (e q hq z).1, (e q hq z).2]
    refine ⟨hh.1, hh.2.1, hh.2.2.1, fun j hj => ?_⟩
    rw [hC q j hq z (by omega)]
    exact hh.2.2.2 j hj
theorem ICt.of {D D' : rf_D} (h : ICt D) (e : D' 85 = D 85) (e1 : D' 7 = D 7) (e2 : D' 6 = D 6) (e3 : D' 77 8 = D 77 8) (e4 : D' 0 16 = D 0 16) (e5 : D' 77 9 = D' 0 13) (e6 : D' 77 10 = D 77 10) (e7 : D' 0 14 = D 0 14) (e8 : D' 77 11 = D 77 11) (e9 : D' 0 15 = D 0 15) : ICt D' := by
  obtain ⟨a, b, c, -, f, g⟩ := h
  refine ⟨fun i hi => ?_, ?_, ?_, e5, ?_, ?_⟩
  · rw [e, e1]
    exact a i hi
  · rw [e2]
    exact b
  · rw [e3, e4]
    exact c
  · rw [e6, e7]
    exact f
  · rw [e8, e9]
    exact g
theorem ISz.of {D D' : rf_D} (h : ISz D) (e : D' 8 = D 8) (e1 : D' 10 = D 10) : ISz D' := by
  unfold ISz
  rw [e, e1]
  exact h
theorem IKp.of {D D' : rf_D} {k : Nat} (hk : k < 3) (h : IKp D k) (e : ∀ a, (a = 28 ∨ a = 31 ∨ (64 ≤ a ∧ a ≤ 69) ∨ (82 ≤ a ∧ a ≤ 84)) → D' a = D a) : IKp D' k := by
  unfold IKp
  rw [e 28 (by omega), e 31 (by omega), e 82 (by omega), e 83 (by omega), e 84 (by omega), e (64 + 2 * k) (by omega), e (64 + 2 * k + 1) (by omega)]
  exact h
theorem IYes.of {D D' : rf_D} (h : IYes D) (e : ∀ a, (a = 4 ∨ a = 5 ∨ (28 ≤ a ∧ a ≤ 43) ∨ (64 ≤ a ∧ a ≤ 69) ∨ (82 ≤ a ∧ a ≤ 84)) → D' a = D a) : IYes D' := by
  unfold IYes
  rw [e 28 (by omega), e 31 (by omega), e 82 (by omega), e 43 (by omega), e 4 (by omega), e 5 (by omega)]
  obtain ⟨a, b, f, g, i, j, l⟩ := h
  exact ⟨a, b.of fun z h1 h2 => e z (by omega), f, g, i, j, fun k hk => (l k hk).of hk fun z hz => e z (by omega)⟩
theorem INo.of {D D' : rf_D} (h : INo D) (e : ∀ a, (a = 4 ∨ a = 5 ∨ (28 ≤ a ∧ a ≤ 43) ∨ (64 ≤ a ∧ a ≤ 69) ∨ (82 ≤ a ∧ a ≤ 84)) → D' a = D a) : INo D' := by
  unfold INo
  rw [e 82 (by omega), e 4 (by omega), e 43 (by omega), e 29 (by omega), e 31 (by omega), e 33 (by omega), e 35 (by omega), e 37 (by omega), e 39 (by omega), e 41 (by omega), e 40 (by omega), e 42 (by omega), e 84 (by omega)]
  obtain ⟨a, b, c, f, g, i, j⟩ := h
  exact ⟨a, b, c, f, g, i, fun k hk => by rw [e (64 + 2 * k) (by omega)]; exact j k hk⟩
theorem ITr.of {D D' : rf_D} (h : ITr D) (e0 : D' 0 12 = D 0 12) (e : ∀ a, (a = 4 ∨ a = 5 ∨ (28 ≤ a ∧ a ≤ 43) ∨ (64 ≤ a ∧ a ≤ 69) ∨ (82 ≤ a ∧ a ≤ 84)) → D' a = D a) : ITr D' := by
  unfold ITr
  rw [e0]
  exact h.imp (fun z => ⟨z.1, z.2.of e⟩) (fun z => ⟨z.1, z.2.of e⟩)
/-! Findings -/
def wfd (a : Int) (D : rf_D) : rf_D := rg_up (rg_up D 0 (rg_ui (D 0) 16 a)) 7 (rg_ui (D 7) a.toNat (rf_w (D 7 a.toNat + 1)))
def mfd (a : Int) (D : rf_D) : rf_D := rg_up (rg_up D 77 (rg_ui (D 77) 8 a)) 85 (rg_ui (D 85) a.toNat (rf_w (D 85 a.toNat + 1)))
def wtl (v : Int) (D : rf_D) : rf_D := rg_up D 0 (rg_ui (D 0) 13 v)
def mtl (v : Int) (D : rf_D) : rf_D := rg_up D 77 (rg_ui (D 77) 9 v)
theorem wfd_n {a : Int} {D : rf_D} {k : Nat} (h : k ≠ 0) (h2 : k ≠ 7) : wfd a D k = D k := by
  unfold wfd
  rw [rg_up_n h2, rg_up_n h]
theorem wfd_0 {a : Int} {D : rf_D} {i : Nat} (h : i ≠ 16) : wfd a D 0 i = D 0 i := by
  unfold wfd
  rw [rg_up_n (by decide), rg_up_s, rg_ui_n h]
theorem mfd_n {a : Int} {D : rf_D} {k : Nat} (h : k ≠ 77) (h2 : k ≠ 85) : mfd a D k = D k := by
  unfold mfd
  rw [rg_up_n h2, rg_up_n h]
theorem mfd_77 {a : Int} {D : rf_D} {i : Nat} (h : i ≠ 8) : mfd a D 77 i = D 77 i := by
  unfold mfd
  rw [rg_up_n (by decide), rg_up_s, rg_ui_n h]
theorem Inv.fd {D : rf_D} (h : Inv D) {a : Int} (a0 : 0 ≤ a) (a6 : a < 6) : Inv (mfd a (wfd a D)) := by
  obtain ⟨h1, h2, h3, h4, h5⟩ := h
  have e : ∀ k, k ≠ 0 → k ≠ 7 → k ≠ 77 → k ≠ 85 → mfd a (wfd a D) k = D k := fun k z1 z2 z3 z4 => by rw [mfd_n z3 z4, wfd_n z1 z2]
  have e0 : ∀ i, i ≠ 16 → mfd a (wfd a D) 0 i = D 0 i := fun i z => by rw [mfd_n (by decide) (by decide), wfd_0 z]
  have e7 : ∀ i, i ≠ 8 → mfd a (wfd a D) 77 i = D 77 i := fun i z => by rw [mfd_77 z, wfd_n (by decide) (by decide)]
  refine ⟨h1.of (e _ (by decide) (by decide) (by decide) (by decide)) (e _ (by decide) (by decide) (by decide) (by decide)) fun k z1 z2 => e k (by omega) (by omega) (by omega) (by omega), h2.of (e _ (by decide) (by decide) (by decide) (by decide)) (e _ (by decide) (by decide) (by decide) (by decide)) fun k z1 z2 => e k (by omega) (by omega) (by omega) (by omega), ?_, h4.of (e _ (by decide) (by decide) (by decide) (by decide)) (e _ (by decide) (by decide) (by decide) (by decide)), h5.of (e0 12 (by decide)) fun k z => e k (by omega) (by omega) (by omega) (by omega)⟩
  obtain ⟨b1, b2, b3, b4, b5, b6⟩ := h3
  refine ⟨fun i hi => ?_, ?_, ?_, ?_, ?_, ?_⟩
  · have q1 : mfd a (wfd a D) 85 = rg_ui (D 85) a.toNat (rf_w (D 85 a.toNat + 1)) := by
      unfold mfd
      rw [rg_up_s, wfd_n (by decide) (by decide)]
    have q2 : mfd a (wfd a D) 7 = rg_ui (D 7) a.toNat (rf_w (D 7 a.toNat + 1)) := by
      rw [mfd_n (by decide) (by decide)]
      unfold wfd
      rw [rg_up_s]
    rw [q1, q2, b1 a.toNat (by omega)]
    by_cases z : i = a.toNat
    · rw [z, rg_ui_s, rg_ui_s]
    · rw [rg_ui_n z, rg_ui_n z]
      exact b1 i hi
  · rw [e 6 (by decide) (by decide) (by decide) (by decide)]
    exact b2
  · have q1 : mfd a (wfd a D) 77 8 = a := by
      unfold mfd
      rw [rg_up_n (by decide), rg_up_s, rg_ui_s]
    have q2 : mfd a (wfd a D) 0 16 = a := by
      rw [mfd_n (by decide) (by decide)]
      unfold wfd
      rw [rg_up_n (by decide), rg_up_s, rg_ui_s]
    rw [q1, q2]
  · rw [e7 9 (by decide), e0 13 (by decide)]
    exact b4
  · rw [e7 10 (by decide), e0 14 (by decide)]
    exact b5
  · rw [e7 11 (by decide), e0 15 (by decide)]
    exact b6
theorem Inv.tl {D : rf_D} (h : Inv D) (v : Int) : Inv (mtl v (wtl v D)) := by
  obtain ⟨h1, h2, h3, h4, h5⟩ := h
  have e : ∀ k, k ≠ 0 → k ≠ 77 → mtl v (wtl v D) k = D k := fun k z1 z2 => by unfold mtl wtl; rw [rg_up_n z2, rg_up_n z1]
  have e0 : ∀ i, i ≠ 13 → mtl v (wtl v D) 0 i = D 0 i := fun i z => by unfold mtl wtl; rw [rg_up_n (by decide), rg_up_s, rg_ui_n z]
  have e7 : ∀ i, i ≠ 9 → mtl v (wtl v D) 77 i = D 77 i := fun i z => by unfold mtl wtl; rw [rg_up_s, rg_ui_n z, rg_up_n (by decide)]
  refine ⟨h1.of (e _ (by decide) (by decide)) (e _ (by decide) (by decide)) fun k z1 z2 => e k (by omega) (by omega), h2.of (e _ (by decide) (by decide)) (e _ (by decide) (by decide)) fun k z1 z2 => e k (by omega) (by omega), h3.of (e _ (by decide) (by decide)) (e _ (by decide) (by decide)) (e _ (by decide) (by decide)) (e7 _ (by decide)) (e0 _ (by decide)) ?_ (e7 _ (by decide)) (e0 _ (by decide)) (e7 _ (by decide)) (e0 _ (by decide)), h4.of (e _ (by decide) (by decide)) (e _ (by decide) (by decide)), h5.of (e0 12 (by decide)) fun k z => e k (by omega) (by omega)⟩
  unfold mtl wtl
  rw [rg_up_s, rg_ui_s, rg_up_n (by decide), rg_up_s, rg_ui_s]
section RGS
variable {X : rf_X} {D : rf_D}
theorem rg_W_found (d : Nat) {a : Int} (a0 : 0 ≤ a) (a6 : a < 6) (h6 : D 6 1 = 6) : rf_call (d + 3) 57 [.inr (.inr (some 0)), .inl a] (hp X D) = some (some (.inl (-3)), hp X (wfd a D)) := by
  rw [rf_e_W_found]
  simp only [rg_pI_0, rg_gR_0_4, rg_hp1, rg_row_o rg_row_6, Int.reduceToNat, rg_kIs, rg_kLs, rg_kRs, rg_kVs, rg_nns, rg_bs, cond_true, cond_false]
  have e6 : ∀ f, rg_up D 0 f 6 1 = 6 := fun f => by rw [rg_up_n (by decide)]; exact h6
  rw [rg_R_cellI rg_row_6 (d + 1) a0 (by rw [e6]; exact a6) (by rw [e6]; decide)]
  simp only [rg_pI_0, rg_gR_0_4, rg_hp1, rg_row_o rg_row_6, Int.reduceToNat, rg_kIs, rg_kLs, rg_kRs, rg_kVs, rg_nns, rg_bs, cond_true, cond_false]
  rw [rg_R_setI rg_row_6 d a0 (by rw [e6]; exact a6) (by rw [e6]; decide)]
  simp only [Int.reduceToNat, rg_kIs, rg_kLs, rg_kRs, rg_kVs, rg_nns, rg_bs, cond_true, cond_false]
  unfold wfd
  rw [rg_up_n (show (6 + 1 : Nat) ≠ 0 by decide)]
theorem rg_M_finds (d : Nat) {a : Int} (a0 : 0 ≤ a) (a6 : a < 6) : rf_call (d + 1) 119 [.inr (.inr (some 77)), .inl a] (hp X D) = some (some (.inl (-3)), hp X (mfd a D)) := by
  rw [rf_e_M_finds]
  simp only [rg_pI_77, rg_gR_77_7, rg_aI_85 a0 a6, rg_sI_85 a0 a6, Int.reduceToNat, rg_kIs, rg_kLs, rg_kRs, rg_kVs, rg_nns, rg_bs, cond_true, cond_false]
  unfold mfd
  rw [rg_up_n (show (85 : Nat) ≠ 77 by decide)]
theorem rg_W_tell (d : Nat) (v y : Int) : rf_call (d + 1) 60 [.inr (.inr (some 0)), .inl v, .inl y] (hp X D) = some (some (.inl y), hp X (wtl v D)) := by
  rw [rf_e_W_tell, rg_pI_0]
  try rfl
theorem rg_M_tells (d : Nat) (v : Int) : rf_call (d + 1) 121 [.inr (.inr (some 77)), .inl v] (hp X D) = some (some (.inl 1), hp X (mtl v D)) := by
  rw [rf_e_M_tells, rg_pI_77]
  try rfl
theorem rg_W_pick_n (d : Nat) {b n : Nat} (hb : rf_aL (hp X D) b = some (n : Int)) {r : Int} (h : ¬ (0 ≤ r ∧ r < (n : Int))) : rf_call (d + 1) 55 [.inr (.inr (some b)), .inl r] (hp X D) = some (some (.inr (.inr none)), hp X D) := by
  rw [rf_e_W_pick]
  by_cases a : r < 0
  · rw [if_pos a]
  · rw [if_neg a]
    simp only [hb, Int.reduceToNat, rg_kIs, rg_kLs, rg_kRs, rg_kVs, rg_nns, rg_bs, cond_true, cond_false]
    rw [if_neg (by omega)]
theorem rg_W_pick_y (d : Nat) {b n : Nat} (hb : rf_aL (hp X D) b = some (n : Int)) {r : Int} (h : 0 ≤ r ∧ r < (n : Int)) {v : Option Nat} (hv : rf_aR (hp X D) b r = some v) : rf_call (d + 1) 55 [.inr (.inr (some b)), .inl r] (hp X D) = some (some (.inr (.inr v)), hp X D) := by
  rw [rf_e_W_pick, if_neg (by omega)]
  simp only [hb, Int.reduceToNat, rg_kIs, rg_kLs, rg_kRs, rg_kVs, rg_nns, rg_bs, cond_true, cond_false]
  rw [if_pos h.2]
  simp only [hv, Int.reduceToNat, rg_kIs, rg_kLs, rg_kRs, rg_kVs, rg_nns, rg_bs, cond_true, cond_false]
theorem rg_M_isRow (d : Nat) (r : Int) (h : rf_H) : rf_call (d + 2) 117 [.inl r] h = some (some (.inl (if 0 ≤ r ∧ r < 6 then 1 else 0)), h) := by
  rw [rf_e_M_isRow, rg_M_in]
  simp only [Int.reduceToNat, rg_kIs, rg_kLs, rg_kRs, rg_kVs, rg_nns, rg_bs, cond_true, cond_false]
  by_cases a : 0 ≤ r ∧ r ≤ 5
  · rw [if_pos a, if_pos (by decide), if_pos (by omega)]
  · rw [if_neg a, if_pos (by decide), if_neg (by omega)]
theorem rg_M_isText (d : Nat) (r : Int) (h : rf_H) : rf_call (d + 2) 127 [.inl r] h = some (some (.inl (if 0 ≤ r ∧ r < 4 then 1 else 0)), h) := by
  rw [rf_e_M_isText, rg_M_in]
  simp only [Int.reduceToNat, rg_kIs, rg_kLs, rg_kRs, rg_kVs, rg_nns, rg_bs, cond_true, cond_false]
  by_cases a : 0 ≤ r ∧ r ≤ 3
  · rw [if_pos a, if_pos (by decide), if_pos (by omega)]
  · rw [if_neg a, if_pos (by decide), if_neg (by omega)]
theorem rg_W_refP {o n : Nat} (hr : rg_row o n) (d : Nat) (h6 : D 6 1 = 6) (hn : D o 1 ≤ (n : Int)) (i : Int) : rf_call (d + 4) 59 [.inr (.inr (some 0)), .inr (.inr (some o)), .inl i] (hp X D) = some (if D o 1 < 0 then (some (.inl (-3)), hp X (wfd 1 D)) else if 0 ≤ i ∧ i < D o 1 then (some (.inl 0), hp X D) else (some (.inl (-3)), hp X (wfd 2 D))) := by
  rw [rf_e_W_refusedPlace]
  simp only [rg_hp1, rg_row_o hr, rg_o_0, Int.reduceToNat, rg_kIs, rg_kLs, rg_kRs, rg_kVs, rg_nns, rg_bs, cond_true, cond_false]
  rw [rg_R_isThere hr]
  simp only [rg_hp1, rg_row_o hr, rg_o_0, Int.reduceToNat, rg_kIs, rg_kLs, rg_kRs, rg_kVs, rg_nns, rg_bs, cond_true, cond_false]
  by_cases a : D o 1 < 0
  · rw [if_pos a, if_pos a, if_pos rfl, rg_W_found d (by decide) (by decide) h6]
    simp only [Int.reduceToNat, rg_kIs, rg_kLs, rg_kRs, rg_kVs, rg_nns, rg_bs, cond_true, cond_false]
  · rw [if_neg a, if_neg a, if_neg (by decide), rg_R_has hr]
    simp only [Int.reduceToNat, rg_kIs, rg_kLs, rg_kRs, rg_kVs, rg_nns, rg_bs, cond_true, cond_false]
    by_cases b : 0 ≤ i ∧ i < D o 1
    · rw [if_pos (show 0 ≤ i ∧ i < D o 1 ∧ i < (n : Int) by omega), if_neg (by decide), if_pos b]
    · rw [if_neg (show ¬ (0 ≤ i ∧ i < D o 1 ∧ i < (n : Int)) by omega), if_pos rfl, if_neg b]
      simp only [rg_hp1, rg_o_0, Int.reduceToNat, rg_kIs, rg_kLs, rg_kRs, rg_kVs, rg_nns, rg_bs, cond_true, cond_false]
      rw [rg_W_found d (by decide) (by decide) h6]
      simp only [Int.reduceToNat, rg_kIs, rg_kLs, rg_kRs, rg_kVs, rg_nns, rg_bs, cond_true, cond_false]
end RGS
