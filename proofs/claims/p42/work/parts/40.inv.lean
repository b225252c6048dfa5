/-! The invariant of class and reference: one desk of rows, texts, numbers; one train. -/
def IB (D : rf_D) (b cnt cap S C : Nat) (bt : Prop) : Prop := ∀ r : Nat, r < cnt → D S r = D (b + 2 * r) 1 ∧ -1 ≤ D (b + 2 * r) 1 ∧ D (b + 2 * r) 1 ≤ (cap : Int) ∧ ∀ j : Nat, (j : Int) < D (b + 2 * r) 1 → D C (cap * r + j) = D (b + 2 * r + 1) j ∧ (bt → -128 ≤ D (b + 2 * r + 1) j ∧ D (b + 2 * r + 1) j ≤ 127)
def ISz (D : rf_D) : Prop := D 8 1 = 4 ∧ D 10 1 = 3
/-- the train as it begins -/
def sp_bg (A : Nat → Int) (a b W : Int) : Nat → Int := fun j => if j < 27 then A j else if j = 27 then a else if j = 28 then b else if j = 31 then 1 else if j = 32 then 1 else if j = 36 then W else 0
/-- the train behind its first k things -/
def sp_ch (A e : Nat → Int) (a b W : Int) : Nat → (Nat → Int)
  | 0 => sp_bg A a b W
  | k + 1 => (sp_does (sp_ch A e a b W k) (e k) (sp_rail (sp_ch A e a b W k))).2
def LG (A e : Nat → Int) (a b W : Int) (n : Nat) : Prop := A 37 = (n : Int) ∧ (∀ j, j < 37 → A j = sp_ch A e a b W n j) ∧ ∀ k, k < n → ∀ i, i < 10 → A (38 + 10 * k + i) = sp_ch A e a b W k (27 + i)
def DE (e : Nat → Int) (n : Nat) : Prop := n ≤ 60 ∧ ∀ k, k < n → 0 ≤ e k ∧ e k ≤ 14
/-! What each looks at -/
theorem IB.of {D D' : rf_D} {b cnt cap S C : Nat} {bt : Prop} (h : IB D b cnt cap S C bt) (hS : D' S = D S) (hC : D' C = D C) (e : ∀ a, b ≤ a → a < b + 2 * cnt → D' a = D a) : IB D' b cnt cap S C bt := by
  intro r hr
  rw [hS, hC, e (b + 2 * r) (by omega) (by omega), e (b + 2 * r + 1) (by omega) (by omega)]
  exact h r hr
theorem IB.set {D D' : rf_D} {b cnt cap S C : Nat} {bt : Prop} (h : IB D b cnt cap S C bt) (r : Nat) (hS : ∀ q, q < cnt → q ≠ r → D' S q = D S q) (hC : ∀ q j, q < cnt → q ≠ r → j < cap → D' C (cap * q + j) = D C (cap * q + j)) (e : ∀ q, q < cnt → q ≠ r → D' (b + 2 * q) = D (b + 2 * q) ∧ D' (b + 2 * q + 1) = D (b + 2 * q + 1)) (hr : D' S r = D' (b + 2 * r) 1 ∧ -1 ≤ D' (b + 2 * r) 1 ∧ D' (b + 2 * r) 1 ≤ (cap : Int) ∧ ∀ j : Nat, (j : Int) < D' (b + 2 * r) 1 → D' C (cap * r + j) = D' (b + 2 * r + 1) j ∧ (bt → -128 ≤ D' (b + 2 * r + 1) j ∧ D' (b + 2 * r + 1) j ≤ 127)) : IB D' b cnt cap S C bt := by
  intro q hq
  by_cases z : q = r
  · rw [z]
    exact hr
  · have hh := h q hq
    rw [hS q hq z, (e q hq z).1, (e q hq z).2]
    refine ⟨hh.1, hh.2.1, hh.2.2.1, fun j hj => ?_⟩
    rw [hC q j hq z (by omega)]
    exact hh.2.2.2 j hj
theorem ISz.of {D D' : rf_D} (h : ISz D) (e : D' 8 = D 8) (e1 : D' 10 = D 10) : ISz D' := by
  unfold ISz
  rw [e, e1]
  exact h
/-! Findings -/
def wfd (a : Int) (D : rf_D) : rf_D := rg_up (rg_up D 0 (rg_ui (D 0) 16 a)) 7 (rg_ui (D 7) a.toNat (rf_w (D 7 a.toNat + 1)))
def wtl (v : Int) (D : rf_D) : rf_D := rg_up D 0 (rg_ui (D 0) 13 v)
theorem wfd_n {a : Int} {D : rf_D} {k : Nat} (h : k ≠ 0) (h2 : k ≠ 7) : wfd a D k = D k := by
  unfold wfd
  rw [rg_up_n h2, rg_up_n h]
theorem wfd_0 {a : Int} {D : rf_D} {i : Nat} (h : i ≠ 16) : wfd a D 0 i = D 0 i := by
  unfold wfd
  rw [rg_up_n (by decide), rg_up_s, rg_ui_n h]
section RGS
variable {X : rf_X} {D : rf_D}
theorem rg_W_found (d : Nat) {a : Int} (a0 : 0 ≤ a) (a6 : a < 6) (h6 : D 6 1 = 6) : rf_call (d + 3) 57 [.inr (.inr (some 0)), .inl a] (hp X D) = some (some (.inl (-3)), hp X (wfd a D)) := by
  rw [rf_e_W_found]
  simp only [rg_pI_0, rg_gR_0_4, rg_hp1, rg_row_o rg_row_6, Int.reduceToNat, rg_kIs, rg_kLs, rg_kRs, rg_kVs, rg_nns, rg_bs, cond_true, cond_false]
  have e6 : ∀ f, rg_up D 0 f 6 1 = 6 := fun f => by rw [rg_up_n (by decide)]; exact h6
  rw [rg_R_cellI rg_row_6 (d + 1) a0 (by rw [e6]; exact a6) (by rw [e6]; decide)]
  simp only [rg_pI_0, rg_gR_0_4, rg_hp1, rg_row_o rg_row_6, Int.reduceToNat, rg_kIs, rg_kLs, rg_kRs, rg_kVs, rg_nns, rg_bs, cond_true, cond_false]
  rw [rg_R_setI rg_row_6 d a0 (by rw [e6]; exact a6) (by rw [e6]; decide)]
  simp only [Int.reduceToNat, rg_kIs, rg_kLs, rg_kRs, rg_kVs, rg_nns, rg_bs, cond_true, cond_false]
  unfold wfd
  rw [rg_up_n (show (6 + 1 : Nat) ≠ 0 by decide)]
theorem rg_W_tell (d : Nat) (v y : Int) : rf_call (d + 1) 60 [.inr (.inr (some 0)), .inl v, .inl y] (hp X D) = some (some (.inl y), hp X (wtl v D)) := by
  rw [rf_e_W_tell, rg_pI_0]
  try rfl
theorem rg_W_pick_n (d : Nat) {b n : Nat} (hb : rf_aL (hp X D) b = some (n : Int)) {r : Int} (h : ¬ (0 ≤ r ∧ r < (n : Int))) : rf_call (d + 1) 55 [.inr (.inr (some b)), .inl r] (hp X D) = some (some (.inr (.inr none)), hp X D) := by
  rw [rf_e_W_pick]
  by_cases a : r < 0
  · rw [if_pos a]
  · rw [if_neg a]
    simp only [hb, Int.reduceToNat, rg_kIs, rg_kLs, rg_kRs, rg_kVs, rg_nns, rg_bs, cond_true, cond_false]
    rw [if_neg (by omega)]
theorem rg_W_pick_y (d : Nat) {b n : Nat} (hb : rf_aL (hp X D) b = some (n : Int)) {r : Int} (h : 0 ≤ r ∧ r < (n : Int)) {v : Option Nat} (hv : rf_aR (hp X D) b r = some v) : rf_call (d + 1) 55 [.inr (.inr (some b)), .inl r] (hp X D) = some (some (.inr (.inr v)), hp X D) := by
  rw [rf_e_W_pick, if_neg (by omega)]
  simp only [hb, Int.reduceToNat, rg_kIs, rg_kLs, rg_kRs, rg_kVs, rg_nns, rg_bs, cond_true, cond_false]
  rw [if_pos h.2]
  simp only [hv, Int.reduceToNat, rg_kIs, rg_kLs, rg_kRs, rg_kVs, rg_nns, rg_bs, cond_true, cond_false]
theorem rg_W_refP {o n : Nat} (hr : rg_row o n) (d : Nat) (h6 : D 6 1 = 6) (hn : D o 1 ≤ (n : Int)) (i : Int) : rf_call (d + 4) 59 [.inr (.inr (some 0)), .inr (.inr (some o)), .inl i] (hp X D) = some (if D o 1 < 0 then (some (.inl (-3)), hp X (wfd 1 D)) else if 0 ≤ i ∧ i < D o 1 then (some (.inl 0), hp X D) else (some (.inl (-3)), hp X (wfd 2 D))) := by
  rw [rf_e_W_refusedPlace]
  simp only [rg_hp1, rg_row_o hr, rg_o_0, Int.reduceToNat, rg_kIs, rg_kLs, rg_kRs, rg_kVs, rg_nns, rg_bs, cond_true, cond_false]
  rw [rg_R_isThere hr]
  simp only [rg_hp1, rg_row_o hr, rg_o_0, Int.reduceToNat, rg_kIs, rg_kLs, rg_kRs, rg_kVs, rg_nns, rg_bs, cond_true, cond_false]
  by_cases a : D o 1 < 0
  · rw [if_pos a, if_pos a, if_pos rfl, rg_W_found d (by decide) (by decide) h6]
    simp only [Int.reduceToNat, rg_kIs, rg_kLs, rg_kRs, rg_kVs, rg_nns, rg_bs, cond_true, cond_false]
  · rw [if_neg a, if_neg a, if_neg (by decide), rg_R_has hr]
    simp only [Int.reduceToNat, rg_kIs, rg_kLs, rg_kRs, rg_kVs, rg_nns, rg_bs, cond_true, cond_false]
    by_cases b : 0 ≤ i ∧ i < D o 1
    · rw [if_pos (show 0 ≤ i ∧ i < D o 1 ∧ i < (n : Int) by omega), if_neg (by decide), if_pos b]
    · rw [if_neg (show ¬ (0 ≤ i ∧ i < D o 1 ∧ i < (n : Int)) by omega), if_pos rfl, if_neg b]
      simp only [rg_hp1, rg_o_0, Int.reduceToNat, rg_kIs, rg_kLs, rg_kRs, rg_kVs, rg_nns, rg_bs, cond_true, cond_false]
      rw [rg_W_found d (by decide) (by decide) h6]
      simp only [Int.reduceToNat, rg_kIs, rg_kLs, rg_kRs, rg_kVs, rg_nns, rg_bs, cond_true, cond_false]
end RGS
