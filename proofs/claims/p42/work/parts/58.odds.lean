/-! odds: the pure side -/
def tw (k : Nat) : Int := match k with
  | 0 => 1
  | k + 1 => 12 * tw k
def t3 (k : Nat) : Nat := match k with
  | 0 => 1
  | k + 1 => 3 * t3 k
theorem tw_b : ∀ {k : Nat}, k ≤ 6 → 1 ≤ tw k ∧ tw k ≤ 2985984 := by
  intro k h
  have e : k = 0 ∨ k = 1 ∨ k = 2 ∨ k = 3 ∨ k = 4 ∨ k = 5 ∨ k = 6 := by omega
  rcases e with e | e | e | e | e | e | e <;> subst e <;> decide
theorem t3_b : ∀ {k : Nat}, k ≤ 6 → 1 ≤ t3 k ∧ t3 k ≤ 729 := by
  intro k h
  have e : k = 0 ∨ k = 1 ∨ k = 2 ∨ k = 3 ∨ k = 4 ∨ k = 5 ∨ k = 6 := by omega
  rcases e with e | e | e | e | e | e | e <;> subst e <;> decide
/-- the chances of the things left, in twelfths -/
def od_v (f p : Nat → Int) (g : Int) : Nat → Nat → (Nat → Int) → Int
  | 0, _, s => if g < s 35 then 1 else 0
  | k + 1, i, s => if sp_can s (f i) = true then (if 9 < f i then 12 * od_v f p g k (i + 1) (sp_does s (f i) 0).2 else (p 0 * od_v f p g k (i + 1) (sp_does s (f i) 0).2 + p 1 * od_v f p g k (i + 1) (sp_does s (f i) 1).2) + p 2 * od_v f p g k (i + 1) (sp_does s (f i) 2).2) else 12 * od_v f p g k (i + 1) s
def PP (p : Nat → Int) : Prop := 0 ≤ p 0 ∧ 0 ≤ p 1 ∧ 0 ≤ p 2 ∧ p 0 + p 1 + p 2 = 12
theorem pp_3 {p : Nat → Int} (h : PP p) {a b c T : Int} (a0 : 0 ≤ a) (b0 : 0 ≤ b) (c0 : 0 ≤ c) (aT : a ≤ T) (bT : b ≤ T) (cT : c ≤ T) : (0 ≤ p 0 * a ∧ p 0 * a ≤ 12 * T) ∧ (0 ≤ p 1 * b ∧ p 1 * b ≤ 12 * T) ∧ (0 ≤ p 2 * c ∧ p 2 * c ≤ 12 * T) ∧ 0 ≤ p 0 * a + p 1 * b + p 2 * c ∧ p 0 * a + p 1 * b + p 2 * c ≤ 12 * T := by
  obtain ⟨h0, h1, h2, h3⟩ := h
  have m0 := Int.mul_nonneg h0 a0
  have m1 := Int.mul_nonneg h1 b0
  have m2 := Int.mul_nonneg h2 c0
  have n0 := Int.mul_le_mul_of_nonneg_left aT h0
  have n1 := Int.mul_le_mul_of_nonneg_left bT h1
  have n2 := Int.mul_le_mul_of_nonneg_left cT h2
  have e : p 0 * T + p 1 * T + p 2 * T = 12 * T := by
    rw [← Int.add_mul, ← Int.add_mul, h3]
  have T0 : 0 ≤ T := Int.le_trans a0 aT
  have q0 := Int.mul_nonneg h0 T0
  have q1 := Int.mul_nonneg h1 T0
  have q2 := Int.mul_nonneg h2 T0
  generalize p 0 * a = x0 at *
  generalize p 1 * b = x1 at *
  generalize p 2 * c = x2 at *
  generalize p 0 * T = y0 at *
  generalize p 1 * T = y1 at *
  generalize p 2 * T = y2 at *
  omega
theorem od_b {f p : Nat → Int} {g : Int} (h : PP p) : ∀ (k i : Nat) (s : Nat → Int), 0 ≤ od_v f p g k i s ∧ od_v f p g k i s ≤ tw k
  | 0, i, s => by
    show 0 ≤ (if g < s 35 then (1 : Int) else 0) ∧ (if g < s 35 then (1 : Int) else 0) ≤ 1
    split <;> decide
  | k + 1, i, s => by
    show 0 ≤ (if sp_can s (f i) = true then (if 9 < f i then 12 * od_v f p g k (i + 1) (sp_does s (f i) 0).2 else (p 0 * od_v f p g k (i + 1) (sp_does s (f i) 0).2 + p 1 * od_v f p g k (i + 1) (sp_does s (f i) 1).2) + p 2 * od_v f p g k (i + 1) (sp_does s (f i) 2).2) else 12 * od_v f p g k (i + 1) s) ∧ (if sp_can s (f i) = true then (if 9 < f i then 12 * od_v f p g k (i + 1) (sp_does s (f i) 0).2 else (p 0 * od_v f p g k (i + 1) (sp_does s (f i) 0).2 + p 1 * od_v f p g k (i + 1) (sp_does s (f i) 1).2) + p 2 * od_v f p g k (i + 1) (sp_does s (f i) 2).2) else 12 * od_v f p g k (i + 1) s) ≤ 12 * tw k
    have b0 := od_b (f := f) (g := g) h k (i + 1) (sp_does s (f i) 0).2
    have b1 := od_b (f := f) (g := g) h k (i + 1) (sp_does s (f i) 1).2
    have b2 := od_b (f := f) (g := g) h k (i + 1) (sp_does s (f i) 2).2
    have b3 := od_b (f := f) (g := g) h k (i + 1) s
    split
    · split
      · omega
      · exact (pp_3 h b0.1 b1.1 b2.1 b0.2 b1.2 b2.2).2.2.2
    · omega
/-- by one code of rails -/
def oc_s (s : Nat → Int) (t r : Int) : Nat → Int := if sp_can s t = true then (sp_does s t r).2 else s
def oc_v (f p : Nat → Int) (g : Int) : Nat → Nat → Nat → (Nat → Int) → Int
  | 0, _, _, s => if g < s 35 then 1 else 0
  | k + 1, i, c, s => p (c % 3) * oc_v f p g k (i + 1) (c / 3) (oc_s s (f i) ((c % 3 : Nat) : Int))
theorem oc_0 {f p : Nat → Int} {g : Int} (h : ∀ r, r < 3 → 0 ≤ p r) : ∀ (k i c : Nat) (s : Nat → Int), 0 ≤ oc_v f p g k i c s
  | 0, i, c, s => by
    show 0 ≤ (if g < s 35 then (1 : Int) else 0)
    split <;> decide
  | k + 1, i, c, s => Int.mul_nonneg (h _ (by omega)) (oc_0 h k (i + 1) (c / 3) _)
def os_v (f p : Nat → Int) (g : Int) (k i : Nat) (s : Nat → Int) : Nat → Int
  | 0 => 0
  | M + 1 => os_v f p g k i s M + oc_v f p g k i M s
theorem os_3 {f p : Nat → Int} {g : Int} {k i : Nat} {s : Nat → Int} : ∀ (M : Nat), os_v f p g (k + 1) i s (3 * M) = (p 0 * os_v f p g k (i + 1) (oc_s s (f i) 0) M + p 1 * os_v f p g k (i + 1) (oc_s s (f i) 1) M) + p 2 * os_v f p g k (i + 1) (oc_s s (f i) 2) M
  | 0 => by
    show (0 : Int) = (p 0 * 0 + p 1 * 0) + p 2 * 0
    rw [Int.mul_zero, Int.mul_zero, Int.mul_zero]
    try rfl
  | M + 1 => by
    have ih := os_3 (f := f) (p := p) (g := g) (k := k) (i := i) (s := s) M
    have e0 : oc_v f p g (k + 1) i (3 * M) s = p 0 * oc_v f p g k (i + 1) M (oc_s s (f i) 0) := by
      show p ((3 * M) % 3) * oc_v f p g k (i + 1) ((3 * M) / 3) (oc_s s (f i) (((3 * M) % 3 : Nat) : Int)) = _
      rw [show (3 * M) % 3 = 0 by omega, show (3 * M) / 3 = M by omega]
      try rfl
    have e1 : oc_v f p g (k + 1) i (3 * M + 1) s = p 1 * oc_v f p g k (i + 1) M (oc_s s (f i) 1) := by
      show p ((3 * M + 1) % 3) * oc_v f p g k (i + 1) ((3 * M + 1) / 3) (oc_s s (f i) (((3 * M + 1) % 3 : Nat) : Int)) = _
      rw [show (3 * M + 1) % 3 = 1 by omega, show (3 * M + 1) / 3 = M by omega]
      try rfl
    have e2 : oc_v f p g (k + 1) i (3 * M + 1 + 1) s = p 2 * oc_v f p g k (i + 1) M (oc_s s (f i) 2) := by
      show p ((3 * M + 1 + 1) % 3) * oc_v f p g k (i + 1) ((3 * M + 1 + 1) / 3) (oc_s s (f i) (((3 * M + 1 + 1) % 3 : Nat) : Int)) = _
      rw [show (3 * M + 1 + 1) % 3 = 2 by omega, show (3 * M + 1 + 1) / 3 = M by omega]
      try rfl
    rw [show 3 * (M + 1) = 3 * M + 1 + 1 + 1 by omega]
    show os_v f p g (k + 1) i s (3 * M) + oc_v f p g (k + 1) i (3 * M) s + oc_v f p g (k + 1) i (3 * M + 1) s + oc_v f p g (k + 1) i (3 * M + 1 + 1) s = (p 0 * (os_v f p g k (i + 1) (oc_s s (f i) 0) M + oc_v f p g k (i + 1) M (oc_s s (f i) 0)) + p 1 * (os_v f p g k (i + 1) (oc_s s (f i) 1) M + oc_v f p g k (i + 1) M (oc_s s (f i) 1))) + p 2 * (os_v f p g k (i + 1) (oc_s s (f i) 2) M + oc_v f p g k (i + 1) M (oc_s s (f i) 2))
    rw [ih, e0, e1, e2, Int.mul_add, Int.mul_add, Int.mul_add]
    generalize p 0 * os_v f p g k (i + 1) (oc_s s (f i) 0) M = x0
    generalize p 1 * os_v f p g k (i + 1) (oc_s s (f i) 1) M = x1
    generalize p 2 * os_v f p g k (i + 1) (oc_s s (f i) 2) M = x2
    generalize p 0 * oc_v f p g k (i + 1) M (oc_s s (f i) 0) = y0
    generalize p 1 * oc_v f p g k (i + 1) M (oc_s s (f i) 1) = y1
    generalize p 2 * oc_v f p g k (i + 1) M (oc_s s (f i) 2) = y2
    omega
theorem sp_does_o {s : Nat → Int} {t : Int} (h : ¬ t < 10) (r q : Int) : sp_does s t r = sp_does s t q := by
  unfold sp_does
  rw [if_neg h, if_neg h]
theorem os_od {f p : Nat → Int} {g : Int} (h : PP p) : ∀ (k i : Nat) (s : Nat → Int), os_v f p g k i s (t3 k) = od_v f p g k i s
  | 0, i, s => by
    show (0 : Int) + (if g < s 35 then 1 else 0) = (if g < s 35 then 1 else 0)
    rw [Int.zero_add]
  | k + 1, i, s => by
    have e : os_v f p g (k + 1) i s (t3 (k + 1)) = (p 0 * od_v f p g k (i + 1) (oc_s s (f i) 0) + p 1 * od_v f p g k (i + 1) (oc_s s (f i) 1)) + p 2 * od_v f p g k (i + 1) (oc_s s (f i) 2) := by
      show os_v f p g (k + 1) i s (3 * t3 k) = _
      rw [os_3, os_od h k, os_od h k, os_od h k]
    rw [e]
    show _ = (if sp_can s (f i) = true then (if 9 < f i then 12 * od_v f p g k (i + 1) (sp_does s (f i) 0).2 else (p 0 * od_v f p g k (i + 1) (sp_does s (f i) 0).2 + p 1 * od_v f p g k (i + 1) (sp_does s (f i) 1).2) + p 2 * od_v f p g k (i + 1) (sp_does s (f i) 2).2) else 12 * od_v f p g k (i + 1) s)
    unfold oc_s
    by_cases a : sp_can s (f i) = true
    · rw [if_pos a, if_pos a, if_pos a, if_pos a]
      by_cases b : 9 < f i
      · rw [if_pos b, sp_does_o (r := 1) (q := 0) (show ¬ f i < 10 by omega), sp_does_o (r := 2) (q := 0) (show ¬ f i < 10 by omega), ← Int.add_mul, ← Int.add_mul, h.2.2.2]
      · rw [if_neg b]
    · rw [if_neg a, if_neg a, if_neg a, if_neg a, ← Int.add_mul, ← Int.add_mul, h.2.2.2]
theorem os_m {f p : Nat → Int} {g : Int} (h : ∀ r, r < 3 → 0 ≤ p r) {k i : Nat} {s : Nat → Int} : ∀ (j M : Nat), 0 ≤ os_v f p g k i s M ∧ os_v f p g k i s M ≤ os_v f p g k i s (M + j)
  | 0, M => by
    refine ⟨?_, Int.le_refl _⟩
    induction M with
    | zero => exact Int.le_refl _
    | succ M ih =>
      have c := oc_0 (f := f) (g := g) h k i M s
      show 0 ≤ os_v f p g k i s M + oc_v f p g k i M s
      omega
  | j + 1, M => by
    have ih := os_m (f := f) (g := g) h (k := k) (i := i) (s := s) j M
    have c := oc_0 (f := f) (g := g) h k i (M + j) s
    refine ⟨ih.1, ?_⟩
    show os_v f p g k i s M ≤ os_v f p g k i s (M + j) + oc_v f p g k i (M + j) s
    omega
theorem PP.n {p : Nat → Int} (h : PP p) : ∀ r, r < 3 → 0 ≤ p r := by
  intro r hr
  have e : r = 0 ∨ r = 1 ∨ r = 2 := by omega
  rcases e with e | e | e <;> subst e
  · exact h.1
  · exact h.2.1
  · exact h.2.2.1
theorem PP.m {p : Nat → Int} (h : PP p) : ∀ r, r < 3 → p r ≤ 12 := by
  intro r hr
  obtain ⟨h0, h1, h2, h3⟩ := h
  have e : r = 0 ∨ r = 1 ∨ r = 2 := by omega
  rcases e with e | e | e <;> subst e <;> omega
/-! the greatest common divisor -/
def gc_v : Nat → Int → Int → Int
  | 0, a, _ => a
  | k + 1, a, b => if b = 0 then a else gc_v k b (Int.tmod a b)
def gt_v : Nat → Int → Int → Prop
  | 0, _, b => b = 0
  | k + 1, a, b => b = 0 ∨ gt_v k b (Int.tmod a b)
theorem gt_up : ∀ {k : Nat} {a b : Int}, gt_v k a b → gt_v (k + 1) a b
  | 0, _, _, h => Or.inl h
  | k + 1, a, b, h => by
    rcases h with h | h
    · exact Or.inl h
    · exact Or.inr (gt_up h)
theorem gt_le {k : Nat} {a b : Int} (h : gt_v k a b) : ∀ (j : Nat), gt_v (k + j) a b
  | 0 => h
  | j + 1 => gt_up (gt_le h j)
theorem gc_le : ∀ {k : Nat} {a b : Int}, gt_v k a b → ∀ (j : Nat), gc_v (k + j) a b = gc_v k a b
  | 0, a, b, h, j => by
    have z : b = 0 := h
    cases j with
    | zero => rfl
    | succ j =>
      rw [show 0 + (j + 1) = j + 1 by omega]
      show (if b = 0 then a else gc_v j b (Int.tmod a b)) = a
      rw [if_pos z]
  | k + 1, a, b, h, j => by
    rw [show k + 1 + j = (k + j) + 1 by omega]
    show (if b = 0 then a else gc_v (k + j) b (Int.tmod a b)) = (if b = 0 then a else gc_v k b (Int.tmod a b))
    by_cases z : b = 0
    · rw [if_pos z, if_pos z]
    · rw [if_neg z, if_neg z]
      rcases h with h | h
      · exact absurd h z
      · exact gc_le h j
def p2 : Nat → Int
  | 0 => 1
  | j + 1 => 2 * p2 j
theorem gt_p2 : ∀ (j : Nat) (a b : Int), 0 ≤ a → 0 ≤ b → b < p2 j → gt_v (2 * j) a b
  | 0, a, b, _, h0, h => by
    have h' : b < 1 := h
    show b = 0
    omega
  | j + 1, a, b, ha, h0, h => by
    have h' : b < 2 * p2 j := h
    rw [show 2 * (j + 1) = 2 * j + 1 + 1 by omega]
    by_cases z : b = 0
    · exact Or.inl z
    · refine Or.inr ?_
      have e1 : Int.tmod a b = a % b := Int.tmod_eq_emod_of_nonneg ha
      have r0 : 0 ≤ a % b := Int.emod_nonneg _ z
      have r1 : a % b < b := Int.emod_lt_of_pos _ (by omega)
      rw [e1]
      generalize a % b = r at r0 r1
      by_cases y : r = 0
      · exact Or.inl y
      · refine Or.inr ?_
        have e2 : Int.tmod b r = b % r := Int.tmod_eq_emod_of_nonneg h0
        have s0 : 0 ≤ b % r := Int.emod_nonneg _ y
        have s1 : b % r < r := Int.emod_lt_of_pos _ (by omega)
        have s2 : r * (b / r) + b % r = b := Int.mul_ediv_add_emod b r
        have s3 : 1 ≤ b / r := by
          by_cases q : b / r ≤ 0
          · have m := Int.mul_le_mul_of_nonneg_left q (show 0 ≤ r by omega)
            rw [Int.mul_zero] at m
            omega
          · omega
        have s4 := Int.mul_le_mul_of_nonneg_left s3 (show 0 ≤ r by omega)
        rw [Int.mul_one] at s4
        rw [e2]
        exact gt_p2 j r (b % r) (by omega) s0 (by omega)
theorem gc_1 : ∀ {k : Nat} {a b : Int}, 0 ≤ a → 0 ≤ b → (0 < a ∨ 0 < b) → gt_v k a b → 1 ≤ gc_v k a b
  | 0, a, b, h1, h2, h3, h4 => by
    have z : b = 0 := h4
    show 1 ≤ a
    omega
  | k + 1, a, b, h1, h2, h3, h4 => by
    show 1 ≤ (if b = 0 then a else gc_v k b (Int.tmod a b))
    by_cases z : b = 0
    · rw [if_pos z]
      omega
    · rw [if_neg z]
      rcases h4 with h4 | h4
      · exact absurd h4 z
      · exact gc_1 h2 (by rw [Int.tmod_eq_emod_of_nonneg h1]; exact Int.emod_nonneg _ z) (Or.inl (by omega)) h4
theorem rg_cmp0 {x : Int} : rf_cmp x 0 = 0 ↔ x = 0 := by
  unfold rf_cmp
  split
  · exact ⟨fun h => absurd h (by decide), fun h => by omega⟩
  · split
    · exact ⟨fun _ => by assumption, fun _ => rfl⟩
    · exact ⟨fun h => absurd h (by decide), fun h => by contradiction⟩
theorem rg_W_cd_9 (d : Nat) (h : rf_H) : ∀ (k i : Nat) (a b : Int), i + k = 128 → rf_j_W_commonDivisor_9 d a b (i : Int) h = some (some (.inr (.inl (gc_v k a b))), h)
  | 0, i, a, b, hk => by
    rw [rf_e_W_commonDivisor_9, if_neg (by omega)]
    try rfl
  | k + 1, i, a, b, hk => by
    have x2 : rf_w ((i : Int) + 1) = ((i + 1 : Nat) : Int) := by
      rw [rg_w (by omega) (by omega)]
      omega
    have e : gc_v (k + 1) a b = (if b = 0 then a else gc_v k b (Int.tmod a b)) := rfl
    rw [rf_e_W_commonDivisor_9, if_pos (by omega), e]
    by_cases z : b = 0
    · rw [if_pos (rg_cmp0.2 z), if_pos z]
    · rw [if_neg (fun q => z (rg_cmp0.1 q)), if_neg z, if_neg z, x2]
      exact rg_W_cd_9 d h k (i + 1) b (Int.tmod a b) (by omega)
