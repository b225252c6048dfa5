/-! count -/
def th_v (p : Nat → Bool) : Nat → Int
  | 0 => 0
  | k + 1 => if p k = true then rf_w (th_v p k + 1) else rf_w (th_v p k + 0)
theorem th_b (p : Nat → Bool) : ∀ {k : Nat}, k ≤ 1000 → 0 ≤ th_v p k ∧ th_v p k ≤ (k : Int)
  | 0, _ => ⟨Int.le_refl _, Int.le_refl _⟩
  | k + 1, h => by
    have ih := th_b p (k := k) (by omega)
    have e : th_v p (k + 1) = (if p k = true then rf_w (th_v p k + 1) else rf_w (th_v p k + 0)) := rfl
    rw [e]
    by_cases a : p k = true
    · rw [if_pos a, rg_w (by omega) (by omega)]
      omega
    · rw [if_neg a, rg_w (by omega) (by omega)]
      omega
theorem th_of {p q : Nat → Bool} : ∀ {n : Nat}, (∀ k, k < n → p k = q k) → th_v p n = th_v q n
  | 0, _ => rfl
  | n + 1, h => by
    show (if p n = true then rf_w (th_v p n + 1) else rf_w (th_v p n + 0)) = (if q n = true then rf_w (th_v q n + 1) else rf_w (th_v q n + 0))
    rw [th_of fun k hk => h k (by omega), h n (by omega)]
theorem th_z {p : Nat → Bool} {n : Nat} (hn : n ≤ 900) (h : p n = false) : th_v p (n + 1) = th_v p n := by
  have b := th_b p (k := n) (by omega)
  show (if p n = true then rf_w (th_v p n + 1) else rf_w (th_v p n + 0)) = th_v p n
  rw [if_neg (by rw [h]; decide), rg_w (by omega) (by omega)]
  omega
def th_p (S L K : Nat → Int) (w : Int) (k : Nat) : Bool := if w = 5 then decide (0 ≤ S k) else if w = 6 then decide (k < 4 ∧ 0 ≤ L k) else if w = 7 then decide (k < 3 ∧ K k ≠ 0) else false
def cn_v (A S L K : Nat → Int) (w : Int) : Int := if w = 0 then A 36 else if w = 1 then A 2 else if w = 2 then A 37 else if w = 3 then sp_load A (A 36).toNat else if w = 4 then mn_v A 1 (A 36).toNat else th_v (th_p S L K w) 6
section RGS20
variable {X : rf_X} {D : rf_D}
theorem rg_W_there_10 (d : Nat) {a b n m : Nat} (n1 : n ≤ 100) (hrow : ∀ i, i < n → rg_row (b + 2 * i) m ∧ rf_aR (hp X D) a (i : Int) = some (some (b + 2 * i))) : ∀ (k i : Nat), i + k = n → rf_j_W_countThere_10 (d + 1) (th_v (fun k => decide (0 ≤ D (b + 2 * k) 1)) i) (some a) (n : Int) (i : Int) (hp X D) = some (some (.inl (th_v (fun k => decide (0 ≤ D (b + 2 * k) 1)) n)), hp X D)
  | 0, i, hk => by
    rw [rf_e_W_countThere_10, if_neg (by omega), show i = n by omega]
  | k + 1, i, hk => by
    have x2 : rf_w ((i : Int) + 1) = ((i + 1 : Nat) : Int) := by
      rw [rg_w (by omega) (by omega)]
      omega
    obtain ⟨r1, r2⟩ := hrow i (by omega)
    have ih := rg_W_there_10 d n1 hrow k (i + 1) (by omega)
    have e : th_v (fun k => decide (0 ≤ D (b + 2 * k) 1)) (i + 1) = (if decide (0 ≤ D (b + 2 * i) 1) = true then rf_w (th_v (fun k => decide (0 ≤ D (b + 2 * k) 1)) i + 1) else rf_w (th_v (fun k => decide (0 ≤ D (b + 2 * k) 1)) i + 0)) := rfl
    rw [e] at ih
    rw [rf_e_W_countThere_10, if_pos (by omega)]
    try simp only [Int.reduceToNat, rg_kIs, rg_kLs, rg_kRs, rg_kVs, rg_nns, rg_bs, cond_true, cond_false]
    rw [r2]
    try simp only [rg_hp1, rg_row_o r1, rg_nzs, Int.reduceToNat, rg_kIs, rg_kLs, rg_kRs, rg_kVs, rg_nns, rg_bs, cond_true, cond_false]
    rw [rg_R_isThere r1]
    try simp only [Int.reduceToNat, rg_kIs, rg_kLs, rg_kRs, rg_kVs, rg_nns, rg_bs, cond_true, cond_false, x2]
    by_cases c : D (b + 2 * i) 1 < 0
    · rw [if_neg (by rw [decide_eq_true_eq]; omega)] at ih
      rw [if_pos c, if_pos (by decide)]
      exact ih
    · rw [if_pos (by rw [decide_eq_true_eq]; omega)] at ih
      rw [if_neg c, if_neg (by decide)]
      exact ih
theorem rg_W_there (d : Nat) {a b n m : Nat} (n1 : n ≤ 100) (hL : rf_aL (hp X D) a = some (n : Int)) (hrow : ∀ i, i < n → rg_row (b + 2 * i) m ∧ rf_aR (hp X D) a (i : Int) = some (some (b + 2 * i))) : rf_call (d + 2) 110 [.inr (.inr (some a))] (hp X D) = some (some (.inl (th_v (fun k => decide (0 ≤ D (b + 2 * k) 1)) n)), hp X D) := by
  rw [rf_e_W_countThere]
  try simp only [Int.reduceToNat, rg_kIs, rg_kLs, rg_kRs, rg_kVs, rg_nns, rg_bs, cond_true, cond_false]
  rw [hL]
  try simp only [Int.reduceToNat, rg_kIs, rg_kLs, rg_kRs, rg_kVs, rg_nns, rg_bs, cond_true, cond_false]
  exact rg_W_there_10 d n1 hrow n 0 (by omega)
end RGS20
