/-! The small language: what both readers do, sign by sign. -/
def ps_c (x : Nat → Int) (n p : Nat) : Int := if p < n then x p else -1
def ps_sk (x : Nat → Int) (n : Nat) : Nat → Nat → Nat
  | 0, p => p
  | k + 1, p => if ps_c x n p = 32 then ps_sk x n k (p + 1) else p
abbrev PS : Type := Nat × (Nat → Int)
def ps_f (x : Nat → Int) (n to : Nat) (lo hi : Int) (q : PS) : Bool × PS := if lo ≤ ps_c x n q.1 - 48 ∧ ps_c x n q.1 - 48 ≤ hi then (true, q.1 + 1, rg_ui q.2 to (ps_c x n q.1 - 48)) else (false, q)
def ps_rail (c : Int) : Int := if c = 100 then 0 else if c = 119 then 1 else if c = 108 then 2 else -9
def ps_kind (c : Int) : Int := if c = 112 then 3 else if c = 114 then 4 else if c = 98 then 5 else if c = 119 then 0 else if c = 104 then 1 else if c = 115 then 2 else -9
def ps_rl (x : Nat → Int) (n : Nat) : Nat → PS → PS
  | 0, q => q
  | k + 1, q => if ps_rail (ps_c x n q.1) ≠ -9 ∧ q.2 2 < 6 then ps_rl x n k (q.1 + 1, rg_ui (rg_ui q.2 (3 + q.2 2).toNat (ps_rail (ps_c x n q.1))) 2 (q.2 2 + 1)) else q
def ps_e4 (x : Nat → Int) (n : Nat) (q : PS) : Bool × PS := ps_f x n 1 0 3 q
def ps_e3 (x : Nat → Int) (n : Nat) (q : PS) : Bool × PS := if (ps_f x n 28 0 9 q).1 = true then ps_e4 x n (ps_f x n 28 0 9 q).2 else ps_f x n 28 0 9 q
def ps_e2 (x : Nat → Int) (n : Nat) (q : PS) : Bool × PS := if (ps_f x n 27 0 9 q).1 = true then ps_e3 x n (ps_f x n 27 0 9 q).2 else ps_f x n 27 0 9 q
def ps_e1 (x : Nat → Int) (n : Nat) (q : PS) : Bool × PS := if (ps_f x n 0 1 9 q).1 = true then ps_e2 x n (ps_f x n 0 1 9 q).2 else ps_f x n 0 1 9 q
def ps_eng (x : Nat → Int) (n : Nat) (q : PS) : Bool × PS := if ps_c x n q.1 = 101 then ps_e1 x n (q.1 + 1, q.2) else (false, q)
def ps_w2 (x : Nat → Int) (n : Nat) (m : Int) (q : PS) : Bool × PS := if (ps_f x n (9 + 3 * m + 2).toNat 1 9 q).1 = true then (true, (ps_f x n (9 + 3 * m + 2).toNat 1 9 q).2.1, rg_ui (ps_f x n (9 + 3 * m + 2).toNat 1 9 q).2.2 36 (m + 1)) else ps_f x n (9 + 3 * m + 2).toNat 1 9 q
def ps_w1 (x : Nat → Int) (n : Nat) (m : Int) (q : PS) : Bool × PS := if (ps_f x n (9 + 3 * m + 1).toNat 1 9 q).1 = true then ps_w2 x n m (ps_f x n (9 + 3 * m + 1).toNat 1 9 q).2 else ps_f x n (9 + 3 * m + 1).toNat 1 9 q
def ps_wag (x : Nat → Int) (n : Nat) (q : PS) : Bool × PS := if ps_kind (ps_c x n q.1) = -9 ∨ q.2 36 = 6 then (false, q) else ps_w1 x n (q.2 36) (q.1 + 1, rg_ui q.2 (9 + 3 * q.2 36).toNat (ps_kind (ps_c x n q.1)))
def ps_lp (x : Nat → Int) (n : Nat) : Nat → PS → Bool × PS
  | 0, q => (false, q)
  | k + 1, q => if ps_sk x n 60 q.1 = n then (true, n, q.2) else if (ps_wag x n (ps_sk x n 60 q.1, q.2)).1 = true then ps_lp x n k (ps_wag x n (ps_sk x n 60 q.1, q.2)).2 else ps_wag x n (ps_sk x n 60 q.1, q.2)
def ps_r2 (x : Nat → Int) (n : Nat) (q : PS) : Bool × PS := if 0 < q.2 2 ∧ ps_c x n q.1 ≠ 100 ∧ ps_c x n q.1 ≠ 108 then ps_lp x n 7 q else (false, q)
def ps_r1 (x : Nat → Int) (n : Nat) (q : PS) : Bool × PS := if ps_c x n q.1 = 105 then ps_r2 x n (ps_rl x n 6 (q.1 + 1, q.2)) else (false, q)
def ps_all (x : Nat → Int) (n : Nat) (g : Nat → Int) : Bool × PS := if (ps_eng x n (ps_sk x n 60 0, g)).1 = true then ps_r1 x n (ps_sk x n 60 (ps_eng x n (ps_sk x n 60 0, g)).2.1, (ps_eng x n (ps_sk x n 60 0, g)).2.2) else ps_eng x n (ps_sk x n 60 0, g)
/-! places stay within the text -/
theorem ps_sk_le {x : Nat → Int} {n : Nat} : ∀ (k p : Nat), p ≤ n → p ≤ ps_sk x n k p ∧ ps_sk x n k p ≤ n
  | 0, p, h => ⟨Nat.le_refl _, h⟩
  | k + 1, p, h => by
    unfold ps_sk
    by_cases q : ps_c x n p = 32
    · rw [if_pos q]
      have hp : p < n := by
        unfold ps_c at q
        by_cases z : p < n
        · exact z
        · rw [if_neg z] at q
          omega
      have := ps_sk_le (x := x) (n := n) k (p + 1) hp
      omega
    · rw [if_neg q]
      omega
theorem ps_sk_more {x : Nat → Int} {n : Nat} : ∀ (k p : Nat), n ≤ p + k → ps_sk x n (k + 1) p = ps_sk x n k p
  | 0, p, h => by
    have e : ps_c x n p ≠ 32 := by
      unfold ps_c
      rw [if_neg (by omega)]
      omega
    show (if ps_c x n p = 32 then ps_sk x n 0 (p + 1) else p) = p
    rw [if_neg e]
  | k + 1, p, h => by
    show (if ps_c x n p = 32 then ps_sk x n (k + 1) (p + 1) else p) = (if ps_c x n p = 32 then ps_sk x n k (p + 1) else p)
    rw [ps_sk_more k (p + 1) (by omega)]
theorem ps_sk_60 {x : Nat → Int} {n : Nat} (k p : Nat) (h : n ≤ p + k) : ∀ j, ps_sk x n (k + j) p = ps_sk x n k p
  | 0 => rfl
  | j + 1 => by
    rw [show k + (j + 1) = (k + j) + 1 by omega, ps_sk_more (k + j) p (by omega), ps_sk_60 k p h j]
theorem ps_f_le {x : Nat → Int} {n to : Nat} {lo hi : Int} {q : PS} (h : q.1 ≤ n) (hlo : 0 ≤ lo) : (ps_f x n to lo hi q).2.1 ≤ n := by
  unfold ps_f
  by_cases a : lo ≤ ps_c x n q.1 - 48 ∧ ps_c x n q.1 - 48 ≤ hi
  · rw [if_pos a]
    show q.1 + 1 ≤ n
    unfold ps_c at a
    by_cases z : q.1 < n
    · exact z
    · rw [if_neg z] at a
      omega
  · rw [if_neg a]
    exact h
/-! The reference's reader -/
section RGMP
variable {X : rf_X} {x : Nat → Int} {n t : Nat}
theorem ps_c_b (hb : ∀ k, k < n → -128 ≤ x k ∧ x k ≤ 127) (p : Nat) : -128 ≤ ps_c x n p ∧ ps_c x n p ≤ 127 := by
  unfold ps_c
  by_cases a : p < n
  · rw [if_pos a]
    exact hb p a
  · rw [if_neg a]
    omega
theorem ps_rail_n (c : Int) (p : Nat) (h : ps_rail (ps_c x n p) ≠ -9) : p < n := by
  apply Classical.byContradiction
  intro z
  apply h
  unfold ps_c
  rw [if_neg z]
  try rfl
theorem ps_kind_n {p : Nat} (h : ps_kind (ps_c x n p) ≠ -9) : p < n := by
  apply Classical.byContradiction
  intro z
  apply h
  unfold ps_c
  rw [if_neg z]
  try rfl
theorem ps_rl_le : ∀ (k : Nat) (q : PS), q.1 ≤ n → (ps_rl x n k q).1 ≤ n
  | 0, q, h => h
  | k + 1, q, h => by
    show (if ps_rail (ps_c x n q.1) ≠ -9 ∧ q.2 2 < 6 then ps_rl x n k (q.1 + 1, rg_ui (rg_ui q.2 (3 + q.2 2).toNat (ps_rail (ps_c x n q.1))) 2 (q.2 2 + 1)) else q).1 ≤ n
    by_cases a : ps_rail (ps_c x n q.1) ≠ -9 ∧ q.2 2 < 6
    · rw [if_pos a]
      exact ps_rl_le k _ (ps_rail_n 0 q.1 a.1)
    · rw [if_neg a]
      exact h
end RGMP
