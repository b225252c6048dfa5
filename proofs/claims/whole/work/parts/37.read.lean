/-! The small language: what both readers do, sign by sign. -/
def ps_c (x : Nat → Int) (n p : Nat) : Int := if p < n then x p else -1
def ps_sk (x : Nat → Int) (n : Nat) : Nat → Nat → Nat
  | 0, p => p
  | k + 1, p => if ps_c x n p = 32 then ps_sk x n k (p + 1) else p
abbrev PS : Type := Nat × (Nat → Int)
def ps_f (x : Nat → Int) (n to : Nat) (lo hi : Int) (q : PS) : Bool × PS := if lo ≤ ps_c x n q.1 - 48 ∧ ps_c x n q.1 - 48 ≤ hi then (true, q.1 + 1, rg_ui q.2 to (ps_c x n q.1 - 48)) else (false, q)
def ps_rail (c : Int) : Int := if c = 100 then 0 else if c = 119 then 1 else if c = 108 then 2 else -9
def ps_kind (c : Int) : Int := if c = 112 then 3 else if c = 114 then 4 else if c = 98 then 5 else if c = 119 then 0 else if c = 104 then 1 else if c = 115 then 2 else -9
def ps_rl (x : Nat → Int) (n : Nat) : Nat → PS → PS
  | 0, q => q
  | k + 1, q => if ps_rail (ps_c x n q.1) ≠ -9 ∧ q.2 2 < 6 then ps_rl x n k (q.1 + 1, rg_ui (rg_ui q.2 (3 + q.2 2).toNat (ps_rail (ps_c x n q.1))) 2 (q.2 2 + 1)) else q
def ps_e4 (x : Nat → Int) (n : Nat) (q : PS) : Bool × PS := ps_f x n 1 0 3 q
def ps_e3 (x : Nat → Int) (n : Nat) (q : PS) : Bool × PS := if (ps_f x n 28 0 9 q).1 = true then ps_e4 x n (ps_f x n 28 0 9 q).2 else ps_f x n 28 0 9 q
def ps_e2 (x : Nat → Int) (n : Nat) (q : PS) : Bool × PS := if (ps_f x n 27 0 9 q).1 = true then ps_e3 x n (ps_f x n 27 0 9 q).2 else ps_f x n 27 0 9 q
def ps_e1 (x : Nat → Int) (n : Nat) (q : PS) : Bool × PS := if (ps_f x n 0 1 9 q).1 = true then ps_e2 x n (ps_f x n 0 1 9 q).2 else ps_f x n 0 1 9 q
def ps_eng (x : Nat → Int) (n : Nat) (q : PS) : Bool × PS := if ps_c x n q.1 = 101 then ps_e1 x n (q.1 + 1, q.2) else (false, q)
def ps_w2 (x : Nat → Int) (n : Nat) (m : Int) (q : PS) : Bool × PS := if (ps_f x n (9 + 3 * m + 2).toNat 1 9 q).1 = true then (true, (ps_f x n (9 + 3 * m + 2).toNat 1 9 q).2.1, rg_ui (ps_f x n (9 + 3 * m + 2).toNat 1 9 q).2.2 36 (m + 1)) else ps_f x n (9 + 3 * m + 2).toNat 1 9 q
def ps_w1 (x : Nat → Int) (n : Nat) (m : Int) (q : PS) : Bool × PS := if (ps_f x n (9 + 3 * m + 1).toNat 1 9 q).1 = true then ps_w2 x n m (ps_f x n (9 + 3 * m + 1).toNat 1 9 q).2 else ps_f x n (9 + 3 * m + 1).toNat 1 9 q
def ps_wag (x : Nat → Int) (n : Nat) (q : PS) : Bool × PS := if ps_kind (ps_c x n q.1) = -9 ∨ q.2 36 = 6 then (false, q) else ps_w1 x n (q.2 36) (q.1 + 1, rg_ui q.2 (9 + 3 * q.2 36).toNat (ps_kind (ps_c x n q.1)))
def ps_lp (x : Nat → Int) (n : Nat) : Nat → PS → Bool × PS
  | 0, q => (false, q)
  | k + 1, q => if ps_sk x n 60 q.1 = n then (true, n, q.2) else if (ps_wag x n (ps_sk x n 60 q.1, q.2)).1 = true then ps_lp x n k (ps_wag x n (ps_sk x n 60 q.1, q.2)).2 else ps_wag x n (ps_sk x n 60 q.1, q.2)
def ps_r2 (x : Nat → Int) (n : Nat) (q : PS) : Bool × PS := if 0 < q.2 2 ∧ ps_c x n q.1 ≠ 100 ∧ ps_c x n q.1 ≠ 108 then ps_lp x n 7 q else (false, q)
def ps_r1 (x : Nat → Int) (n : Nat) (q : PS) : Bool × PS := if ps_c x n q.1 = 105 then ps_r2 x n (ps_rl x n 6 (q.1 + 1, q.2)) else (false, q)
def ps_all (x : Nat → Int) (n : Nat) (g : Nat → Int) : Bool × PS := if (ps_eng x n (ps_sk x n 60 0, g)).1 = true then ps_r1 x n (ps_sk x n 60 (ps_eng x n (ps_sk x n 60 0, g)).2.1, (ps_eng x n (ps_sk x n 60 0, g)).2.2) else ps_eng x n (ps_sk x n 60 0, g)
/-! places stay within the text -/
theorem ps_sk_le {x : Nat → Int} {n : Nat} : ∀ (k p : Nat), p ≤ n → p ≤ ps_sk x n k p ∧ ps_sk x n k p ≤ n
  | 0, p, h => ⟨Nat.le_refl _, h⟩
  | k + 1, p, h => by
    unfold ps_sk
    by_cases q : ps_c x n p = 32
    · rw [if_pos q]
      have hp : p < n := by
        unfold ps_c at q
        by_cases z : p < n
        · exact z
        · rw [if_neg z] at q
          omega
      have := ps_sk_le (x := x) (n := n) k (p + 1) hp
      omega
    · rw [if_neg q]
      omega
theorem ps_sk_more {x : Nat → Int} {n : Nat} : ∀ (k p : Nat), n ≤ p + k → ps_sk x n (k + 1) p = ps_sk x n k p
  | 0, p, h => by
    have e : ps_c x n p ≠ 32 := by
      unfold ps_c
      rw [if_neg (by omega)]
      omega
    show (if ps_c x n p = 32 then ps_sk x n 0 (p + 1) else p) = p
    rw [if_neg e]
  | k + 1, p, h => by
    show (if ps_c x n p = 32 then ps_sk x n (k + 1) (p + 1) else p) = (if ps_c x n p = 32 then ps_sk x n k (p + 1) else p)
    rw [ps_sk_more k (p + 1) (by omega)]
theorem ps_sk_60 {x : Nat → Int} {n : Nat} (k p : Nat) (h : n ≤ p + k) : ∀ j, ps_sk x n (k + j) p = ps_sk x n k p
  | 0 => rfl
  | j + 1 => by
    rw [show k + (j + 1) = (k + j) + 1 by omega, ps_sk_more (k + j) p (by omega), ps_sk_60 k p h j]
theorem ps_f_le {x : Nat → Int} {n to : Nat} {lo hi : Int} {q : PS} (h : q.1 ≤ n) (hlo : 0 ≤ lo) : (ps_f x n to lo hi q).2.1 ≤ n := by
  unfold ps_f
  by_cases a : lo ≤ ps_c x n q.1 - 48 ∧ ps_c x n q.1 - 48 ≤ hi
  · rw [if_pos a]
    show q.1 + 1 ≤ n
    unfold ps_c at a
    by_cases z : q.1 < n
    · exact z
    · rw [if_neg z] at a
      omega
  · rw [if_neg a]
    exact h
/-! The reference's reader -/
section RGMP
variable {X : rf_X} {x : Nat → Int} {n t : Nat}
/-- where the reference reads: the text, the place, the row drawn -/
def MP (D : rf_D) (x : Nat → Int) (n t : Nat) (q : PS) : Prop := (∀ k, k < n → D 81 (60 * t + k) = x k) ∧ D 77 13 = 60 * (t : Int) ∧ D 77 14 = (n : Int) ∧ D 77 15 = (q.1 : Int) ∧ D 87 = q.2
/-- the heap behind a piece read: the place and the row drawn alone are others -/
def mp_to (D : rf_D) (q : PS) : rf_D := rg_up (rg_up D 77 (rg_ui (D 77) 15 (q.1 : Int))) 87 q.2
theorem mp_to_to (D : rf_D) (q r : PS) : mp_to (mp_to D q) r = mp_to D r := by
  unfold mp_to
  rw [rg_up_c (D := rg_up D 77 _) (k := 87) (l := 77) (by decide), rg_up_u, rg_up_u, rg_up_n (show (77 : Nat) ≠ 87 by decide), rg_up_s, rg_ui_u]
theorem MP.to {D : rf_D} {q r : PS} (h : MP D x n t q) : MP (mp_to D r) x n t r := by
  obtain ⟨h1, h2, h3, h4, h5⟩ := h
  exact ⟨h1, h2, h3, rfl, rfl⟩
theorem MP.self {D : rf_D} {q : PS} (h : MP D x n t q) : mp_to D q = D := by
  obtain ⟨h1, h2, h3, h4, h5⟩ := h
  unfold mp_to
  rw [← h4, rg_ui_i, rg_up_i, ← h5, rg_up_i]
theorem mp_pI {D : rf_D} {q : PS} (h : MP D x n t q) (p : Nat) : rg_up D 77 (rg_ui (D 77) 15 (p : Int)) = mp_to D (p, q.2) := by
  unfold mp_to
  rw [← h.2.2.2.2]
  show _ = rg_up (rg_up D 77 _) 87 (D 87)
  rw [show D 87 = rg_up D 77 (rg_ui (D 77) 15 (p : Int)) 87 from rfl, rg_up_i]
theorem mp_sI {D : rf_D} {q : PS} (h : MP D x n t q) (g : Nat → Int) : rg_up D 87 g = mp_to D (q.1, g) := by
  unfold mp_to
  rw [← h.2.2.2.1, rg_ui_i, rg_up_i]
theorem rg_M_sign {D : rf_D} {q : PS} (h : MP D x n t q) (ht : t ≤ 3) (hn : n ≤ 60) (hq : q.1 ≤ n) (d : Nat) : rf_call (d + 1) 133 [.inr (.inr (some 77))] (hp X D) = some (some (.inl (ps_c x n q.1)), hp X D) := by
  obtain ⟨h1, h2, h3, h4, h5⟩ := h
  rw [rf_e_M_sign]
  simp only [rg_hp1, rg_o_77, rg_gI_77, rg_pI_77, rg_gR_77_0, rg_gR_77_1, rg_gR_77_2, rg_gR_77_3, rg_gR_77_4, rg_gR_77_5, rg_gR_77_6, rg_gR_77_7, rg_gR_77_12, rg_gR_77_16, rg_gR_77_17, rg_gR_77_18, rg_gR_77_19, rg_aI_78, rg_aI_79, rg_aI_80, rg_aI_81, rg_aI_82, rg_aI_83, rg_aI_85, rg_aI_86, rg_aI_87, rg_aI_88, rg_aI_89, rg_aI_90, rg_sI_78, rg_sI_79, rg_sI_80, rg_sI_81, rg_sI_82, rg_sI_83, rg_sI_85, rg_sI_86, rg_sI_87, rg_sI_88, rg_sI_89, rg_sI_90, rg_aZ_84, rg_sZ_84, Int.reduceToNat, rg_kIs, rg_kLs, rg_kRs, rg_kVs, rg_nns, rg_bs, cond_true, cond_false]
  rw [h4, h3, h2]
  unfold ps_c
  by_cases a : q.1 < n
  · rw [if_pos (by omega), if_pos a, rg_w (by omega) (by omega), rg_aI_81 (by omega) (by omega)]
    simp only [Int.reduceToNat, rg_kIs, rg_kLs, rg_kRs, rg_kVs, rg_nns, rg_bs, cond_true, cond_false]
    rw [show (60 * (t : Int) + (q.1 : Int)).toNat = 60 * t + q.1 by omega, h1 _ a]
  · rw [if_neg (by omega), if_neg a]
theorem rg_M_skips_0 (ht : t ≤ 3) (hn : n ≤ 60) (d : Nat) : ∀ (k : Nat) (D : rf_D) (q : PS), MP D x n t q → q.1 ≤ n → n ≤ q.1 + k → rf_j_M_skips_0 (d + 1) 77 (hp X D) = some (none, hp X (mp_to D (ps_sk x n k q.1, q.2)))
  | 0, D, q, h, hq, hk => by
    rw [rf_e_M_skips_0]
    simp only [rg_hp1, rg_o_77, Int.reduceToNat, rg_kIs, rg_kLs, rg_kRs, rg_kVs, rg_nns, rg_bs, cond_true, cond_false]
    rw [rg_M_sign h ht hn hq d]
    simp only [Int.reduceToNat, rg_kIs, rg_kLs, rg_kRs, rg_kVs, rg_nns, rg_bs, cond_true, cond_false]
    have e : ps_c x n q.1 ≠ 32 := by
      unfold ps_c
      rw [if_neg (by omega)]
      omega
    rw [if_neg e]
    show _ = some (none, hp X (mp_to D (q.1, q.2)))
    rw [show ((q.1, q.2) : PS) = q from rfl, h.self]
  | k + 1, D, q, h, hq, hk => by
    rw [rf_e_M_skips_0]
    simp only [rg_hp1, rg_o_77, Int.reduceToNat, rg_kIs, rg_kLs, rg_kRs, rg_kVs, rg_nns, rg_bs, cond_true, cond_false]
    rw [rg_M_sign h ht hn hq d]
    simp only [Int.reduceToNat, rg_kIs, rg_kLs, rg_kRs, rg_kVs, rg_nns, rg_bs, cond_true, cond_false]
    show _ = some (none, hp X (mp_to D ((if ps_c x n q.1 = 32 then ps_sk x n k (q.1 + 1) else q.1), q.2)))
    by_cases e : ps_c x n q.1 = 32
    · have hp1 : q.1 < n := by
        unfold ps_c at e
        by_cases z : q.1 < n
        · exact z
        · rw [if_neg z] at e
          omega
      rw [if_pos e, if_pos e]
      simp only [rg_hp1, rg_o_77, rg_gI_77, rg_pI_77, rg_gR_77_0, rg_gR_77_1, rg_gR_77_2, rg_gR_77_3, rg_gR_77_4, rg_gR_77_5, rg_gR_77_6, rg_gR_77_7, rg_gR_77_12, rg_gR_77_16, rg_gR_77_17, rg_gR_77_18, rg_gR_77_19, rg_aI_78, rg_aI_79, rg_aI_80, rg_aI_81, rg_aI_82, rg_aI_83, rg_aI_85, rg_aI_86, rg_aI_87, rg_aI_88, rg_aI_89, rg_aI_90, rg_sI_78, rg_sI_79, rg_sI_80, rg_sI_81, rg_sI_82, rg_sI_83, rg_sI_85, rg_sI_86, rg_sI_87, rg_sI_88, rg_sI_89, rg_sI_90, rg_aZ_84, rg_sZ_84, Int.reduceToNat, rg_kIs, rg_kLs, rg_kRs, rg_kVs, rg_nns, rg_bs, cond_true, cond_false]
      rw [h.2.2.2.1, rg_w (by omega) (by omega), show ((q.1 : Int) + 1) = ((q.1 + 1 : Nat) : Int) by omega, mp_pI h, rg_M_skips_0 ht hn d k (mp_to D (q.1 + 1, q.2)) (q.1 + 1, q.2) h.to (by show q.1 + 1 ≤ n; omega) (by show n ≤ q.1 + 1 + k; omega), mp_to_to]
    · rw [if_neg e, if_neg e]
      rw [show ((q.1, q.2) : PS) = q from rfl, h.self]
theorem rg_M_skips {D : rf_D} {q : PS} (h : MP D x n t q) (ht : t ≤ 3) (hn : n ≤ 60) (hq : q.1 ≤ n) (d : Nat) : rf_call (d + 2) 132 [.inr (.inr (some 77))] (hp X D) = some (none, hp X (mp_to D (ps_sk x n 60 q.1, q.2))) := by
  rw [rf_e_M_skips]
  exact rg_M_skips_0 ht hn d 60 D q h hq (by omega)
theorem rg_M_letter {D : rf_D} {q : PS} (h : MP D x n t q) (ht : t ≤ 3) (hn : n ≤ 60) (hq : q.1 ≤ n) (d : Nat) (c : Int) : rf_call (d + 2) 134 [.inr (.inr (some 77)), .inl c] (hp X D) = some (if ps_c x n q.1 = c then (some (.inl 1), hp X (mp_to D (q.1 + 1, q.2))) else (some (.inl 0), hp X D)) := by
  rw [rf_e_M_letter]
  simp only [rg_hp1, rg_o_77, Int.reduceToNat, rg_kIs, rg_kLs, rg_kRs, rg_kVs, rg_nns, rg_bs, cond_true, cond_false]
  rw [rg_M_sign h ht hn hq d]
  simp only [Int.reduceToNat, rg_kIs, rg_kLs, rg_kRs, rg_kVs, rg_nns, rg_bs, cond_true, cond_false]
  by_cases e : ps_c x n q.1 = c
  · rw [if_pos e, if_pos e, rf_e_M_letter_13]
    simp only [rg_hp1, rg_o_77, rg_gI_77, rg_pI_77, rg_gR_77_0, rg_gR_77_1, rg_gR_77_2, rg_gR_77_3, rg_gR_77_4, rg_gR_77_5, rg_gR_77_6, rg_gR_77_7, rg_gR_77_12, rg_gR_77_16, rg_gR_77_17, rg_gR_77_18, rg_gR_77_19, rg_aI_78, rg_aI_79, rg_aI_80, rg_aI_81, rg_aI_82, rg_aI_83, rg_aI_85, rg_aI_86, rg_aI_87, rg_aI_88, rg_aI_89, rg_aI_90, rg_sI_78, rg_sI_79, rg_sI_80, rg_sI_81, rg_sI_82, rg_sI_83, rg_sI_85, rg_sI_86, rg_sI_87, rg_sI_88, rg_sI_89, rg_sI_90, rg_aZ_84, rg_sZ_84, Int.reduceToNat, rg_kIs, rg_kLs, rg_kRs, rg_kVs, rg_nns, rg_bs, cond_true, cond_false]
    rw [if_neg (by decide)]
    simp only [or_true, true_or, if_true]
    rw [h.2.2.2.1, rg_w (by omega) (by omega), show ((q.1 : Int) + 1) = ((q.1 + 1 : Nat) : Int) by omega, mp_pI h]
  · rw [if_neg e, if_neg e, rf_e_M_letter_13]
    simp only [rg_hp1, rg_o_77, rg_gI_77, rg_pI_77, rg_gR_77_0, rg_gR_77_1, rg_gR_77_2, rg_gR_77_3, rg_gR_77_4, rg_gR_77_5, rg_gR_77_6, rg_gR_77_7, rg_gR_77_12, rg_gR_77_16, rg_gR_77_17, rg_gR_77_18, rg_gR_77_19, rg_aI_78, rg_aI_79, rg_aI_80, rg_aI_81, rg_aI_82, rg_aI_83, rg_aI_85, rg_aI_86, rg_aI_87, rg_aI_88, rg_aI_89, rg_aI_90, rg_sI_78, rg_sI_79, rg_sI_80, rg_sI_81, rg_sI_82, rg_sI_83, rg_sI_85, rg_sI_86, rg_sI_87, rg_sI_88, rg_sI_89, rg_sI_90, rg_aZ_84, rg_sZ_84, Int.reduceToNat, rg_kIs, rg_kLs, rg_kRs, rg_kVs, rg_nns, rg_bs, cond_true, cond_false]
    simp only [or_true, true_or, if_true]
    rw [h.2.2.2.1, rg_w (by omega) (by omega), show ((q.1 : Int) + 0) = ((q.1 : Nat) : Int) by omega, mp_pI h]
    rw [show ((q.1, q.2) : PS) = q from rfl, h.self]
theorem ps_c_b (hb : ∀ k, k < n → -128 ≤ x k ∧ x k ≤ 127) (p : Nat) : -128 ≤ ps_c x n p ∧ ps_c x n p ≤ 127 := by
  unfold ps_c
  by_cases a : p < n
  · rw [if_pos a]
    exact hb p a
  · rw [if_neg a]
    omega
theorem rg_M_figure {D : rf_D} {q : PS} (h : MP D x n t q) (ht : t ≤ 3) (hn : n ≤ 60) (hq : q.1 ≤ n) (hb : ∀ k, k < n → -128 ≤ x k ∧ x k ≤ 127) (d : Nat) {to : Int} (lo hi : Int) (t1 : 0 ≤ to) (t2 : to < 638) : rf_call (d + 2) 135 [.inr (.inr (some 77)), .inl to, .inl lo, .inl hi] (hp X D) = some (some (.inl (if (ps_f x n to.toNat lo hi q).1 = true then 1 else 0)), hp X (mp_to D (ps_f x n to.toNat lo hi q).2)) := by
  have b := ps_c_b hb q.1
  rw [rf_e_M_figure]
  simp only [rg_hp1, rg_o_77, Int.reduceToNat, rg_kIs, rg_kLs, rg_kRs, rg_kVs, rg_nns, rg_bs, cond_true, cond_false]
  rw [rg_M_sign h ht hn hq (d + 0)]
  simp only [Int.reduceToNat, rg_kIs, rg_kLs, rg_kRs, rg_kVs, rg_nns, rg_bs, cond_true, cond_false]
  rw [rg_w (by omega) (by omega), rg_M_in]
  simp only [Int.reduceToNat, rg_kIs, rg_kLs, rg_kRs, rg_kVs, rg_nns, rg_bs, cond_true, cond_false]
  unfold ps_f
  by_cases e : lo ≤ ps_c x n q.1 - 48 ∧ ps_c x n q.1 - 48 ≤ hi
  · rw [if_pos e, if_pos e]
    rw [if_neg (by decide), if_pos rfl]
    simp (disch := omega) only [rg_hp1, rg_o_77, rg_gI_77, rg_pI_77, rg_gR_77_0, rg_gR_77_1, rg_gR_77_2, rg_gR_77_3, rg_gR_77_4, rg_gR_77_5, rg_gR_77_6, rg_gR_77_7, rg_gR_77_12, rg_gR_77_16, rg_gR_77_17, rg_gR_77_18, rg_gR_77_19, rg_aI_78, rg_aI_79, rg_aI_80, rg_aI_81, rg_aI_82, rg_aI_83, rg_aI_85, rg_aI_86, rg_aI_87, rg_aI_88, rg_aI_89, rg_aI_90, rg_sI_78, rg_sI_79, rg_sI_80, rg_sI_81, rg_sI_82, rg_sI_83, rg_sI_85, rg_sI_86, rg_sI_87, rg_sI_88, rg_sI_89, rg_sI_90, rg_aZ_84, rg_sZ_84, Int.reduceToNat, rg_kIs, rg_kLs, rg_kRs, rg_kVs, rg_nns, rg_bs, cond_true, cond_false, rg_up_s, rg_up_n, rg_up_u, rg_ui_s, rg_ui_n, rg_ui_u]
    rw [h.2.2.2.1, rg_w (by omega) (by omega), show ((q.1 : Int) + 1) = ((q.1 + 1 : Nat) : Int) by omega, h.2.2.2.2, rg_up_c (show (87 : Nat) ≠ 77 by decide)]
    try rfl
  · rw [if_neg e, if_neg e]
    rw [if_pos rfl, h.self]
    try rfl
theorem rg_M_railOf (d : Nat) (c : Int) (h : rf_H) : rf_call (d + 1) 137 [.inl c] h = some (some (.inl (ps_rail c)), h) := by
  rw [rf_e_M_railOf]
  unfold ps_rail
  by_cases a : c = 100
  · rw [if_pos a, if_pos a]
  · rw [if_neg a, if_neg a]
    by_cases a : c = 119
    · rw [if_pos a, if_pos a]
    · rw [if_neg a, if_neg a]
      by_cases a : c = 108
      · rw [if_pos a, if_pos a]
      · rw [if_neg a, if_neg a]
theorem rg_M_kindOf (d : Nat) (c : Int) (h : rf_H) : rf_call (d + 1) 139 [.inl c] h = some (some (.inl (ps_kind c)), h) := by
  rw [rf_e_M_kindOf]
  have k : ∀ v, rf_j_M_kindOf_32 d c v h = some (some (.inl (if c = 112 then 3 else if c = 114 then 4 else if c = 98 then 5 else v)), h) := by
    intro v
    rw [rf_e_M_kindOf_32]
    by_cases a : c = 112
    · rw [if_pos a, if_pos a]
    · rw [if_neg a, if_neg a]
      by_cases a : c = 114
      · rw [if_pos a, if_pos a]
      · rw [if_neg a, if_neg a]
        by_cases a : c = 98
        · rw [if_pos a, if_pos a]
        · rw [if_neg a, if_neg a]
  rw [k, k, k, k]
  unfold ps_kind
  by_cases a : c = 119
  · rw [if_pos a, if_pos a]
  · rw [if_neg a, if_neg a]
    by_cases a : c = 104
    · rw [if_pos a, if_pos a]
    · rw [if_neg a, if_neg a]
      by_cases a : c = 115
      · rw [if_pos a, if_pos a]
      · rw [if_neg a, if_neg a]
theorem ps_rail_n (c : Int) (p : Nat) (h : ps_rail (ps_c x n p) ≠ -9) : p < n := by
  apply Classical.byContradiction
  intro z
  apply h
  unfold ps_c
  rw [if_neg z]
  try rfl
theorem ps_kind_n {p : Nat} (h : ps_kind (ps_c x n p) ≠ -9) : p < n := by
  apply Classical.byContradiction
  intro z
  apply h
  unfold ps_c
  rw [if_neg z]
  try rfl
theorem rg_M_rails_0 (ht : t ≤ 3) (hn : n ≤ 60) (d : Nat) : ∀ (k : Nat) (D : rf_D) (q : PS), MP D x n t q → q.1 ≤ n → 0 ≤ q.2 2 → 6 ≤ q.2 2 + (k : Int) → rf_j_M_readsRails_0 (d + 1) 77 (hp X D) = rf_j_M_readsRails_66 (d + 1) 77 (hp X (mp_to D (ps_rl x n k q)))
  | 0, D, q, h, hq, h0, hk => by
    rw [rf_e_M_readsRails_0]
    simp only [rg_hp1, rg_o_77, Int.reduceToNat, rg_kIs, rg_kLs, rg_kRs, rg_kVs, rg_nns, rg_bs, cond_true, cond_false]
    rw [rg_M_sign h ht hn hq d]
    simp only [Int.reduceToNat, rg_kIs, rg_kLs, rg_kRs, rg_kVs, rg_nns, rg_bs, cond_true, cond_false, rg_M_railOf]
    show _ = rf_j_M_readsRails_66 (d + 1) 77 (hp X (mp_to D q))
    rw [h.self]
    by_cases a : ps_rail (ps_c x n q.1) = -9
    · rw [if_pos a]
    · rw [if_neg a]
      simp (disch := omega) only [rg_hp1, rg_o_77, rg_gI_77, rg_pI_77, rg_gR_77_0, rg_gR_77_1, rg_gR_77_2, rg_gR_77_3, rg_gR_77_4, rg_gR_77_5, rg_gR_77_6, rg_gR_77_7, rg_gR_77_12, rg_gR_77_16, rg_gR_77_17, rg_gR_77_18, rg_gR_77_19, rg_aI_78, rg_aI_79, rg_aI_80, rg_aI_81, rg_aI_82, rg_aI_83, rg_aI_85, rg_aI_86, rg_aI_87, rg_aI_88, rg_aI_89, rg_aI_90, rg_sI_78, rg_sI_79, rg_sI_80, rg_sI_81, rg_sI_82, rg_sI_83, rg_sI_85, rg_sI_86, rg_sI_87, rg_sI_88, rg_sI_89, rg_sI_90, rg_aZ_84, rg_sZ_84, Int.reduceToNat, rg_kIs, rg_kLs, rg_kRs, rg_kVs, rg_nns, rg_bs, cond_true, cond_false]
      rw [h.2.2.2.2]
      rw [if_neg (by omega)]
  | k + 1, D, q, h, hq, h0, hk => by
    rw [rf_e_M_readsRails_0]
    simp only [rg_hp1, rg_o_77, Int.reduceToNat, rg_kIs, rg_kLs, rg_kRs, rg_kVs, rg_nns, rg_bs, cond_true, cond_false]
    rw [rg_M_sign h ht hn hq d]
    simp only [Int.reduceToNat, rg_kIs, rg_kLs, rg_kRs, rg_kVs, rg_nns, rg_bs, cond_true, cond_false, rg_M_railOf]
    show _ = rf_j_M_readsRails_66 (d + 1) 77 (hp X (mp_to D (if ps_rail (ps_c x n q.1) ≠ -9 ∧ q.2 2 < 6 then ps_rl x n k (q.1 + 1, rg_ui (rg_ui q.2 (3 + q.2 2).toNat (ps_rail (ps_c x n q.1))) 2 (q.2 2 + 1)) else q)))
    by_cases a : ps_rail (ps_c x n q.1) = -9
    · rw [if_pos a, if_neg (show ¬ (ps_rail (ps_c x n q.1) ≠ -9 ∧ q.2 2 < 6) from fun z => z.1 a), h.self]
    · have hp1 := ps_rail_n 0 q.1 a
      rw [if_neg a]
      simp (disch := omega) only [rg_hp1, rg_o_77, rg_gI_77, rg_pI_77, rg_gR_77_0, rg_gR_77_1, rg_gR_77_2, rg_gR_77_3, rg_gR_77_4, rg_gR_77_5, rg_gR_77_6, rg_gR_77_7, rg_gR_77_12, rg_gR_77_16, rg_gR_77_17, rg_gR_77_18, rg_gR_77_19, rg_aI_78, rg_aI_79, rg_aI_80, rg_aI_81, rg_aI_82, rg_aI_83, rg_aI_85, rg_aI_86, rg_aI_87, rg_aI_88, rg_aI_89, rg_aI_90, rg_sI_78, rg_sI_79, rg_sI_80, rg_sI_81, rg_sI_82, rg_sI_83, rg_sI_85, rg_sI_86, rg_sI_87, rg_sI_88, rg_sI_89, rg_sI_90, rg_aZ_84, rg_sZ_84, Int.reduceToNat, rg_kIs, rg_kLs, rg_kRs, rg_kVs, rg_nns, rg_bs, cond_true, cond_false]
      rw [h.2.2.2.2]
      by_cases a2 : q.2 2 < 6
      · rw [if_pos a2, if_pos (show ps_rail (ps_c x n q.1) ≠ -9 ∧ q.2 2 < 6 from ⟨a, a2⟩), rg_M_sign h ht hn hq d]
        simp only [Int.reduceToNat, rg_kIs, rg_kLs, rg_kRs, rg_kVs, rg_nns, rg_bs, cond_true, cond_false, rg_M_railOf]
        rw [rg_w (by omega) (by omega), rg_sI_87 (by omega) (by omega)]
        simp (disch := omega) only [rg_hp1, rg_o_77, rg_gI_77, rg_pI_77, rg_gR_77_0, rg_gR_77_1, rg_gR_77_2, rg_gR_77_3, rg_gR_77_4, rg_gR_77_5, rg_gR_77_6, rg_gR_77_7, rg_gR_77_12, rg_gR_77_16, rg_gR_77_17, rg_gR_77_18, rg_gR_77_19, rg_aI_78, rg_aI_79, rg_aI_80, rg_aI_81, rg_aI_82, rg_aI_83, rg_aI_85, rg_aI_86, rg_aI_87, rg_aI_88, rg_aI_89, rg_aI_90, rg_sI_78, rg_sI_79, rg_sI_80, rg_sI_81, rg_sI_82, rg_sI_83, rg_sI_85, rg_sI_86, rg_sI_87, rg_sI_88, rg_sI_89, rg_sI_90, rg_aZ_84, rg_sZ_84, Int.reduceToNat, rg_kIs, rg_kLs, rg_kRs, rg_kVs, rg_nns, rg_bs, cond_true, cond_false, rg_up_s, rg_up_n, rg_up_u, rg_ui_s, rg_ui_n, rg_ui_u]
        rw [h.2.2.2.2, rg_w (z := q.2 2 + 1) (by omega) (by omega), h.2.2.2.1, rg_w (by omega) (by omega), show ((q.1 : Int) + 1) = ((q.1 + 1 : Nat) : Int) by omega]
        have e : rg_up (rg_up D 87 (rg_ui (rg_ui q.2 (3 + q.2 2).toNat (ps_rail (ps_c x n q.1))) 2 (q.2 2 + 1))) 77 (rg_ui (D 77) 15 ((q.1 + 1 : Nat) : Int)) = mp_to D (q.1 + 1, rg_ui (rg_ui q.2 (3 + q.2 2).toNat (ps_rail (ps_c x n q.1))) 2 (q.2 2 + 1)) := by
          rw [rg_up_c (show (87 : Nat) ≠ 77 by decide)]
          try rfl
        rw [e, rg_M_rails_0 ht hn d k _ (q.1 + 1, rg_ui (rg_ui q.2 (3 + q.2 2).toNat (ps_rail (ps_c x n q.1))) 2 (q.2 2 + 1)) h.to hp1 (by show 0 ≤ q.2 2 + 1; omega) (by show 6 ≤ q.2 2 + 1 + (k : Int); omega), mp_to_to]
      · rw [if_neg a2, if_neg (show ¬ (ps_rail (ps_c x n q.1) ≠ -9 ∧ q.2 2 < 6) from fun z => a2 z.2), h.self]
theorem rg_M_rails_66 {D : rf_D} {q : PS} (h : MP D x n t q) (ht : t ≤ 3) (hn : n ≤ 60) (hq : q.1 ≤ n) (d : Nat) : rf_j_M_readsRails_66 (d + 1) 77 (hp X D) = some (some (.inl (if 0 < q.2 2 ∧ ps_c x n q.1 ≠ 100 ∧ ps_c x n q.1 ≠ 108 then 1 else 0)), hp X D) := by
  rw [rf_e_M_readsRails_66]
  simp (disch := omega) only [rg_hp1, rg_o_77, rg_gI_77, rg_pI_77, rg_gR_77_0, rg_gR_77_1, rg_gR_77_2, rg_gR_77_3, rg_gR_77_4, rg_gR_77_5, rg_gR_77_6, rg_gR_77_7, rg_gR_77_12, rg_gR_77_16, rg_gR_77_17, rg_gR_77_18, rg_gR_77_19, rg_aI_78, rg_aI_79, rg_aI_80, rg_aI_81, rg_aI_82, rg_aI_83, rg_aI_85, rg_aI_86, rg_aI_87, rg_aI_88, rg_aI_89, rg_aI_90, rg_sI_78, rg_sI_79, rg_sI_80, rg_sI_81, rg_sI_82, rg_sI_83, rg_sI_85, rg_sI_86, rg_sI_87, rg_sI_88, rg_sI_89, rg_sI_90, rg_aZ_84, rg_sZ_84, Int.reduceToNat, rg_kIs, rg_kLs, rg_kRs, rg_kVs, rg_nns, rg_bs, cond_true, cond_false]
  rw [h.2.2.2.2]
  by_cases a : 0 < q.2 2
  · rw [if_pos a, rg_M_sign h ht hn hq d]
    simp only [rg_hp1, rg_o_77, rg_gI_77, rg_pI_77, rg_gR_77_0, rg_gR_77_1, rg_gR_77_2, rg_gR_77_3, rg_gR_77_4, rg_gR_77_5, rg_gR_77_6, rg_gR_77_7, rg_gR_77_12, rg_gR_77_16, rg_gR_77_17, rg_gR_77_18, rg_gR_77_19, rg_aI_78, rg_aI_79, rg_aI_80, rg_aI_81, rg_aI_82, rg_aI_83, rg_aI_85, rg_aI_86, rg_aI_87, rg_aI_88, rg_aI_89, rg_aI_90, rg_sI_78, rg_sI_79, rg_sI_80, rg_sI_81, rg_sI_82, rg_sI_83, rg_sI_85, rg_sI_86, rg_sI_87, rg_sI_88, rg_sI_89, rg_sI_90, rg_aZ_84, rg_sZ_84, Int.reduceToNat, rg_kIs, rg_kLs, rg_kRs, rg_kVs, rg_nns, rg_bs, cond_true, cond_false]
    by_cases b : ps_c x n q.1 = 100
    · rw [if_pos b, if_neg (show ¬ (0 < q.2 2 ∧ ps_c x n q.1 ≠ 100 ∧ ps_c x n q.1 ≠ 108) from fun z => z.2.1 b)]
    · rw [if_neg b, rg_M_sign h ht hn hq d]
      simp only [rg_hp1, rg_o_77, rg_gI_77, rg_pI_77, rg_gR_77_0, rg_gR_77_1, rg_gR_77_2, rg_gR_77_3, rg_gR_77_4, rg_gR_77_5, rg_gR_77_6, rg_gR_77_7, rg_gR_77_12, rg_gR_77_16, rg_gR_77_17, rg_gR_77_18, rg_gR_77_19, rg_aI_78, rg_aI_79, rg_aI_80, rg_aI_81, rg_aI_82, rg_aI_83, rg_aI_85, rg_aI_86, rg_aI_87, rg_aI_88, rg_aI_89, rg_aI_90, rg_sI_78, rg_sI_79, rg_sI_80, rg_sI_81, rg_sI_82, rg_sI_83, rg_sI_85, rg_sI_86, rg_sI_87, rg_sI_88, rg_sI_89, rg_sI_90, rg_aZ_84, rg_sZ_84, Int.reduceToNat, rg_kIs, rg_kLs, rg_kRs, rg_kVs, rg_nns, rg_bs, cond_true, cond_false]
      by_cases c : ps_c x n q.1 = 108
      · rw [if_pos c, if_neg (show ¬ (0 < q.2 2 ∧ ps_c x n q.1 ≠ 100 ∧ ps_c x n q.1 ≠ 108) from fun z => z.2.2 c)]
      · rw [if_neg c, if_pos (show 0 < q.2 2 ∧ ps_c x n q.1 ≠ 100 ∧ ps_c x n q.1 ≠ 108 from ⟨a, b, c⟩)]
  · rw [if_neg a, if_neg (show ¬ (0 < q.2 2 ∧ ps_c x n q.1 ≠ 100 ∧ ps_c x n q.1 ≠ 108) from fun z => a z.1)]
theorem ps_rl_le : ∀ (k : Nat) (q : PS), q.1 ≤ n → (ps_rl x n k q).1 ≤ n
  | 0, q, h => h
  | k + 1, q, h => by
    show (if ps_rail (ps_c x n q.1) ≠ -9 ∧ q.2 2 < 6 then ps_rl x n k (q.1 + 1, rg_ui (rg_ui q.2 (3 + q.2 2).toNat (ps_rail (ps_c x n q.1))) 2 (q.2 2 + 1)) else q).1 ≤ n
    by_cases a : ps_rail (ps_c x n q.1) ≠ -9 ∧ q.2 2 < 6
    · rw [if_pos a]
      exact ps_rl_le k _ (ps_rail_n 0 q.1 a.1)
    · rw [if_neg a]
      exact h
theorem rg_M_wag {D : rf_D} {q : PS} (h : MP D x n t q) (ht : t ≤ 3) (hn : n ≤ 60) (hq : q.1 ≤ n) (hb : ∀ k, k < n → -128 ≤ x k ∧ x k ≤ 127) (d : Nat) (m0 : 0 ≤ q.2 36) (m6 : q.2 36 ≤ 6) : rf_call (d + 3) 138 [.inr (.inr (some 77))] (hp X D) = some (some (.inl (if (ps_wag x n q).1 = true then 1 else 0)), hp X (mp_to D (ps_wag x n q).2)) := by
  rw [rf_e_M_readsWagon]
  simp (disch := omega) only [rg_hp1, rg_o_77, rg_gI_77, rg_pI_77, rg_gR_77_0, rg_gR_77_1, rg_gR_77_2, rg_gR_77_3, rg_gR_77_4, rg_gR_77_5, rg_gR_77_6, rg_gR_77_7, rg_gR_77_12, rg_gR_77_16, rg_gR_77_17, rg_gR_77_18, rg_gR_77_19, rg_aI_78, rg_aI_79, rg_aI_80, rg_aI_81, rg_aI_82, rg_aI_83, rg_aI_85, rg_aI_86, rg_aI_87, rg_aI_88, rg_aI_89, rg_aI_90, rg_sI_78, rg_sI_79, rg_sI_80, rg_sI_81, rg_sI_82, rg_sI_83, rg_sI_85, rg_sI_86, rg_sI_87, rg_sI_88, rg_sI_89, rg_sI_90, rg_aZ_84, rg_sZ_84, Int.reduceToNat, rg_kIs, rg_kLs, rg_kRs, rg_kVs, rg_nns, rg_bs, cond_true, cond_false]
  rw [h.2.2.2.2, rg_M_sign h ht hn hq (d + 1)]
  simp only [Int.reduceToNat, rg_kIs, rg_kLs, rg_kRs, rg_kVs, rg_nns, rg_bs, cond_true, cond_false, rg_M_kindOf]
  unfold ps_wag
  by_cases a : ps_kind (ps_c x n q.1) = -9
  · rw [if_pos a, if_pos (show ps_kind (ps_c x n q.1) = -9 ∨ q.2 36 = 6 from Or.inl a), h.self]
    try rfl
  · rw [if_neg a]
    have hp1 := ps_kind_n a
    by_cases a2 : q.2 36 = 6
    · rw [if_pos a2, if_pos (show ps_kind (ps_c x n q.1) = -9 ∨ q.2 36 = 6 from Or.inr a2), h.self]
      try rfl
    · rw [if_neg a2, if_neg (show ¬ (ps_kind (ps_c x n q.1) = -9 ∨ q.2 36 = 6) by omega)]
      generalize hm : q.2 36 = m at *
      simp (disch := omega) only [rg_hp1, rg_o_77, rg_gI_77, rg_pI_77, rg_gR_77_0, rg_gR_77_1, rg_gR_77_2, rg_gR_77_3, rg_gR_77_4, rg_gR_77_5, rg_gR_77_6, rg_gR_77_7, rg_gR_77_12, rg_gR_77_16, rg_gR_77_17, rg_gR_77_18, rg_gR_77_19, rg_aI_78, rg_aI_79, rg_aI_80, rg_aI_81, rg_aI_82, rg_aI_83, rg_aI_85, rg_aI_86, rg_aI_87, rg_aI_88, rg_aI_89, rg_aI_90, rg_sI_78, rg_sI_79, rg_sI_80, rg_sI_81, rg_sI_82, rg_sI_83, rg_sI_85, rg_sI_86, rg_sI_87, rg_sI_88, rg_sI_89, rg_sI_90, rg_aZ_84, rg_sZ_84, Int.reduceToNat, rg_kIs, rg_kLs, rg_kRs, rg_kVs, rg_nns, rg_bs, cond_true, cond_false, rg_up_s, rg_up_n, rg_up_u, rg_ui_s, rg_ui_n, rg_ui_u]
      rw [rg_w (z := 3 * m) (by omega) (by omega), rg_w (z := 9 + 3 * m) (by omega) (by omega), rg_w (z := 9 + 3 * m + 1) (by omega) (by omega), rg_w (z := 9 + 3 * m + 2) (by omega) (by omega), rg_sI_87 (by omega) (by omega)]
      simp only [Int.reduceToNat, rg_kIs, rg_kLs, rg_kRs, rg_kVs, rg_nns, rg_bs, cond_true, cond_false, rg_hp1, rg_o_77, rg_gI_77, rg_pI_77, rg_gR_77_0, rg_gR_77_1, rg_gR_77_2, rg_gR_77_3, rg_gR_77_4, rg_gR_77_5, rg_gR_77_6, rg_gR_77_7, rg_gR_77_12, rg_gR_77_16, rg_gR_77_17, rg_gR_77_18, rg_gR_77_19, rg_aI_78, rg_aI_79, rg_aI_80, rg_aI_81, rg_aI_82, rg_aI_83, rg_aI_85, rg_aI_86, rg_aI_87, rg_aI_88, rg_aI_89, rg_aI_90, rg_sI_78, rg_sI_79, rg_sI_80, rg_sI_81, rg_sI_82, rg_sI_83, rg_sI_85, rg_sI_86, rg_sI_87, rg_sI_88, rg_sI_89, rg_sI_90, rg_aZ_84, rg_sZ_84]
      rw [rg_up_n (show (87 : Nat) ≠ 77 by decide), h.2.2.2.2, h.2.2.2.1, rg_w (by omega) (by omega), show ((q.1 : Int) + 1) = ((q.1 + 1 : Nat) : Int) by omega]
      have e : rg_up (rg_up D 77 (rg_ui (D 77) 15 ((q.1 + 1 : Nat) : Int))) 87 (rg_ui q.2 (9 + 3 * m).toNat (ps_kind (ps_c x n q.1))) = mp_to D (q.1 + 1, rg_ui q.2 (9 + 3 * m).toNat (ps_kind (ps_c x n q.1))) := rfl
      rw [e]
      have h1 := h.to (r := (q.1 + 1, rg_ui q.2 (9 + 3 * m).toNat (ps_kind (ps_c x n q.1))))
      have d36 : rg_ui q.2 (9 + 3 * m).toNat (ps_kind (ps_c x n q.1)) 36 = m := by rw [rg_ui_n (by omega)]; exact hm
      rw [rg_M_figure h1 ht hn hp1 hb (d + 0) 1 9 (by omega) (by omega)]
      simp only [Int.reduceToNat, rg_kIs, rg_kLs, rg_kRs, rg_kVs, rg_nns, rg_bs, cond_true, cond_false, mp_to_to]
      unfold ps_w1
      generalize hA : ps_f x n (9 + 3 * m + 1).toNat 1 9 (q.1 + 1, rg_ui q.2 (9 + 3 * m).toNat (ps_kind (ps_c x n q.1))) = A
      have A1 : A.2.1 ≤ n := by rw [← hA]; exact ps_f_le hp1 (by omega)
      have A36 : A.2.2 36 = m := by
        rw [← hA]
        unfold ps_f
        split
        · show rg_ui _ _ _ 36 = m
          rw [rg_ui_n (by omega)]
          exact d36
        · exact d36
      have j85 : ∀ (D : rf_D) (q : PS) (v : Int), MP D x n t q → q.2 36 = m → (v = 0 ∨ v = 1) → rf_j_M_readsWagon_85 (d + 2) 77 v (hp X D) = some (some (.inl v), hp X (mp_to D (q.1, rg_ui q.2 36 (m + v)))) := by
        intro D q v hD hm2 hv
        rw [rf_e_M_readsWagon_85]
        simp (disch := omega) only [rg_hp1, rg_o_77, rg_gI_77, rg_pI_77, rg_gR_77_0, rg_gR_77_1, rg_gR_77_2, rg_gR_77_3, rg_gR_77_4, rg_gR_77_5, rg_gR_77_6, rg_gR_77_7, rg_gR_77_12, rg_gR_77_16, rg_gR_77_17, rg_gR_77_18, rg_gR_77_19, rg_aI_78, rg_aI_79, rg_aI_80, rg_aI_81, rg_aI_82, rg_aI_83, rg_aI_85, rg_aI_86, rg_aI_87, rg_aI_88, rg_aI_89, rg_aI_90, rg_sI_78, rg_sI_79, rg_sI_80, rg_sI_81, rg_sI_82, rg_sI_83, rg_sI_85, rg_sI_86, rg_sI_87, rg_sI_88, rg_sI_89, rg_sI_90, rg_aZ_84, rg_sZ_84, Int.reduceToNat, rg_kIs, rg_kLs, rg_kRs, rg_kVs, rg_nns, rg_bs, cond_true, cond_false, rg_up_s, rg_up_n, rg_up_u, rg_ui_s, rg_ui_n, rg_ui_u]
        rw [hD.2.2.2.2, hm2]
        rcases hv with rfl | rfl
        · rw [if_pos rfl, if_pos (Or.inl rfl), rg_w (by omega) (by omega), mp_sI hD]
        · rw [if_neg (by decide), if_pos (Or.inr rfl), rg_w (by omega) (by omega), mp_sI hD]
      have z36 : ∀ f : Nat → Int, f 36 = m → rg_ui f 36 (m + 0) = f := by
        intro f hf
        rw [show m + 0 = f 36 by omega, rg_ui_i]
      by_cases b : A.1 = true
      · rw [if_pos b, if_pos b, if_neg (by decide)]
        simp only [rg_hp1, rg_o_77, Int.reduceToNat, rg_kIs, rg_kLs, rg_kRs, rg_kVs, rg_nns, rg_bs, cond_true, cond_false]
        rw [rg_M_figure (h.to (r := A.2)) ht hn A1 hb (d + 0) 1 9 (by omega) (by omega)]
        simp only [Int.reduceToNat, rg_kIs, rg_kLs, rg_kRs, rg_kVs, rg_nns, rg_bs, cond_true, cond_false, mp_to_to]
        unfold ps_w2
        generalize hB : ps_f x n (9 + 3 * m + 2).toNat 1 9 A.2 = B
        have B36 : B.2.2 36 = m := by
          rw [← hB]
          unfold ps_f
          split
          · show rg_ui _ _ _ 36 = m
            rw [rg_ui_n (by omega)]
            exact A36
          · exact A36
        by_cases b2 : B.1 = true
        · rw [if_pos b2, if_pos b2, if_neg (by decide), j85 _ B.2 1 (h.to (r := B.2)) B36 (Or.inr rfl), mp_to_to]
          try rfl
        · rw [if_neg b2, if_neg b2, if_pos rfl, j85 _ B.2 0 (h.to (r := B.2)) B36 (Or.inl rfl), mp_to_to, z36 _ B36, if_neg b2]
      · rw [if_neg b, if_neg b, if_pos rfl, j85 _ A.2 0 (h.to (r := A.2)) A36 (Or.inl rfl), mp_to_to, z36 _ A36, if_neg b]
end RGMP
