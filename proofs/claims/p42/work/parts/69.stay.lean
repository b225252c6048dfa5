/-! stay -/
section RGS41
variable {X : rf_X} {A : Nat → Int} {m : Int}
/-- with k wagons left behind, some plan of n things at most starts -/
def sf_v (A : Nat → Int) (n k : Nat) : Bool := (pn_wu (A 35) n (sy_r A (k : Int))).isSome
theorem sy_35 (k : Int) : sy_r A k 35 = A 35 := by
  unfold sy_r
  rw [rg_ui_n (by decide), rg_ui_n (by decide)]
theorem sy_36 (k : Int) : sy_r A k 36 = A 36 - k := by
  unfold sy_r
  rw [rg_ui_n (by decide), rg_ui_s]
/-- the class, from k wagons left behind on: the answer -/
def sa_v (A : Nat → Int) (n : Nat) : Nat → Nat → Int
  | 0, _ => -9
  | c + 1, k => if sf_v A n k = true then (k : Int) else sa_v A n c (k + 1)
theorem rg_W_stay_23 {n N : Nat} (hn : n ≤ 4) {W : Int} (hd : sp_hd A) (hs : sp_st m A) (m0 : 0 ≤ m) (hm : m ≤ 900) (hW : A 36 ≤ W) (hg : 0 ≤ A 35 ∧ A 35 ≤ 1000) (hN : A 36 = (N : Int)) (d : Nat) : ∀ (c k : Nat) (D : rf_D), k + c = N + 1 → CR D 28 A W → TR (D 43) A 0 → D 8 1 = 4 → ∃ D', rf_j_W_stay_23 (d + 14) 0 (n : Int) (k : Int) (hp X D) = some (some (.inl (sa_v A n c k)), hp X D') ∧ ∀ a, a ≠ 9 → (a < 70 ∨ 77 ≤ a) → D' a = D a
  | 0, k, D, hk, hC, hT, h8 => by
    refine ⟨D, ?_, fun _ _ _ => rfl⟩
    rw [rf_e_W_stay_23]
    try simp only [rg_gR_0_10, rg_T_gI rg_tr_43, Int.reduceToNat, rg_kIs, rg_kLs, rg_kRs, rg_kVs, rg_nns, rg_bs, cond_true, cond_false]
    rw [hT.2.2.2.2.2, if_pos (by omega)]
    try rfl
  | c + 1, k, D, hk, hC, hT, h8 => by
    have b33 := hs.2.2.2.2.2.2.1
    have yk : k ≤ 1000 := by omega
    have e : sa_v A n (c + 1) k = (if sf_v A n k = true then (k : Int) else sa_v A n c (k + 1)) := rfl
    obtain ⟨f1, a1, a2⟩ := rg_W_aside (X := X) (D := D) hT hs (d + 12) (k := (k : Int)) (by omega) (by omega)
    obtain ⟨F, hF⟩ : ∃ F, F = rg_up D 76 f1 := ⟨_, rfl⟩
    have Fn : ∀ a, a ≠ 76 → F a = D a := fun a y => by rw [hF, rg_up_n y]
    have F76 : TR (F (70 + 6)) (sy_r A (k : Int)) (A 35) := by
      rw [hF]
      show TR (rg_up D 76 f1 76) (sy_r A (k : Int)) (A 35)
      rw [rg_up_s]
      exact a2
    have hh := fun j hj => sy_hd (A := A) (k : Int) j hj
    have stS := sy_st hs (show 0 ≤ (k : Int) by omega) (show (k : Int) ≤ A 36 by omega)
    have z2 : A 2 ≤ 6 := hd.2.2.1.2
    obtain ⟨G, g1, g2, -, -⟩ := rg_P_sw (X := X) (W := W) (g := A 35) (n := n) hn hg (d + 7 - n) n 0 6 F (sy_r A (k : Int)) m (by omega) (by omega) (by decide) (sy_35 (k : Int)) ((hC.ofs z2 hh).of fun a _ _ => Fn a (by omega)) (sp_hd_of hd hh) F76 stS m0 (by omega) (by rw [sy_36]; omega) (by rw [Fn 8 (by decide)]; exact h8)
    rw [show d + 7 - n + 7 + n = d + 14 by omega, show (70 + 6 : Nat) = 76 from rfl, show ((0 : Nat) : Int) = 0 from rfl] at g1
    rw [pn_wi_wu n (sy_r A (k : Int)) m stS m0 (by omega) (sy_35 (k : Int))] at g1
    have Gn : ∀ a, a ≠ 9 → (a < 70 ∨ 77 ≤ a) → G a = D a := fun a y1 y2 => by rw [g2 a y1 (by omega), Fn a (by omega)]
    rw [rf_e_W_stay_23, e]
    try simp only [rg_gR_0_10, rg_T_gI rg_tr_43, Int.reduceToNat, rg_kIs, rg_kLs, rg_kRs, rg_kVs, rg_nns, rg_bs, cond_true, cond_false]
    rw [hT.2.2.2.2.2, if_neg (by omega)]
    try simp only [rg_hp1, rg_o_0, Int.reduceToNat, rg_kIs, rg_kLs, rg_kRs, rg_kVs, rg_nns, rg_bs, cond_true, cond_false]
    rw [a1, ← hF]
    try simp only [rg_gR_0_11, rg_gR_0_5, Int.reduceToNat, rg_kIs, rg_kLs, rg_kRs, rg_kVs, rg_nns, rg_bs, cond_true, cond_false]
    rw [g1]
    try simp only [Int.reduceToNat, rg_kIs, rg_kLs, rg_kRs, rg_kVs, rg_nns, rg_bs, cond_true, cond_false]
    by_cases y : (pn_wu (A 35) n (sy_r A (k : Int))).isSome = true
    · rw [if_pos y, if_neg (by decide), if_pos (show sf_v A n k = true from y)]
      exact ⟨G, rfl, Gn⟩
    · rw [if_neg y, if_pos (by decide), if_neg (show ¬ sf_v A n k = true from y), xs_1 yk]
      obtain ⟨D', q1, q2⟩ := rg_W_stay_23 hn hd hs m0 hm hW hg hN d c (k + 1) G (by omega) (hC.of fun a _ _ => Gn a (by omega) (by omega)) (by rw [Gn 43 (by decide) (by decide)]; exact hT) (by rw [Gn 8 (by decide) (by decide)]; exact h8)
      exact ⟨D', q1, fun a y1 y2 => by rw [q2 a y1 y2, Gn a y1 y2]⟩
end RGS41
