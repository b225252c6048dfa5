/-! trial -/
def bc_v (a1 : Int) : Int := (rf_and (rf_w ((rf_w ((rf_and (rf_w ((rf_w ((rf_and (rf_w (a1 - (rf_and (rf_ushr a1 1) 1431655765))) 858993459) + (rf_and (rf_ushr (rf_w (a1 - (rf_and (rf_ushr a1 1) 1431655765))) 2) 858993459))) + (rf_ushr (rf_w ((rf_and (rf_w (a1 - (rf_and (rf_ushr a1 1) 1431655765))) 858993459) + (rf_and (rf_ushr (rf_w (a1 - (rf_and (rf_ushr a1 1) 1431655765))) 2) 858993459))) 4))) 252645135) + (rf_ushr (rf_and (rf_w ((rf_w ((rf_and (rf_w (a1 - (rf_and (rf_ushr a1 1) 1431655765))) 858993459) + (rf_and (rf_ushr (rf_w (a1 - (rf_and (rf_ushr a1 1) 1431655765))) 2) 858993459))) + (rf_ushr (rf_w ((rf_and (rf_w (a1 - (rf_and (rf_ushr a1 1) 1431655765))) 858993459) + (rf_and (rf_ushr (rf_w (a1 - (rf_and (rf_ushr a1 1) 1431655765))) 2) 858993459))) 4))) 252645135) 8))) + (rf_ushr (rf_w ((rf_and (rf_w ((rf_w ((rf_and (rf_w (a1 - (rf_and (rf_ushr a1 1) 1431655765))) 858993459) + (rf_and (rf_ushr (rf_w (a1 - (rf_and (rf_ushr a1 1) 1431655765))) 2) 858993459))) + (rf_ushr (rf_w ((rf_and (rf_w (a1 - (rf_and (rf_ushr a1 1) 1431655765))) 858993459) + (rf_and (rf_ushr (rf_w (a1 - (rf_and (rf_ushr a1 1) 1431655765))) 2) 858993459))) 4))) 252645135) + (rf_ushr (rf_and (rf_w ((rf_w ((rf_and (rf_w (a1 - (rf_and (rf_ushr a1 1) 1431655765))) 858993459) + (rf_and (rf_ushr (rf_w (a1 - (rf_and (rf_ushr a1 1) 1431655765))) 2) 858993459))) + (rf_ushr (rf_w ((rf_and (rf_w (a1 - (rf_and (rf_ushr a1 1) 1431655765))) 858993459) + (rf_and (rf_ushr (rf_w (a1 - (rf_and (rf_ushr a1 1) 1431655765))) 2) 858993459))) 4))) 252645135) 8))) 16))) 63)
theorem rg_J_bc (d : Nat) (a : Int) (h : rf_H) : rf_call (d + 1) 17 [.inl a] h = some (some (.inl (bc_v a)), h) := by
  rw [rf_e_JI_bitCount, bc_v]
def bt_v (set w : Int) : Bool := decide (rf_and (rf_shr set w) 1 = 1)
def pc_v (set : Int) : Nat → Int
  | 0 => 0
  | k + 1 => if bt_v set ((k + 1 : Nat) : Int) = true then pc_v set k + 1 else pc_v set k
theorem bc_1 : ∀ k : Nat, k < 128 → bc_v ((2 * k : Nat) : Int) = pc_v ((2 * k : Nat) : Int) 9 := by decide +kernel
theorem bc_2 : ∀ k : Nat, k < 128 → bc_v ((2 * (k + 128) : Nat) : Int) = pc_v ((2 * (k + 128) : Nat) : Int) 9 := by decide +kernel
theorem bc_3 : ∀ k : Nat, k < 128 → bc_v ((2 * (k + 256) : Nat) : Int) = pc_v ((2 * (k + 256) : Nat) : Int) 9 := by decide +kernel
theorem bc_4 : ∀ k : Nat, k < 128 → bc_v ((2 * (k + 384) : Nat) : Int) = pc_v ((2 * (k + 384) : Nat) : Int) 9 := by decide +kernel
theorem bc_all {k : Nat} (h : k < 512) : bc_v ((2 * k : Nat) : Int) = pc_v ((2 * k : Nat) : Int) 9 := by
  by_cases a : k < 128
  · exact bc_1 k a
  · by_cases b : k < 256
    · have e := bc_2 (k - 128) (by omega)
      rw [show k - 128 + 128 = k by omega] at e
      exact e
    · by_cases c : k < 384
      · have e := bc_3 (k - 256) (by omega)
        rw [show k - 256 + 256 = k by omega] at e
        exact e
      · have e := bc_4 (k - 384) (by omega)
        rw [show k - 384 + 384 = k by omega] at e
        exact e
theorem an_e : ∀ k : Nat, k < 512 → rf_and ((2 * k : Nat) : Int) (-1023) = 0 ∧ ¬ rf_and ((2 * k : Nat) : Int) 1 = 1 := by decide +kernel
theorem an_o : ∀ k : Nat, k < 512 → rf_and ((2 * k + 1 : Nat) : Int) 1 = 1 := by decide +kernel
theorem an_t : ∀ i : Nat, i < 22 → Nat.testBit 4294966273 (i + 10) = true := by decide +kernel
theorem an_n {n : Nat} (h : n < 4294967296) (z : n &&& 4294966273 = 0) : n < 1024 ∧ n % 2 = 0 := by
  have b : ∀ i, Nat.testBit 4294966273 i = true → n.testBit i = false := fun i hi => by
    have e : (n &&& 4294966273).testBit i = (n.testBit i && Nat.testBit 4294966273 i) := Nat.testBit_and n 4294966273 i
    rw [z, hi, Bool.and_true, Nat.zero_testBit] at e
    exact e.symm
  constructor
  · have p : n < 2 ^ 10 := Nat.lt_pow_two_of_testBit n fun i hi => by
      by_cases c : i < 32
      · have e := an_t (i - 10) (by omega)
        rw [show i - 10 + 10 = i by omega] at e
        exact b i e
      · refine Nat.testBit_lt_two_pow (Nat.lt_of_lt_of_le h ?_)
        exact Nat.pow_le_pow_right (n := 2) (by decide) (show 32 ≤ i by omega)
    exact p
  · have e := b 0 (by decide +kernel)
    rw [Nat.testBit_zero] at e
    have q := of_decide_eq_false e
    omega
theorem an_z {a : Int} (h : rf_and a (-1023) = 0) : ((a % 4294967296).toNat &&& 4294966273) = 0 := by
  have e1 : (Int32.ofInt a &&& Int32.ofInt (-1023)).toBitVec = 0#32 := by
    apply BitVec.eq_of_toInt_eq
    exact h
  have e2 : (BitVec.ofInt 32 a &&& 4294966273#32) = 0#32 := e1
  have e3 := congrArg BitVec.toNat e2
  rw [BitVec.toNat_and, BitVec.toNat_ofInt] at e3
  exact e3
theorem an_k {a : Int} (h1 : I32 a) (h : rf_and a (-1023) = 0) : ∃ k : Nat, k < 512 ∧ a = ((2 * k : Nat) : Int) := by
  have z := an_n (n := (a % 4294967296).toNat) (by omega) (an_z h)
  unfold I32 at h1
  refine ⟨(a % 4294967296).toNat / 2, by omega, by omega⟩
def ss_v (w rail st : Int) : Bool := decide (rf_w (w * rf_w (3 - rail)) < rf_w (2 * st))
def sl_n (set rail st : Int) : Nat → Int
  | 0 => 0
  | k + 1 => if bt_v set ((k + 1 : Nat) : Int) = true then (if ss_v ((k + 1 : Nat) : Int) rail st = true then rf_w (sl_n set rail st k + 1) else rf_w (sl_n set rail st k + 0)) else rf_w (sl_n set rail st k + 0)
def gr_n (set rail st : Int) : Nat → Int
  | 0 => 0
  | k + 1 => if bt_v set ((k + 1 : Nat) : Int) = true then (if ss_v ((k + 1 : Nat) : Int) rail st = true then rf_w (gr_n set rail st k + 0) else rf_w (gr_n set rail st k + 1)) else rf_w (gr_n set rail st k + 0)
theorem sg_b (set rail st : Int) : ∀ {k : Nat}, k ≤ 9 → (0 ≤ sl_n set rail st k ∧ 0 ≤ gr_n set rail st k) ∧ sl_n set rail st k + gr_n set rail st k = pc_v set k ∧ pc_v set k ≤ (k : Int)
  | 0, _ => ⟨⟨Int.le_refl _, Int.le_refl _⟩, rfl, Int.le_refl _⟩
  | k + 1, h => by
    obtain ⟨i1, i2, i3⟩ := sg_b set rail st (k := k) (by omega)
    have e1 : sl_n set rail st (k + 1) = (if bt_v set ((k + 1 : Nat) : Int) = true then (if ss_v ((k + 1 : Nat) : Int) rail st = true then rf_w (sl_n set rail st k + 1) else rf_w (sl_n set rail st k + 0)) else rf_w (sl_n set rail st k + 0)) := rfl
    have e2 : gr_n set rail st (k + 1) = (if bt_v set ((k + 1 : Nat) : Int) = true then (if ss_v ((k + 1 : Nat) : Int) rail st = true then rf_w (gr_n set rail st k + 0) else rf_w (gr_n set rail st k + 1)) else rf_w (gr_n set rail st k + 0)) := rfl
    have e3 : pc_v set (k + 1) = (if bt_v set ((k + 1 : Nat) : Int) = true then pc_v set k + 1 else pc_v set k) := rfl
    rw [e1, e2, e3]
    clear e1 e2 e3
    generalize sl_n set rail st k = x at *
    generalize gr_n set rail st k = y at *
    generalize pc_v set k = z at *
    by_cases a : bt_v set ((k + 1 : Nat) : Int) = true
    · rw [if_pos a, if_pos a, if_pos a]
      by_cases b : ss_v ((k + 1 : Nat) : Int) rail st = true
      · rw [if_pos b, if_pos b, rg_w (z := x + 1) (by omega) (by omega), rg_w (z := y + 0) (by omega) (by omega)]
        omega
      · rw [if_neg b, if_neg b, rg_w (z := x + 0) (by omega) (by omega), rg_w (z := y + 1) (by omega) (by omega)]
        omega
    · rw [if_neg a, if_neg a, if_neg a, rg_w (z := x + 0) (by omega) (by omega), rg_w (z := y + 0) (by omega) (by omega)]
      omega
def mo_v (set rail st : Int) : Int := if sl_n set rail st 9 < gr_n set rail st 9 then gr_n set rail st 9 else sl_n set rail st 9
def tr_v (set rail : Int) : Nat → Int × Int
  | 0 => (0, pc_v set 9)
  | k + 1 => if mo_v set rail ((k + 1 : Nat) : Int) < (tr_v set rail k).2 then (((k + 1 : Nat) : Int), mo_v set rail ((k + 1 : Nat) : Int)) else tr_v set rail k
theorem sl_0 {set rail : Int} (r0 : 0 ≤ rail) (r2 : rail ≤ 2) : ∀ {k : Nat}, k ≤ 9 → sl_n set rail 0 k = 0
  | 0, _ => rfl
  | k + 1, h => by
    have ih := sl_0 (set := set) r0 r2 (k := k) (by omega)
    have b : ss_v ((k + 1 : Nat) : Int) rail 0 = false := by
      refine decide_eq_false ?_
      have c : rail = 0 ∨ rail = 1 ∨ rail = 2 := by omega
      rcases c with c | c | c <;> subst c
      · rw [show rf_w (3 - 0) = 3 from rfl, show rf_w (2 * 0) = 0 from rfl, rg_w (by omega) (by omega)]
        omega
      · rw [show rf_w (3 - 1) = 2 from rfl, show rf_w (2 * 0) = 0 from rfl, rg_w (by omega) (by omega)]
        omega
      · rw [show rf_w (3 - 2) = 1 from rfl, show rf_w (2 * 0) = 0 from rfl, rg_w (by omega) (by omega)]
        omega
    show (if bt_v set ((k + 1 : Nat) : Int) = true then (if ss_v ((k + 1 : Nat) : Int) rail 0 = true then rf_w (sl_n set rail 0 k + 1) else rf_w (sl_n set rail 0 k + 0)) else rf_w (sl_n set rail 0 k + 0)) = 0
    rw [b, ih, if_neg (by decide : ¬ false = true)]
    split <;> rfl
section RGS32
variable {X : rf_X} {D : rf_D}
theorem rg_W_tr_50 (d : Nat) (set rail all l4 l5 st : Int) : ∀ (k w : Nat), w + k = 9 → rf_j_W_trial_50 (d + 2) 0 set rail all l4 l5 st (sl_n set rail st w) ((w + 1 : Nat) : Int) (hp X D) = rf_j_W_trial_50 (d + 2) 0 set rail all l4 l5 st (sl_n set rail st 9) 10 (hp X D)
  | 0, w, hk => by rw [show w = 9 by omega]; rfl
  | k + 1, w, hk => by
    have ih := rg_W_tr_50 d set rail all l4 l5 st k (w + 1) (by omega)
    have yw : w ≤ 100 := by omega
    have e1 : sl_n set rail st (w + 1) = (if bt_v set ((w + 1 : Nat) : Int) = true then (if ss_v ((w + 1 : Nat) : Int) rail st = true then rf_w (sl_n set rail st w + 1) else rf_w (sl_n set rail st w + 0)) else rf_w (sl_n set rail st w + 0)) := rfl
    rw [← ih, e1, rf_e_W_trial_50, if_neg (by omega)]
    clear ih e1
    by_cases a : bt_v set ((w + 1 : Nat) : Int) = true
    · rw [if_pos (of_decide_eq_true a), if_pos a, rf_e_W_trial_72, if_neg (by decide), rg_W_slips]
      try simp only [Int.reduceToNat, rg_kIs, rg_kLs, rg_kRs, rg_kVs, rg_nns, rg_bs, cond_true, cond_false, ba_x2 yw]
      by_cases b : ss_v ((w + 1 : Nat) : Int) rail st = true
      · rw [if_pos (of_decide_eq_true b), if_pos b, if_neg (by decide)]
      · rw [if_neg (fun q => b (decide_eq_true q)), if_neg b, if_pos (by decide)]
    · rw [if_neg (fun q => a (decide_eq_true q)), if_neg a, rf_e_W_trial_72, if_pos (by decide), ba_x2 yw]
theorem rg_W_tr_37 (d : Nat) (set rail : Int) : ∀ (k s : Nat), s + k = 9 → rf_j_W_trial_37 (d + 2) 0 set rail (pc_v set 9) (tr_v set rail s).1 (tr_v set rail s).2 ((s + 1 : Nat) : Int) (hp X D) = some (some (.inl (tr_v set rail 9).1), hp X (wtl (tr_v set rail 9).2 D))
  | 0, s, hk => by
    rw [rf_e_W_trial_37, if_pos (by omega)]
    try simp only [rg_hp1, rg_o_0, Int.reduceToNat, rg_kIs, rg_kLs, rg_kRs, rg_kVs, rg_nns, rg_bs, cond_true, cond_false]
    rw [rg_W_tell, show s = 9 by omega]
    try simp only [Int.reduceToNat, rg_kIs, rg_kLs, rg_kRs, rg_kVs, rg_nns, rg_bs, cond_true, cond_false]
  | k + 1, s, hk => by
    have ih := rg_W_tr_37 d set rail k (s + 1) (by omega)
    have ys : s ≤ 100 := by omega
    have b := sg_b set rail ((s + 1 : Nat) : Int) (k := 9) (by decide)
    have l := rg_W_tr_50 (X := X) (D := D) d set rail (pc_v set 9) (tr_v set rail s).1 (tr_v set rail s).2 ((s + 1 : Nat) : Int) 9 0 (by decide)
    have e : tr_v set rail (s + 1) = (if mo_v set rail ((s + 1 : Nat) : Int) < (tr_v set rail s).2 then (((s + 1 : Nat) : Int), mo_v set rail ((s + 1 : Nat) : Int)) else tr_v set rail s) := rfl
    have em : (if sl_n set rail ((s + 1 : Nat) : Int) 9 < rf_w (pc_v set 9 - sl_n set rail ((s + 1 : Nat) : Int) 9) then rf_w (pc_v set 9 - sl_n set rail ((s + 1 : Nat) : Int) 9) else sl_n set rail ((s + 1 : Nat) : Int) 9) = mo_v set rail ((s + 1 : Nat) : Int) := by
      rw [rg_w (z := pc_v set 9 - sl_n set rail ((s + 1 : Nat) : Int) 9) (by omega) (by omega), show pc_v set 9 - sl_n set rail ((s + 1 : Nat) : Int) 9 = gr_n set rail ((s + 1 : Nat) : Int) 9 by omega]
      try rfl
    rw [show sl_n set rail ((s + 1 : Nat) : Int) 0 = 0 from rfl, show ((0 + 1 : Nat) : Int) = 1 from rfl] at l
    rw [e] at ih
    rw [rf_e_W_trial_37, if_neg (by omega), l, rf_e_W_trial_50, if_pos (by decide), rg_J_max, em]
    try simp only [Int.reduceToNat, rg_kIs, rg_kLs, rg_kRs, rg_kVs, rg_nns, rg_bs, cond_true, cond_false, ba_x2 ys]
    by_cases c : mo_v set rail ((s + 1 : Nat) : Int) < (tr_v set rail s).2
    · rw [if_pos c] at ih ⊢
      exact ih
    · rw [if_neg c] at ih ⊢
      exact ih
end RGS32
