/-! Heaps of this claim: reads and writes. -/
def rg_up (D : rf_D) (k : Nat) (f : Nat → Int) : rf_D := fun a => if a = k then f else D a
def rg_ui (f : Nat → Int) (i : Nat) (v : Int) : Nat → Int := fun j => if j = i then v else f j
theorem rg_up2 (D : rf_D) (k i : Nat) (v : Int) : rf_up2 D k i v = rg_up D k (rg_ui (D k) i v) := by
  funext a b
  unfold rf_up2 rg_up rg_ui
  by_cases h1 : a = k
  · subst h1
    by_cases h2 : b = i
    · simp [h2]
    · simp [h2]
  · simp [h1]
theorem rg_up_s (D : rf_D) (k : Nat) (f : Nat → Int) : rg_up D k f k = f := if_pos rfl
theorem rg_up_n {D : rf_D} {k a : Nat} {f : Nat → Int} (h : a ≠ k) : rg_up D k f a = D a := if_neg h
theorem rg_up_u (D : rf_D) (k : Nat) (f g : Nat → Int) : rg_up (rg_up D k f) k g = rg_up D k g := by
  funext a
  unfold rg_up
  by_cases h : a = k <;> simp [h]
theorem rg_up_c {D : rf_D} {k l : Nat} {f g : Nat → Int} (h : k ≠ l) : rg_up (rg_up D k f) l g = rg_up (rg_up D l g) k f := by
  funext a
  unfold rg_up
  by_cases h1 : a = l
  · by_cases h2 : a = k
    · exact absurd (h2.symm.trans h1) h
    · rw [if_pos h1, if_neg h2, if_pos h1]
  · rw [if_neg h1]
    by_cases h2 : a = k
    · rw [if_pos h2, if_pos h2]
    · rw [if_neg h2, if_neg h2, if_neg h1]
theorem rg_up_i (D : rf_D) (k : Nat) : rg_up D k (D k) = D := by
  funext a
  unfold rg_up
  by_cases h : a = k <;> simp [h]
theorem rg_ui_s (f : Nat → Int) (i : Nat) (v : Int) : rg_ui f i v i = v := if_pos rfl
theorem rg_ui_n {f : Nat → Int} {i j : Nat} {v : Int} (h : j ≠ i) : rg_ui f i v j = f j := if_neg h
theorem rg_ui_u (f : Nat → Int) (i : Nat) (v w : Int) : rg_ui (rg_ui f i v) i w = rg_ui f i w := by
  funext a
  unfold rg_ui
  by_cases h : a = i <;> simp [h]
theorem rg_ui_i (f : Nat → Int) (i : Nat) : rg_ui f i (f i) = f := by
  funext a
  unfold rg_ui
  by_cases h : a = i <;> simp [h]
theorem rg_w {z : Int} (h1 : -2147483648 ≤ z) (h2 : z < 2147483648) : rf_w z = z := by unfold rf_w; omega
theorem rg_hp1 (X : rf_X) (D : rf_D) : (hp X D).1 = rg_T := by unfold hp; rfl
section RGGEN
variable {T : List rf_Sh} {D : rf_D} {P : rf_P} {X : rf_X} {c k i n t : Nat} {v j : Int}
theorem rh_gI (h : rf_isO T k c = true) : rf_gI (T, D, P, X) c k i = some (D k i) := by
  show (bif rf_isO T k c then some (D k i) else none) = _
  rw [h]; rfl
theorem rh_gR (h : rf_isO T k c = true) : rf_gR (T, D, P, X) c k i = some (P k i) := by
  show (bif rf_isO T k c then some (P k i) else none) = _
  rw [h]; rfl
theorem rh_pI (h : rf_isO T k c = true) : rf_pI (T, D, P, X) c k i v = some (T, rg_up D k (rg_ui (D k) i v), P, X) := by
  show (bif rf_isO T k c then some (T, rf_up2 D k i v, P, X) else none) = _
  rw [h, rg_up2]; rfl
theorem rg_nble {k : Nat} (h : k < 1000000) : Nat.ble 1000000 k = false := by
  cases hb : Nat.ble 1000000 k with
  | false => rfl
  | true => exact absurd (Nat.le_of_ble_eq_true hb) (by omega)
theorem rh_len_sh (h : rf_sh T k = some (.inr (t, n))) : rf_len T k t = some n := by
  unfold rf_len
  rw [h]
  show (bif Nat.beq t t then some n else none) = some n
  rw [Nat.beq_refl]
  rfl
theorem rh_aL (hk : k < 1000000) (h : rf_sh T k = some (.inr (t, n))) : rf_aL (T, D, P, X) k = some (n : Int) := by
  unfold rf_aL
  rw [rg_nble hk]
  show (match rf_sh T k with | some (.inr (_, n)) => some (n : Int) | _ => none) = _
  rw [h]
theorem rh_aI (hk : k < 1000000) (h : rf_sh T k = some (.inr (0, n))) (h1 : 0 ≤ j) (h2 : j < (n : Int)) : rf_aI (T, D, P, X) k j = some (D k j.toNat) := by
  unfold rf_aI
  rw [rg_nble hk]
  show (match rf_len T k 0 with | some n => if 0 ≤ j ∧ j < (n : Int) then some (D k j.toNat) else none | none => none) = _
  rw [rh_len_sh h]
  exact if_pos ⟨h1, h2⟩
theorem rh_aZ (h : rf_sh T k = some (.inr (1, n))) (h1 : 0 ≤ j) (h2 : j < (n : Int)) : rf_aZ (T, D, P, X) k j = some (D k j.toNat) := by
  unfold rf_aZ
  show (match rf_len T k 1 with | some n => if 0 ≤ j ∧ j < (n : Int) then some (D k j.toNat) else none | none => none) = _
  rw [rh_len_sh h]
  exact if_pos ⟨h1, h2⟩
theorem rh_aR (h : rf_sh T k = some (.inr (2, n))) (h1 : 0 ≤ j) (h2 : j < (n : Int)) : rf_aR (T, D, P, X) k j = some (P k j.toNat) := by
  unfold rf_aR
  show (match rf_len T k 2 with | some n => if 0 ≤ j ∧ j < (n : Int) then some (P k j.toNat) else none | none => none) = _
  rw [rh_len_sh h]
  exact if_pos ⟨h1, h2⟩
theorem rh_sI (h : rf_sh T k = some (.inr (0, n))) (h1 : 0 ≤ j) (h2 : j < (n : Int)) : rf_sI (T, D, P, X) k j v = some (T, rg_up D k (rg_ui (D k) j.toNat v), P, X) := by
  unfold rf_sI
  show (match rf_len T k 0 with | some n => if 0 ≤ j ∧ j < (n : Int) then some (T, rf_up2 D k j.toNat v, P, X) else none | none => none) = _
  rw [rh_len_sh h, rg_up2]
  exact if_pos ⟨h1, h2⟩
theorem rh_sZ (h : rf_sh T k = some (.inr (1, n))) (h1 : 0 ≤ j) (h2 : j < (n : Int)) : rf_sZ (T, D, P, X) k j v = some (T, rg_up D k (rg_ui (D k) j.toNat v), P, X) := by
  unfold rf_sZ
  show (match rf_len T k 1 with | some n => if 0 ≤ j ∧ j < (n : Int) then some (T, rf_up2 D k j.toNat v, P, X) else none | none => none) = _
  rw [rh_len_sh h, rg_up2]
  exact if_pos ⟨h1, h2⟩
theorem rh_cp {a b la lb : Nat} {sp dp n : Int} (ha : rf_sh T a = some (.inr (0, la))) (hb : rf_sh T b = some (.inr (0, lb))) (h1 : 0 ≤ sp) (h2 : 0 ≤ dp) (h3 : 0 ≤ n) (h4 : sp + n ≤ (la : Int)) (h5 : dp + n ≤ (lb : Int)) : rf_cp (T, D, P, X) a sp b dp n = some (T, rf_cpD D a sp.toNat b dp.toNat n.toNat, P, X) := by
  unfold rf_cp
  show (match rf_len T a 0, rf_len T b 0 with | some la, some lb => if 0 ≤ sp ∧ 0 ≤ dp ∧ 0 ≤ n ∧ sp + n ≤ (la : Int) ∧ dp + n ≤ (lb : Int) then some (T, rf_cpD D a sp.toNat b dp.toNat n.toNat, P, X) else none | _, _ => none) = _
  rw [rh_len_sh ha, rh_len_sh hb]
  exact if_pos ⟨h1, h2, h3, h4, h5⟩
end RGGEN
section RGHP
variable {X : rf_X} {D : rf_D} {c k i n t : Nat} {v j : Int}
theorem rg_gI (h : rf_isO rg_T k c = true) : rf_gI (hp X D) c k i = some (D k i) := by unfold hp; exact rh_gI h
theorem rg_gR (h : rf_isO rg_T k c = true) : rf_gR (hp X D) c k i = some (rg_P k i) := by unfold hp; exact rh_gR h
theorem rg_pI (h : rf_isO rg_T k c = true) : rf_pI (hp X D) c k i v = some (hp X (rg_up D k (rg_ui (D k) i v))) := by unfold hp; exact rh_pI h
theorem rg_aL (hk : k < 1000000) (h : rf_sh rg_T k = some (.inr (t, n))) : rf_aL (hp X D) k = some (n : Int) := by unfold hp; exact rh_aL hk h
theorem rg_aI (hk : k < 1000000) (h : rf_sh rg_T k = some (.inr (0, n))) (h1 : 0 ≤ j) (h2 : j < (n : Int)) : rf_aI (hp X D) k j = some (D k j.toNat) := by unfold hp; exact rh_aI hk h h1 h2
theorem rg_aZ (h : rf_sh rg_T k = some (.inr (1, n))) (h1 : 0 ≤ j) (h2 : j < (n : Int)) : rf_aZ (hp X D) k j = some (D k j.toNat) := by unfold hp; exact rh_aZ h h1 h2
theorem rg_aR (h : rf_sh rg_T k = some (.inr (2, n))) (h1 : 0 ≤ j) (h2 : j < (n : Int)) : rf_aR (hp X D) k j = some (rg_P k j.toNat) := by unfold hp; exact rh_aR h h1 h2
theorem rg_sI (h : rf_sh rg_T k = some (.inr (0, n))) (h1 : 0 ≤ j) (h2 : j < (n : Int)) : rf_sI (hp X D) k j v = some (hp X (rg_up D k (rg_ui (D k) j.toNat v))) := by unfold hp; exact rh_sI h h1 h2
theorem rg_sZ (h : rf_sh rg_T k = some (.inr (1, n))) (h1 : 0 ≤ j) (h2 : j < (n : Int)) : rf_sZ (hp X D) k j v = some (hp X (rg_up D k (rg_ui (D k) j.toNat v))) := by unfold hp; exact rh_sZ h h1 h2
theorem rg_cp {a b la lb : Nat} {sp dp n : Int} (ha : rf_sh rg_T a = some (.inr (0, la))) (hb : rf_sh rg_T b = some (.inr (0, lb))) (h1 : 0 ≤ sp) (h2 : 0 ≤ dp) (h3 : 0 ≤ n) (h4 : sp + n ≤ (la : Int)) (h5 : dp + n ≤ (lb : Int)) : rf_cp (hp X D) a sp b dp n = some (hp X (rf_cpD D a sp.toNat b dp.toNat n.toNat)) := by unfold hp; exact rh_cp ha hb h1 h2 h3 h4 h5
end RGHP
theorem rg_gRe {X : rf_X} {D : rf_D} {c k i : Nat} {v : Option Nat} (h : rf_isO rg_T k c = true) (e : (k, i, v) ∈ rg_PL) : rf_gR (hp X D) c k i = some v := by rw [rg_gR h, rg_Pe e]
theorem rg_rowe {o n : Nat} (h1 : rf_isO rg_T o 2 = true) (e : (o, 0, some (o + 1)) ∈ rg_PL) (h2 : rf_sh rg_T (o + 1) = some (.inr (0, n))) (h3 : o + 1 < 1000000) : rf_isO rg_T o 2 = true ∧ rg_P o 0 = some (o + 1) ∧ rf_sh rg_T (o + 1) = some (.inr (0, n)) ∧ o + 1 < 1000000 := ⟨h1, rg_Pe e, h2, h3⟩
theorem rg_kIs (x : Int) (h : rf_H) (f : Int → rf_H → Option rf_R) : rf_kI (some (.inl x), h) f = f x h := rfl
theorem rg_kLs (x : Int) (h : rf_H) (f : Int → rf_H → Option rf_R) : rf_kL (some (.inr (.inl x)), h) f = f x h := rfl
theorem rg_kRs (x : Option Nat) (h : rf_H) (f : Option Nat → rf_H → Option rf_R) : rf_kR (some (.inr (.inr x)), h) f = f x h := rfl
theorem rg_kVs (h : rf_H) (f : rf_H → Option rf_R) : rf_kV (none, h) f = f h := rfl
theorem rg_nns (k : Nat) (f : Nat → Option rf_R) : rf_nn (some k) f = f k := rfl
theorem rg_bs {α β : Type} (x : α) (f : α → Option β) : (some x).bind f = f x := rfl
/-- a row: its cells stand behind it -/
def rg_row (o n : Nat) : Prop := rf_isO rg_T o 2 = true ∧ rg_P o 0 = some (o + 1) ∧ rf_sh rg_T (o + 1) = some (.inr (0, n)) ∧ o + 1 < 1000000
theorem rg_row_4 : rg_row 4 60 := rg_rowe rfl (by decide +kernel) rfl (by decide)
theorem rg_row_6 : rg_row 6 6 := rg_rowe rfl (by decide +kernel) rfl (by decide)
theorem rg_row_8 : rg_row 8 4 := rg_rowe rfl (by decide +kernel) rfl (by decide)
theorem rg_row_10 : rg_row 10 3 := rg_rowe rfl (by decide +kernel) rfl (by decide)
theorem rg_row_14 : rg_row 14 6 := rg_rowe rfl (by decide +kernel) rfl (by decide)
theorem rg_row_16 : rg_row 16 6 := rg_rowe rfl (by decide +kernel) rfl (by decide)
theorem rg_row_18 : rg_row 18 6 := rg_rowe rfl (by decide +kernel) rfl (by decide)
theorem rg_row_20 : rg_row 20 6 := rg_rowe rfl (by decide +kernel) rfl (by decide)
theorem rg_row_22 : rg_row 22 6 := rg_rowe rfl (by decide +kernel) rfl (by decide)
theorem rg_row_24 : rg_row 24 7 := rg_rowe rfl (by decide +kernel) rfl (by decide)
theorem rg_row_26 : rg_row 26 7 := rg_rowe rfl (by decide +kernel) rfl (by decide)
theorem rg_row_29 : rg_row 29 6 := rg_rowe rfl (by decide +kernel) rfl (by decide)
theorem rg_row_31 : rg_row 31 6 := rg_rowe rfl (by decide +kernel) rfl (by decide)
theorem rg_row_33 : rg_row 33 6 := rg_rowe rfl (by decide +kernel) rfl (by decide)
theorem rg_row_35 : rg_row 35 6 := rg_rowe rfl (by decide +kernel) rfl (by decide)
theorem rg_row_37 : rg_row 37 6 := rg_rowe rfl (by decide +kernel) rfl (by decide)
theorem rg_row_39 : rg_row 39 7 := rg_rowe rfl (by decide +kernel) rfl (by decide)
theorem rg_row_41 : rg_row 41 7 := rg_rowe rfl (by decide +kernel) rfl (by decide)
theorem rg_row_44 : rg_row 44 40 := rg_rowe rfl (by decide +kernel) rfl (by decide)
theorem rg_row_46 : rg_row 46 40 := rg_rowe rfl (by decide +kernel) rfl (by decide)
theorem rg_row_48 : rg_row 48 40 := rg_rowe rfl (by decide +kernel) rfl (by decide)
theorem rg_row_50 : rg_row 50 40 := rg_rowe rfl (by decide +kernel) rfl (by decide)
theorem rg_row_52 : rg_row 52 40 := rg_rowe rfl (by decide +kernel) rfl (by decide)
theorem rg_row_54 : rg_row 54 40 := rg_rowe rfl (by decide +kernel) rfl (by decide)
theorem rg_row_56 : rg_row 56 60 := rg_rowe rfl (by decide +kernel) rfl (by decide)
theorem rg_row_58 : rg_row 58 60 := rg_rowe rfl (by decide +kernel) rfl (by decide)
theorem rg_row_60 : rg_row 60 60 := rg_rowe rfl (by decide +kernel) rfl (by decide)
theorem rg_row_62 : rg_row 62 60 := rg_rowe rfl (by decide +kernel) rfl (by decide)
theorem rg_row_64 : rg_row 64 60 := rg_rowe rfl (by decide +kernel) rfl (by decide)
theorem rg_row_66 : rg_row 66 60 := rg_rowe rfl (by decide +kernel) rfl (by decide)
theorem rg_row_68 : rg_row 68 60 := rg_rowe rfl (by decide +kernel) rfl (by decide)
theorem rg_row_rows {X : rf_X} {D : rf_D} {i : Int} (h1 : 0 ≤ i) (h2 : i < 6) : rg_row (44 + 2 * i.toNat) 40 ∧ rf_aR (hp X D) 1 i = some (some (44 + 2 * i.toNat)) := by
  obtain ⟨n, rfl⟩ := Int.eq_ofNat_of_zero_le h1
  have hn : n < 6 := by omega
  rw [rg_aR (n := 6) rfl h1 h2, show ((n : Int)).toNat = n by omega]
  rcases n with _ | _ | _ | _ | _ | _ | n
  · exact ⟨rg_row_44, congrArg some (rg_Pe (k := 1) (i := 0) (v := some 44) (by decide +kernel))⟩
  · exact ⟨rg_row_46, congrArg some (rg_Pe (k := 1) (i := 1) (v := some 46) (by decide +kernel))⟩
  · exact ⟨rg_row_48, congrArg some (rg_Pe (k := 1) (i := 2) (v := some 48) (by decide +kernel))⟩
  · exact ⟨rg_row_50, congrArg some (rg_Pe (k := 1) (i := 3) (v := some 50) (by decide +kernel))⟩
  · exact ⟨rg_row_52, congrArg some (rg_Pe (k := 1) (i := 4) (v := some 52) (by decide +kernel))⟩
  · exact ⟨rg_row_54, congrArg some (rg_Pe (k := 1) (i := 5) (v := some 54) (by decide +kernel))⟩
  · omega
theorem rg_row_texts {X : rf_X} {D : rf_D} {i : Int} (h1 : 0 ≤ i) (h2 : i < 4) : rg_row (56 + 2 * i.toNat) 60 ∧ rf_aR (hp X D) 2 i = some (some (56 + 2 * i.toNat)) := by
  obtain ⟨n, rfl⟩ := Int.eq_ofNat_of_zero_le h1
  have hn : n < 4 := by omega
  rw [rg_aR (n := 4) rfl h1 h2, show ((n : Int)).toNat = n by omega]
  rcases n with _ | _ | _ | _ | n
  · exact ⟨rg_row_56, congrArg some (rg_Pe (k := 2) (i := 0) (v := some 56) (by decide +kernel))⟩
  · exact ⟨rg_row_58, congrArg some (rg_Pe (k := 2) (i := 1) (v := some 58) (by decide +kernel))⟩
  · exact ⟨rg_row_60, congrArg some (rg_Pe (k := 2) (i := 2) (v := some 60) (by decide +kernel))⟩
  · exact ⟨rg_row_62, congrArg some (rg_Pe (k := 2) (i := 3) (v := some 62) (by decide +kernel))⟩
  · omega
theorem rg_row_kept {X : rf_X} {D : rf_D} {i : Int} (h1 : 0 ≤ i) (h2 : i < 3) : rg_row (64 + 2 * i.toNat) 60 ∧ rf_aR (hp X D) 3 i = some (some (64 + 2 * i.toNat)) := by
  obtain ⟨n, rfl⟩ := Int.eq_ofNat_of_zero_le h1
  have hn : n < 3 := by omega
  rw [rg_aR (n := 3) rfl h1 h2, show ((n : Int)).toNat = n by omega]
  rcases n with _ | _ | _ | n
  · exact ⟨rg_row_64, congrArg some (rg_Pe (k := 3) (i := 0) (v := some 64) (by decide +kernel))⟩
  · exact ⟨rg_row_66, congrArg some (rg_Pe (k := 3) (i := 1) (v := some 66) (by decide +kernel))⟩
  · exact ⟨rg_row_68, congrArg some (rg_Pe (k := 3) (i := 2) (v := some 68) (by decide +kernel))⟩
  · omega
theorem rg_o_0 : rf_isO rg_T 0 4 = true := rfl
theorem rg_gI_0 (X : rf_X) (D : rf_D) (i : Nat) : rf_gI (hp X D) 4 0 i = some (D 0 i) := rg_gI rfl
theorem rg_pI_0 (X : rf_X) (D : rf_D) (i : Nat) (v : Int) : rf_pI (hp X D) 4 0 i v = some (hp X (rg_up D 0 (rg_ui (D 0) i v))) := rg_pI rfl
theorem rg_gR_0_0 (X : rf_X) (D : rf_D) : rf_gR (hp X D) 4 0 0 = some (some 1) := rg_gRe rfl (by decide +kernel)
theorem rg_gR_0_1 (X : rf_X) (D : rf_D) : rf_gR (hp X D) 4 0 1 = some (some 2) := rg_gRe rfl (by decide +kernel)
theorem rg_gR_0_2 (X : rf_X) (D : rf_D) : rf_gR (hp X D) 4 0 2 = some (some 3) := rg_gRe rfl (by decide +kernel)
theorem rg_gR_0_3 (X : rf_X) (D : rf_D) : rf_gR (hp X D) 4 0 3 = some (some 4) := rg_gRe rfl (by decide +kernel)
theorem rg_gR_0_4 (X : rf_X) (D : rf_D) : rf_gR (hp X D) 4 0 4 = some (some 6) := rg_gRe rfl (by decide +kernel)
theorem rg_gR_0_5 (X : rf_X) (D : rf_D) : rf_gR (hp X D) 4 0 5 = some (some 8) := rg_gRe rfl (by decide +kernel)
theorem rg_gR_0_6 (X : rf_X) (D : rf_D) : rf_gR (hp X D) 4 0 6 = some (some 10) := rg_gRe rfl (by decide +kernel)
theorem rg_gR_0_7 (X : rf_X) (D : rf_D) : rf_gR (hp X D) 4 0 7 = some (some 12) := rg_gRe rfl (by decide +kernel)
theorem rg_gR_0_8 (X : rf_X) (D : rf_D) : rf_gR (hp X D) 4 0 8 = some (some 13) := rg_gRe rfl (by decide +kernel)
theorem rg_gR_0_9 (X : rf_X) (D : rf_D) : rf_gR (hp X D) 4 0 9 = some (some 28) := rg_gRe rfl (by decide +kernel)
theorem rg_gR_0_10 (X : rf_X) (D : rf_D) : rf_gR (hp X D) 4 0 10 = some (some 43) := rg_gRe rfl (by decide +kernel)
theorem rg_gR_0_11 (X : rf_X) (D : rf_D) : rf_gR (hp X D) 4 0 11 = some (some 76) := rg_gRe rfl (by decide +kernel)
theorem rg_o_12 : rf_isO rg_T 12 1 = true := rfl
theorem rg_gI_12 (X : rf_X) (D : rf_D) (i : Nat) : rf_gI (hp X D) 1 12 i = some (D 12 i) := rg_gI rfl
theorem rg_pI_12 (X : rf_X) (D : rf_D) (i : Nat) (v : Int) : rf_pI (hp X D) 1 12 i v = some (hp X (rg_up D 12 (rg_ui (D 12) i v))) := rg_pI rfl
theorem rg_o_13 : rf_isO rg_T 13 0 = true := rfl
theorem rg_gI_13 (X : rf_X) (D : rf_D) (i : Nat) : rf_gI (hp X D) 0 13 i = some (D 13 i) := rg_gI rfl
theorem rg_pI_13 (X : rf_X) (D : rf_D) (i : Nat) (v : Int) : rf_pI (hp X D) 0 13 i v = some (hp X (rg_up D 13 (rg_ui (D 13) i v))) := rg_pI rfl
theorem rg_gR_13_0 (X : rf_X) (D : rf_D) : rf_gR (hp X D) 0 13 0 = some (some 14) := rg_gRe rfl (by decide +kernel)
theorem rg_gR_13_1 (X : rf_X) (D : rf_D) : rf_gR (hp X D) 0 13 1 = some (some 16) := rg_gRe rfl (by decide +kernel)
theorem rg_gR_13_2 (X : rf_X) (D : rf_D) : rf_gR (hp X D) 0 13 2 = some (some 18) := rg_gRe rfl (by decide +kernel)
theorem rg_gR_13_3 (X : rf_X) (D : rf_D) : rf_gR (hp X D) 0 13 3 = some (some 20) := rg_gRe rfl (by decide +kernel)
theorem rg_gR_13_4 (X : rf_X) (D : rf_D) : rf_gR (hp X D) 0 13 4 = some (some 22) := rg_gRe rfl (by decide +kernel)
theorem rg_gR_13_5 (X : rf_X) (D : rf_D) : rf_gR (hp X D) 0 13 5 = some (some 24) := rg_gRe rfl (by decide +kernel)
theorem rg_gR_13_6 (X : rf_X) (D : rf_D) : rf_gR (hp X D) 0 13 6 = some (some 26) := rg_gRe rfl (by decide +kernel)
theorem rg_o_28 : rf_isO rg_T 28 0 = true := rfl
theorem rg_gI_28 (X : rf_X) (D : rf_D) (i : Nat) : rf_gI (hp X D) 0 28 i = some (D 28 i) := rg_gI rfl
theorem rg_pI_28 (X : rf_X) (D : rf_D) (i : Nat) (v : Int) : rf_pI (hp X D) 0 28 i v = some (hp X (rg_up D 28 (rg_ui (D 28) i v))) := rg_pI rfl
theorem rg_gR_28_0 (X : rf_X) (D : rf_D) : rf_gR (hp X D) 0 28 0 = some (some 29) := rg_gRe rfl (by decide +kernel)
theorem rg_gR_28_1 (X : rf_X) (D : rf_D) : rf_gR (hp X D) 0 28 1 = some (some 31) := rg_gRe rfl (by decide +kernel)
theorem rg_gR_28_2 (X : rf_X) (D : rf_D) : rf_gR (hp X D) 0 28 2 = some (some 33) := rg_gRe rfl (by decide +kernel)
theorem rg_gR_28_3 (X : rf_X) (D : rf_D) : rf_gR (hp X D) 0 28 3 = some (some 35) := rg_gRe rfl (by decide +kernel)
theorem rg_gR_28_4 (X : rf_X) (D : rf_D) : rf_gR (hp X D) 0 28 4 = some (some 37) := rg_gRe rfl (by decide +kernel)
theorem rg_gR_28_5 (X : rf_X) (D : rf_D) : rf_gR (hp X D) 0 28 5 = some (some 39) := rg_gRe rfl (by decide +kernel)
theorem rg_gR_28_6 (X : rf_X) (D : rf_D) : rf_gR (hp X D) 0 28 6 = some (some 41) := rg_gRe rfl (by decide +kernel)
theorem rg_o_43 : rf_isO rg_T 43 3 = true := rfl
theorem rg_gI_43 (X : rf_X) (D : rf_D) (i : Nat) : rf_gI (hp X D) 3 43 i = some (D 43 i) := rg_gI rfl
theorem rg_pI_43 (X : rf_X) (D : rf_D) (i : Nat) (v : Int) : rf_pI (hp X D) 3 43 i v = some (hp X (rg_up D 43 (rg_ui (D 43) i v))) := rg_pI rfl
theorem rg_gR_43_0 (X : rf_X) (D : rf_D) : rf_gR (hp X D) 3 43 0 = some (some 28) := rg_gRe rfl (by decide +kernel)
theorem rg_gR_43_1 (X : rf_X) (D : rf_D) : rf_gR (hp X D) 3 43 1 = some none := rg_gRe rfl (by decide +kernel)
theorem rg_o_70 : rf_isO rg_T 70 3 = true := rfl
theorem rg_gI_70 (X : rf_X) (D : rf_D) (i : Nat) : rf_gI (hp X D) 3 70 i = some (D 70 i) := rg_gI rfl
theorem rg_pI_70 (X : rf_X) (D : rf_D) (i : Nat) (v : Int) : rf_pI (hp X D) 3 70 i v = some (hp X (rg_up D 70 (rg_ui (D 70) i v))) := rg_pI rfl
theorem rg_gR_70_0 (X : rf_X) (D : rf_D) : rf_gR (hp X D) 3 70 0 = some (some 28) := rg_gRe rfl (by decide +kernel)
theorem rg_gR_70_1 (X : rf_X) (D : rf_D) : rf_gR (hp X D) 3 70 1 = some none := rg_gRe rfl (by decide +kernel)
theorem rg_o_71 : rf_isO rg_T 71 3 = true := rfl
theorem rg_gI_71 (X : rf_X) (D : rf_D) (i : Nat) : rf_gI (hp X D) 3 71 i = some (D 71 i) := rg_gI rfl
theorem rg_pI_71 (X : rf_X) (D : rf_D) (i : Nat) (v : Int) : rf_pI (hp X D) 3 71 i v = some (hp X (rg_up D 71 (rg_ui (D 71) i v))) := rg_pI rfl
theorem rg_gR_71_0 (X : rf_X) (D : rf_D) : rf_gR (hp X D) 3 71 0 = some (some 28) := rg_gRe rfl (by decide +kernel)
theorem rg_gR_71_1 (X : rf_X) (D : rf_D) : rf_gR (hp X D) 3 71 1 = some (some 70) := rg_gRe rfl (by decide +kernel)
theorem rg_o_72 : rf_isO rg_T 72 3 = true := rfl
theorem rg_gI_72 (X : rf_X) (D : rf_D) (i : Nat) : rf_gI (hp X D) 3 72 i = some (D 72 i) := rg_gI rfl
theorem rg_pI_72 (X : rf_X) (D : rf_D) (i : Nat) (v : Int) : rf_pI (hp X D) 3 72 i v = some (hp X (rg_up D 72 (rg_ui (D 72) i v))) := rg_pI rfl
theorem rg_gR_72_0 (X : rf_X) (D : rf_D) : rf_gR (hp X D) 3 72 0 = some (some 28) := rg_gRe rfl (by decide +kernel)
theorem rg_gR_72_1 (X : rf_X) (D : rf_D) : rf_gR (hp X D) 3 72 1 = some (some 71) := rg_gRe rfl (by decide +kernel)
theorem rg_o_73 : rf_isO rg_T 73 3 = true := rfl
theorem rg_gI_73 (X : rf_X) (D : rf_D) (i : Nat) : rf_gI (hp X D) 3 73 i = some (D 73 i) := rg_gI rfl
theorem rg_pI_73 (X : rf_X) (D : rf_D) (i : Nat) (v : Int) : rf_pI (hp X D) 3 73 i v = some (hp X (rg_up D 73 (rg_ui (D 73) i v))) := rg_pI rfl
theorem rg_gR_73_0 (X : rf_X) (D : rf_D) : rf_gR (hp X D) 3 73 0 = some (some 28) := rg_gRe rfl (by decide +kernel)
theorem rg_gR_73_1 (X : rf_X) (D : rf_D) : rf_gR (hp X D) 3 73 1 = some (some 72) := rg_gRe rfl (by decide +kernel)
theorem rg_o_74 : rf_isO rg_T 74 3 = true := rfl
theorem rg_gI_74 (X : rf_X) (D : rf_D) (i : Nat) : rf_gI (hp X D) 3 74 i = some (D 74 i) := rg_gI rfl
theorem rg_pI_74 (X : rf_X) (D : rf_D) (i : Nat) (v : Int) : rf_pI (hp X D) 3 74 i v = some (hp X (rg_up D 74 (rg_ui (D 74) i v))) := rg_pI rfl
theorem rg_gR_74_0 (X : rf_X) (D : rf_D) : rf_gR (hp X D) 3 74 0 = some (some 28) := rg_gRe rfl (by decide +kernel)
theorem rg_gR_74_1 (X : rf_X) (D : rf_D) : rf_gR (hp X D) 3 74 1 = some (some 73) := rg_gRe rfl (by decide +kernel)
theorem rg_o_75 : rf_isO rg_T 75 3 = true := rfl
theorem rg_gI_75 (X : rf_X) (D : rf_D) (i : Nat) : rf_gI (hp X D) 3 75 i = some (D 75 i) := rg_gI rfl
theorem rg_pI_75 (X : rf_X) (D : rf_D) (i : Nat) (v : Int) : rf_pI (hp X D) 3 75 i v = some (hp X (rg_up D 75 (rg_ui (D 75) i v))) := rg_pI rfl
theorem rg_gR_75_0 (X : rf_X) (D : rf_D) : rf_gR (hp X D) 3 75 0 = some (some 28) := rg_gRe rfl (by decide +kernel)
theorem rg_gR_75_1 (X : rf_X) (D : rf_D) : rf_gR (hp X D) 3 75 1 = some (some 74) := rg_gRe rfl (by decide +kernel)
theorem rg_o_76 : rf_isO rg_T 76 3 = true := rfl
theorem rg_gI_76 (X : rf_X) (D : rf_D) (i : Nat) : rf_gI (hp X D) 3 76 i = some (D 76 i) := rg_gI rfl
theorem rg_pI_76 (X : rf_X) (D : rf_D) (i : Nat) (v : Int) : rf_pI (hp X D) 3 76 i v = some (hp X (rg_up D 76 (rg_ui (D 76) i v))) := rg_pI rfl
theorem rg_gR_76_0 (X : rf_X) (D : rf_D) : rf_gR (hp X D) 3 76 0 = some (some 28) := rg_gRe rfl (by decide +kernel)
theorem rg_gR_76_1 (X : rf_X) (D : rf_D) : rf_gR (hp X D) 3 76 1 = some (some 75) := rg_gRe rfl (by decide +kernel)
theorem rg_aL_1 (X : rf_X) (D : rf_D) : rf_aL (hp X D) 1 = some 6 := rg_aL (by decide) rfl
theorem rg_aL_2 (X : rf_X) (D : rf_D) : rf_aL (hp X D) 2 = some 4 := rg_aL (by decide) rfl
theorem rg_aL_3 (X : rf_X) (D : rf_D) : rf_aL (hp X D) 3 = some 3 := rg_aL (by decide) rfl
