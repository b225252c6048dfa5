/-! Numbers: what the machine's ints and longs are as Int -/
theorem rf_bm32 (z : Int) : z.bmod (2 ^ 32) = rf_w z := by
  have e : ((2 ^ 32 : Nat) : Int) = 4294967296 := rfl
  rw [Int.bmod_def, e]
  unfold rf_w
  split <;> omega
theorem rf_bm64 (z : Int) : z.bmod (2 ^ 64) = rf_wl z := by
  have e : ((2 ^ 64 : Nat) : Int) = 18446744073709551616 := rfl
  rw [Int.bmod_def, e]
  unfold rf_wl
  split <;> omega
theorem rf_bm8 (z : Int) : z.bmod (2 ^ 8) = rf_w8 z := by
  have e : ((2 ^ 8 : Nat) : Int) = 256 := rfl
  rw [Int.bmod_def, e]
  unfold rf_w8
  split <;> omega
theorem rf_ofw (z : Int) : Int32.ofInt (rf_w z) = Int32.ofInt z := by
  rw [← Int32.toInt_inj, Int32.toInt_ofInt, Int32.toInt_ofInt]
  show Int.bmod _ (2 ^ 32) = Int.bmod _ (2 ^ 32)
  rw [rf_bm32, rf_bm32]
  unfold rf_w
  omega
theorem rf_ofwl (z : Int) : Int64.ofInt (rf_wl z) = Int64.ofInt z := by
  rw [← Int64.toInt_inj, Int64.toInt_ofInt, Int64.toInt_ofInt]
  show Int.bmod _ (2 ^ 64) = Int.bmod _ (2 ^ 64)
  rw [rf_bm64, rf_bm64]
  unfold rf_wl
  omega
def rf_o32 (z : Int) : Prop := -2147483648 ≤ z ∧ z < 2147483648
def rf_o64 (z : Int) : Prop := -9223372036854775808 ≤ z ∧ z < 9223372036854775808
theorem rf_o32w (z : Int) : rf_o32 (rf_w z) := by unfold rf_o32 rf_w; omega
theorem rf_o64w (z : Int) : rf_o64 (rf_wl z) := by unfold rf_o64 rf_wl; omega
theorem rf_o32w8 (z : Int) : rf_o32 (rf_w8 z) := by unfold rf_o32 rf_w8; omega
theorem rf_o32i (x : Int32) : rf_o32 x.toInt := by
  have h1 := x.le_toInt
  have h2 := x.toInt_lt
  unfold rf_o32
  omega
theorem rf_o64i (x : Int64) : rf_o64 x.toInt := by
  have h1 := x.le_toInt
  have h2 := x.toInt_lt
  unfold rf_o64
  omega
theorem rf_t32 {z : Int} (h : rf_o32 z) : (Int32.ofInt z).toInt = z := by
  unfold rf_o32 at h
  exact Int32.toInt_ofInt_of_le (by omega) (by omega)
theorem rf_t64 {z : Int} (h : rf_o64 z) : (Int64.ofInt z).toInt = z := by
  unfold rf_o64 at h
  exact Int64.toInt_ofInt_of_le (by omega) (by omega)
theorem rf_vadd (x y : Int) : Int32.ofInt x + Int32.ofInt y = Int32.ofInt (rf_w (x + y)) := by rw [rf_ofw, Int32.ofInt_add]
theorem rf_vsub (x y : Int) : Int32.ofInt x - Int32.ofInt y = Int32.ofInt (rf_w (x - y)) := by rw [rf_ofw, Int32.ofInt_sub]
theorem rf_vmul (x y : Int) : Int32.ofInt x * Int32.ofInt y = Int32.ofInt (rf_w (x * y)) := by rw [rf_ofw, Int32.ofInt_mul]
theorem rf_vladd (x y : Int) : Int64.ofInt x + Int64.ofInt y = Int64.ofInt (rf_wl (x + y)) := by rw [rf_ofwl, Int64.ofInt_add]
theorem rf_vlsub (x y : Int) : Int64.ofInt x - Int64.ofInt y = Int64.ofInt (rf_wl (x - y)) := by rw [rf_ofwl, Int64.ofInt_sub]
theorem rf_vlmul (x y : Int) : Int64.ofInt x * Int64.ofInt y = Int64.ofInt (rf_wl (x * y)) := by rw [rf_ofwl, Int64.ofInt_mul]
theorem rf_vdiv {x y : Int} (hx : rf_o32 x) (hy : rf_o32 y) : Int32.ofInt x / Int32.ofInt y = Int32.ofInt (rf_w (Int.tdiv x y)) := by
  rw [← Int32.toInt_inj, Int32.toInt_div, rf_t32 hx, rf_t32 hy, rf_t32 (rf_o32w _), rf_bm32]
theorem rf_vldiv {x y : Int} (hx : rf_o64 x) (hy : rf_o64 y) : Int64.ofInt x / Int64.ofInt y = Int64.ofInt (rf_wl (Int.tdiv x y)) := by
  rw [← Int64.toInt_inj, Int64.toInt_div, rf_t64 hx, rf_t64 hy, rf_t64 (rf_o64w _), rf_bm64]
theorem rf_orem {x y : Int} (hx : rf_o32 x) (hy : rf_o32 y) : rf_o32 (Int.tmod x y) := by
  have h := Int32.toInt_mod (Int32.ofInt x) (Int32.ofInt y)
  rw [rf_t32 hx, rf_t32 hy] at h
  rw [← h]
  exact rf_o32i _
theorem rf_olrem {x y : Int} (hx : rf_o64 x) (hy : rf_o64 y) : rf_o64 (Int.tmod x y) := by
  have h := Int64.toInt_mod (Int64.ofInt x) (Int64.ofInt y)
  rw [rf_t64 hx, rf_t64 hy] at h
  rw [← h]
  exact rf_o64i _
theorem rf_vrem {x y : Int} (hx : rf_o32 x) (hy : rf_o32 y) : Int32.ofInt x - Int32.ofInt x / Int32.ofInt y * Int32.ofInt y = Int32.ofInt (Int.tmod x y) := by
  rw [rf_vdiv hx hy, rf_ofw, ← Int32.ofInt_mul, ← Int32.ofInt_sub, Int.tmod_def, Int.mul_comm]
theorem rf_vlrem {x y : Int} (hx : rf_o64 x) (hy : rf_o64 y) : Int64.ofInt x - Int64.ofInt x / Int64.ofInt y * Int64.ofInt y = Int64.ofInt (Int.tmod x y) := by
  rw [rf_vldiv hx hy, rf_ofwl, ← Int64.ofInt_mul, ← Int64.ofInt_sub, Int.tmod_def, Int.mul_comm]
theorem rf_vz {y : Int} (hy : rf_o32 y) (h : ¬ y = 0) : ¬ Int32.ofInt y = 0 := by
  intro e
  have := congrArg Int32.toInt e
  rw [rf_t32 hy] at this
  exact h this
theorem rf_vlz {y : Int} (hy : rf_o64 y) (h : ¬ y = 0) : ¬ Int64.ofInt y = 0 := by
  intro e
  have := congrArg Int64.toInt e
  rw [rf_t64 hy] at this
  exact h this
theorem rf_veq {x y : Int} (hx : rf_o32 x) (hy : rf_o32 y) : (Int32.ofInt x = Int32.ofInt y) ↔ x = y := by
  rw [← Int32.toInt_inj, rf_t32 hx, rf_t32 hy]
theorem rf_vlt {x y : Int} (hx : rf_o32 x) (hy : rf_o32 y) : (Int32.ofInt x < Int32.ofInt y) ↔ x < y := by
  rw [Int32.lt_iff_toInt_lt, rf_t32 hx, rf_t32 hy]
theorem rf_vle {x y : Int} (hx : rf_o32 x) (hy : rf_o32 y) : (Int32.ofInt x ≤ Int32.ofInt y) ↔ x ≤ y := by
  rw [Int32.le_iff_toInt_le, rf_t32 hx, rf_t32 hy]
theorem rf_o0 : rf_o32 0 := by unfold rf_o32; omega
theorem rf_v0 : Int32.ofInt 0 = 0 := rfl
theorem rf_vcmp {x y : Int} (hx : rf_o64 x) (hy : rf_o64 y) : lg_cmp (Int64.ofInt x) (Int64.ofInt y) = Int32.ofInt (rf_cmp x y) := by
  unfold lg_cmp rf_cmp
  have e1 : (Int64.ofInt x > Int64.ofInt y) ↔ y < x := by
    show (Int64.ofInt y < Int64.ofInt x) ↔ _
    rw [Int64.lt_iff_toInt_lt, rf_t64 hx, rf_t64 hy]
  have e2 : (Int64.ofInt x = Int64.ofInt y) ↔ x = y := by rw [← Int64.toInt_inj, rf_t64 hx, rf_t64 hy]
  by_cases h1 : y < x
  · rw [if_pos (e1.mpr h1), if_pos h1]; rfl
  · rw [if_neg (fun q => h1 (e1.mp q)), if_neg h1]
    by_cases h2 : x = y
    · rw [if_pos (e2.mpr h2), if_pos h2]; rfl
    · rw [if_neg (fun q => h2 (e2.mp q)), if_neg h2]; rfl
theorem rf_ocmp (x y : Int) : rf_o32 (rf_cmp x y) := by
  unfold rf_o32 rf_cmp
  split
  · omega
  · split <;> omega
theorem rf_vi2l {x : Int} (hx : rf_o32 x) : (Int32.ofInt x).toInt64 = Int64.ofInt x := by
  rw [← Int64.toInt_inj, Int32.toInt_toInt64, rf_t32 hx, rf_t64 (by unfold rf_o32 at hx; unfold rf_o64; omega)]
theorem rf_vl2i {x : Int} (hx : rf_o64 x) : (Int64.ofInt x).toInt32 = Int32.ofInt (rf_w x) := by
  rw [← Int32.toInt_inj, Int64.toInt_toInt32, rf_t64 hx, rf_t32 (rf_o32w _), rf_bm32]
theorem rf_vi2b {x : Int} (hx : rf_o32 x) : (Int32.ofInt x).toInt8.toInt32 = Int32.ofInt (rf_w8 x) := by
  rw [← Int32.toInt_inj, Int8.toInt_toInt32, Int32.toInt_toInt8, rf_t32 hx, rf_t32 (rf_o32w8 _), rf_bm8]
theorem rf_vin {i : Int} {n : Nat} (hi : rf_o32 i) (h : 0 ≤ i ∧ i < (n : Int)) : vp_in (Int32.ofInt i) n ∧ (Int32.ofInt i).toNatClampNeg = i.toNat := by
  have e : (Int32.ofInt i).toNatClampNeg = i.toNat := by
    show (Int32.ofInt i).toInt.toNat = _
    rw [rf_t32 hi]
  refine ⟨?_, e⟩
  unfold vp_in
  rw [e]
  rintro (q | q)
  · have := (rf_vlt hi rf_o0).mp q
    omega
  · omega
theorem rf_vn {i : Int} (hi : rf_o32 i) (h : 0 ≤ i) : ¬ Int32.ofInt i < 0 ∧ (Int32.ofInt i).toNatClampNeg = i.toNat := by
  refine ⟨fun q => ?_, ?_⟩
  · have := (rf_vlt hi rf_o0).mp q
    omega
  · show (Int32.ofInt i).toInt.toNat = _
    rw [rf_t32 hi]
/-! What a value is in the machine -/
def rf_ad (base : Nat) (ro : Nat → Nat) (k : Nat) : Nat := if 1000000 ≤ k then ro (k - 1000000) else base + k
def rf_cv (ad : Nat → Nat) (v : rf_V) : Value := match v with
  | .inl z => .int (Int32.ofInt z)
  | .inr (.inl z) => .long (Int64.ofInt z)
  | .inr (.inr r) => va_rf (r.map ad)
def rf_ok (v : rf_V) : Prop := match v with
  | .inl z => rf_o32 z
  | .inr (.inl z) => rf_o64 z
  | .inr (.inr _) => True
def rf_okS (st : List rf_V) : Prop := ∀ v ∈ st, rf_ok v
def rf_okL (L : List (Option rf_V)) : Prop := ∀ i v, rf_lget L i = some v → rf_ok v
theorem rf_lget_set (L : List (Option rf_V)) (i j : Nat) (v : Option rf_V) : rf_lget (rf_lset L i v) j = if j = i ∧ i < L.length then v else rf_lget L j := by
  induction L generalizing i j with
  | nil => cases i <;> cases j <;> simp [rf_lset, rf_lget]
  | cons x t ih =>
    cases i with
    | zero => cases j <;> simp [rf_lset, rf_lget]
    | succ i => cases j <;> simp [rf_lset, rf_lget, ih]
theorem rf_lset_len (L : List (Option rf_V)) (i : Nat) (v : Option rf_V) : (rf_lset L i v).length = L.length := by
  induction L generalizing i with
  | nil => cases i <;> rfl
  | cons x t ih => cases i <;> simp [rf_lset, ih]
theorem rf_kill_len (L : List (Option rf_V)) (i : Nat) : (rf_kill L i).length = L.length := by
  unfold rf_kill
  split
  · rfl
  · split
    · exact rf_lset_len _ _ _
    · rfl
theorem rf_kill_get {L : List (Option rf_V)} {i j : Nat} {v : rf_V} (h : rf_lget (rf_kill L i) j = some v) : rf_lget L j = some v ∧ (j + 1 = i → ∀ z, v ≠ .inr (.inl z)) := by
  unfold rf_kill at h
  split at h
  · exact ⟨h, fun q => by omega⟩
  · rename_i k
    split at h
    · rename_i z hz
      rw [rf_lget_set] at h
      split at h
      · cases h
      · rename_i hn
        refine ⟨h, fun q w e => hn ⟨by omega, ?_⟩⟩
        have : j = k := by omega
        subst this
        rcases Nat.lt_or_ge j L.length with q1 | q1
        · exact q1
        · exfalso
          have : ∀ (L : List (Option rf_V)) (j : Nat), L.length ≤ j → rf_lget L j = none := by
            intro L
            induction L with
            | nil => intro j _; cases j <;> rfl
            | cons x t ih =>
              intro j hj
              cases j with
              | zero => simp at hj
              | succ j => exact ih j (by simpa using hj)
          rw [this L j q1] at hz
          cases hz
    · rename_i hz
      refine ⟨h, fun q w e => ?_⟩
      have : j = k := by omega
      subst this
      subst e
      exact hz w h
theorem rf_msk_get {b : List Bool} {L : List (Option rf_V)} {j : Nat} {v : rf_V} (h : rf_lget (rf_msk b L) j = some v) : rf_lget L j = some v := by
  induction b generalizing L j with
  | nil => rw [rf_m0] at h; exact h
  | cons x b ih =>
    cases L with
    | nil => exact h
    | cons y t =>
      cases j with
      | zero =>
        have h' : (bif x then y else none) = some v := h
        cases x
        · cases h'
        · exact h'
      | succ j => exact ih (L := t) h
theorem rf_msk_len (b : List Bool) (L : List (Option rf_V)) : (rf_msk b L).length = L.length := by
  induction b generalizing L with
  | nil => rw [rf_m0]
  | cons x b ih =>
    cases L with
    | nil => rfl
    | cons y t => show (rf_msk b t).length + 1 = _; rw [ih]; rfl
def rf_lvR (ad : Nat → Nat) (nL : Nat) (ls : Array Slot) (L : List (Option rf_V)) : Prop := ls.size = nL ∧ lv_wf ls ∧ L.length = nL ∧ ∀ i v, rf_lget L i = some v → ls[i]? = some (.val (rf_cv ad v))
def rf_al (ad : Nat → Nat) (L : List (Option rf_V)) : List (Nat × Value) := (List.range L.length).filterMap fun i => (rf_lget L i).map fun v => (i, rf_cv ad v)
theorem rf_lget_lt {L : List (Option rf_V)} {j : Nat} {v : rf_V} (h : rf_lget L j = some v) : j < L.length := by
  induction L generalizing j with
  | nil => cases j <;> cases h
  | cons x t ih =>
    cases j with
    | zero => simp
    | succ j => have := ih (j := j) h; simp; omega
theorem rf_al_mem {ad : Nat → Nat} {L : List (Option rf_V)} {i : Nat} {v : rf_V} (h : rf_lget L i = some v) : (i, rf_cv ad v) ∈ rf_al ad L := by
  refine List.mem_filterMap.mpr ⟨i, List.mem_range.mpr (rf_lget_lt h), ?_⟩
  rw [h]
  rfl
theorem rf_al_of {ad : Nat → Nat} {L : List (Option rf_V)} {q : Nat × Value} (h : q ∈ rf_al ad L) : ∃ v, rf_lget L q.1 = some v ∧ q.2 = rf_cv ad v := by
  obtain ⟨i, -, hi⟩ := List.mem_filterMap.mp h
  cases hv : rf_lget L i with
  | none => rw [hv] at hi; cases hi
  | some v =>
    rw [hv] at hi
    cases hi
    exact ⟨v, hv, rfl⟩
theorem rf_lvR.has {ad : Nat → Nat} {nL : Nat} {ls : Array Slot} {L : List (Option rf_V)} (h : rf_lvR ad nL ls L) : lv_has ls nL (rf_al ad L) := by
  refine ⟨h.1, h.2.1, fun q hq => ?_⟩
  obtain ⟨v, h1, h2⟩ := rf_al_of hq
  rw [h2]
  exact h.2.2.2 _ _ h1
theorem rf_cv_cat (ad : Nat → Nat) (v : rf_V) : (rf_cv ad v).category = 2 ↔ ∃ z, v = .inr (.inl z) := by
  rcases v with z | z | r
  · simp [rf_cv, Value.category]
  · simp [rf_cv, Value.category]
  · cases r <;> simp [rf_cv, Value.category, va_rf]
theorem rf_lvR.st1 {ad : Nat → Nat} {nL i : Nat} {ls ls' : Array Slot} {L : List (Option rf_V)} {v : rf_V} (h : rf_lvR ad nL ls L) (h' : lv_has ls' nL ((i, rf_cv ad v) :: (rf_al ad L).filter (fun q => !(q.1 == i) && !(q.1 + 1 == i && q.2.category == 2)))) (b : List Bool) : rf_lvR ad nL ls' (rf_msk b (rf_st1 L i v)) := by
  refine ⟨h'.1, h'.2.1, ?_, fun j w hj => ?_⟩
  · rw [rf_msk_len]
    unfold rf_st1
    rw [rf_lset_len, rf_kill_len]
    exact h.2.2.1
  · have hj := rf_msk_get hj
    unfold rf_st1 at hj
    rw [rf_lget_set] at hj
    split at hj
    · rename_i q
      cases hj
      rw [q.1]
      exact h'.2.2 _ List.mem_cons_self
    · rename_i q
      obtain ⟨h1, h2⟩ := rf_kill_get hj
      have hji : j ≠ i := fun e => q ⟨e, by rw [rf_kill_len, ← e]; exact rf_lget_lt h1⟩
      refine h'.2.2 (j, rf_cv ad w) (List.mem_cons_of_mem _ (List.mem_filter.mpr ⟨rf_al_mem h1, ?_⟩))
      have e1 : (j == i) = false := by simpa using hji
      simp only [e1, Bool.not_false, Bool.true_and, Bool.not_eq_true', Bool.and_eq_false_iff, beq_eq_false_iff_ne, ne_eq]
      by_cases e2 : j + 1 = i
      · right
        intro e3
        obtain ⟨z, hz⟩ := (rf_cv_cat ad w).mp e3
        exact h2 e2 z hz
      · left; exact e2
theorem rf_lvR.st2 {ad : Nat → Nat} {nL i : Nat} {ls ls' : Array Slot} {L : List (Option rf_V)} {v : rf_V} (h : rf_lvR ad nL ls L) (h' : lv_has ls' nL ((i, rf_cv ad v) :: (rf_al ad L).filter (fun q => !(q.1 == i) && (!(q.1 == i + 1) && !(q.1 + 1 == i && q.2.category == 2))))) (b : List Bool) : rf_lvR ad nL ls' (rf_msk b (rf_st2 L i v)) := by
  refine ⟨h'.1, h'.2.1, ?_, fun j w hj => ?_⟩
  · rw [rf_msk_len]
    unfold rf_st2
    rw [rf_lset_len, rf_lset_len, rf_kill_len]
    exact h.2.2.1
  · have hj := rf_msk_get hj
    unfold rf_st2 at hj
    rw [rf_lget_set, rf_lset_len] at hj
    split at hj
    · cases hj
    · rename_i q0
      rw [rf_lget_set] at hj
      split at hj
      · rename_i q
        cases hj
        rw [q.1]
        exact h'.2.2 _ List.mem_cons_self
      · rename_i q
        obtain ⟨h1, h2⟩ := rf_kill_get hj
        have hji : j ≠ i := fun e => q ⟨e, by rw [rf_kill_len, ← e]; exact rf_lget_lt h1⟩
        have hji1 : j ≠ i + 1 := fun e => q0 ⟨e, by rw [rf_kill_len, ← e]; exact rf_lget_lt h1⟩
        refine h'.2.2 (j, rf_cv ad w) (List.mem_cons_of_mem _ (List.mem_filter.mpr ⟨rf_al_mem h1, ?_⟩))
        have e1 : (j == i) = false := by simpa using hji
        have e2 : (j == i + 1) = false := by simpa using hji1
        simp only [e1, e2, Bool.not_false, Bool.true_and, Bool.not_eq_true', Bool.and_eq_false_iff, beq_eq_false_iff_ne, ne_eq]
        by_cases e2 : j + 1 = i
        · right
          intro e3
          obtain ⟨z, hz⟩ := (rf_cv_cat ad w).mp e3
          exact h2 e2 z hz
        · left; exact e2
theorem rf_lvR.msk {ad : Nat → Nat} {nL : Nat} {ls : Array Slot} {L : List (Option rf_V)} (h : rf_lvR ad nL ls L) (b : List Bool) : rf_lvR ad nL ls (rf_msk b L) :=
  ⟨h.1, h.2.1, by rw [rf_msk_len]; exact h.2.2.1, fun i v hv => h.2.2.2 i v (rf_msk_get hv)⟩
theorem rf_okL.msk {L : List (Option rf_V)} (h : rf_okL L) (b : List Bool) : rf_okL (rf_msk b L) := fun i v hv => h i v (rf_msk_get hv)
theorem rf_okL.st1 {L : List (Option rf_V)} {i : Nat} {v : rf_V} (h : rf_okL L) (hv : rf_ok v) : rf_okL (rf_st1 L i v) := by
  intro j w hj
  unfold rf_st1 at hj
  rw [rf_lget_set] at hj
  split at hj
  · cases hj; exact hv
  · exact h j w (rf_kill_get hj).1
theorem rf_okL.st2 {L : List (Option rf_V)} {i : Nat} {v : rf_V} (h : rf_okL L) (hv : rf_ok v) : rf_okL (rf_st2 L i v) := by
  intro j w hj
  unfold rf_st2 at hj
  rw [rf_lget_set] at hj
  split at hj
  · cases hj
  · rw [rf_lget_set] at hj
    split at hj
    · cases hj; exact hv
    · exact h j w (rf_kill_get hj).1
theorem rf_okS_c {v : rf_V} {st : List rf_V} : rf_okS (v :: st) ↔ rf_ok v ∧ rf_okS st := List.forall_mem_cons
