/-! digest -/
def dg (h v : Int) : Int := rf_wl (rf_wl (31 * h) + v)
def df (f : Nat → Int) : Nat → Nat → Int → Int
  | _, 0, h => h
  | i, k + 1, h => df f (i + 1) k (dg h (f i))
theorem df_of {f g : Nat → Int} : ∀ (k i : Nat) (h : Int), (∀ j, i ≤ j → j < i + k → f j = g j) → df f i k h = df g i k h
  | 0, _, _, _ => rfl
  | k + 1, i, h, e => by
    show df f (i + 1) k (dg h (f i)) = df g (i + 1) k (dg h (g i))
    rw [e i (by omega) (by omega), df_of k (i + 1) _ fun j h1 h2 => e j (by omega) (by omega)]
def dw (A : Nat → Int) : Nat → Nat → Int → Int
  | _, 0, h => h
  | i, k + 1, h => dw A (i + 1) k (df (fun j => wf_v A (i : Int) (j : Int)) 0 6 h)
/-- rows: sizes and places -/
def dr (S : Nat → Int) (C : Nat → Nat → Int) : Nat → Nat → Int → Int
  | _, 0, h => h
  | i, k + 1, h => dr S C (i + 1) k (df (C i) 0 (S i).toNat (dg h (S i)))
theorem dr_of {S S' : Nat → Int} {C C' : Nat → Nat → Int} : ∀ (k i : Nat) (h : Int), (∀ j, i ≤ j → j < i + k → S j = S' j ∧ ∀ q : Nat, (q : Int) < S j → C j q = C' j q) → dr S C i k h = dr S' C' i k h
  | 0, _, _, _ => rfl
  | k + 1, i, h, e => by
    obtain ⟨e1, e2⟩ := e i (by omega) (by omega)
    show dr S C (i + 1) k (df (C i) 0 (S i).toNat (dg h (S i))) = dr S' C' (i + 1) k (df (C' i) 0 (S' i).toNat (dg h (S' i)))
    rw [df_of (f := C i) (g := C' i) (S i).toNat 0 _ (fun j h1 h2 => e2 j (by omega)), e1, dr_of k (i + 1) _ fun j h1 h2 => e j (by omega) (by omega)]
section RGS21
variable {X : rf_X} {D : rf_D}
theorem rg_W_do_48 (d : Nat) {a o m z : Nat} (hr : rg_row o m) (hz : D o 1 = (z : Int)) (hm : z ≤ m) (m1 : m ≤ 1000) (N i : Int) : ∀ (k j : Nat) (h : Int), j + k = z → rf_j_W_digestOf_48 (d + 1) h (some a) N i (some o) (j : Int) (hp X D) = rf_j_W_digestOf_13 (d + 1) (df (D (o + 1)) j k h) (some a) N (rf_w (i + 1)) (hp X D)
  | 0, j, h, hk => by
    rw [rf_e_W_digestOf_48]
    try simp only [rg_row_gI hr, Int.reduceToNat, rg_kIs, rg_kLs, rg_kRs, rg_kVs, rg_nns, rg_bs, cond_true, cond_false]
    rw [hz, if_neg (by omega)]
    try rfl
  | k + 1, j, h, hk => by
    have x2 : rf_w ((j : Int) + 1) = ((j + 1 : Nat) : Int) := by
      rw [rg_w (by omega) (by omega)]
      omega
    have c0 := rg_R_cellI (X := X) (D := D) hr d (i := (j : Int)) (by omega) (by omega) (by omega)
    rw [rg_tN] at c0
    rw [rf_e_W_digestOf_48]
    try simp only [rg_row_gI hr, Int.reduceToNat, rg_kIs, rg_kLs, rg_kRs, rg_kVs, rg_nns, rg_bs, cond_true, cond_false]
    rw [hz, if_pos (by omega)]
    try simp only [rg_hp1, rg_row_o hr, Int.reduceToNat, rg_kIs, rg_kLs, rg_kRs, rg_kVs, rg_nns, rg_bs, cond_true, cond_false]
    rw [c0]
    try simp only [Int.reduceToNat, rg_kIs, rg_kLs, rg_kRs, rg_kVs, rg_nns, rg_bs, cond_true, cond_false, x2]
    exact rg_W_do_48 d hr hz hm m1 N i k (j + 1) _ (by omega)
theorem rg_W_do_13 (d : Nat) {a b n m : Nat} (n1 : n ≤ 100) (m1 : m ≤ 1000) (hrow : ∀ i, i < n → rg_row (b + 2 * i) m ∧ rf_aR (hp X D) a (i : Int) = some (some (b + 2 * i))) (hs : ∀ i, i < n → -1 ≤ D (b + 2 * i) 1 ∧ D (b + 2 * i) 1 ≤ (m : Int)) : ∀ (k i : Nat) (h : Int), i + k = n → rf_j_W_digestOf_13 (d + 1) h (some a) (n : Int) (i : Int) (hp X D) = some (some (.inr (.inl (dr (fun i => D (b + 2 * i) 1) (fun i => D (b + 2 * i + 1)) i k h))), hp X D)
  | 0, i, h, hk => by
    rw [rf_e_W_digestOf_13, if_neg (by omega)]
    try rfl
  | k + 1, i, h, hk => by
    have x2 : rf_w ((i : Int) + 1) = ((i + 1 : Nat) : Int) := by
      rw [rg_w (by omega) (by omega)]
      omega
    obtain ⟨r1, r2⟩ := hrow i (by omega)
    obtain ⟨s1, s2⟩ := hs i (by omega)
    have ih := fun g => rg_W_do_13 d n1 m1 hrow hs k (i + 1) g (by omega)
    have e : dr (fun i => D (b + 2 * i) 1) (fun i => D (b + 2 * i + 1)) i (k + 1) h = dr (fun i => D (b + 2 * i) 1) (fun i => D (b + 2 * i + 1)) (i + 1) k (df (D (b + 2 * i + 1)) 0 (D (b + 2 * i) 1).toNat (dg h (D (b + 2 * i) 1))) := rfl
    rw [e, ← ih, rf_e_W_digestOf_13, if_pos (by omega)]
    clear ih
    try simp only [Int.reduceToNat, rg_kIs, rg_kLs, rg_kRs, rg_kVs, rg_nns, rg_bs, cond_true, cond_false]
    rw [r2]
    try simp only [rg_hp1, rg_row_gI r1, rg_nzs, Int.reduceToNat, rg_kIs, rg_kLs, rg_kRs, rg_kVs, rg_nns, rg_bs, cond_true, cond_false]
    show rf_j_W_digestOf_48 (d + 1) (dg h (D (b + 2 * i) 1)) (some a) (n : Int) (i : Int) (some (b + 2 * i)) 0 (hp X D) = _
    by_cases c : D (b + 2 * i) 1 < 0
    · rw [show (D (b + 2 * i) 1).toNat = 0 by omega, rf_e_W_digestOf_48]
      try simp only [rg_row_gI r1, Int.reduceToNat, rg_kIs, rg_kLs, rg_kRs, rg_kVs, rg_nns, rg_bs, cond_true, cond_false]
      rw [if_neg (by omega), x2]
      try rfl
    · have l := rg_W_do_48 (X := X) (D := D) d (a := a) r1 (z := (D (b + 2 * i) 1).toNat) (by omega) (by omega) m1 (n : Int) (i : Int) (D (b + 2 * i) 1).toNat 0 (dg h (D (b + 2 * i) 1)) (by omega)
      rw [show ((0 : Nat) : Int) = 0 from rfl, x2] at l
      exact l
theorem rg_W_do (d : Nat) {a b n m : Nat} (n1 : n ≤ 100) (m1 : m ≤ 1000) (hL : rf_aL (hp X D) a = some (n : Int)) (hrow : ∀ i, i < n → rg_row (b + 2 * i) m ∧ rf_aR (hp X D) a (i : Int) = some (some (b + 2 * i))) (hs : ∀ i, i < n → -1 ≤ D (b + 2 * i) 1 ∧ D (b + 2 * i) 1 ≤ (m : Int)) (h : Int) : rf_call (d + 2) 114 [.inr (.inr (some a)), .inr (.inl h)] (hp X D) = some (some (.inr (.inl (dr (fun i => D (b + 2 * i) 1) (fun i => D (b + 2 * i + 1)) 0 n h))), hp X D) := by
  rw [rf_e_W_digestOf]
  try simp only [Int.reduceToNat, rg_kIs, rg_kLs, rg_kRs, rg_kVs, rg_nns, rg_bs, cond_true, cond_false]
  rw [hL]
  try simp only [Int.reduceToNat, rg_kIs, rg_kLs, rg_kRs, rg_kVs, rg_nns, rg_bs, cond_true, cond_false]
  exact rg_W_do_13 d n1 m1 hrow hs n 0 h (by omega)
theorem rg_W_dig_6 (hI : Inv D) (d : Nat) : ∀ (k i : Nat) (h : Int), i + k = 8 → rf_j_W_digest_6 (d + 8) 0 h (i : Int) (hp X D) = rf_j_W_digest_33 (d + 8) 0 (df (fun j => cn_v (D 82) (D 78) (D 80) (D 84) (j : Int)) i k h) 0 (hp X D)
  | 0, i, h, hk => by
    rw [rf_e_W_digest_6, if_neg (by omega)]
    try rfl
  | k + 1, i, h, hk => by
    have x2 : rf_w ((i : Int) + 1) = ((i + 1 : Nat) : Int) := by
      rw [rg_w (by omega) (by omega)]
      omega
    rw [rf_e_W_digest_6, if_pos (by omega)]
    try simp only [rg_hp1, rg_o_0, Int.reduceToNat, rg_kIs, rg_kLs, rg_kRs, rg_kVs, rg_nns, rg_bs, cond_true, cond_false]
    rw [rg_W_cf hI d (w := (i : Int)) (by omega) (by omega)]
    try simp only [Int.reduceToNat, rg_kIs, rg_kLs, rg_kRs, rg_kVs, rg_nns, rg_bs, cond_true, cond_false, x2]
    exact rg_W_dig_6 hI d k (i + 1) _ (by omega)
theorem rg_W_dig_33 (h12 : D 0 12 = 1) {s : Nat → Int} (hE : ∀ (d : Nat) (w : Int), rf_call (d + 1) 76 [.inr (.inr (some 0)), .inl w] (hp X D) = some (some (.inl (en_v s w)), hp X D)) (d : Nat) : ∀ (k i : Nat) (h : Int), i + k = 10 → rf_j_W_digest_33 (d + 1) 0 h (i : Int) (hp X D) = rf_j_W_digest_67 (d + 1) 0 (df (fun j => en_v s (j : Int)) i k h) 0 (hp X D)
  | 0, i, h, hk => by
    rw [rf_e_W_digest_33]
    try simp only [rg_gI_0, Int.reduceToNat, rg_kIs, rg_kLs, rg_kRs, rg_kVs, rg_nns, rg_bs, cond_true, cond_false]
    rw [if_neg (by omega), if_neg (by omega)]
    try rfl
  | k + 1, i, h, hk => by
    have x2 : rf_w ((i : Int) + 1) = ((i + 1 : Nat) : Int) := by
      rw [rg_w (by omega) (by omega)]
      omega
    rw [rf_e_W_digest_33]
    try simp only [rg_gI_0, Int.reduceToNat, rg_kIs, rg_kLs, rg_kRs, rg_kVs, rg_nns, rg_bs, cond_true, cond_false]
    rw [if_neg (by omega), if_pos (by omega)]
    try simp only [rg_hp1, rg_o_0, Int.reduceToNat, rg_kIs, rg_kLs, rg_kRs, rg_kVs, rg_nns, rg_bs, cond_true, cond_false]
    rw [hE d]
    try simp only [Int.reduceToNat, rg_kIs, rg_kLs, rg_kRs, rg_kVs, rg_nns, rg_bs, cond_true, cond_false, x2]
    exact rg_W_dig_33 h12 hE d k (i + 1) _ (by omega)
theorem rg_W_dig_81 {s : Nat → Int} (d : Nat) {n : Nat} (hE : ∀ w : Int, rf_call (d + 4) 72 [.inr (.inr (some 0)), .inl (n : Int), .inl w] (hp X D) = some (some (.inl (wf_v s (n : Int) w)), hp X D)) : ∀ (k i : Nat) (h : Int), i + k = 6 → rf_j_W_digest_81 (d + 4) 0 h (n : Int) (i : Int) (hp X D) = rf_j_W_digest_67 (d + 4) 0 (df (fun j => wf_v s (n : Int) (j : Int)) i k h) (rf_w ((n : Int) + 1)) (hp X D)
  | 0, i, h, hk => by
    rw [rf_e_W_digest_81, if_neg (by omega)]
    try rfl
  | k + 1, i, h, hk => by
    have x2 : rf_w ((i : Int) + 1) = ((i + 1 : Nat) : Int) := by
      rw [rg_w (by omega) (by omega)]
      omega
    rw [rf_e_W_digest_81, if_pos (by omega)]
    try simp only [rg_hp1, rg_o_0, Int.reduceToNat, rg_kIs, rg_kLs, rg_kRs, rg_kVs, rg_nns, rg_bs, cond_true, cond_false]
    rw [hE]
    try simp only [Int.reduceToNat, rg_kIs, rg_kLs, rg_kRs, rg_kVs, rg_nns, rg_bs, cond_true, cond_false, x2]
    exact rg_W_dig_81 d hE k (i + 1) _ (by omega)
theorem rg_W_dig_67 {s : Nat → Int} (d : Nat) {N : Nat} (N6 : N ≤ 6) (hN : D 43 6 = (N : Int)) (hE : ∀ n : Nat, n < N → ∀ w : Int, rf_call (d + 4) 72 [.inr (.inr (some 0)), .inl (n : Int), .inl w] (hp X D) = some (some (.inl (wf_v s (n : Int) w)), hp X D)) : ∀ (k i : Nat) (h : Int), i + k = N → rf_j_W_digest_67 (d + 4) 0 h (i : Int) (hp X D) = rf_j_W_digest_117 (d + 4) 0 (dw s i k h) 0 (hp X D)
  | 0, i, h, hk => by
    rw [rf_e_W_digest_67]
    try simp only [rg_gR_0_10, rg_T_gI rg_tr_43, Int.reduceToNat, rg_kIs, rg_kLs, rg_kRs, rg_kVs, rg_nns, rg_bs, cond_true, cond_false]
    rw [hN, if_neg (by omega)]
    try rfl
  | k + 1, i, h, hk => by
    have x2 : rf_w ((i : Int) + 1) = ((i + 1 : Nat) : Int) := by
      rw [rg_w (by omega) (by omega)]
      omega
    have l := rg_W_dig_81 (X := X) (s := s) d (n := i) (hE i (by omega)) 6 0 h (by omega)
    rw [show ((0 : Nat) : Int) = 0 from rfl, x2] at l
    rw [rf_e_W_digest_67]
    try simp only [rg_gR_0_10, rg_T_gI rg_tr_43, Int.reduceToNat, rg_kIs, rg_kLs, rg_kRs, rg_kVs, rg_nns, rg_bs, cond_true, cond_false]
    rw [hN, if_pos (by omega), l]
    exact rg_W_dig_67 d N6 hN hE k (i + 1) _ (by omega)
theorem rg_W_dig_117 (d : Nat) : ∀ (k i : Nat) (h : Int), i + k = 3 → rf_j_W_digest_117 (d + 1) 0 h (i : Int) (hp X D) = rf_j_W_digest_117 (d + 1) 0 (df (fun j => D (64 + 2 * j) 1) i k h) 3 (hp X D)
  | 0, i, h, hk => by rw [show i = 3 by omega]; rfl
  | k + 1, i, h, hk => by
    have x2 : rf_w ((i : Int) + 1) = ((i + 1 : Nat) : Int) := by
      rw [rg_w (by omega) (by omega)]
      omega
    have e := rg_keptN (X := X) (D := D) (K := i) (by omega)
    have ih := rg_W_dig_117 d k (i + 1) (dg h (D (64 + 2 * i) 1)) (by omega)
    have q : df (fun j => D (64 + 2 * j) 1) i (k + 1) h = df (fun j => D (64 + 2 * j) 1) (i + 1) k (dg h (D (64 + 2 * i) 1)) := rfl
    rw [q, ← ih, rf_e_W_digest_117, if_pos (by omega)]
    clear ih
    try simp only [rg_gR_0_2, Int.reduceToNat, rg_kIs, rg_kLs, rg_kRs, rg_kVs, rg_nns, rg_bs, cond_true, cond_false]
    rw [rg_W_pick_y (n := 3) d (rg_aL_3 X D) (by omega) e.2]
    try simp only [rg_row_gI e.1, rg_nzs, Int.reduceToNat, rg_kIs, rg_kLs, rg_kRs, rg_kVs, rg_nns, rg_bs, cond_true, cond_false, x2]
    try rfl
/-- the reference's heap while it reckons -/
def md (D : rf_D) (v : Int) (f : Nat → Int) : rf_D := rg_up (mtl v D) 88 f
theorem md_n {D : rf_D} {v : Int} {f : Nat → Int} {a : Nat} (h : a ≠ 77) (h2 : a ≠ 88) : md D v f a = D a := by
  unfold md mtl
  rw [rg_up_n h2, rg_up_n h]
theorem md_88 {D : rf_D} {v : Int} {f : Nat → Int} : md D v f 88 = f := rg_up_s _ _ _
theorem md_9 {D : rf_D} {v : Int} {f : Nat → Int} : md D v f 77 9 = v := by
  unfold md mtl
  rw [rg_up_n (by decide), rg_up_s, rg_ui_s]
theorem mtl_mtl {D : rf_D} {v w : Int} : mtl w (mtl v D) = mtl w D := by
  unfold mtl
  rw [rg_up_s, rg_up_u, rg_ui_u]
theorem md_u {D : rf_D} {v : Int} {f g : Nat → Int} : rg_up (md D v f) 88 g = md D v g := by
  unfold md
  rw [rg_up_u]
theorem md_t {D : rf_D} {v w : Int} {f : Nat → Int} : mtl w (md D v f) = md D w f := by
  unfold md
  rw [rg_mt88, mtl_mtl]
theorem mtl_i (D : rf_D) : mtl (D 77 9) D = D := by
  unfold mtl
  rw [rg_ui_i, rg_up_i]
theorem rg_M_dig_6 (h0 : 0 ≤ D 82 36) (h6 : D 82 36 ≤ 6) (d : Nat) (v : Int) : ∀ (k i : Nat) (h : Int) (f : Nat → Int), i + k = 8 → ∃ f', rf_j_M_digest_6 (d + 4) 77 h (i : Int) (hp X (md D v f)) = rf_j_M_digest_39 (d + 4) 77 (df (fun j => cn_v (D 82) (D 78) (D 80) (D 84) (j : Int)) i k h) v 0 (hp X (md D v f'))
  | 0, i, h, f, hk => by
    refine ⟨f, ?_⟩
    rw [rf_e_M_digest_6, if_neg (by omega), rg_gI_77]
    try simp only [Int.reduceToNat, rg_kIs, rg_kLs, rg_kRs, rg_kVs, rg_nns, rg_bs, cond_true, cond_false]
    rw [md_9]
    try rfl
  | k + 1, i, h, f, hk => by
    have x2 : rf_w ((i : Int) + 1) = ((i + 1 : Nat) : Int) := by
      rw [rg_w (by omega) (by omega)]
      omega
    have e82 : md D v f 82 = D 82 := md_n (by decide) (by decide)
    have e78 : md D v f 78 = D 78 := md_n (by decide) (by decide)
    have e80 : md D v f 80 = D 80 := md_n (by decide) (by decide)
    have e84 : md D v f 84 = D 84 := md_n (by decide) (by decide)
    have c := rg_M_co (X := X) (D := md D v f) (by rw [e82]; exact h0) (by rw [e82]; exact h6) d (w := (i : Int)) (by omega)
    rw [e82, e78, e80, e84, md_u] at c
    obtain ⟨f', r⟩ := rg_M_dig_6 h0 h6 d v k (i + 1) (dg h (cn_v (D 82) (D 78) (D 80) (D 84) (i : Int))) (sp_first (md D v f 88) (D 82) 37) (by omega)
    refine ⟨f', ?_⟩
    rw [rf_e_M_digest_6, if_pos (by omega)]
    try simp only [rg_hp1, rg_o_77, Int.reduceToNat, rg_kIs, rg_kLs, rg_kRs, rg_kVs, rg_nns, rg_bs, cond_true, cond_false]
    rw [c]
    try simp only [Int.reduceToNat, rg_kIs, rg_kLs, rg_kRs, rg_kVs, rg_nns, rg_bs, cond_true, cond_false, x2]
    exact r
theorem rg_M_dig_39 (h0 : 0 < D 82 0) (d : Nat) (u : Int) (f : Nat → Int) : ∀ (k i : Nat) (h : Int) (v : Int), i + k = 10 → ∃ v', rf_j_M_digest_39 (d + 2) 77 h u (i : Int) (hp X (md D v f)) = rf_j_M_digest_81 (d + 2) 77 (df (fun j => en_v (D 82) (j : Int)) i k h) u 0 (hp X (md D v' f))
  | 0, i, h, v, hk => by
    refine ⟨v, ?_⟩
    rw [rf_e_M_digest_39, if_neg (by omega)]
    try rfl
  | k + 1, i, h, v, hk => by
    have x2 : rf_w ((i : Int) + 1) = ((i + 1 : Nat) : Int) := by
      rw [rg_w (by omega) (by omega)]
      omega
    have e82 : md D v f 82 = D 82 := md_n (by decide) (by decide)
    have c := rg_M_enY (X := X) (D := md D v f) d (by rw [e82]; exact h0) (w := (i : Int)) (by omega) (by omega)
    rw [e82, md_t] at c
    obtain ⟨v', r⟩ := rg_M_dig_39 h0 d u f k (i + 1) (dg h (en_v (D 82) (i : Int))) (en_v (D 82) (i : Int)) (by omega)
    refine ⟨v', ?_⟩
    rw [rf_e_M_digest_39, if_pos (by omega)]
    try simp only [rg_hp1, rg_o_77, Int.reduceToNat, rg_kIs, rg_kLs, rg_kRs, rg_kVs, rg_nns, rg_bs, cond_true, cond_false]
    rw [rg_M_isTrain, e82, if_pos h0]
    try simp only [Int.reduceToNat, rg_kIs, rg_kLs, rg_kRs, rg_kVs, rg_nns, rg_bs, cond_true, cond_false]
    rw [if_neg (by decide)]
    try simp only [rg_hp1, rg_o_77, Int.reduceToNat, rg_kIs, rg_kLs, rg_kRs, rg_kVs, rg_nns, rg_bs, cond_true, cond_false]
    rw [c]
    try simp only [rg_gI_77, Int.reduceToNat, rg_kIs, rg_kLs, rg_kRs, rg_kVs, rg_nns, rg_bs, cond_true, cond_false, x2]
    rw [md_9]
    exact r
theorem rg_M_dig_96 (h6 : D 82 36 ≤ 6) (d : Nat) (u : Int) {n : Nat} (hn : (n : Int) < D 82 36) : ∀ (k i : Nat) (h : Int) (v : Int) (f : Nat → Int), i + k = 6 → ∃ v' f', rf_j_M_digest_96 (d + 5) 77 h u (n : Int) (i : Int) (hp X (md D v f)) = rf_j_M_digest_81 (d + 5) 77 (df (fun j => wf_v (D 82) (n : Int) (j : Int)) i k h) u (rf_w ((n : Int) + 1)) (hp X (md D v' f'))
  | 0, i, h, v, f, hk => by
    refine ⟨v, f, ?_⟩
    rw [rf_e_M_digest_96, if_neg (by omega)]
    try rfl
  | k + 1, i, h, v, f, hk => by
    have x2 : rf_w ((i : Int) + 1) = ((i + 1 : Nat) : Int) := by
      rw [rg_w (by omega) (by omega)]
      omega
    have e82 : md D v f 82 = D 82 := md_n (by decide) (by decide)
    have c := rg_M_wagY (X := X) (D := md D v f) d (by rw [e82]; exact h6) (n := n) (by rw [e82]; exact hn) (w := (i : Int)) (by omega) (by omega)
    rw [e82, md_u, md_t] at c
    obtain ⟨v', f', r⟩ := rg_M_dig_96 h6 d u hn k (i + 1) (dg h (wf_v (D 82) (n : Int) (i : Int))) (wf_v (D 82) (n : Int) (i : Int)) (sp_first (md D v f 88) (D 82) 37) (by omega)
    refine ⟨v', f', ?_⟩
    rw [rf_e_M_digest_96, if_pos (by omega)]
    try simp only [rg_hp1, rg_o_77, Int.reduceToNat, rg_kIs, rg_kLs, rg_kRs, rg_kVs, rg_nns, rg_bs, cond_true, cond_false]
    rw [c]
    try simp only [rg_gI_77, Int.reduceToNat, rg_kIs, rg_kLs, rg_kRs, rg_kVs, rg_nns, rg_bs, cond_true, cond_false, x2]
    rw [md_9]
    exact r
theorem rg_M_dig_81 (d : Nat) (u : Int) {N : Nat} (N6 : N ≤ 6) (hN : D 82 36 = (N : Int)) : ∀ (k i : Nat) (h : Int) (v : Int) (f : Nat → Int), i + k = N → ∃ f', rf_j_M_digest_81 (d + 5) 77 h u (i : Int) (hp X (md D v f)) = rf_j_M_digest_144 (d + 5) 77 (dw (D 82) i k h) 0 (hp X (md D u f'))
  | 0, i, h, v, f, hk => by
    have e82 : md D v f 82 = D 82 := md_n (by decide) (by decide)
    have e : rg_up (md D v f) 77 (rg_ui (md D v f 77) 9 u) = md D u f := md_t
    refine ⟨f, ?_⟩
    rw [rf_e_M_digest_81]
    try simp only [rg_gR_77_4, Int.reduceToNat, rg_kIs, rg_kLs, rg_kRs, rg_kVs, rg_nns, rg_bs, cond_true, cond_false]
    rw [rg_aI_82 (by decide) (by decide)]
    try simp only [Int.reduceToNat, rg_kIs, rg_kLs, rg_kRs, rg_kVs, rg_nns, rg_bs, cond_true, cond_false]
    rw [e82, hN, if_neg (by omega), rg_pI_77]
    try simp only [Int.reduceToNat, rg_kIs, rg_kLs, rg_kRs, rg_kVs, rg_nns, rg_bs, cond_true, cond_false]
    rw [e]
    try rfl
  | k + 1, i, h, v, f, hk => by
    have x2 : rf_w ((i : Int) + 1) = ((i + 1 : Nat) : Int) := by
      rw [rg_w (by omega) (by omega)]
      omega
    have e82 : md D v f 82 = D 82 := md_n (by decide) (by decide)
    obtain ⟨v1, f1, r1⟩ := rg_M_dig_96 (X := X) (D := D) (by omega) d u (n := i) (by omega) 6 0 h v f (by omega)
    obtain ⟨f', r⟩ := rg_M_dig_81 d u N6 hN k (i + 1) (df (fun j => wf_v (D 82) (i : Int) (j : Int)) 0 6 h) v1 f1 (by omega)
    rw [show ((0 : Nat) : Int) = 0 from rfl, x2] at r1
    refine ⟨f', ?_⟩
    rw [rf_e_M_digest_81]
    try simp only [rg_gR_77_4, Int.reduceToNat, rg_kIs, rg_kLs, rg_kRs, rg_kVs, rg_nns, rg_bs, cond_true, cond_false]
    rw [rg_aI_82 (by decide) (by decide)]
    try simp only [Int.reduceToNat, rg_kIs, rg_kLs, rg_kRs, rg_kVs, rg_nns, rg_bs, cond_true, cond_false]
    rw [e82, hN, if_pos (by omega), r1]
    exact r
theorem rg_M_dig_144 (d : Nat) : ∀ (k i : Nat) (h : Int), i + k = 3 → rf_j_M_digest_144 d 77 h (i : Int) (hp X D) = rf_j_M_digest_195 d 77 (df (fun j => if D 84 j = 0 then -1 else D 83 (638 * j + 37)) i k h) 0 (hp X D)
  | 0, i, h, hk => by
    rw [rf_e_M_digest_144, if_neg (by omega)]
    try rfl
  | k + 1, i, h, hk => by
    have x2 : rf_w ((i : Int) + 1) = ((i + 1 : Nat) : Int) := by
      rw [rg_w (by omega) (by omega)]
      omega
    have x3 : rf_w (rf_w (638 * (i : Int)) + 37) = ((638 * i + 37 : Nat) : Int) := by
      rw [rg_w (z := 638 * (i : Int)) (by omega) (by omega), rg_w (by omega) (by omega)]
      omega
    have ih := rg_M_dig_144 d k (i + 1) (dg h (if D 84 i = 0 then -1 else D 83 (638 * i + 37))) (by omega)
    have q : df (fun j => if D 84 j = 0 then -1 else D 83 (638 * j + 37)) i (k + 1) h = df (fun j => if D 84 j = 0 then -1 else D 83 (638 * j + 37)) (i + 1) k (dg h (if D 84 i = 0 then -1 else D 83 (638 * i + 37))) := rfl
    rw [q, ← ih, rf_e_M_digest_144, if_pos (by omega)]
    clear ih
    try simp only [rg_gR_77_6, Int.reduceToNat, rg_kIs, rg_kLs, rg_kRs, rg_kVs, rg_nns, rg_bs, cond_true, cond_false]
    rw [rg_aZ_84 (by omega) (by omega), rg_tN]
    try simp only [Int.reduceToNat, rg_kIs, rg_kLs, rg_kRs, rg_kVs, rg_nns, rg_bs, cond_true, cond_false]
    by_cases c : D 84 i = 0
    · rw [if_pos c, if_pos c, x2]
      try rfl
    · rw [if_neg c, if_neg c]
      try simp only [rg_gR_77_5, Int.reduceToNat, rg_kIs, rg_kLs, rg_kRs, rg_kVs, rg_nns, rg_bs, cond_true, cond_false, x2, x3]
      rw [rg_aI_83 (by omega) (by omega), rg_tN]
      try simp only [Int.reduceToNat, rg_kIs, rg_kLs, rg_kRs, rg_kVs, rg_nns, rg_bs, cond_true, cond_false]
      try rfl
theorem rg_M_dig_292 (d : Nat) {R z : Nat} (hR : R < 4) (hz : D 80 R = (z : Int)) (z40 : z ≤ 60) : ∀ (k j : Nat) (h : Int), j + k = z → rf_j_M_digest_292 d 77 h (R : Int) (j : Int) (hp X D) = rf_j_M_digest_268 d 77 (df (fun q => D 81 (60 * R + q)) j k h) (rf_w ((R : Int) + 1)) (hp X D)
  | 0, j, h, hk => by
    rw [rf_e_M_digest_292]
    try simp only [rg_gR_77_2, Int.reduceToNat, rg_kIs, rg_kLs, rg_kRs, rg_kVs, rg_nns, rg_bs, cond_true, cond_false]
    rw [rg_aI_80 (by omega) (by omega), rg_tN, hz]
    try simp only [Int.reduceToNat, rg_kIs, rg_kLs, rg_kRs, rg_kVs, rg_nns, rg_bs, cond_true, cond_false]
    rw [if_neg (by omega)]
    try rfl
  | k + 1, j, h, hk => by
    have x2 : rf_w ((j : Int) + 1) = ((j + 1 : Nat) : Int) := by
      rw [rg_w (by omega) (by omega)]
      omega
    have x3 : rf_w (rf_w (60 * (R : Int)) + (j : Int)) = ((60 * R + j : Nat) : Int) := by
      rw [rg_w (z := 60 * (R : Int)) (by omega) (by omega), rg_w (by omega) (by omega)]
      omega
    rw [rf_e_M_digest_292]
    try simp only [rg_gR_77_2, Int.reduceToNat, rg_kIs, rg_kLs, rg_kRs, rg_kVs, rg_nns, rg_bs, cond_true, cond_false]
    rw [rg_aI_80 (by omega) (by omega), rg_tN, hz]
    try simp only [Int.reduceToNat, rg_kIs, rg_kLs, rg_kRs, rg_kVs, rg_nns, rg_bs, cond_true, cond_false]
    rw [if_pos (by omega)]
    try simp only [rg_gR_77_3, Int.reduceToNat, rg_kIs, rg_kLs, rg_kRs, rg_kVs, rg_nns, rg_bs, cond_true, cond_false, x2, x3]
    rw [rg_aI_81 (by omega) (by omega), rg_tN]
    try simp only [Int.reduceToNat, rg_kIs, rg_kLs, rg_kRs, rg_kVs, rg_nns, rg_bs, cond_true, cond_false]
    exact rg_M_dig_292 d hR hz z40 k (j + 1) _ (by omega)
theorem rg_M_dig_268 (d : Nat) (hs : ∀ i, i < 4 → -1 ≤ D 80 i ∧ D 80 i ≤ 60) : ∀ (k i : Nat) (h : Int), i + k = 4 → rf_j_M_digest_268 d 77 h (i : Int) (hp X D) = some (some (.inr (.inl (dr (D 80) (fun i q => D 81 (60 * i + q)) i k h))), hp X D)
  | 0, i, h, hk => by
    rw [rf_e_M_digest_268, if_neg (by omega)]
    try rfl
  | k + 1, i, h, hk => by
    have x2 : rf_w ((i : Int) + 1) = ((i + 1 : Nat) : Int) := by
      rw [rg_w (by omega) (by omega)]
      omega
    obtain ⟨s1, s2⟩ := hs i (by omega)
    have ih := fun g => rg_M_dig_268 d hs k (i + 1) g (by omega)
    have e : dr (D 80) (fun i q => D 81 (60 * i + q)) i (k + 1) h = dr (D 80) (fun i q => D 81 (60 * i + q)) (i + 1) k (df (fun q => D 81 (60 * i + q)) 0 (D 80 i).toNat (dg h (D 80 i))) := rfl
    rw [e, ← ih, rf_e_M_digest_268, if_pos (by omega)]
    clear ih
    try simp only [rg_gR_77_2, Int.reduceToNat, rg_kIs, rg_kLs, rg_kRs, rg_kVs, rg_nns, rg_bs, cond_true, cond_false]
    rw [rg_aI_80 (by omega) (by omega), rg_tN]
    try simp only [Int.reduceToNat, rg_kIs, rg_kLs, rg_kRs, rg_kVs, rg_nns, rg_bs, cond_true, cond_false]
    show rf_j_M_digest_292 d 77 (dg h (D 80 i)) (i : Int) 0 (hp X D) = _
    by_cases c : D 80 i < 0
    · rw [show (D 80 i).toNat = 0 by omega, rf_e_M_digest_292]
      try simp only [rg_gR_77_2, Int.reduceToNat, rg_kIs, rg_kLs, rg_kRs, rg_kVs, rg_nns, rg_bs, cond_true, cond_false]
      rw [rg_aI_80 (by omega) (by omega), rg_tN]
      try simp only [Int.reduceToNat, rg_kIs, rg_kLs, rg_kRs, rg_kVs, rg_nns, rg_bs, cond_true, cond_false]
      rw [if_neg (by omega), x2]
      try rfl
    · have l := rg_M_dig_292 (X := X) (D := D) d (R := i) (z := (D 80 i).toNat) (by omega) (by omega) (by omega) (D 80 i).toNat 0 (dg h (D 80 i)) (by omega)
      rw [show ((0 : Nat) : Int) = 0 from rfl, x2] at l
      exact l
theorem rg_M_dig_220 (d : Nat) {R z : Nat} (hR : R < 6) (hz : D 78 R = (z : Int)) (z40 : z ≤ 40) : ∀ (k j : Nat) (h : Int), j + k = z → rf_j_M_digest_220 d 77 h (R : Int) (j : Int) (hp X D) = rf_j_M_digest_195 d 77 (df (fun q => D 79 (40 * R + q)) j k h) (rf_w ((R : Int) + 1)) (hp X D)
  | 0, j, h, hk => by
    rw [rf_e_M_digest_220]
    try simp only [rg_gR_77_0, Int.reduceToNat, rg_kIs, rg_kLs, rg_kRs, rg_kVs, rg_nns, rg_bs, cond_true, cond_false]
    rw [rg_aI_78 (by omega) (by omega), rg_tN, hz]
    try simp only [Int.reduceToNat, rg_kIs, rg_kLs, rg_kRs, rg_kVs, rg_nns, rg_bs, cond_true, cond_false]
    rw [if_neg (by omega)]
    try rfl
  | k + 1, j, h, hk => by
    have x2 : rf_w ((j : Int) + 1) = ((j + 1 : Nat) : Int) := by
      rw [rg_w (by omega) (by omega)]
      omega
    have x3 : rf_w (rf_w (40 * (R : Int)) + (j : Int)) = ((40 * R + j : Nat) : Int) := by
      rw [rg_w (z := 40 * (R : Int)) (by omega) (by omega), rg_w (by omega) (by omega)]
      omega
    rw [rf_e_M_digest_220]
    try simp only [rg_gR_77_0, Int.reduceToNat, rg_kIs, rg_kLs, rg_kRs, rg_kVs, rg_nns, rg_bs, cond_true, cond_false]
    rw [rg_aI_78 (by omega) (by omega), rg_tN, hz]
    try simp only [Int.reduceToNat, rg_kIs, rg_kLs, rg_kRs, rg_kVs, rg_nns, rg_bs, cond_true, cond_false]
    rw [if_pos (by omega)]
    try simp only [rg_gR_77_1, Int.reduceToNat, rg_kIs, rg_kLs, rg_kRs, rg_kVs, rg_nns, rg_bs, cond_true, cond_false, x2, x3]
    rw [rg_aI_79 (by omega) (by omega), rg_tN]
    try simp only [Int.reduceToNat, rg_kIs, rg_kLs, rg_kRs, rg_kVs, rg_nns, rg_bs, cond_true, cond_false]
    exact rg_M_dig_220 d hR hz z40 k (j + 1) _ (by omega)
theorem rg_M_dig_195 (d : Nat) (hs : ∀ i, i < 6 → -1 ≤ D 78 i ∧ D 78 i ≤ 40) : ∀ (k i : Nat) (h : Int), i + k = 6 → rf_j_M_digest_195 d 77 h (i : Int) (hp X D) = rf_j_M_digest_268 d 77 (dr (D 78) (fun i q => D 79 (40 * i + q)) i k h) 0 (hp X D)
  | 0, i, h, hk => by
    rw [rf_e_M_digest_195, if_neg (by omega)]
    try rfl
  | k + 1, i, h, hk => by
    have x2 : rf_w ((i : Int) + 1) = ((i + 1 : Nat) : Int) := by
      rw [rg_w (by omega) (by omega)]
      omega
    obtain ⟨s1, s2⟩ := hs i (by omega)
    have ih := fun g => rg_M_dig_195 d hs k (i + 1) g (by omega)
    have e : dr (D 78) (fun i q => D 79 (40 * i + q)) i (k + 1) h = dr (D 78) (fun i q => D 79 (40 * i + q)) (i + 1) k (df (fun q => D 79 (40 * i + q)) 0 (D 78 i).toNat (dg h (D 78 i))) := rfl
    rw [e, ← ih, rf_e_M_digest_195, if_pos (by omega)]
    clear ih
    try simp only [rg_gR_77_0, Int.reduceToNat, rg_kIs, rg_kLs, rg_kRs, rg_kVs, rg_nns, rg_bs, cond_true, cond_false]
    rw [rg_aI_78 (by omega) (by omega), rg_tN]
    try simp only [Int.reduceToNat, rg_kIs, rg_kLs, rg_kRs, rg_kVs, rg_nns, rg_bs, cond_true, cond_false]
    show rf_j_M_digest_220 d 77 (dg h (D 78 i)) (i : Int) 0 (hp X D) = _
    by_cases c : D 78 i < 0
    · rw [show (D 78 i).toNat = 0 by omega, rf_e_M_digest_220]
      try simp only [rg_gR_77_0, Int.reduceToNat, rg_kIs, rg_kLs, rg_kRs, rg_kVs, rg_nns, rg_bs, cond_true, cond_false]
      rw [rg_aI_78 (by omega) (by omega), rg_tN]
      try simp only [Int.reduceToNat, rg_kIs, rg_kLs, rg_kRs, rg_kVs, rg_nns, rg_bs, cond_true, cond_false]
      rw [if_neg (by omega), x2]
      try rfl
    · have l := rg_M_dig_220 (X := X) (D := D) d (R := i) (z := (D 78 i).toNat) (by omega) (by omega) (by omega) (D 78 i).toNat 0 (dg h (D 78 i)) (by omega)
      rw [show ((0 : Nat) : Int) = 0 from rfl, x2] at l
      exact l
theorem st_digest (hI : Inv D) (d : Nat) : AgL X D (d + 9) 113 196 [] := by
  unfold AgL
  have hw := hI.2.2.2.2.wag
  obtain ⟨N, hN⟩ := Int.eq_ofNat_of_zero_le hw.2.1
  have N6 : N ≤ 6 := by omega
  have b1 := hI.1
  have b2 := hI.2.1
  have i5 := hI.2.2.2.2
  obtain ⟨f1, r1⟩ := rg_M_dig_6 (X := X) (D := D) hw.2.1 hw.2.2 (d + 4) (D 77 9) 8 0 17 (D 88) (by omega)
  rw [show ((0 : Nat) : Int) = 0 from rfl] at r1
  have w1 := rg_W_dig_6 (X := X) hI d 8 0 17 (by omega)
  rw [show ((0 : Nat) : Int) = 0 from rfl] at w1
  generalize df (fun j => cn_v (D 82) (D 78) (D 80) (D 84) (j : Int)) 0 8 17 = h1 at r1 w1
  obtain ⟨h2, f2, w2, r2⟩ : ∃ h2 f2, rf_j_W_digest_33 (d + 8) 0 h1 0 (hp X D) = rf_j_W_digest_117 (d + 8) 0 h2 0 (hp X D) ∧ rf_j_M_digest_39 (d + 4 + 4) 77 h1 (D 77 9) 0 (hp X (md D (D 77 9) f1)) = rf_j_M_digest_144 (d + 8) 77 h2 0 (hp X (md D (D 77 9) f2)) := by
    rcases i5 with ⟨h12, hNo⟩ | ⟨h12, hY⟩
    · have z36 := hNo.1 36 (by decide)
      have e82 : md D (D 77 9) f1 82 = D 82 := md_n (by decide) (by decide)
      obtain ⟨f', r⟩ := rg_M_dig_81 (X := X) (D := D) (d + 3) (D 77 9) (N := 0) (by decide) z36 0 0 h1 (D 77 9) f1 (by omega)
      rw [show ((0 : Nat) : Int) = 0 from rfl] at r
      refine ⟨h1, f', ?_, ?_⟩
      · rw [rf_e_W_digest_33]
        try simp only [rg_gI_0, Int.reduceToNat, rg_kIs, rg_kLs, rg_kRs, rg_kVs, rg_nns, rg_bs, cond_true, cond_false]
        rw [if_pos h12, rf_e_W_digest_67]
        try simp only [rg_gR_0_10, rg_T_gI rg_tr_43, Int.reduceToNat, rg_kIs, rg_kLs, rg_kRs, rg_kVs, rg_nns, rg_bs, cond_true, cond_false]
        rw [hw.1, z36, if_neg (by decide)]
      · rw [rf_e_M_digest_39, if_pos (by decide)]
        try simp only [rg_hp1, rg_o_77, Int.reduceToNat, rg_kIs, rg_kLs, rg_kRs, rg_kVs, rg_nns, rg_bs, cond_true, cond_false]
        rw [rg_M_isTrain, e82, hNo.1 0 (by decide)]
        try simp only [Int.reduceToNat, rg_kIs, rg_kLs, rg_kRs, rg_kVs, rg_nns, rg_bs, cond_true, cond_false]
        rw [if_pos (by decide)]
        exact r
    · obtain ⟨hd, hC, ha, hb, hT, ⟨m, h4, hDE, hL⟩, -⟩ := hY
      have st := hL.st hDE.1 ha hb hC.2.2.2.1
      have h0 : 0 < D 82 0 := by
        have := hd.1.1
        omega
      have w3 := rg_W_dig_33 (X := X) (D := D) h12 (s := D 82) (fun d w => rg_W_ef hC hT st.1.2.2.2.1 st.1.2.2.2.2.1 d w) (d + 7) 10 0 h1 (by omega)
      obtain ⟨v3, r3⟩ := rg_M_dig_39 (X := X) (D := D) h0 (d + 6) (D 77 9) f1 10 0 h1 (D 77 9) (by omega)
      rw [show ((0 : Nat) : Int) = 0 from rfl] at w3 r3
      generalize df (fun j => en_v (D 82) (j : Int)) 0 10 h1 = h3 at w3 r3
      have w4 := rg_W_dig_67 (X := X) (D := D) (s := D 82) (d + 4) N6 (by rw [hw.1, hN]) (fun n hn w => rg_W_wf hC hd hT st.1.2.2.2.2.1 (d + 4) (n := n) (by omega) w) N 0 h3 (by omega)
      obtain ⟨f4, r4⟩ := rg_M_dig_81 (X := X) (D := D) (d + 3) (D 77 9) N6 hN N 0 h3 v3 f1 (by omega)
      rw [show ((0 : Nat) : Int) = 0 from rfl] at w4 r4
      exact ⟨dw (D 82) 0 N h3, f4, w3.trans w4, r3.trans r4⟩
  have w5 := rg_W_dig_117 (X := X) (D := D) (d + 7) 3 0 h2 (by omega)
  have r5 := rg_M_dig_144 (X := X) (D := md D (D 77 9) f2) (d + 8) 3 0 h2 (by omega)
  rw [show ((0 : Nat) : Int) = 0 from rfl] at w5 r5
  have mn : ∀ a, a ≠ 77 → a ≠ 88 → md D (D 77 9) f2 a = D a := fun a y1 y2 => md_n y1 y2
  have e5 : df (fun j => if md D (D 77 9) f2 84 j = 0 then -1 else md D (D 77 9) f2 83 (638 * j + 37)) 0 3 h2 = df (fun j => D (64 + 2 * j) 1) 0 3 h2 := by
    refine df_of 3 0 h2 fun j _ hj => ?_
    rw [mn 84 (by decide) (by decide), mn 83 (by decide) (by decide)]
    rcases i5.kept (k := j) (by omega) with ⟨y1, y2⟩ | ⟨y1, y2, y3⟩
    · rw [y1, if_pos (by decide), y2]
    · rw [y1, if_neg (by decide), y3]
  rw [e5] at r5
  generalize df (fun j => D (64 + 2 * j) 1) 0 3 h2 = h3 at w5 r5
  have w6 := rg_W_do (X := X) (D := D) (d + 6) (a := 1) (b := 44) (n := 6) (m := 40) (by decide) (by decide) (rg_aL_1 X D) (fun i hi => rg_rowN hi) (fun i hi => ⟨(b1 i hi).2.1, (b1 i hi).2.2.1⟩) h3
  have r6 := rg_M_dig_195 (X := X) (D := md D (D 77 9) f2) (d + 8) (fun i hi => by rw [mn 78 (by decide) (by decide), (b1 i hi).1]; exact ⟨(b1 i hi).2.1, (b1 i hi).2.2.1⟩) 6 0 h3 (by omega)
  have e6 : dr (md D (D 77 9) f2 78) (fun i q => md D (D 77 9) f2 79 (40 * i + q)) 0 6 h3 = dr (fun i => D (44 + 2 * i) 1) (fun i => D (44 + 2 * i + 1)) 0 6 h3 := by
    refine dr_of 6 0 h3 fun j _ hj => ?_
    rw [mn 78 (by decide) (by decide), mn 79 (by decide) (by decide)]
    have b := b1 j (by omega)
    exact ⟨b.1, fun q hq => (b.2.2.2 q (by omega)).1⟩
  rw [show ((0 : Nat) : Int) = 0 from rfl, e6] at r6
  generalize dr (fun i => D (44 + 2 * i) 1) (fun i => D (44 + 2 * i + 1)) 0 6 h3 = h4 at w6 r6
  have w7 := rg_W_do (X := X) (D := D) (d + 6) (a := 2) (b := 56) (n := 4) (m := 60) (by decide) (by decide) (rg_aL_2 X D) (fun i hi => rg_textN hi) (fun i hi => ⟨(b2 i hi).2.1, (b2 i hi).2.2.1⟩) h4
  have r7 := rg_M_dig_268 (X := X) (D := md D (D 77 9) f2) (d + 8) (fun i hi => by rw [mn 80 (by decide) (by decide), (b2 i hi).1]; exact ⟨(b2 i hi).2.1, (b2 i hi).2.2.1⟩) 4 0 h4 (by omega)
  have e7 : dr (md D (D 77 9) f2 80) (fun i q => md D (D 77 9) f2 81 (60 * i + q)) 0 4 h4 = dr (fun i => D (56 + 2 * i) 1) (fun i => D (56 + 2 * i + 1)) 0 4 h4 := by
    refine dr_of 4 0 h4 fun j _ hj => ?_
    rw [mn 80 (by decide) (by decide), mn 81 (by decide) (by decide)]
    have b := b2 j (by omega)
    exact ⟨b.1, fun q hq => (b.2.2.2 q (by omega)).1⟩
  rw [show ((0 : Nat) : Int) = 0 from rfl, e7] at r7
  generalize dr (fun i => D (56 + 2 * i) 1) (fun i => D (56 + 2 * i + 1)) 0 4 h4 = h5 at w7 r7
  have eD : md D (D 77 9) f2 = rg_up D 88 f2 := by
    unfold md
    rw [mtl_i]
  have e0 : md D (D 77 9) (D 88) = D := by
    unfold md
    rw [mtl_i, rg_up_i]
  rw [e0] at r1
  refine ⟨h5, D, md D (D 77 9) f2, ?_, ?_, by rw [eD]; exact hI.s88 f2⟩
  · rw [rf_e_W_digest]
    refine w1.trans (w2.trans (w5.trans ?_))
    rw [rf_e_W_digest_117, if_neg (by decide)]
    try simp only [rg_gR_0_0, rg_gR_0_1, Int.reduceToNat, rg_kIs, rg_kLs, rg_kRs, rg_kVs, rg_nns, rg_bs, cond_true, cond_false]
    rw [w6]
    try simp only [rg_gR_0_0, rg_gR_0_1, Int.reduceToNat, rg_kIs, rg_kLs, rg_kRs, rg_kVs, rg_nns, rg_bs, cond_true, cond_false]
    rw [w7]
    try simp only [Int.reduceToNat, rg_kIs, rg_kLs, rg_kRs, rg_kVs, rg_nns, rg_bs, cond_true, cond_false]
  · rw [rf_e_M_digest]
    exact r1.trans (r2.trans (r5.trans (r6.trans r7)))
end RGS21
