/-! count -/
def th_v (p : Nat → Bool) : Nat → Int
  | 0 => 0
  | k + 1 => if p k = true then rf_w (th_v p k + 1) else rf_w (th_v p k + 0)
theorem th_b (p : Nat → Bool) : ∀ {k : Nat}, k ≤ 1000 → 0 ≤ th_v p k ∧ th_v p k ≤ (k : Int)
  | 0, _ => ⟨Int.le_refl _, Int.le_refl _⟩
  | k + 1, h => by
    have ih := th_b p (k := k) (by omega)
    have e : th_v p (k + 1) = (if p k = true then rf_w (th_v p k + 1) else rf_w (th_v p k + 0)) := rfl
    rw [e]
    by_cases a : p k = true
    · rw [if_pos a, rg_w (by omega) (by omega)]
      omega
    · rw [if_neg a, rg_w (by omega) (by omega)]
      omega
theorem th_of {p q : Nat → Bool} : ∀ {n : Nat}, (∀ k, k < n → p k = q k) → th_v p n = th_v q n
  | 0, _ => rfl
  | n + 1, h => by
    show (if p n = true then rf_w (th_v p n + 1) else rf_w (th_v p n + 0)) = (if q n = true then rf_w (th_v q n + 1) else rf_w (th_v q n + 0))
    rw [th_of fun k hk => h k (by omega), h n (by omega)]
theorem th_z {p : Nat → Bool} {n : Nat} (hn : n ≤ 900) (h : p n = false) : th_v p (n + 1) = th_v p n := by
  have b := th_b p (k := n) (by omega)
  show (if p n = true then rf_w (th_v p n + 1) else rf_w (th_v p n + 0)) = th_v p n
  rw [if_neg (by rw [h]; decide), rg_w (by omega) (by omega)]
  omega
def th_p (S L K : Nat → Int) (w : Int) (k : Nat) : Bool := if w = 5 then decide (0 ≤ S k) else if w = 6 then decide (k < 4 ∧ 0 ≤ L k) else if w = 7 then decide (k < 3 ∧ K k ≠ 0) else false
def cn_v (A S L K : Nat → Int) (w : Int) : Int := if w = 0 then A 36 else if w = 1 then A 2 else if w = 2 then A 37 else if w = 3 then sp_load A (A 36).toNat else if w = 4 then mn_v A 1 (A 36).toNat else th_v (th_p S L K w) 6
section RGS20
variable {X : rf_X} {D : rf_D}
theorem rg_W_there_10 (d : Nat) {a b n m : Nat} (n1 : n ≤ 100) (hrow : ∀ i, i < n → rg_row (b + 2 * i) m ∧ rf_aR (hp X D) a (i : Int) = some (some (b + 2 * i))) : ∀ (k i : Nat), i + k = n → rf_j_W_countThere_10 (d + 1) (th_v (fun k => decide (0 ≤ D (b + 2 * k) 1)) i) (some a) (n : Int) (i : Int) (hp X D) = some (some (.inl (th_v (fun k => decide (0 ≤ D (b + 2 * k) 1)) n)), hp X D)
  | 0, i, hk => by
    rw [rf_e_W_countThere_10, if_neg (by omega), show i = n by omega]
  | k + 1, i, hk => by
    have x2 : rf_w ((i : Int) + 1) = ((i + 1 : Nat) : Int) := by
      rw [rg_w (by omega) (by omega)]
      omega
    obtain ⟨r1, r2⟩ := hrow i (by omega)
    have ih := rg_W_there_10 d n1 hrow k (i + 1) (by omega)
    have e : th_v (fun k => decide (0 ≤ D (b + 2 * k) 1)) (i + 1) = (if decide (0 ≤ D (b + 2 * i) 1) = true then rf_w (th_v (fun k => decide (0 ≤ D (b + 2 * k) 1)) i + 1) else rf_w (th_v (fun k => decide (0 ≤ D (b + 2 * k) 1)) i + 0)) := rfl
    rw [e] at ih
    rw [rf_e_W_countThere_10, if_pos (by omega)]
    try simp only [Int.reduceToNat, rg_kIs, rg_kLs, rg_kRs, rg_kVs, rg_nns, rg_bs, cond_true, cond_false]
    rw [r2]
    try simp only [rg_hp1, rg_row_o r1, rg_nzs, Int.reduceToNat, rg_kIs, rg_kLs, rg_kRs, rg_kVs, rg_nns, rg_bs, cond_true, cond_false]
    rw [rg_R_isThere r1]
    try simp only [Int.reduceToNat, rg_kIs, rg_kLs, rg_kRs, rg_kVs, rg_nns, rg_bs, cond_true, cond_false, x2]
    by_cases c : D (b + 2 * i) 1 < 0
    · rw [if_neg (by rw [decide_eq_true_eq]; omega)] at ih
      rw [if_pos c, if_pos (by decide)]
      exact ih
    · rw [if_pos (by rw [decide_eq_true_eq]; omega)] at ih
      rw [if_neg c, if_neg (by decide)]
      exact ih
theorem rg_W_there (d : Nat) {a b n m : Nat} (n1 : n ≤ 100) (hL : rf_aL (hp X D) a = some (n : Int)) (hrow : ∀ i, i < n → rg_row (b + 2 * i) m ∧ rf_aR (hp X D) a (i : Int) = some (some (b + 2 * i))) : rf_call (d + 2) 110 [.inr (.inr (some a))] (hp X D) = some (some (.inl (th_v (fun k => decide (0 ≤ D (b + 2 * k) 1)) n)), hp X D) := by
  rw [rf_e_W_countThere]
  try simp only [Int.reduceToNat, rg_kIs, rg_kLs, rg_kRs, rg_kVs, rg_nns, rg_bs, cond_true, cond_false]
  rw [hL]
  try simp only [Int.reduceToNat, rg_kIs, rg_kLs, rg_kRs, rg_kVs, rg_nns, rg_bs, cond_true, cond_false]
  exact rg_W_there_10 d n1 hrow n 0 (by omega)
theorem ITr.kept (h : ITr D) {k : Nat} (hk : k < 3) : (D 84 k = 0 ∧ D (64 + 2 * k) 1 = -1) ∨ (D 84 k = 1 ∧ 0 ≤ D (64 + 2 * k) 1 ∧ D (64 + 2 * k) 1 = D 83 (638 * k + 37)) := by
  rcases h with ⟨-, hN⟩ | ⟨-, hY⟩
  · exact Or.inl (hN.2.2.2.2.2.2 k hk)
  · rcases hY.2.2.2.2.2.2 k hk with z | ⟨z, m, h1, h2, h3, h4⟩
    · exact Or.inl z
    · exact Or.inr ⟨z, by omega, by rw [h1]; exact h4.1.symm⟩
theorem rg_W_cf (hI : Inv D) (d : Nat) {w : Int} (w0 : 0 ≤ w) (w7 : w ≤ 7) : rf_call (d + 8) 109 [.inr (.inr (some 0)), .inl w] (hp X D) = some (some (.inl (cn_v (D 82) (D 78) (D 80) (D 84) w)), hp X D) := by
  obtain ⟨i1, i2, i3, i4, i5⟩ := hI
  have hw := i5.wag
  obtain ⟨m, m1, m2, m3⟩ := i5.deeds
  rw [rf_e_W_countFact]
  unfold cn_v
  by_cases a0 : w = 0
  · rw [if_pos a0, if_pos a0]
    try simp only [rg_gR_0_10, rg_T_gI rg_tr_43, Int.reduceToNat, rg_kIs, rg_kLs, rg_kRs, rg_kVs, rg_nns, rg_bs, cond_true, cond_false]
    rw [hw.1]
  · rw [if_neg a0, if_neg a0]
    by_cases a1 : w = 1
    · rw [if_pos (show w = 0 + 1 from a1), if_pos a1]
      try simp only [rg_gR_0_9, rg_gR_28_0, rg_row_gI rg_row_29, Int.reduceToNat, rg_kIs, rg_kLs, rg_kRs, rg_kVs, rg_nns, rg_bs, cond_true, cond_false]
      rcases i5 with ⟨-, hN⟩ | ⟨-, hY⟩
      · rw [hN.2.2.2.2.1.1, hN.1 2 (by decide)]
      · rw [show D 29 1 = D 82 2 from hY.2.1.1.2.2]
    · rw [if_neg (show ¬ w = 0 + 1 from a1), if_neg a1]
      by_cases a2 : w = 2
      · rw [if_pos (show w = 0 + 1 + 1 from a2), if_pos a2]
        try simp only [rg_gR_0_3, rg_row_gI rg_row_4, Int.reduceToNat, rg_kIs, rg_kLs, rg_kRs, rg_kVs, rg_nns, rg_bs, cond_true, cond_false]
        rw [m1, m2]
      · rw [if_neg (show ¬ w = 0 + 1 + 1 from a2), if_neg a2]
        by_cases a3 : w = 3
        · rw [if_pos (show w = 0 + 1 + 1 + 1 from a3), if_pos a3]
          try simp only [rg_gR_0_10, rg_T_gI rg_tr_43, rg_hp1, rg_tr_43.1, Int.reduceToNat, rg_kIs, rg_kLs, rg_kRs, rg_kVs, rg_nns, rg_bs, cond_true, cond_false]
          rw [hw.1, rg_T_load d i5 hw.2.1 (Int.le_refl _)]
          try simp only [Int.reduceToNat, rg_kIs, rg_kLs, rg_kRs, rg_kVs, rg_nns, rg_bs, cond_true, cond_false]
        · rw [if_neg (show ¬ w = 0 + 1 + 1 + 1 from a3), if_neg a3]
          by_cases a4 : w = 4
          · rw [if_pos (show w = 0 + 1 + 1 + 1 + 1 from a4), if_pos a4]
            try simp only [rg_gR_0_9, rg_gR_0_10, rg_T_gI rg_tr_43, rg_hp1, rg_con_28.1, Int.reduceToNat, rg_kIs, rg_kLs, rg_kRs, rg_kVs, rg_nns, rg_bs, cond_true, cond_false]
            rw [hw.1]
            rcases i5 with ⟨-, hN⟩ | ⟨-, hY⟩
            · have z := hN.1 36 (by decide)
              rw [z, rf_e_C_manyOf, rf_e_C_manyOf_5, if_neg (by decide)]
              try simp only [Int.reduceToNat, rg_kIs, rg_kLs, rg_kRs, rg_kVs, rg_nns, rg_bs, cond_true, cond_false]
              try rfl
            · obtain ⟨hd, hC, ha, hb, hT, ⟨m', h4, hDE, hL⟩, -⟩ := hY
              have st := hL.st hDE.1 ha hb hC.2.2.2.1
              obtain ⟨N, hN⟩ := Int.eq_ofNat_of_zero_le hw.2.1
              rw [hN, rg_C_many hC hd (d + 4) 1 (N := N) (by omega), rg_tN]
              try simp only [Int.reduceToNat, rg_kIs, rg_kLs, rg_kRs, rg_kVs, rg_nns, rg_bs, cond_true, cond_false]
          · rw [if_neg (show ¬ w = 0 + 1 + 1 + 1 + 1 from a4), if_neg a4]
            by_cases a5 : w = 5
            · rw [if_pos (show w = 0 + 1 + 1 + 1 + 1 + 1 from a5)]
              try simp only [rg_gR_0_0, Int.reduceToNat, rg_kIs, rg_kLs, rg_kRs, rg_kVs, rg_nns, rg_bs, cond_true, cond_false]
              rw [rg_W_there (d + 5) (b := 44) (n := 6) (by decide) (rg_aL_1 X D) (fun i hi => rg_rowN hi)]
              try simp only [Int.reduceToNat, rg_kIs, rg_kLs, rg_kRs, rg_kVs, rg_nns, rg_bs, cond_true, cond_false]
              rw [th_of (q := th_p (D 78) (D 80) (D 84) w) fun k hk => ?_]
              unfold th_p
              rw [if_pos a5, (i1 k hk).1]
            · rw [if_neg (show ¬ w = 0 + 1 + 1 + 1 + 1 + 1 from a5)]
              by_cases a6 : w = 6
              · rw [if_pos (show w = 0 + 1 + 1 + 1 + 1 + 1 + 1 from a6)]
                try simp only [rg_gR_0_1, Int.reduceToNat, rg_kIs, rg_kLs, rg_kRs, rg_kVs, rg_nns, rg_bs, cond_true, cond_false]
                rw [rg_W_there (d + 5) (b := 56) (n := 4) (by decide) (rg_aL_2 X D) (fun i hi => rg_textN hi)]
                try simp only [Int.reduceToNat, rg_kIs, rg_kLs, rg_kRs, rg_kVs, rg_nns, rg_bs, cond_true, cond_false]
                have f : ∀ k, ¬ k < 4 → th_p (D 78) (D 80) (D 84) w k = false := fun k hk => by
                  unfold th_p
                  rw [if_neg a5, if_pos a6]
                  exact decide_eq_false fun q => hk q.1
                rw [th_z (p := th_p (D 78) (D 80) (D 84) w) (n := 5) (by decide) (f 5 (by decide)), th_z (n := 4) (by decide) (f 4 (by decide)), th_of (q := th_p (D 78) (D 80) (D 84) w) fun k hk => ?_]
                unfold th_p
                rw [if_neg a5, if_pos a6, (i2 k hk).1]
                exact decide_eq_decide.2 ⟨fun q => ⟨hk, q⟩, fun q => q.2⟩
              · rw [if_neg (show ¬ w = 0 + 1 + 1 + 1 + 1 + 1 + 1 from a6)]
                have a7 : w = 7 := by omega
                try simp only [rg_gR_0_2, Int.reduceToNat, rg_kIs, rg_kLs, rg_kRs, rg_kVs, rg_nns, rg_bs, cond_true, cond_false]
                rw [rg_W_there (d + 5) (b := 64) (n := 3) (by decide) (rg_aL_3 X D) (fun i hi => rg_keptN hi)]
                try simp only [Int.reduceToNat, rg_kIs, rg_kLs, rg_kRs, rg_kVs, rg_nns, rg_bs, cond_true, cond_false]
                have f : ∀ k, ¬ k < 3 → th_p (D 78) (D 80) (D 84) w k = false := fun k hk => by
                  unfold th_p
                  rw [if_neg a5, if_neg a6, if_pos a7]
                  exact decide_eq_false fun q => hk q.1
                rw [th_z (p := th_p (D 78) (D 80) (D 84) w) (n := 5) (by decide) (f 5 (by decide)), th_z (n := 4) (by decide) (f 4 (by decide)), th_z (n := 3) (by decide) (f 3 (by decide)), th_of (q := th_p (D 78) (D 80) (D 84) w) fun k hk => ?_]
                unfold th_p
                rw [if_neg a5, if_neg a6, if_pos a7]
                refine decide_eq_decide.2 ?_
                rcases i5.kept hk with ⟨y1, y2⟩ | ⟨y1, y2, -⟩
                · rw [y1, y2]
                  exact ⟨fun q => absurd q (by decide), fun q => absurd rfl q.2⟩
                · rw [y1]
                  exact ⟨fun _ => ⟨hk, by decide⟩, fun _ => y2⟩
theorem rg_M_co_8 (hu : 0 ≤ D 88 36) (hu6 : D 88 36 ≤ 6) (d : Nat) (w : Int) {N : Nat} (hN : D 88 36 = (N : Int)) : ∀ (k i : Nat), i + k = N → rf_j_M_countOf_8 (d + 1) 77 w (mn_v (D 88) 1 i) (i : Int) (hp X D) = rf_j_M_countOf_56 (d + 1) 77 w (mn_v (D 88) 1 N) 0 0 (hp X D)
  | 0, i, hk => by
    rw [rf_e_M_countOf_8]
    try simp only [rg_gR_77_17, Int.reduceToNat, rg_kIs, rg_kLs, rg_kRs, rg_kVs, rg_nns, rg_bs, cond_true, cond_false]
    rw [rg_aI_88 (by decide) (by decide)]
    try simp only [Int.reduceToNat, rg_kIs, rg_kLs, rg_kRs, rg_kVs, rg_nns, rg_bs, cond_true, cond_false]
    rw [if_neg (by omega), show i = N by omega]
  | k + 1, i, hk => by
    have x2 : rf_w ((i : Int) + 1) = ((i + 1 : Nat) : Int) := by
      rw [rg_w (by omega) (by omega)]
      omega
    have ih := rg_M_co_8 hu hu6 d w hN k (i + 1) (by omega)
    have e : mn_v (D 88) 1 (i + 1) = (if sp_kind (D 88) (i : Int) = 1 ∨ ((1 : Int) = 1 ∧ sp_kind (D 88) (i : Int) = 4) ∨ ((1 : Int) = 2 ∧ sp_kind (D 88) (i : Int) = 5) then rf_w (mn_v (D 88) 1 i + 1) else rf_w (mn_v (D 88) 1 i + 0)) := rfl
    rw [e] at ih
    have kd := rg_M_kind (X := X) (D := D) d (i := (i : Int)) (by omega) (by omega)
    rw [rf_e_M_countOf_8]
    try simp only [rg_gR_77_17, Int.reduceToNat, rg_kIs, rg_kLs, rg_kRs, rg_kVs, rg_nns, rg_bs, cond_true, cond_false]
    rw [rg_aI_88 (by decide) (by decide)]
    try simp only [Int.reduceToNat, rg_kIs, rg_kLs, rg_kRs, rg_kVs, rg_nns, rg_bs, cond_true, cond_false]
    rw [if_pos (by omega)]
    try simp only [rg_hp1, rg_o_77, Int.reduceToNat, rg_kIs, rg_kLs, rg_kRs, rg_kVs, rg_nns, rg_bs, cond_true, cond_false]
    rw [kd]
    try simp only [Int.reduceToNat, rg_kIs, rg_kLs, rg_kRs, rg_kVs, rg_nns, rg_bs, cond_true, cond_false, x2]
    by_cases c : sp_kind (D 88) (i : Int) = 1
    · rw [if_pos (Or.inl c)] at ih
      rw [if_pos c]
      exact ih
    · rw [if_neg c]
      try simp only [rg_hp1, rg_o_77, Int.reduceToNat, rg_kIs, rg_kLs, rg_kRs, rg_kVs, rg_nns, rg_bs, cond_true, cond_false]
      rw [kd]
      try simp only [Int.reduceToNat, rg_kIs, rg_kLs, rg_kRs, rg_kVs, rg_nns, rg_bs, cond_true, cond_false]
      by_cases c4 : sp_kind (D 88) (i : Int) = 4
      · rw [if_pos (Or.inr (Or.inl ⟨rfl, c4⟩))] at ih
        rw [if_pos c4]
        exact ih
      · rw [if_neg (fun q => by rcases q with q | q | q; exact c q; exact c4 q.2; exact absurd q.1 (by decide))] at ih
        rw [if_neg c4]
        exact ih
theorem rg_M_co_56 (d : Nat) (w hv : Int) : ∀ (k i : Nat), i + k = 6 → rf_j_M_countOf_56 d 77 w hv (th_v (th_p (D 78) (D 80) (D 84) w) i) (i : Int) (hp X D) = rf_j_M_countOf_56 d 77 w hv (th_v (th_p (D 78) (D 80) (D 84) w) 6) 6 (hp X D)
  | 0, i, hk => by rw [show i = 6 by omega]; rfl
  | k + 1, i, hk => by
    have x2 : rf_w ((i : Int) + 1) = ((i + 1 : Nat) : Int) := by
      rw [rg_w (by omega) (by omega)]
      omega
    have ih := rg_M_co_56 d w hv k (i + 1) (by omega)
    have e : th_v (th_p (D 78) (D 80) (D 84) w) (i + 1) = (if th_p (D 78) (D 80) (D 84) w i = true then rf_w (th_v (th_p (D 78) (D 80) (D 84) w) i + 1) else rf_w (th_v (th_p (D 78) (D 80) (D 84) w) i + 0)) := rfl
    rw [← ih, e]
    clear ih
    generalize th_v (th_p (D 78) (D 80) (D 84) w) i = v
    rw [rf_e_M_countOf_56, if_pos (by omega)]
    by_cases a5 : w = 5
    · have p : th_p (D 78) (D 80) (D 84) w i = decide (0 ≤ D 78 i) := by
        unfold th_p
        rw [if_pos a5]
      rw [if_pos a5, p]
      try simp only [rg_gR_77_0, Int.reduceToNat, rg_kIs, rg_kLs, rg_kRs, rg_kVs, rg_nns, rg_bs, cond_true, cond_false]
      rw [rg_aI_78 (by omega) (by omega), rg_tN]
      try simp only [Int.reduceToNat, rg_kIs, rg_kLs, rg_kRs, rg_kVs, rg_nns, rg_bs, cond_true, cond_false]
      by_cases c : D 78 i < 0
      · rw [if_pos c, if_neg (by rw [decide_eq_true_eq]; omega), rf_e_M_countOf_83, if_neg (by omega), rf_e_M_countOf_112, if_pos (by decide), if_pos (by decide), if_neg (by omega), x2]
      · rw [if_neg c, if_pos (by rw [decide_eq_true_eq]; omega), rf_e_M_countOf_83, if_neg (by omega), rf_e_M_countOf_112, if_neg (by decide), x2]
    · rw [if_neg a5, rf_e_M_countOf_83]
      by_cases a6 : w = 6
      · have p : th_p (D 78) (D 80) (D 84) w i = decide (i < 4 ∧ 0 ≤ D 80 i) := by
          unfold th_p
          rw [if_neg a5, if_pos a6]
        rw [if_pos a6, p]
        by_cases c4 : (i : Int) < 4
        · rw [if_pos c4]
          try simp only [rg_gR_77_2, Int.reduceToNat, rg_kIs, rg_kLs, rg_kRs, rg_kVs, rg_nns, rg_bs, cond_true, cond_false]
          rw [rg_aI_80 (by omega) (by omega), rg_tN]
          try simp only [Int.reduceToNat, rg_kIs, rg_kLs, rg_kRs, rg_kVs, rg_nns, rg_bs, cond_true, cond_false]
          by_cases c : D 80 i < 0
          · rw [if_pos c, if_neg (by rw [decide_eq_true_eq]; omega), rf_e_M_countOf_112, if_pos (by decide), if_pos (by decide), if_neg (by omega), x2]
          · rw [if_neg c, if_pos (by rw [decide_eq_true_eq]; omega), rf_e_M_countOf_112, if_pos (by decide), if_neg (by decide), x2]
        · rw [if_neg c4, if_neg (by rw [decide_eq_true_eq]; omega), rf_e_M_countOf_112, if_pos (by decide), if_pos (by decide), if_neg (by omega), x2]
      · rw [if_neg a6, rf_e_M_countOf_112, if_pos (by decide), if_pos (by decide)]
        by_cases a7 : w = 7
        · have p : th_p (D 78) (D 80) (D 84) w i = decide (i < 3 ∧ D 84 i ≠ 0) := by
            unfold th_p
            rw [if_neg a5, if_neg a6, if_pos a7]
          rw [if_pos a7, p]
          by_cases c3 : (i : Int) < 3
          · rw [if_pos c3]
            try simp only [rg_gR_77_6, Int.reduceToNat, rg_kIs, rg_kLs, rg_kRs, rg_kVs, rg_nns, rg_bs, cond_true, cond_false]
            rw [rg_aZ_84 (by omega) (by omega), rg_tN]
            try simp only [Int.reduceToNat, rg_kIs, rg_kLs, rg_kRs, rg_kVs, rg_nns, rg_bs, cond_true, cond_false]
            by_cases c : D 84 i = 0
            · rw [if_pos c, if_neg (by rw [decide_eq_true_eq]; exact fun q => q.2 c), x2]
            · rw [if_neg c, if_pos (by rw [decide_eq_true_eq]; exact ⟨by omega, c⟩), x2]
          · rw [if_neg c3, if_neg (by rw [decide_eq_true_eq]; omega), x2]
        · have p : th_p (D 78) (D 80) (D 84) w i = false := by
            unfold th_p
            rw [if_neg a5, if_neg a6, if_neg a7]
          rw [if_neg a7, p, if_neg (by decide), x2]
theorem rg_M_co (h0 : 0 ≤ D 82 36) (h6 : D 82 36 ≤ 6) (d : Nat) {w : Int} (w0 : 0 ≤ w) : rf_call (d + 4) 193 [.inr (.inr (some 77)), .inl w] (hp X D) = some (some (.inl (cn_v (D 82) (D 78) (D 80) (D 84) w)), hp X (rg_up D 88 (sp_first (D 88) (D 82) 37))) := by
  obtain ⟨N, hN⟩ := Int.eq_ofNat_of_zero_le h0
  obtain ⟨u, hu⟩ : ∃ u, u = sp_first (D 88) (D 82) 37 := ⟨_, rfl⟩
  have E1 : E37 u (D 82) := by
    rw [hu]
    exact sp_first_E _ _
  have e36 := E1 36 (by decide)
  have l1 := rg_M_co_8 (X := X) (D := rg_up D 88 u) (by rw [rg_up_s]; omega) (by rw [rg_up_s]; omega) (d + 2) w (N := N) (by rw [rg_up_s]; omega) N 0 (by omega)
  rw [rg_up_s, show mn_v u 1 0 = 0 from rfl, show ((0 : Nat) : Int) = 0 from rfl, E1.mn 1 (k := N) (by omega)] at l1
  have l2 := rg_M_co_56 (X := X) (D := rg_up D 88 u) (d + 3) w (mn_v (D 82) 1 N) 6 0 (by omega)
  rw [rg_up_n (show (78 : Nat) ≠ 88 by decide), rg_up_n (show (80 : Nat) ≠ 88 by decide), rg_up_n (show (84 : Nat) ≠ 88 by decide), show th_v (th_p (D 78) (D 80) (D 84) w) 0 = 0 from rfl, show ((0 : Nat) : Int) = 0 from rfl] at l2
  rw [rf_e_M_countOf]
  try simp only [rg_hp1, rg_o_77, Int.reduceToNat, rg_kIs, rg_kLs, rg_kRs, rg_kVs, rg_nns, rg_bs, cond_true, cond_false]
  rw [rg_M_take, ← hu]
  try simp only [Int.reduceToNat, rg_kIs, rg_kLs, rg_kRs, rg_kVs, rg_nns, rg_bs, cond_true, cond_false]
  rw [l1, l2, rf_e_M_countOf_56, if_neg (by decide)]
  unfold cn_v
  by_cases a0 : w = 0
  · rw [if_pos a0, if_pos a0]
    try simp only [rg_gR_77_4, Int.reduceToNat, rg_kIs, rg_kLs, rg_kRs, rg_kVs, rg_nns, rg_bs, cond_true, cond_false]
    rw [rg_aI_82 (by decide) (by decide)]
    try simp only [Int.reduceToNat, rg_kIs, rg_kLs, rg_kRs, rg_kVs, rg_nns, rg_bs, cond_true, cond_false]
    rw [rf_e_M_countOf_214, if_pos (by omega), rg_up_n (by decide)]
  · rw [if_neg a0, if_neg a0]
    by_cases a1 : w = 1
    · rw [if_pos a1, if_pos a1]
      try simp only [rg_gR_77_4, Int.reduceToNat, rg_kIs, rg_kLs, rg_kRs, rg_kVs, rg_nns, rg_bs, cond_true, cond_false]
      rw [rg_aI_82 (by decide) (by decide)]
      try simp only [Int.reduceToNat, rg_kIs, rg_kLs, rg_kRs, rg_kVs, rg_nns, rg_bs, cond_true, cond_false]
      rw [rf_e_M_countOf_214, if_pos (by omega), rg_up_n (by decide)]
    · rw [if_neg a1, if_neg a1]
      by_cases a2 : w = 2
      · rw [if_pos a2, if_pos a2]
        try simp only [rg_gR_77_4, Int.reduceToNat, rg_kIs, rg_kLs, rg_kRs, rg_kVs, rg_nns, rg_bs, cond_true, cond_false]
        rw [rg_aI_82 (by decide) (by decide)]
        try simp only [Int.reduceToNat, rg_kIs, rg_kLs, rg_kRs, rg_kVs, rg_nns, rg_bs, cond_true, cond_false]
        rw [rf_e_M_countOf_214, if_pos (by omega), rg_up_n (by decide)]
      · rw [if_neg a2, if_neg a2]
        try simp only [rg_gR_77_17, Int.reduceToNat, rg_kIs, rg_kLs, rg_kRs, rg_kVs, rg_nns, rg_bs, cond_true, cond_false]
        rw [rg_aI_88 (by decide) (by decide)]
        try simp only [rg_hp1, rg_o_77, Int.reduceToNat, rg_kIs, rg_kLs, rg_kRs, rg_kVs, rg_nns, rg_bs, cond_true, cond_false]
        rw [rg_up_s, e36, rg_M_loadOf d h0 h6, rg_up_s, E1.load (by omega)]
        try simp only [Int.reduceToNat, rg_kIs, rg_kLs, rg_kRs, rg_kVs, rg_nns, rg_bs, cond_true, cond_false]
        rw [rf_e_M_countOf_214]
        by_cases a3 : w = 3
        · rw [if_pos (by omega), if_pos a3]
        · rw [if_neg (by omega), if_neg a3]
          by_cases a4 : w = 4
          · rw [if_pos a4, if_pos a4, hN, rg_tN]
          · rw [if_neg a4, if_neg a4]
theorem st_count (hI : Inv D) (d : Nat) (w : Int) : Ag X D (d + 9) 108 192 [.inl w] := by
  unfold Ag
  have hw := hI.2.2.2.2.wag
  by_cases ht : 0 ≤ w ∧ w ≤ 7
  · refine ⟨cn_v (D 82) (D 78) (D 80) (D 84) w, D, rg_up D 88 (sp_first (D 88) (D 82) 37), ?_, ?_, hI.s88 (sp_first (D 88) (D 82) 37)⟩
    · rw [rf_e_W_count, if_neg (by omega), if_pos (by omega)]
      try simp only [rg_hp1, rg_o_0, Int.reduceToNat, rg_kIs, rg_kLs, rg_kRs, rg_kVs, rg_nns, rg_bs, cond_true, cond_false]
      rw [rg_W_cf hI d ht.1 ht.2]
      try simp only [Int.reduceToNat, rg_kIs, rg_kLs, rg_kRs, rg_kVs, rg_nns, rg_bs, cond_true, cond_false]
    · rw [rf_e_M_count, rg_M_in]
      try simp only [Int.reduceToNat, rg_kIs, rg_kLs, rg_kRs, rg_kVs, rg_nns, rg_bs, cond_true, cond_false]
      rw [if_pos ht, if_neg (by decide)]
      try simp only [rg_hp1, rg_o_77, Int.reduceToNat, rg_kIs, rg_kLs, rg_kRs, rg_kVs, rg_nns, rg_bs, cond_true, cond_false]
      rw [rg_M_co hw.2.1 hw.2.2 (d + 4) ht.1]
      try simp only [Int.reduceToNat, rg_kIs, rg_kLs, rg_kRs, rg_kVs, rg_nns, rg_bs, cond_true, cond_false]
  · refine ⟨-1, D, D, ?_, ?_, hI⟩
    · rw [rf_e_W_count]
      by_cases b : w < 0
      · rw [if_pos b]
      · rw [if_neg b, if_neg (by omega)]
    · rw [rf_e_M_count, rg_M_in]
      try simp only [Int.reduceToNat, rg_kIs, rg_kLs, rg_kRs, rg_kVs, rg_nns, rg_bs, cond_true, cond_false]
      rw [if_neg ht, if_pos (by decide)]
end RGS20
