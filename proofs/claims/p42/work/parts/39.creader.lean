/-! The class's reader. -/
def ps_h (x : Nat → Int) (n p : Nat) : Int := if p < n then x p else 1000
theorem ps_h_eq {x : Nat → Int} {n p : Nat} {c : Int} (h1 : c ≠ -1) (h2 : c ≠ 1000) : ps_h x n p = c ↔ ps_c x n p = c := by
  unfold ps_h ps_c
  by_cases a : p < n
  · rw [if_pos a, if_pos a]
  · rw [if_neg a, if_neg a]
    omega
theorem ps_h_rail {x : Nat → Int} {n p : Nat} : ps_rail (ps_h x n p) = ps_rail (ps_c x n p) := by
  unfold ps_h ps_c
  by_cases a : p < n
  · rw [if_pos a, if_pos a]
  · rw [if_neg a, if_neg a]
    try rfl
theorem ps_h_kind {x : Nat → Int} {n p : Nat} : ps_kind (ps_h x n p) = ps_kind (ps_c x n p) := by
  unfold ps_h ps_c
  by_cases a : p < n
  · rw [if_pos a, if_pos a]
  · rw [if_neg a, if_neg a]
    try rfl
def EP (D : rf_D) (x : Nat → Int) (n o p : Nat) : Prop := (∀ k, k < n → D (o + 1) k = x k) ∧ D o 1 = (n : Int) ∧ D 12 0 = (p : Int)
def ep_to (D : rf_D) (p : Nat) : rf_D := rg_up D 12 (rg_ui (D 12) 0 (p : Int))
theorem ep_to_to (D : rf_D) (p q : Nat) : ep_to (ep_to D p) q = ep_to D q := by
  unfold ep_to
  rw [rg_up_u, rg_up_s, rg_ui_u]
section RGE
variable {X : rf_X} {x : Nat → Int} {n o : Nat}
theorem EP.to {D : rf_D} {p q : Nat} (h : EP D x n o p) (ho : 56 ≤ o) : EP (ep_to D q) x n o q := by
  obtain ⟨h1, h2, h3⟩ := h
  refine ⟨fun k hk => ?_, ?_, ?_⟩
  · unfold ep_to
    rw [rg_up_n (by omega)]
    exact h1 k hk
  · unfold ep_to
    rw [rg_up_n (by omega)]
    exact h2
  · unfold ep_to
    rw [rg_up_s, rg_ui_s]
theorem EP.self {D : rf_D} {p : Nat} (h : EP D x n o p) : ep_to D p = D := by
  unfold ep_to
  rw [← h.2.2, rg_ui_i, rg_up_i]
theorem EP.of {D D' : rf_D} {p : Nat} (h : EP D x n o p) (h1 : D' (o + 1) = D (o + 1)) (h2 : D' o = D o) (h3 : D' 12 = D 12) : EP D' x n o p := by
  unfold EP
  rw [h1, h2, h3]
  exact h
theorem rg_E_here {D : rf_D} {p : Nat} (h : EP D x n o p) (hr : rg_row o 60) (hn : n ≤ 60) (d : Nat) : rf_call (d + 2) 30 [.inr (.inr (some 12)), .inr (.inr (some o))] (hp X D) = some (some (.inl (ps_h x n p)), hp X D) := by
  obtain ⟨h1, h2, h3⟩ := h
  rw [rf_e_E_here]
  simp only [rg_gI_12, rg_hp1, rg_row_o hr, Int.reduceToNat, rg_kIs, rg_kLs, rg_kRs, rg_kVs, rg_nns, rg_bs, cond_true, cond_false]
  rw [h3, rg_R_has hr, h2]
  unfold ps_h
  by_cases a : p < n
  · rw [if_pos (show (0 : Int) ≤ (p : Int) ∧ (p : Int) < (n : Int) ∧ (p : Int) < ((60 : Nat) : Int) by omega), if_pos a]
    simp only [rg_gI_12, rg_hp1, rg_row_o hr, Int.reduceToNat, rg_kIs, rg_kLs, rg_kRs, rg_kVs, rg_nns, rg_bs, cond_true, cond_false]
    rw [if_neg (by decide), h3, rg_R_cellI hr d (by omega) (by omega) (by omega)]
    simp only [Int.reduceToNat, rg_kIs, rg_kLs, rg_kRs, rg_kVs, rg_nns, rg_bs, cond_true, cond_false]
    rw [show ((p : Int)).toNat = p by omega, h1 p a]
  · rw [if_neg (show ¬ ((0 : Int) ≤ (p : Int) ∧ (p : Int) < (n : Int) ∧ (p : Int) < ((60 : Nat) : Int)) by omega), if_neg a]
    try rfl
theorem rg_E_skip_2 (hr : rg_row o 60) (ho : 56 ≤ o) (hn : n ≤ 60) (d : Nat) : ∀ (k i : Nat) (D : rf_D) (p : Nat), i + k = 60 → EP D x n o p → p ≤ n → rf_j_E_skipBlanks_2 (d + 2) 12 (some o) (i : Int) (hp X D) = some (none, hp X (ep_to D (ps_sk x n k p)))
  | 0, i, D, p, hk, h, hp1 => by
    rw [rf_e_E_skipBlanks_2, if_neg (by omega)]
    show _ = some (none, hp X (ep_to D p))
    rw [h.self]
  | k + 1, i, D, p, hk, h, hp1 => by
    rw [rf_e_E_skipBlanks_2, if_pos (by omega)]
    simp only [rg_hp1, rg_o_12, Int.reduceToNat, rg_kIs, rg_kLs, rg_kRs, rg_kVs, rg_nns, rg_bs, cond_true, cond_false]
    rw [rg_E_here h hr hn d]
    simp only [Int.reduceToNat, rg_kIs, rg_kLs, rg_kRs, rg_kVs, rg_nns, rg_bs, cond_true, cond_false]
    unfold ps_sk
    by_cases a : ps_c x n p = 32
    · have p1 : p < n := by
        unfold ps_c at a
        by_cases z : p < n
        · exact z
        · rw [if_neg z] at a
          omega
      rw [if_pos ((ps_h_eq (by decide) (by decide)).mpr a), if_pos a]
      simp only [rg_gI_12, rg_pI_12, Int.reduceToNat, rg_kIs, rg_kLs, rg_kRs, rg_kVs, rg_nns, rg_bs, cond_true, cond_false]
      rw [h.2.2, rg_w (by omega) (by omega), rg_w (by omega) (by omega), show ((p : Int) + 1) = ((p + 1 : Nat) : Int) by omega, show ((i : Int) + 1) = ((i + 1 : Nat) : Int) by omega]
      have k' := rg_E_skip_2 hr ho hn d k (i + 1) (ep_to D (p + 1)) (p + 1) (by omega) (h.to ho) p1
      rw [ep_to_to] at k'
      exact k'
    · rw [if_neg (fun z => a ((ps_h_eq (by decide) (by decide)).mp z)), if_neg a, h.self]
theorem rg_E_skip {D : rf_D} {p : Nat} (h : EP D x n o p) (hr : rg_row o 60) (ho : 56 ≤ o) (hn : n ≤ 60) (hp1 : p ≤ n) (d : Nat) : rf_call (d + 3) 29 [.inr (.inr (some 12)), .inr (.inr (some o))] (hp X D) = some (none, hp X (ep_to D (ps_sk x n 60 p))) := by
  rw [rf_e_E_skipBlanks]
  exact rg_E_skip_2 hr ho hn d 60 0 D p rfl h hp1
theorem rg_E_letter {D : rf_D} {p : Nat} (h : EP D x n o p) (hr : rg_row o 60) (hn : n ≤ 60) (hp1 : p ≤ n) (d : Nat) {c : Int} (c1 : c ≠ -1) (c2 : c ≠ 1000) : rf_call (d + 3) 32 [.inr (.inr (some 12)), .inr (.inr (some o)), .inl c] (hp X D) = some (if ps_c x n p = c then (some (.inl 1), hp X (ep_to D (p + 1))) else (some (.inl 0), hp X D)) := by
  rw [rf_e_E_readsLetter]
  simp only [rg_hp1, rg_o_12, Int.reduceToNat, rg_kIs, rg_kLs, rg_kRs, rg_kVs, rg_nns, rg_bs, cond_true, cond_false]
  rw [rg_E_here h hr hn d]
  simp only [Int.reduceToNat, rg_kIs, rg_kLs, rg_kRs, rg_kVs, rg_nns, rg_bs, cond_true, cond_false]
  by_cases a : ps_c x n p = c
  · rw [if_pos ((ps_h_eq c1 c2).mpr a), if_pos a]
    simp only [rg_gI_12, rg_pI_12, Int.reduceToNat, rg_kIs, rg_kLs, rg_kRs, rg_kVs, rg_nns, rg_bs, cond_true, cond_false]
    rw [h.2.2, rg_w (by omega) (by omega)]
    try rfl
  · rw [if_neg (fun z => a ((ps_h_eq c1 c2).mp z)), if_neg a]
theorem rg_E_fig {D : rf_D} {p : Nat} (h : EP D x n o p) (hr : rg_row o 60) (hn : n ≤ 60) (hp1 : p ≤ n) (hb : ∀ k, k < n → -128 ≤ x k ∧ x k ≤ 127) (d : Nat) {lo hi : Int} (l0 : 0 ≤ lo) (h9 : hi ≤ 9) (to : Nat) (g : Nat → Int) : rf_call (d + 3) 33 [.inr (.inr (some 12)), .inr (.inr (some o)), .inl lo, .inl hi] (hp X D) = some (some (.inl (if (ps_f x n to lo hi (p, g)).1 = true then (ps_f x n to lo hi (p, g)).2.2 to else -1)), hp X (ep_to D (ps_f x n to lo hi (p, g)).2.1)) := by
  rw [rf_e_E_readFigure]
  simp only [rg_hp1, rg_o_12, Int.reduceToNat, rg_kIs, rg_kLs, rg_kRs, rg_kVs, rg_nns, rg_bs, cond_true, cond_false]
  rw [rg_E_here h hr hn d]
  simp only [Int.reduceToNat, rg_kIs, rg_kLs, rg_kRs, rg_kVs, rg_nns, rg_bs, cond_true, cond_false]
  unfold ps_f
  by_cases a : lo ≤ ps_c x n p - 48 ∧ ps_c x n p - 48 ≤ hi
  · have a' : lo ≤ ps_c x n ((p, g) : PS).1 - 48 ∧ ps_c x n ((p, g) : PS).1 - 48 ≤ hi := a
    have e : ps_h x n p = ps_c x n p := (ps_h_eq (by omega) (by omega)).mpr rfl
    rw [e, rg_w (by omega) (by omega), if_neg (by omega), if_neg (by omega), if_pos a']
    simp only [rg_gI_12, rg_pI_12, Int.reduceToNat, rg_kIs, rg_kLs, rg_kRs, rg_kVs, rg_nns, rg_bs, cond_true, cond_false]
    rw [h.2.2, rg_w (by omega) (by omega), if_pos True.intro, rg_ui_s]
    try rfl
  · have a' : ¬ (lo ≤ ps_c x n ((p, g) : PS).1 - 48 ∧ ps_c x n ((p, g) : PS).1 - 48 ≤ hi) := a
    rw [if_neg a', h.self]
    have k : rf_w (ps_h x n p - 48) < lo ∨ hi < rf_w (ps_h x n p - 48) := by
      unfold ps_h
      unfold ps_c at a
      by_cases z : p < n
      · rw [if_pos z] at a ⊢
        have := hb p z
        rw [rg_w (by omega) (by omega)]
        omega
      · rw [if_neg z, rg_w (by omega) (by omega)]
        omega
    by_cases q : rf_w (ps_h x n p - 48) < lo
    · rw [if_pos q]
      try rfl
    · rw [if_neg q, if_pos (show hi < rf_w (ps_h x n p - 48) by omega)]
      try rfl
/-! the two written rows -/
def XL (X : rf_X) : Prop := (X 1).1 = 3 ∧ (X 2).1 = 6 ∧ ((X 1).2 0 = 100 ∧ (X 1).2 1 = 119 ∧ (X 1).2 2 = 108) ∧ ((X 2).2 0 = 119 ∧ (X 2).2 1 = 104 ∧ (X 2).2 2 = 115 ∧ (X 2).2 3 = 112 ∧ (X 2).2 4 = 114 ∧ (X 2).2 5 = 98)
theorem rh_xL {T : List rf_Sh} {D : rf_D} {P : rf_P} {j : Nat} (hj : j < 3) : rf_aL (T, D, P, X) (1000000 + j) = some ((X j).1 : Int) := by
  rcases j with _ | _ | _ | j
  · rfl
  · rfl
  · rfl
  · omega
theorem rh_xI {T : List rf_Sh} {D : rf_D} {P : rf_P} {j : Nat} (hj : j < 3) {i : Int} (h1 : 0 ≤ i) (h2 : i < ((X j).1 : Int)) : rf_aI (T, D, P, X) (1000000 + j) i = some ((X j).2 i.toNat) := by
  rcases j with _ | _ | _ | j
  · show (if 0 ≤ i ∧ i < ((X 0).1 : Int) then some ((X 0).2 i.toNat) else none) = _
    rw [if_pos ⟨h1, h2⟩]
  · show (if 0 ≤ i ∧ i < ((X 1).1 : Int) then some ((X 1).2 i.toNat) else none) = _
    rw [if_pos ⟨h1, h2⟩]
  · show (if 0 ≤ i ∧ i < ((X 2).1 : Int) then some ((X 2).2 i.toNat) else none) = _
    rw [if_pos ⟨h1, h2⟩]
  · omega
theorem rg_xL {D : rf_D} {j : Nat} (hj : j < 3) : rf_aL (hp X D) (1000000 + j) = some ((X j).1 : Int) := by unfold hp; exact rh_xL hj
theorem rg_xI {D : rf_D} {j : Nat} (hj : j < 3) {i : Int} (h1 : 0 ≤ i) (h2 : i < ((X j).1 : Int)) : rf_aI (hp X D) (1000000 + j) i = some ((X j).2 i.toNat) := by unfold hp; exact rh_xI hj h1 h2
/-- the first place of a sign in a row, from a place on -/
def ps_ix (f : Nat → Int) (c : Int) : Nat → Nat → Int
  | 0, _ => -9
  | k + 1, i => if f i = c then (i : Int) else ps_ix f c k (i + 1)
theorem rg_E_ix_2 {D : rf_D} {j m : Nat} (hj : j < 3) (hm : (X j).1 = m) (hm2 : m ≤ 100) (d : Nat) (c : Int) : ∀ (k i : Nat), i + k = m → rf_j_E_indexOf_2 d (some (1000000 + j)) c (i : Int) (hp X D) = some (some (.inl (ps_ix (X j).2 c k i)), hp X D)
  | 0, i, hk => by
    rw [rf_e_E_indexOf_2]
    simp only [rg_xL hj, Int.reduceToNat, rg_kIs, rg_kLs, rg_kRs, rg_kVs, rg_nns, rg_bs, cond_true, cond_false]
    rw [if_neg (by omega)]
    try rfl
  | k + 1, i, hk => by
    rw [rf_e_E_indexOf_2]
    simp only [rg_xL hj, Int.reduceToNat, rg_kIs, rg_kLs, rg_kRs, rg_kVs, rg_nns, rg_bs, cond_true, cond_false]
    rw [if_pos (by omega), rg_xI hj (by omega) (by omega)]
    simp only [Int.reduceToNat, rg_kIs, rg_kLs, rg_kRs, rg_kVs, rg_nns, rg_bs, cond_true, cond_false]
    rw [show ((i : Int)).toNat = i by omega]
    unfold ps_ix
    by_cases a : (X j).2 i = c
    · rw [if_pos a, if_pos a]
    · rw [if_neg a, if_neg a, rg_w (by omega) (by omega), show ((i : Int) + 1) = ((i + 1 : Nat) : Int) by omega]
      exact rg_E_ix_2 hj hm hm2 d c k (i + 1) (by omega)
theorem rg_E_ixR {D : rf_D} (hX : XL X) (d : Nat) (c : Int) : rf_call (d + 1) 35 [.inr (.inr (some 1000001)), .inl c] (hp X D) = some (some (.inl (ps_rail c)), hp X D) := by
  rw [rf_e_E_indexOf]
  have k := rg_E_ix_2 (X := X) (D := D) (j := 1) (m := 3) (by omega) hX.1 (by omega) d c 3 0 rfl
  refine k.trans ?_
  congr 4
  unfold ps_ix ps_ix ps_ix ps_ix ps_rail
  obtain ⟨-, -, ⟨e0, e1, e2⟩, -⟩ := hX
  rw [e0, e1, e2]
  by_cases a : (100 : Int) = c
  · rw [if_pos a, if_pos a.symm]
    try rfl
  · rw [if_neg a, if_neg (Ne.symm a)]
    by_cases a : (119 : Int) = c
    · rw [if_pos a, if_pos a.symm]
      try rfl
    · rw [if_neg a, if_neg (Ne.symm a)]
      by_cases a : (108 : Int) = c
      · rw [if_pos a, if_pos a.symm]
        try rfl
      · rw [if_neg a, if_neg (Ne.symm a)]
theorem rg_E_ixK {D : rf_D} (hX : XL X) (d : Nat) (c : Int) : rf_call (d + 1) 35 [.inr (.inr (some 1000002)), .inl c] (hp X D) = some (some (.inl (ps_kind c)), hp X D) := by
  rw [rf_e_E_indexOf]
  have k := rg_E_ix_2 (X := X) (D := D) (j := 2) (m := 6) (by omega) hX.2.1 (by omega) d c 6 0 rfl
  refine k.trans ?_
  congr 4
  unfold ps_ix ps_ix ps_ix ps_ix ps_ix ps_ix ps_ix ps_kind
  obtain ⟨-, -, -, e0, e1, e2, e3, e4, e5⟩ := hX
  rw [e0, e1, e2, e3, e4, e5]
  by_cases a : c = 112
  · subst a
    try rfl
  · rw [if_neg a]
    by_cases b : c = 114
    · subst b
      try rfl
    · rw [if_neg b]
      by_cases b2 : c = 98
      · subst b2
        try rfl
      · rw [if_neg b2]
        rw [if_neg (show ¬ (112 : Int) = c from fun z => a z.symm), if_neg (show ¬ (114 : Int) = c from fun z => b z.symm), if_neg (show ¬ (98 : Int) = c from fun z => b2 z.symm)]
        by_cases a : (119 : Int) = c
        · rw [if_pos a, if_pos a.symm]
          try rfl
        · rw [if_neg a, if_neg (Ne.symm a)]
          by_cases a : (104 : Int) = c
          · rw [if_pos a, if_pos a.symm]
            try rfl
          · rw [if_neg a, if_neg (Ne.symm a)]
            by_cases a : (115 : Int) = c
            · rw [if_pos a, if_pos a.symm]
              try rfl
            · rw [if_neg a, if_neg (Ne.symm a)]
end RGE
/-! rows, told by what holds behind a call -/
section RGRE
variable {X : rf_X} {D : rf_D} {o n : Nat}
theorem rg_R_addE (hr : rg_row o n) (d : Nat) {v z : Int} (hz : D o 1 = z) (h1 : 0 ≤ z) (h2 : z < (n : Int)) (hn : n ≤ 100000) : ∃ D1, rf_call (d + 3) 10 [.inr (.inr (some o)), .inl v] (hp X D) = some (none, hp X D1) ∧ (∀ a, a ≠ o → a ≠ o + 1 → D1 a = D a) ∧ D1 o 1 = z + 1 ∧ D1 (o + 1) z.toNat = v ∧ ∀ j, j ≠ z.toNat → D1 (o + 1) j = D (o + 1) j := by
  subst hz
  refine ⟨_, rg_R_add hr d h1 h2 hn, fun a q1 q2 => ?_, ?_, ?_, fun j hj => ?_⟩
  · rw [rg_up_n q2, rg_up_n q1]
  · rw [rg_up_n (by omega), rg_up_s, rg_ui_s]
  · rw [rg_up_s, rg_ui_s]
  · rw [rg_up_s, rg_ui_n hj]
theorem rg_R_renewE (hr : rg_row o n) (d : Nat) {z f : Int} (h1 : 0 ≤ z) (h2 : z ≤ (n : Int)) (hn : n ≤ 100000) : ∃ D1, rf_call (d + 3) 1 [.inr (.inr (some o)), .inl z, .inl f] (hp X D) = some (none, hp X D1) ∧ (∀ a, a ≠ o → a ≠ o + 1 → D1 a = D a) ∧ D1 o 1 = z ∧ ∀ j : Nat, (j : Int) < z → D1 (o + 1) j = f := by
  refine ⟨_, rg_R_renew hr d h1 h2 hn, fun a q1 q2 => ?_, ?_, fun j hj => ?_⟩
  · rw [rg_up_n q2, rg_up_n q1]
  · rw [rg_up_n (by omega), rg_up_s, rg_ui_s]
  · rw [rg_up_s, if_pos hj]
end RGRE
theorem sp_wt_eq {s : Nat → Int} {i : Int} (i0 : 0 ≤ i) (t0 : 0 ≤ sp_tons s i) (t9 : sp_tons s i ≤ 9) (l0 : 0 ≤ s 1) (l3 : s 1 ≤ 3) : sp_weighs s i = sp_wt (sp_kind s i) (sp_tons s i) (s 31) (s 1) := by
  have hp : 0 ≤ sp_plain s i ∧ sp_plain s i ≤ 18 ∧ sp_plain s i = (if sp_kind s i = 1 ∨ sp_kind s i = 4 then 2 * sp_tons s i else if sp_kind s i = 3 then (if sp_tons s i < 2 then 0 else sp_tons s i - 2) else sp_tons s i) := by
    unfold sp_plain
    rw [rg_w (by omega) (by omega), rg_w (by omega) (by omega)]
    by_cases a : sp_kind s i = 1
    · rw [if_pos a, if_pos (Or.inl a)]
      omega
    · rw [if_neg a]
      by_cases b : sp_kind s i = 4
      · rw [if_pos b, if_pos (Or.inr b)]
        omega
      · rw [if_neg b, if_neg (show ¬ (sp_kind s i = 1 ∨ sp_kind s i = 4) by omega)]
        by_cases c : sp_kind s i = 3
        · rw [if_pos c, if_pos c]
          by_cases e : sp_tons s i - 2 < 0
          · rw [if_pos e, if_pos (by omega)]
            omega
          · rw [if_neg e, if_neg (by omega)]
            omega
        · rw [if_neg c, if_neg c]
          omega
  have hb : (if sp_kind s i = 5 then (if s 31 = 1 then (3 : Int) else 0) else 0) = (if sp_kind s i = 5 ∧ s 31 = 1 then 3 else 0) := by
    by_cases a : sp_kind s i = 5
    · by_cases b : s 31 = 1
      · rw [if_pos a, if_pos b, if_pos ⟨a, b⟩]
      · rw [if_pos a, if_neg b, if_neg (fun z => b z.2)]
    · rw [if_neg a, if_neg (fun z => a z.1)]
  have hb2 : 0 ≤ (if sp_kind s i = 5 ∧ s 31 = 1 then (3 : Int) else 0) ∧ (if sp_kind s i = 5 ∧ s 31 = 1 then (3 : Int) else 0) ≤ 3 := by split <;> omega
  unfold sp_weighs sp_wt
  rw [hb, rg_w (z := sp_plain s i + _) (by omega) (by omega), rg_w (by omega) (by omega), ← hp.2.2]
