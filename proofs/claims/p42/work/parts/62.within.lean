/-! plans: the class's searches -/
def SW (X : rf_X) (e : Nat) (g : Int) (n i j k : Nat) (D : rf_D) (s : Nat → Int) : Prop := ∃ D', rf_call e 50 [.inr (.inr (some (70 + j))), .inl (i : Int), .inl (n : Int), .inr (.inr (some 8))] (hp X D) = some (some (.inl (if (pn_wi g k s).isSome = true then 1 else 0)), hp X D') ∧ (∀ a, a ≠ 9 → (a < 70 ∨ 70 + j ≤ a) → D' a = D a) ∧ (∀ q, q < i → D' 9 q = D 9 q) ∧ ∀ l, pn_wi g k s = some l → ∀ (q : Nat) (v : Int), l[q]? = some v → D' 9 (i + q) = v
section RGS33
variable {X : rf_X} {s : Nat → Int} {W g m : Int}
theorem rg_P_sw_37 {D0 : rf_D} {n i j k : Nat} (hj : j < 6) (hn : n ≤ 4) (hi : i < n) (hC : CR D0 28 s W) (hd : sp_hd s) (hT : TR (D0 (71 + j)) s g) (hs : sp_st m s) (m0 : 0 ≤ m) (hm : m ≤ 1000) (hg : 0 ≤ g ∧ g ≤ 1000) (hW : s 36 ≤ W) (h8 : D0 8 1 = 4) (h35 : s 35 = g) (d : Nat) (ih : ∀ (D : rf_D) (u : Nat → Int), u 35 = g → CR D 28 u W → sp_hd u → TR (D (70 + j)) u g → sp_st (m + 1) u → u 36 ≤ W → D 8 1 = 4 → SW X (d + 6) g n (i + 1) j k D u) {T : Nat} (hT15 : T ≤ 15) : ∀ (c t : Nat) (D : rf_D), t + c = T → (∀ a, a ≠ 9 → (a < 70 ∨ 71 + j ≤ a) → D a = D0 a) → (∀ q, q < i → D 9 q = D0 9 q) → ∃ D', rf_j_P_startsWithin_37 (d + 6) (some (71 + j)) (i : Int) (n : Int) (some 8) (some (70 + j)) (T : Int) (t : Int) (hp X D) = some (some (.inl (if (pn_fp (fun u => if g < u 35 then some [] else pn_wi g k u) s c t).isSome = true then 1 else 0)), hp X D') ∧ (∀ a, a ≠ 9 → (a < 70 ∨ 71 + j ≤ a) → D' a = D0 a) ∧ (∀ q, q < i → D' 9 q = D0 9 q) ∧ ∀ l, pn_fp (fun u => if g < u 35 then some [] else pn_wi g k u) s c t = some l → ∀ (q : Nat) (v : Int), l[q]? = some v → D' 9 (i + q) = v
  | 0, t, D, hk, hfr, hq => by
    refine ⟨D, ?_, hfr, hq, fun l h => by cases h⟩
    rw [rf_e_P_startsWithin_37, if_neg (by omega)]
    try rfl
  | c + 1, t, D, hk, hfr, hq => by
    have tj := rg_tr_71 hj
    have tk := rg_tr_70 (j := j) (show j < 7 by omega)
    have z1 : 1 ≤ s 2 ∧ s 2 ≤ 6 := hd.2.2.1
    have yt : t ≤ 1000 := by omega
    have yi : i ≤ 1000 := by omega
    have hC1 : CR D 28 s W := hC.of fun a _ _ => hfr a (by omega) (by omega)
    have hT1 : TR (D (71 + j)) s g := by
      rw [hfr (71 + j) (by omega) (by omega)]
      exact hT
    have cb := rg_T_canBe (X := X) (D := D) tj hT1 hs (d + 5) (th := (t : Int)) (by omega) (by omega)
    have le := rg_T_less (X := X) (D := D) tj hC1 hd hT1 hs (by omega) hW (d + 1) (th := (t : Int)) (by omega) (by omega)
    have e : pn_fp (fun u => if g < u 35 then some [] else pn_wi g k u) s (c + 1) t = (if sp_can s (t : Int) = true then (if pn_ls s t = true then pn_fp (fun u => if g < u 35 then some [] else pn_wi g k u) s c (t + 1) else (match (if g < pn_st s t 35 then some [] else pn_wi g k (pn_st s t)) with | some l => some ((t : Int) :: l) | none => pn_fp (fun u => if g < u 35 then some [] else pn_wi g k u) s c (t + 1))) else pn_fp (fun u => if g < u 35 then some [] else pn_wi g k u) s c (t + 1)) := rfl
    obtain ⟨u0, hu0⟩ : ∃ u0, u0 = pn_st s t := ⟨_, rfl⟩
    have p35 := pn_35 hs ⟨m0, show m ≤ 1000000 by omega⟩ t
    rw [← hu0] at p35
    rw [e, ← hu0, rf_e_P_startsWithin_37, if_pos (by omega)]
    clear e
    try simp only [rg_hp1, tj.1, Int.reduceToNat, rg_kIs, rg_kLs, rg_kRs, rg_kVs, rg_nns, rg_bs, cond_true, cond_false]
    rw [cb]
    try simp only [Int.reduceToNat, rg_kIs, rg_kLs, rg_kRs, rg_kVs, rg_nns, rg_bs, cond_true, cond_false]
    by_cases y : sp_can s (t : Int) = true
    · rw [if_pos y, if_pos y, if_neg (by decide)]
      try simp only [rg_hp1, tj.1, Int.reduceToNat, rg_kIs, rg_kLs, rg_kRs, rg_kVs, rg_nns, rg_bs, cond_true, cond_false]
      rw [le]
      try simp only [Int.reduceToNat, rg_kIs, rg_kLs, rg_kRs, rg_kVs, rg_nns, rg_bs, cond_true, cond_false]
      by_cases b : pn_ls s t = true
      · rw [if_pos b, if_pos (of_decide_eq_true b), if_neg (by decide), xs_1 yt]
        exact rg_P_sw_37 hj hn hi hC hd hT hs m0 hm hg hW h8 h35 d ih hT15 c (t + 1) D (by omega) hfr hq
      · rw [if_neg b, if_neg (fun q => b (decide_eq_true q)), if_pos (by decide)]
        have rl := sp_rail_02 hd hs
        obtain ⟨D1, D2, a1, a2, a3, a4, a5⟩ := rg_P_step (X := X) (D := D) hj hC1 hd hT1 hs (by omega) (by omega) hW d (t := (t : Int)) (r := sp_rail s) (by omega) (by omega) (fun _ => rl)
        have w1 := rg_T_rail (X := X) (D := D1) tj (hC1.of fun a _ _ => a3 a (by omega)) hd hs (by omega) (d + 3) (by rw [a3 (71 + j) (by omega)]; exact hT1.2.2.2.1)
        have n2 : ∀ a, a ≠ 9 → (a < 70 ∨ 71 + j ≤ a) → D2 a = D0 a := fun a y1 y2 => by rw [a4 a (by omega), hfr a y1 y2]
        have q2 : ∀ q, q < i → D2 9 q = D0 9 q := fun q hq' => by rw [a4 9 (by omega), hq q hq']
        have ws := rg_R_setI (X := X) (D := D2) rg_row_8 (d + 4) (i := (i : Int)) (v := (t : Int)) (by omega) (by rw [n2 8 (by decide) (by omega), h8]; omega) (by rw [n2 8 (by decide) (by omega), h8]; decide)
        rw [show (8 + 1 : Nat) = 9 from rfl, rg_tN] at ws
        obtain ⟨D3, hD3⟩ : ∃ D3, D3 = rg_up D2 9 (rg_ui (D2 9) i (t : Int)) := ⟨_, rfl⟩
        rw [← hD3] at ws
        have D3n : ∀ a, a ≠ 9 → D3 a = D2 a := fun a y1 => by rw [hD3, rg_up_n y1]
        have n3 : ∀ a, a ≠ 9 → (a < 70 ∨ 71 + j ≤ a) → D3 a = D0 a := fun a y1 y2 => by rw [D3n a y1, n2 a y1 y2]
        have D39 : D3 9 i = (t : Int) := by rw [hD3, rg_up_s, rg_ui_s]
        have q3 : ∀ q, q < i → D3 9 q = D0 9 q := fun q hq' => by rw [hD3, rg_up_s, rg_ui_n (by omega), q2 q hq']
        have T3 : TR (D3 (70 + j)) u0 g := by
          rw [D3n (70 + j) (by omega), hu0]
          exact a5
        have v7 : D3 (70 + j) 7 = u0 35 - g := T3.2.2.2.2.1
        try simp only [rg_hp1, tk.1, Int.reduceToNat, rg_kIs, rg_kLs, rg_kRs, rg_kVs, rg_nns, rg_bs, cond_true, cond_false]
        rw [a1]
        try simp only [rg_hp1, tj.1, Int.reduceToNat, rg_kIs, rg_kLs, rg_kRs, rg_kVs, rg_nns, rg_bs, cond_true, cond_false]
        rw [w1]
        try simp only [rg_hp1, tk.1, Int.reduceToNat, rg_kIs, rg_kLs, rg_kRs, rg_kVs, rg_nns, rg_bs, cond_true, cond_false]
        rw [a2]
        try simp only [rg_hp1, rg_row_o rg_row_8, Int.reduceToNat, rg_kIs, rg_kLs, rg_kRs, rg_kVs, rg_nns, rg_bs, cond_true, cond_false]
        rw [ws]
        try simp only [rg_T_gI tk, Int.reduceToNat, rg_kIs, rg_kLs, rg_kRs, rg_kVs, rg_nns, rg_bs, cond_true, cond_false]
        rw [v7]
        by_cases gn : g < u0 35
        · rw [if_pos gn, if_pos (by omega)]
          refine ⟨D3, rfl, n3, q3, fun l hl q v hv => ?_⟩
          injection hl with hl
          rw [← hl] at hv
          cases q with
          | zero =>
            injection hv with hv
            rw [Nat.add_zero, D39]
            exact hv
          | succ q => cases hv
        · rw [if_neg gn, if_neg (by omega), xs_1 yi]
          have hh : ∀ q, q < 27 → u0 q = s q := fun q hq' => by rw [hu0]; exact sp_does_hd s _ _ q hq'
          have st0 : sp_st (m + 1) u0 := by rw [hu0]; exact (sp_does_st hs ⟨m0, show m ≤ 1000000 by omega⟩ (t : Int) (sp_rail s)).1
          have s36 : u0 36 ≤ W := by rw [hu0]; exact Int.le_trans (sp_does_36 hs (t : Int) (sp_rail s)) hW
          obtain ⟨D4, b1, b2, b3, b4⟩ := ih D3 u0 (by omega) ((hC.ofs z1.2 hh).of fun a _ _ => n3 a (by omega) (by omega)) (sp_hd_of hd hh) T3 st0 s36 (by rw [n3 8 (by decide) (by omega)]; exact h8)
          have n4 : ∀ a, a ≠ 9 → (a < 70 ∨ 71 + j ≤ a) → D4 a = D0 a := fun a y1 y2 => by rw [b2 a y1 (by omega), n3 a y1 y2]
          have q4 : ∀ q, q < i → D4 9 q = D0 9 q := fun q hq' => by rw [b3 q (by omega), q3 q hq']
          rw [b1]
          try simp only [Int.reduceToNat, rg_kIs, rg_kLs, rg_kRs, rg_kVs, rg_nns, rg_bs, cond_true, cond_false]
          cases hw : pn_wi g k u0 with
          | some l' =>
            rw [if_pos (show (some l').isSome = true from rfl), if_neg (by decide)]
            refine ⟨D4, rfl, n4, q4, fun l hl q v hv => ?_⟩
            injection hl with hl
            rw [← hl] at hv
            cases q with
            | zero =>
              injection hv with hv
              rw [Nat.add_zero, b3 i (by omega), D39]
              exact hv
            | succ q =>
              have r := b4 l' hw q v hv
              rw [show i + (q + 1) = i + 1 + q by omega]
              exact r
          | none =>
            rw [if_neg (show ¬ (none : Option (List Int)).isSome = true by decide), if_pos (by decide), xs_1 yt]
            exact rg_P_sw_37 hj hn hi hC hd hT hs m0 hm hg hW h8 h35 d ih hT15 c (t + 1) D4 (by omega) n4 q4
    · rw [if_neg y, if_neg y, if_pos (by decide), xs_1 yt]
      exact rg_P_sw_37 hj hn hi hC hd hT hs m0 hm hg hW h8 h35 d ih hT15 c (t + 1) D (by omega) hfr hq
theorem rg_P_sw {n : Nat} (hn : n ≤ 4) (hg : 0 ≤ g ∧ g ≤ 1000) (d : Nat) : ∀ (k i j : Nat) (D : rf_D) (s : Nat → Int) (m : Int), i + k = n → k ≤ j → j ≤ 6 → s 35 = g → CR D 28 s W → sp_hd s → TR (D (70 + j)) s g → sp_st m s → 0 ≤ m → m + (k : Int) ≤ 1000 → s 36 ≤ W → D 8 1 = 4 → SW X (d + 7 + k) g n i j k D s
  | 0, i, j, D, s, m, hk, hkj, hj, h35, hC, hd, hT, hs, m0, hm, hW, h8 => by
    refine ⟨D, ?_, fun _ _ _ => rfl, fun _ _ => rfl, fun l h => by cases h⟩
    rw [rf_e_P_startsWithin]
    try simp only [rg_gR (rg_tr_70 (j := j) (show j < 7 by omega)).1, Int.reduceToNat, rg_kIs, rg_kLs, rg_kRs, rg_kVs, rg_nns, rg_bs, cond_true, cond_false]
    rw [if_neg (by omega)]
    try rfl
  | k + 1, i, 0, D, s, m, hk, hkj, hj, h35, hC, hd, hT, hs, m0, hm, hW, h8 => by omega
  | k + 1, i, j + 1, D, s, m, hk, hkj, hj, h35, hC, hd, hT, hs, m0, hm, hW, h8 => by
    have j6 : j < 6 := by omega
    have yi : i ≤ 1000 := by omega
    rw [show 70 + (j + 1) = 71 + j by omega] at hT
    have lp := fun T (hT15 : T ≤ 15) => rg_P_sw_37 (X := X) (D0 := D) (k := k) j6 hn (show i < n by omega) hC hd hT hs m0 (by omega) hg hW h8 h35 (d + 1 + k) (fun D' u h1 h2 h3 h4 h5 h6 h7 => by
      rw [show d + 1 + k + 6 = d + 7 + k by omega]
      exact rg_P_sw hn hg d k (i + 1) j D' u (m + 1) (by omega) (by omega) (by omega) h1 h2 h3 h4 h5 (by omega) (by omega) h6 h7) (T := T) hT15 T 0 D (by omega) (fun _ _ _ => rfl) (fun _ _ => rfl)
    unfold SW
    rw [show 70 + (j + 1) = 71 + j by omega]
    have e : pn_wi g (k + 1) s = pn_fp (fun u => if g < u 35 then some [] else pn_wi g k u) s (if k = 0 then 10 else 15) 0 := rfl
    rw [e]
    clear e
    by_cases z : k = 0
    · obtain ⟨D', r1, r2, r3, r4⟩ := lp 10 (by decide)
      clear lp
      rw [show ((10 : Nat) : Int) = 10 from rfl, show ((0 : Nat) : Int) = 0 from rfl] at r1
      rw [if_pos z]
      refine ⟨D', ?_, r2, r3, r4⟩
      rw [show d + 7 + (k + 1) = (d + 1 + k + 6) + 1 by omega, rf_e_P_startsWithin]
      try simp only [rg_T_nx j6, Int.reduceToNat, rg_kIs, rg_kLs, rg_kRs, rg_kVs, rg_nns, rg_bs, cond_true, cond_false]
      rw [if_pos (by omega)]
      rw [rg_nzs, xs_1 yi, if_neg (by omega)]
      exact r1
    · obtain ⟨D', r1, r2, r3, r4⟩ := lp 15 (by decide)
      clear lp
      rw [show ((15 : Nat) : Int) = 15 from rfl, show ((0 : Nat) : Int) = 0 from rfl] at r1
      rw [if_neg z]
      refine ⟨D', ?_, r2, r3, r4⟩
      rw [show d + 7 + (k + 1) = (d + 1 + k + 6) + 1 by omega, rf_e_P_startsWithin]
      try simp only [rg_T_nx j6, Int.reduceToNat, rg_kIs, rg_kLs, rg_kRs, rg_kVs, rg_nns, rg_bs, cond_true, cond_false]
      rw [if_pos (by omega)]
      rw [rg_nzs, xs_1 yi, if_pos (by omega)]
      exact r1
end RGS33
