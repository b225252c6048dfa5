/-! plans: how many start, the class's -/
theorem xs_p {k : Nat} (h : k ≤ 1000) : rf_w (((k + 1 : Nat) : Int) - 1) = (k : Int) := by
  rw [rg_w (by omega) (by omega)]
  omega
def pn_v (b g : Int) (k : Nat) (s : Nat → Int) : Int := if b = 0 then pn_cn g k s else pn_ct g k s
def pn_f (b g : Int) (k : Nat) (s : Nat → Int) (t : Nat) : Int := if b = 0 then (if (sp_does s (t : Int) (sp_rail s)).1 = 3 then 0 else pn_cn g k (pn_st s t)) else pn_ct g k (pn_st s t)
theorem pn_v_s (b g : Int) (k : Nat) (s : Nat → Int) : pn_v b g (k + 1) s = ct_p s (pn_f b g k s) 15 0 := by
  unfold pn_v
  by_cases z : b = 0
  · rw [if_pos z]
    show ct_p s (fun t => if (sp_does s (t : Int) (sp_rail s)).1 = 3 then 0 else pn_cn g k (pn_st s t)) 15 0 = _
    exact ct_p_of 15 0 fun u _ _ _ => by
      unfold pn_f
      rw [if_pos z]
  · rw [if_neg z]
    show ct_p s (fun t => pn_ct g k (pn_st s t)) 15 0 = _
    exact ct_p_of 15 0 fun u _ _ _ => by
      unfold pn_f
      rw [if_neg z]
theorem pn_f_b (b g : Int) (k : Nat) (s : Nat → Int) (t : Nat) : 0 ≤ pn_f b g k s t ∧ pn_f b g k s t ≤ pw k := by
  unfold pn_f
  have b1 := pn_cn_b (g := g) k (pn_st s t)
  have b2 := pn_ct_b (g := g) k (pn_st s t)
  split
  · split
    · exact ⟨Int.le_refl _, Int.le_trans b1.1 b1.2⟩
    · exact b1
  · exact b2
def SY (X : rf_X) (e : Nat) (g b : Int) (j k : Nat) (D : rf_D) (s : Nat → Int) : Prop := ∃ D', rf_call e 51 [.inr (.inr (some (70 + j))), .inl (k : Int), .inl b] (hp X D) = some (some (.inl (pn_v b g k s)), hp X D') ∧ ∀ a, (a < 70 ∨ 70 + j ≤ a) → D' a = D a
section RGS34
variable {X : rf_X} {s : Nat → Int} {W g m b : Int}
theorem rg_P_sy_91 {D0 D D1 : rf_D} {j k : Nat} (hk : k ≤ 100) (e : Nat) {V : Int} (h : rf_call e 51 [.inr (.inr (some (70 + j))), .inl (k : Int), .inl b] (hp X D) = some (some (.inl V), hp X D1)) (w t : Int) : rf_j_P_startingWays_91 e (some (71 + j)) ((k + 1 : Nat) : Int) b (some (70 + j)) w t (hp X D) = rf_j_P_startingWays_35 e (some (71 + j)) ((k + 1 : Nat) : Int) b (some (70 + j)) (rf_w (w + V)) V (rf_w (t + 1)) (hp X D1) := by
  rw [rf_e_P_startingWays_91, xs_p (by omega), h]
  try simp only [Int.reduceToNat, rg_kIs, rg_kLs, rg_kRs, rg_kVs, rg_nns, rg_bs, cond_true, cond_false]
theorem rg_P_sy_35 {D0 : rf_D} {j k : Nat} (hj : j < 6) (hk4 : k ≤ 3) (hb : b = 0 ∨ b = 1) (hC : CR D0 28 s W) (hd : sp_hd s) (hT : TR (D0 (71 + j)) s g) (hs : sp_st m s) (m0 : 0 ≤ m) (hm : m ≤ 1000) (hg : 0 ≤ g ∧ g ≤ 1000) (hW : s 36 ≤ W) (d : Nat) (ih : ∀ (D : rf_D) (u : Nat → Int), CR D 28 u W → sp_hd u → TR (D (70 + j)) u g → sp_st (m + 1) u → u 36 ≤ W → SY X (d + 6) g b j k D u) : ∀ (c t : Nat) (D : rf_D) (w its r : Int), t + c = 15 → r = ct_p s (pn_f b g k s) c t → (∀ a, (a < 70 ∨ 71 + j ≤ a) → D a = D0 a) → 0 ≤ w → w + r ≤ 1000000 → (∀ u, t = u + 1 → sp_can s (u : Int) = true → its = pn_f b g k s u) → ∃ D', rf_j_P_startingWays_35 (d + 6) (some (71 + j)) ((k + 1 : Nat) : Int) b (some (70 + j)) w its (t : Int) (hp X D) = some (some (.inl (w + r)), hp X D') ∧ ∀ a, (a < 70 ∨ 71 + j ≤ a) → D' a = D0 a
  | 0, t, D, w, its, r, hk, hr, hfr, hw, hwr, hits => by
    have r0 : r = 0 := hr
    refine ⟨D, ?_, hfr⟩
    rw [rf_e_P_startingWays_35, if_neg (by omega), r0, Int.add_zero]
  | c + 1, t, D, w, its, r, hk, hr, hfr, hw, hwr, hits => by
    have tj := rg_tr_71 hj
    have tk := rg_tr_70 (j := j) (show j < 7 by omega)
    have z1 : 1 ≤ s 2 ∧ s 2 ≤ 6 := hd.2.2.1
    have yt : t ≤ 1000 := by omega
    have hC1 : CR D 28 s W := hC.of fun a _ _ => hfr a (by omega)
    have hT1 : TR (D (71 + j)) s g := by
      rw [hfr (71 + j) (by omega)]
      exact hT
    have cb := rg_T_canBe (X := X) (D := D) tj hT1 hs (d + 5) (th := (t : Int)) (by omega) (by omega)
    have le := rg_T_less (X := X) (D := D) tj hC1 hd hT1 hs (by omega) hW (d + 1) (th := (t : Int)) (by omega) (by omega)
    obtain ⟨r1, hr1⟩ : ∃ r1, r1 = ct_p s (pn_f b g k s) c (t + 1) := ⟨_, rfl⟩
    obtain ⟨f, hf⟩ : ∃ f, f = pn_f b g k s t := ⟨_, rfl⟩
    have ec : r = (if sp_can s (t : Int) = true then f else 0) + r1 := by
      rw [hr, hf, hr1]
      try rfl
    have r1b : 0 ≤ r1 := by
      rw [hr1]
      exact (ct_p_b (fun u => pn_f_b b g k s u) c (t + 1)).1
    have fb : 0 ≤ f := by
      rw [hf]
      exact (pn_f_b b g k s t).1
    have nx : ∀ (D' : rf_D) (w' its' : Int), (∀ a, (a < 70 ∨ 71 + j ≤ a) → D' a = D0 a) → 0 ≤ w' → w' + r1 ≤ 1000000 → (sp_can s (t : Int) = true → its' = f) → w' + r1 = w + r → ∃ D'', rf_j_P_startingWays_35 (d + 6) (some (71 + j)) ((k + 1 : Nat) : Int) b (some (70 + j)) w' its' (rf_w ((t : Int) + 1)) (hp X D') = some (some (.inl (w + r)), hp X D'') ∧ ∀ a, (a < 70 ∨ 71 + j ≤ a) → D'' a = D0 a := fun D' w' its' n1 n2 n3 n4 n5 => by
      obtain ⟨D'', q1, q2⟩ := rg_P_sy_35 hj hk4 hb hC hd hT hs m0 hm hg hW d ih c (t + 1) D' w' its' r1 (by omega) hr1 n1 n2 n3 (fun u hu hc => by
        have : u = t := by omega
        rw [this] at hc ⊢
        rw [n4 hc, hf])
      refine ⟨D'', ?_, q2⟩
      rw [xs_1 yt, ← n5]
      exact q1
    rw [rf_e_P_startingWays_35, if_pos (by omega)]
    try simp only [rg_hp1, tj.1, Int.reduceToNat, rg_kIs, rg_kLs, rg_kRs, rg_kVs, rg_nns, rg_bs, cond_true, cond_false]
    rw [cb]
    try simp only [Int.reduceToNat, rg_kIs, rg_kLs, rg_kRs, rg_kVs, rg_nns, rg_bs, cond_true, cond_false]
    by_cases y : sp_can s (t : Int) = true
    · rw [if_pos y] at ec
      rw [if_pos y, if_neg (by decide)]
      try simp only [rg_hp1, tj.1, Int.reduceToNat, rg_kIs, rg_kLs, rg_kRs, rg_kVs, rg_nns, rg_bs, cond_true, cond_false]
      rw [le]
      try simp only [Int.reduceToNat, rg_kIs, rg_kLs, rg_kRs, rg_kVs, rg_nns, rg_bs, cond_true, cond_false]
      by_cases bb : pn_ls s t = true
      · have hif : its = f := by
          cases t with
          | zero =>
            rw [pn_ls_0] at bb
            cases bb
          | succ u =>
            have q := pn_ls_st bb
            rw [hits u rfl (q.2.1 y), hf]
            unfold pn_f
            rw [q.1, q.2.2]
        rw [if_pos (of_decide_eq_true bb), if_neg (by decide), hif, rg_w (z := w + f) (by omega) (by omega)]
        exact nx D (w + f) f hfr (by omega) (by omega) (fun _ => rfl) (by omega)
      · rw [if_neg (fun q => bb (decide_eq_true q)), if_pos (by decide)]
        have rl := sp_rail_02 hd hs
        obtain ⟨D1, D2, a1, a2, a3, a4, a5⟩ := rg_P_step (X := X) (D := D) hj hC1 hd hT1 hs (by omega) (by omega) hW d (t := (t : Int)) (r := sp_rail s) (by omega) (by omega) (fun _ => rl)
        have w1 := rg_T_rail (X := X) (D := D1) tj (hC1.of fun a _ _ => a3 a (by omega)) hd hs (by omega) (d + 3) (by rw [a3 (71 + j) (by omega)]; exact hT1.2.2.2.1)
        have n2 : ∀ a, (a < 70 ∨ 71 + j ≤ a) → D2 a = D0 a := fun a y2 => by rw [a4 a (by omega), hfr a y2]
        obtain ⟨u0, hu0⟩ : ∃ u0, u0 = pn_st s t := ⟨_, rfl⟩
        obtain ⟨cm, hcm⟩ : ∃ cm, cm = (sp_does s (t : Int) (sp_rail s)).1 := ⟨_, rfl⟩
        rw [← hcm] at a2
        have hh : ∀ q, q < 27 → u0 q = s q := fun q hq' => by rw [hu0]; exact sp_does_hd s _ _ q hq'
        have st0 : sp_st (m + 1) u0 := by rw [hu0]; exact (sp_does_st hs ⟨m0, show m ≤ 1000000 by omega⟩ (t : Int) (sp_rail s)).1
        have s36 : u0 36 ≤ W := by rw [hu0]; exact Int.le_trans (sp_does_36 hs (t : Int) (sp_rail s)) hW
        have T3 : TR (D2 (70 + j)) u0 g := by rw [hu0]; exact a5
        obtain ⟨D4, b1, b2⟩ := ih D2 u0 ((hC.ofs z1.2 hh).of fun a _ _ => n2 a (by omega)) (sp_hd_of hd hh) T3 st0 s36
        have n4 : ∀ a, (a < 70 ∨ 71 + j ≤ a) → D4 a = D0 a := fun a y2 => by rw [b2 a (by omega), n2 a y2]
        have k91 := rg_P_sy_91 (X := X) (D0 := D0) (b := b) (j := j) (k := k) (by omega) (d + 6) b1 w (t : Int)
        try simp only [rg_hp1, tk.1, Int.reduceToNat, rg_kIs, rg_kLs, rg_kRs, rg_kVs, rg_nns, rg_bs, cond_true, cond_false]
        rw [a1]
        try simp only [rg_hp1, tj.1, Int.reduceToNat, rg_kIs, rg_kLs, rg_kRs, rg_kVs, rg_nns, rg_bs, cond_true, cond_false]
        rw [w1]
        try simp only [rg_hp1, tk.1, Int.reduceToNat, rg_kIs, rg_kLs, rg_kRs, rg_kVs, rg_nns, rg_bs, cond_true, cond_false]
        rw [a2]
        try simp only [Int.reduceToNat, rg_kIs, rg_kLs, rg_kRs, rg_kVs, rg_nns, rg_bs, cond_true, cond_false]
        have go : ¬ (cm = 3 ∧ b = 0) → f = pn_v b g k u0 := fun q => by
          rw [hf, hu0]
          unfold pn_f pn_v
          by_cases z : b = 0
          · rw [if_pos z, if_pos z, if_neg (fun x => q ⟨hcm.trans x, z⟩)]
          · rw [if_neg z, if_neg z]
        by_cases c3 : cm = 3
        · rw [if_pos c3]
          by_cases z : b = 0
          · have f0 : f = 0 := by
              rw [hf]
              unfold pn_f
              rw [if_pos z, if_pos (hcm.symm.trans c3)]
            rw [if_pos z, Int.add_zero, rg_w (z := w) (by omega) (by omega)]
            exact nx D2 w 0 n2 hw (by omega) (fun _ => f0.symm) (by omega)
          · have fv := go fun q => z q.2
            rw [if_neg z, k91, ← fv, rg_w (z := w + f) (by omega) (by omega)]
            exact nx D4 (w + f) f n4 (by omega) (by omega) (fun _ => rfl) (by omega)
        · have fv := go fun q => c3 q.1
          rw [if_neg c3, k91, ← fv, rg_w (z := w + f) (by omega) (by omega)]
          exact nx D4 (w + f) f n4 (by omega) (by omega) (fun _ => rfl) (by omega)
    · rw [if_neg y] at ec
      rw [if_neg y, if_pos (by decide)]
      exact nx D w its hfr hw (by omega) (fun q => absurd q y) (by omega)
theorem rg_P_sy (hg : 0 ≤ g ∧ g ≤ 1000) (hb : b = 0 ∨ b = 1) (d : Nat) : ∀ (k j : Nat) (D : rf_D) (s : Nat → Int) (m : Int), k ≤ 4 → k ≤ j → j ≤ 6 → CR D 28 s W → sp_hd s → TR (D (70 + j)) s g → sp_st m s → 0 ≤ m → m + (k : Int) ≤ 1000 → s 36 ≤ W → SY X (d + 7 + k) g b j k D s
  | 0, j, D, s, m, hk, hkj, hj, hC, hd, hT, hs, m0, hm, hW => by
    have tk := rg_tr_70 (j := j) (show j < 7 by omega)
    refine ⟨D, ?_, fun _ _ => rfl⟩
    have e : pn_v b g 0 s = (if g < s 35 then 1 else 0) := by
      unfold pn_v
      split <;> rfl
    rw [rf_e_P_startingWays]
    try simp only [rg_gR tk.1, rg_T_gI tk, Int.reduceToNat, rg_kIs, rg_kLs, rg_kRs, rg_kVs, rg_nns, rg_bs, cond_true, cond_false]
    rw [if_neg (by omega), hT.2.2.2.2.1, e]
    by_cases c : g < s 35
    · rw [if_pos c, if_pos (by omega)]
    · rw [if_neg c, if_neg (by omega)]
  | k + 1, 0, D, s, m, hk, hkj, hj, hC, hd, hT, hs, m0, hm, hW => by omega
  | k + 1, j + 1, D, s, m, hk, hkj, hj, hC, hd, hT, hs, m0, hm, hW => by
    have j6 : j < 6 := by omega
    rw [show 70 + (j + 1) = 71 + j by omega] at hT
    have pb := pw_b (k := k) (by omega)
    have cb := ct_p_b (s := s) (fun u => pn_f_b b g k s u) 15 0
    obtain ⟨r, hr⟩ : ∃ r, r = ct_p s (pn_f b g k s) 15 0 := ⟨_, rfl⟩
    rw [← hr] at cb
    rw [show ((15 : Nat) : Int) = 15 from rfl] at cb
    obtain ⟨D', r1, r2⟩ := rg_P_sy_35 (X := X) (D0 := D) (k := k) j6 (by omega) hb hC hd hT hs m0 (by omega) hg hW (d + 1 + k) (fun D' u h1 h2 h3 h4 h5 => by
      rw [show d + 1 + k + 6 = d + 7 + k by omega]
      exact rg_P_sy hg hb d k j D' u (m + 1) (by omega) (by omega) (by omega) h1 h2 h3 h4 (by omega) (by omega) h5) 15 0 D 0 0 r (by omega) hr (fun _ _ => rfl) (Int.le_refl _) (by omega) (fun u hu => by omega)
    rw [Int.zero_add, show ((0 : Nat) : Int) = 0 from rfl] at r1
    unfold SY
    rw [show 70 + (j + 1) = 71 + j by omega]
    refine ⟨D', ?_, r2⟩
    rw [show d + 7 + (k + 1) = (d + 1 + k + 6) + 1 by omega, rf_e_P_startingWays]
    try simp only [rg_T_nx j6, Int.reduceToNat, rg_kIs, rg_kLs, rg_kRs, rg_kVs, rg_nns, rg_bs, cond_true, cond_false]
    rw [if_pos (by omega), rg_nzs, pn_v_s, ← hr]
    exact r1
end RGS34
