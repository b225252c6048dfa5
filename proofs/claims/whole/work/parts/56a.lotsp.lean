/-! lots, bad -/
section RGS22
variable {X : rf_X} {D : rf_D} {A : Nat → Int} {W : Int}
/-- a thing done by the class -/
theorem rg_W_deed (hC : CR D 28 A W) (hd : sp_hd A) (hT : TR (D 43) A 0) {m : Int} (hs : sp_st m A) (hm : m ≤ 1000000) (h36 : A 36 ≤ W) {n : Nat} (h4 : D 4 1 = (n : Int)) (hn : n ≤ 59) {t : Int} (t0 : 0 ≤ t) (t14 : t ≤ 14) (d : Nat) : ∃ D', rf_call (d + 9) 78 [.inr (.inr (some 0)), .inl t] (hp X D) = some (some (.inl (sp_does A t (sp_rail A)).1), hp X D') ∧ (∀ a, a ≠ 4 → a ≠ 5 → a ≠ 43 → D' a = D a) ∧ D' 4 1 = (n : Int) + 1 ∧ D' 5 = rg_ui (D 5) n t ∧ TR (D' 43) (sp_does A t (sp_rail A)).2 0 := by
  obtain ⟨D1, hD1⟩ : ∃ D1, D1 = rg_up (rg_up D 4 (rg_ui (D 4) 1 (D 4 1 + 1))) (4 + 1) (rg_ui (D (4 + 1)) (D 4 1).toNat t) := ⟨_, rfl⟩
  have D1n : ∀ a, a ≠ 4 → a ≠ 5 → D1 a = D a := fun a y1 y2 => by rw [hD1, rg_up_n y2, rg_up_n y1]
  have hC1 : CR D1 28 A W := hC.of fun a y1 y2 => D1n a (by omega) (by omega)
  have rl := sp_rail_02 hd hs
  have w2 := rg_T_rail (X := X) (D := D1) rg_tr_43 hC1 hd hs hm (d + 5) (by rw [D1n 43 (by decide) (by decide)]; exact hT.2.2.2.1)
  obtain ⟨f', w3, w4⟩ := rg_T_does (X := X) (D := D1) rg_tr_43 hC1 hd (by rw [D1n 43 (by decide) (by decide)]; exact hT) hs hm ⟨Int.le_refl 0, by decide⟩ h36 (d + 3) t0 t14 (fun _ => rl)
  refine ⟨rg_up D1 43 f', ?_, fun a y1 y2 y3 => ?_, ?_, ?_, ?_⟩
  · rw [rf_e_W_doDeed]
    try simp only [rg_gR_0_3, rg_hp1, rg_row_o rg_row_4, Int.reduceToNat, rg_kIs, rg_kLs, rg_kRs, rg_kVs, rg_nns, rg_bs, cond_true, cond_false]
    rw [rg_R_add rg_row_4 (d + 5) (by omega) (by omega) (by decide), ← hD1]
    try simp only [rg_gR_0_10, rg_hp1, rg_tr_43.1, Int.reduceToNat, rg_kIs, rg_kLs, rg_kRs, rg_kVs, rg_nns, rg_bs, cond_true, cond_false]
    rw [w2]
    try simp only [rg_hp1, rg_tr_43.1, Int.reduceToNat, rg_kIs, rg_kLs, rg_kRs, rg_kVs, rg_nns, rg_bs, cond_true, cond_false]
    rw [w3]
    try simp only [Int.reduceToNat, rg_kIs, rg_kLs, rg_kRs, rg_kVs, rg_nns, rg_bs, cond_true, cond_false]
  · rw [rg_up_n y3, D1n a y1 y2]
  · rw [rg_up_n (by decide), hD1, rg_up_n (by decide), rg_up_s, rg_ui_s, h4]
  · rw [rg_up_n (by decide), hD1, rg_up_s, h4, rg_tN]
  · rw [rg_up_s]
    exact w4
/-! lots -/
def lt_x (seed : Int) : Nat → Int
  | 0 => seed
  | k + 1 => Int.tmod (rf_wl (lt_x seed k * 48271)) 2147483647
def lt_h (x : Int) : Int := rf_w (Int.tmod (rf_wl (Int.tdiv x 16)) 15)
def lt_t (x : Int) (s : Nat → Int) : Int := if sp_can s (lt_h x) = true then lt_h x else 11
def lo_s (s : Nat → Int) (seed : Int) : Nat → (Nat → Int)
  | 0 => s
  | k + 1 => (sp_does (lo_s s seed k) (lt_t (lt_x seed (k + 1)) (lo_s s seed k)) (sp_rail (lo_s s seed k))).2
theorem lt_xs (seed : Int) (k : Nat) : lt_x seed (k + 1) = Int.tmod (rf_wl (lt_x seed k * 48271)) 2147483647 := by rw [lt_x]
theorem lt_hs (x : Int) : rf_w (Int.tmod (rf_wl (Int.tdiv x 16)) 15) = lt_h x := by rw [lt_h]
theorem lt_xb {seed : Int} (h1 : 1 ≤ seed) (h2 : seed < 2147483647) : ∀ (k : Nat), 0 ≤ lt_x seed k ∧ lt_x seed k < 2147483647
  | 0 => by
    rw [lt_x]
    omega
  | k + 1 => by
    have ih := lt_xb h1 h2 k
    rw [lt_xs, rg_wl (by omega) (by omega), Int.tmod_eq_emod_of_nonneg (by omega)]
    omega
theorem lt_hb {x : Int} (h1 : 0 ≤ x) (h2 : x < 2147483647) : 0 ≤ lt_h x ∧ lt_h x ≤ 14 := by
  unfold lt_h
  rw [Int.tdiv_eq_ediv_of_nonneg h1, rg_wl (by omega) (by omega), Int.tmod_eq_emod_of_nonneg (by omega), rg_w (by omega) (by omega)]
  omega
theorem lt_tb {x : Int} (h1 : 0 ≤ x) (h2 : x < 2147483647) (s : Nat → Int) : 0 ≤ lt_t x s ∧ lt_t x s ≤ 14 := by
  have b := lt_hb h1 h2
  unfold lt_t
  split <;> omega
/-- the things done, those by lots behind the others -/
def lt_e (e s : Nat → Int) (n : Nat) (seed : Int) (j : Nat) : Int := if j < n then e j else lt_t (lt_x seed (j - n + 1)) (lo_s s seed (j - n))
theorem lt_ch {e : Nat → Int} {a b : Int} {n : Nat} {seed : Int} : ∀ (i : Nat), sp_ch A (lt_e e (sp_ch A e a b W n) n seed) a b W (n + i) = lo_s (sp_ch A e a b W n) seed i
  | 0 => sp_ch_of (fun _ _ => rfl) a b W fun i hi => by
      unfold lt_e
      rw [if_pos (show i < n from hi)]
  | i + 1 => by
    have ih := lt_ch (e := e) (a := a) (b := b) (n := n) (seed := seed) i
    show (sp_does (sp_ch A (lt_e e (sp_ch A e a b W n) n seed) a b W (n + i)) (lt_e e (sp_ch A e a b W n) n seed (n + i)) (sp_rail (sp_ch A (lt_e e (sp_ch A e a b W n) n seed) a b W (n + i)))).2 = _
    rw [ih]
    unfold lt_e
    rw [if_neg (by omega), show n + i - n = i by omega]
    try rfl
end RGS22
