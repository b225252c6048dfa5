section RFA
variable {l : Launch} {d : Nat} {cc : ByteArray} {own : String} {nL : Nat} {rt : Option FieldType} {ini : Bool} {r : rf_R} {X : rf_X}
variable {cal : rf_C} {ms : List (Nat × List Bool)} {pc len a b c w : Nat} {z : Int} {ts : List Nat} {L : List (Option rf_V)} {st : List rf_V} {h : rf_H} {ks : rf_S → Option rf_R}
theorem rf_hro {base : Nat} {ro : Nat → Nat} {j : Nat} : rf_cv (rf_ad base ro) (.inr (.inr (some (1000000 + j)))) = .ref (ro j) := by
  show va_rf (some (rf_ad base ro (1000000 + j))) = _
  unfold rf_ad
  rw [if_pos (by omega), Nat.add_sub_cancel_left]
  rfl
theorem rf_aL_some {h : rf_H} {k : Nat} {v : Int} (e : rf_aL h k = some v) : (∃ j, j < 3 ∧ k = 1000000 + j ∧ v = ((h.2.2.2 j).1 : Int)) ∨ (∃ t n, rf_sh h.1 k = some (.inr (t, n)) ∧ v = (n : Int)) := by
  unfold rf_aL at e
  cases h1 : Nat.ble 1000000 k with
  | true =>
    cases h2 : Nat.ble k 1000002 with
    | false => simp only [h1, h2, cond_true, cond_false] at e; cases e
    | true =>
      simp only [h1, h2, cond_true, cond_false] at e
      cases e
      have h1 := Nat.le_of_ble_eq_true h1
      have h2 := Nat.le_of_ble_eq_true h2
      exact Or.inl ⟨k - 1000000, by omega, by omega, rfl⟩
  | false =>
    simp only [h1, cond_true, cond_false] at e
    split at e
    · rename_i t n hs
      cases e
      exact Or.inr ⟨t, n, hs, rfl⟩
    · cases e
theorem rf_aI_some {h : rf_H} {k : Nat} {i v : Int} (e : rf_aI h k i = some v) : (∃ j, j < 3 ∧ k = 1000000 + j ∧ (0 ≤ i ∧ i < ((h.2.2.2 j).1 : Int)) ∧ v = (h.2.2.2 j).2 i.toNat) ∨ (∃ n : Nat, rf_sh h.1 k = some (.inr (0, n)) ∧ (0 ≤ i ∧ i < (n : Int)) ∧ v = h.2.1 k i.toNat) := by
  unfold rf_aI at e
  cases h1 : Nat.ble 1000000 k with
  | true =>
    cases h2 : Nat.ble k 1000002 with
    | false => simp only [h1, h2, cond_true, cond_false] at e; cases e
    | true =>
      simp only [h1, h2, cond_true, cond_false] at e
      have h1 := Nat.le_of_ble_eq_true h1
      have h2 := Nat.le_of_ble_eq_true h2
      split at e
      · rename_i q
        cases e
        exact Or.inl ⟨k - 1000000, by omega, by omega, q, rfl⟩
      · cases e
  | false =>
    simp only [h1, cond_true, cond_false] at e
    split at e
    · rename_i n hn
      split at e
      · rename_i q
        cases e
        exact Or.inr ⟨n, rf_len_sh hn, q, rfl⟩
      · cases e
    · cases e
theorem rf_aZ_some {h : rf_H} {k : Nat} {i v : Int} (e : rf_aZ h k i = some v) : ∃ n : Nat, rf_sh h.1 k = some (.inr (1, n)) ∧ (0 ≤ i ∧ i < (n : Int)) ∧ v = h.2.1 k i.toNat := by
  unfold rf_aZ at e
  split at e
  · rename_i n hn
    split at e
    · rename_i q
      cases e
      exact ⟨n, rf_len_sh hn, q, rfl⟩
    · cases e
  · cases e
theorem rf_aR_some {h : rf_H} {k : Nat} {i : Int} {v : Option Nat} (e : rf_aR h k i = some v) : ∃ n : Nat, rf_sh h.1 k = some (.inr (2, n)) ∧ (0 ≤ i ∧ i < (n : Int)) ∧ v = h.2.2.1 k i.toNat := by
  unfold rf_aR at e
  split at e
  · rename_i n hn
    split at e
    · rename_i q
      cases e
      exact ⟨n, rf_len_sh hn, q, rfl⟩
    · cases e
  · cases e
theorem rf_sI_some {h h' : rf_H} {k : Nat} {i v : Int} (e : rf_sI h k i v = some h') : ∃ n : Nat, rf_sh h.1 k = some (.inr (0, n)) ∧ (0 ≤ i ∧ i < (n : Int)) ∧ h' = (h.1, rf_up2 h.2.1 k i.toNat v, h.2.2) := by
  unfold rf_sI at e
  split at e
  · rename_i n hn
    split at e
    · rename_i q
      cases e
      exact ⟨n, rf_len_sh hn, q, rfl⟩
    · cases e
  · cases e
theorem rf_sZ_some {h h' : rf_H} {k : Nat} {i v : Int} (e : rf_sZ h k i v = some h') : ∃ n : Nat, rf_sh h.1 k = some (.inr (1, n)) ∧ (0 ≤ i ∧ i < (n : Int)) ∧ h' = (h.1, rf_up2 h.2.1 k i.toNat v, h.2.2) := by
  unfold rf_sZ at e
  split at e
  · rename_i n hn
    split at e
    · rename_i q
      cases e
      exact ⟨n, rf_len_sh hn, q, rfl⟩
    · cases e
  · cases e
theorem rf_sR_some {h h' : rf_H} {k v : Nat} {i : Int} (e : rf_sR h k i v = some h') : ∃ n : Nat, rf_sh h.1 k = some (.inr (2, n)) ∧ (0 ≤ i ∧ i < (n : Int)) ∧ rf_sh h.1 v = some (.inl 2) ∧ h' = (h.1, h.2.1, rf_up2 h.2.2.1 k i.toNat (some v), h.2.2.2) := by
  unfold rf_sR at e
  split at e
  · rename_i n hn
    cases hv : rf_isO h.1 v 2 with
    | false => simp only [hv, cond_false] at e; cases e
    | true =>
      simp only [hv, cond_true] at e
      split at e
      · rename_i q
        cases e
        exact ⟨n, rf_len_sh hn, q, rf_isO_sh hv, rfl⟩
      · cases e
  · cases e
theorem rf_cp_some {h h' : rf_H} {a b : Nat} {sp dp n : Int} (e : rf_cp h a sp b dp n = some h') : ∃ la lb : Nat, rf_sh h.1 a = some (.inr (0, la)) ∧ rf_sh h.1 b = some (.inr (0, lb)) ∧ (0 ≤ sp ∧ 0 ≤ dp ∧ 0 ≤ n ∧ sp + n ≤ (la : Int) ∧ dp + n ≤ (lb : Int)) ∧ h' = (h.1, rf_cpD h.2.1 a sp.toNat b dp.toNat n.toNat, h.2.2) := by
  unfold rf_cp at e
  split at e
  · rename_i la lb ha hb
    split at e
    · rename_i q
      cases e
      exact ⟨la, lb, rf_len_sh ha, rf_len_sh hb, q, rfl⟩
    · cases e
  · cases e
theorem rf_ofNat (n : Nat) : Int32.ofNat n = Int32.ofInt (n : Int) := Int32.ofInt_eq_ofNat.symm
theorem rf_okC_n {t n : Nat} {f : Nat → Int} (o : rf_okC (.inr (t, n)) f) : n ≤ 100000 := by
  rcases t with _ | _ | t
  · exact o.1
  · exact o.1
  · exact o
theorem rf_updI (f g : Nat → Int) (i : Nat) (v : Int) (h1 : g i = v) (h2 : ∀ j, j ≠ i → g j = f j) : upd (fun j => Int32.ofInt (f j)) i (Int32.ofInt v) = fun j => Int32.ofInt (g j) := by
  funext j
  unfold upd
  by_cases e : j = i
  · rw [if_pos e, e, h1]
  · rw [if_neg e, h2 j e]
theorem rf_okH.putA {h : rf_H} {k t n i : Nat} {v : Int} (H : rf_okH h) (hs : rf_sh h.1 k = some (.inr (t, n))) (hv : rf_o32 v) : rf_okH (h.1, rf_up2 h.2.1 k i v, h.2.2) := by
  refine H.upd hs fun f o => ?_
  rcases t with _ | _ | t
  · refine ⟨o.1, fun j hj => ?_⟩
    show rf_o32 (if j = i then v else f j)
    split
    · exact hv
    · exact o.2 j hj
  · refine ⟨o.1, fun j hj => ?_⟩
    show rf_o32 (if j = i then v else f j)
    split
    · exact hv
    · exact o.2 j hj
  · exact o
theorem rf_n_arraylength (ck : rf_cki nL own ini rt pc len (.arraylength) a b c w z ts = true) (hd : decode cc pc = .ok (.arraylength, len)) (hI : ∀ s', ks s' = some r → rf_Go l d cc own nL rt ini r X s') (h0 : rf_ins cal ms (pc + len) (.arraylength) a b c z ts L st h some ks = some r) : rf_Go l d cc own nL rt ini r X (pc, L, st, h) := by
  have ck : len = 1 := of_decide_eq_true ck
  subst ck
  simp only [rf_ins] at h0
  obtain ⟨x, st, rfl, h0⟩ := rf_1R_inv h0
  obtain ⟨k0, rfl, h0⟩ := rf_nn_inv h0
  obtain ⟨v, hg, h0⟩ := rf_bd_inv h0
  rcases rf_aL_some hg with ⟨j, hj, rfl, rfl⟩ | ⟨t, n, hs, rfl⟩
  · refine rf_go_same (hI _ h0) (fun pu => ?_) (fun pu p e R s m args below meth c base ro dC dI cy n0 Q ls H locs cells slots FX lv hP hS k => ?_)
    · have o := (pu.2.2.1.2.1 j hj).1
      exact ⟨pu.1.msk _, rf_okS_c.mpr ⟨by show rf_o32 _; unfold rf_o32; omega, (rf_okS_c.mp pu.2.1).2⟩⟩
    · obtain ⟨hx, hb, hml, hown, htb, hnt, hK, hro, hz1, hz2, hao, hbs, hR1, hR2, hini⟩ := FX
      have hr := hro j hj
      rw [← pu.2.2.2] at hr
      show W p l e R s m args below meth c H locs cells slots Q (F0 m pc ls (rf_cv (rf_ad base ro) (.inr (.inr (some (1000000 + j)))) :: st.map (rf_cv (rf_ad base ro))))
      rw [rf_hro]
      refine va_slen hx hb hr.1 (by omega) (by omega) hS hd ?_
      rw [rf_ofNat]
      exact k ls (lv.msk _)
  · refine rf_go_same (hI _ h0) (fun pu => ?_) (fun pu p e R s m args below meth c base ro dC dI cy n0 Q ls H locs cells slots FX lv hP hS k => ?_)
    · have o := rf_okC_n (pu.2.2.1.1 _ _ hs)
      exact ⟨pu.1.msk _, rf_okS_c.mpr ⟨by show rf_o32 _; unfold rf_o32; omega, (rf_okS_c.mp pu.2.1).2⟩⟩
    · obtain ⟨hx, hb, hml, hown, htb, hnt, hK, hro, hz1, hz2, hao, hbs, hR1, hR2, hini⟩ := FX
      show W p l e R s m args below meth c H locs cells slots Q (F0 m pc ls (rf_cv (rf_ad base ro) (.inr (.inr (some k0))) :: st.map (rf_cv (rf_ad base ro))))
      rw [rf_had (rf_klt pu.2.2.1 hs)]
      rcases t with _ | _ | t
      · exact va_alen hx hb hK hP k0 0 (rf_ha hs rfl) rfl (rf_ofNat n) hd (k ls (lv.msk _))
      · exact va_alen hx hb hK hP k0 1 (rf_ha hs rfl) rfl (rf_ofNat n) hd (k ls (lv.msk _))
      · exact va_alen hx hb hK hP k0 2 (rf_ha hs rfl) rfl (rf_ofNat n) hd (k ls (lv.msk _))
theorem rf_okS_2 {v1 v2 : rf_V} {st : List rf_V} (h : rf_okS (v1 :: v2 :: st)) : rf_ok v1 ∧ rf_ok v2 ∧ rf_okS st := ⟨(rf_okS_c.mp h).1, (rf_okS_c.mp (rf_okS_c.mp h).2).1, (rf_okS_c.mp (rf_okS_c.mp h).2).2⟩
theorem rf_okS_3 {v1 v2 v3 : rf_V} {st : List rf_V} (h : rf_okS (v1 :: v2 :: v3 :: st)) : rf_ok v1 ∧ rf_ok v2 ∧ rf_okS st := ⟨(rf_okS_c.mp h).1, (rf_okS_2 (rf_okS_c.mp h).2).1, (rf_okS_2 (rf_okS_c.mp h).2).2.2⟩
theorem rf_n_iaload (ck : rf_cki nL own ini rt pc len (.iaload) a b c w z ts = true) (hd : decode cc pc = .ok (.iaload, len)) (hI : ∀ s', ks s' = some r → rf_Go l d cc own nL rt ini r X s') (h0 : rf_ins cal ms (pc + len) (.iaload) a b c z ts L st h some ks = some r) : rf_Go l d cc own nL rt ini r X (pc, L, st, h) := by
  have ck : len = 1 := of_decide_eq_true ck
  subst ck
  simp only [rf_ins] at h0
  split at h0
  · rename_i i r0 st
    obtain ⟨k0, rfl, h0⟩ := rf_nn_inv h0
    obtain ⟨v, hg, h0⟩ := rf_bd_inv h0
    rcases rf_aI_some hg with ⟨j, hj, rfl, hin, rfl⟩ | ⟨n, hs, hin, rfl⟩
    · refine rf_go_same (hI _ h0) (fun pu => ?_) (fun pu p e R s m args below meth c base ro dC dI cy n0 Q ls H locs cells slots FX lv hP hS k => ?_)
      · have o := (pu.2.2.1.2.1 j hj).2 i.toNat
        exact ⟨pu.1.msk _, rf_okS_c.mpr ⟨o, (rf_okS_2 pu.2.1).2.2⟩⟩
      · obtain ⟨hx, hb, hml, hown, htb, hnt, hK, hro, hz1, hz2, hao, hbs, hR1, hR2, hini⟩ := FX
        have hr := hro j hj
        rw [← pu.2.2.2] at hr
        show W p l e R s m args below meth c H locs cells slots Q (F0 m pc ls (.int (Int32.ofInt i) :: rf_cv (rf_ad base ro) (.inr (.inr (some (1000000 + j)))) :: st.map (rf_cv (rf_ad base ro))))
        rw [rf_hro]
        have hv := rf_vin (rf_okS_2 pu.2.1).1 hin
        refine va_sld hx hb hr.1 (by omega) (by omega) hS hv.1 hd ?_
        rw [hv.2]
        exact k ls (lv.msk _)
    · refine rf_go_same (hI _ h0) (fun pu => ?_) (fun pu p e R s m args below meth c base ro dC dI cy n0 Q ls H locs cells slots FX lv hP hS k => ?_)
      · have o := (pu.2.2.1.1 _ _ hs).2 i.toNat (by omega)
        exact ⟨pu.1.msk _, rf_okS_c.mpr ⟨o, (rf_okS_2 pu.2.1).2.2⟩⟩
      · obtain ⟨hx, hb, hml, hown, htb, hnt, hK, hro, hz1, hz2, hao, hbs, hR1, hR2, hini⟩ := FX
        show W p l e R s m args below meth c H locs cells slots Q (F0 m pc ls (.int (Int32.ofInt i) :: rf_cv (rf_ad base ro) (.inr (.inr (some k0))) :: st.map (rf_cv (rf_ad base ro))))
        rw [rf_had (rf_klt pu.2.2.1 hs)]
        have hv := rf_vin (rf_okS_2 pu.2.1).1 hin
        refine va_iald hx hb hK hP k0 0 (rf_ha hs rfl) rfl hv.1 hd ?_
        rw [hv.2]
        exact k ls (lv.msk _)
  · cases h0
theorem rf_n_baload (ck : rf_cki nL own ini rt pc len (.baload) a b c w z ts = true) (hd : decode cc pc = .ok (.baload, len)) (hI : ∀ s', ks s' = some r → rf_Go l d cc own nL rt ini r X s') (h0 : rf_ins cal ms (pc + len) (.baload) a b c z ts L st h some ks = some r) : rf_Go l d cc own nL rt ini r X (pc, L, st, h) := by
  have ck : false = true := ck
  cases ck
theorem rf_n_aaload (ck : rf_cki nL own ini rt pc len (.aaload) a b c w z ts = true) (hd : decode cc pc = .ok (.aaload, len)) (hI : ∀ s', ks s' = some r → rf_Go l d cc own nL rt ini r X s') (h0 : rf_ins cal ms (pc + len) (.aaload) a b c z ts L st h some ks = some r) : rf_Go l d cc own nL rt ini r X (pc, L, st, h) := by
  have ck : len = 1 := of_decide_eq_true ck
  subst ck
  simp only [rf_ins] at h0
  split at h0
  · rename_i i r0 st
    obtain ⟨k0, rfl, h0⟩ := rf_nn_inv h0
    obtain ⟨v, hg, h0⟩ := rf_bd_inv h0
    obtain ⟨n, hs, hin, rfl⟩ := rf_aR_some hg
    refine rf_go_same (hI _ h0) (fun pu => ?_) (fun pu p e R s m args below meth c base ro dC dI cy n0 Q ls H locs cells slots FX lv hP hS k => ?_)
    · exact ⟨pu.1.msk _, rf_okS_c.mpr ⟨trivial, (rf_okS_2 pu.2.1).2.2⟩⟩
    · obtain ⟨hx, hb, hml, hown, htb, hnt, hK, hro, hz1, hz2, hao, hbs, hR1, hR2, hini⟩ := FX
      show W p l e R s m args below meth c H locs cells slots Q (F0 m pc ls (.int (Int32.ofInt i) :: rf_cv (rf_ad base ro) (.inr (.inr (some k0))) :: st.map (rf_cv (rf_ad base ro))))
      rw [rf_had (rf_klt pu.2.2.1 hs)]
      have hv := rf_vin (rf_okS_2 pu.2.1).1 hin
      refine va_aldq hx hb hK hP k0 2 (rf_ha hs rfl) rfl hv.1 hd ?_
      rw [hv.2]
      exact k ls (lv.msk _)
  · cases h0
theorem rf_n_iastore (ck : rf_cki nL own ini rt pc len (.iastore) a b c w z ts = true) (hd : decode cc pc = .ok (.iastore, len)) (hI : ∀ s', ks s' = some r → rf_Go l d cc own nL rt ini r X s') (h0 : rf_ins cal ms (pc + len) (.iastore) a b c z ts L st h some ks = some r) : rf_Go l d cc own nL rt ini r X (pc, L, st, h) := by
  have ck : len = 1 := of_decide_eq_true ck
  subst ck
  simp only [rf_ins] at h0
  split at h0
  · rename_i x i r0 st
    obtain ⟨k0, rfl, h0⟩ := rf_nn_inv h0
    obtain ⟨h', hg, h0⟩ := rf_bd_inv h0
    obtain ⟨n, hs, hin, rfl⟩ := rf_sI_some hg
    refine rf_go_heap (hI _ h0) (fun pu => ?_) ?_ (fun pu p e R s m args below meth c base ro dC dI cy n0 z0 Q ls H locs cells slots FX lv rel hR3 hR4 k => ?_)
    · have o := rf_okS_3 pu.2.1
      exact ⟨pu.1.msk _, o.2.2, pu.2.2.1.putA hs o.1, pu.2.2.2⟩
    · exact ⟨Nat.le_refl _, Nat.le_refl _⟩
    · obtain ⟨hx, hb, hml, hown, htb, hnt, hK, hro, hz1, hz2, hao, hbs, hR1, hR2, hini⟩ := FX
      show W p l e R s m args below meth c H locs cells slots Q (F0 m pc ls (.int (Int32.ofInt x) :: .int (Int32.ofInt i) :: rf_cv (rf_ad base ro) (.inr (.inr (some k0))) :: st.map (rf_cv (rf_ad base ro))))
      have hk := rf_klt pu.2.2.1 hs
      rw [rf_had hk]
      have hv := rf_vin (rf_okS_3 pu.2.1).2.1 hin
      refine va_iast hx hb hK rel.1 (rf_ws_D (rf_ad base ro) cy base (A := fun q => base ≤ q) (fun q h => h) h) rel.2.1 k0 0 (rf_ha hs rfl) rfl hv.1 hd fun H1 locs1 hP1 hD1 hS1 => k H1 locs1 _ _ (lv.msk _) ⟨?_, hS1, rel.2.2⟩
      rw [hv.2, rf_updI (h.2.1 k0) (rf_up2 h.2.1 k0 i.toNat x k0) i.toNat x (rf_up2_s _ _ _ _) (fun j hj => rf_up2_i _ _ _ _ hj)] at hP1
      exact Eq.mp (congrArg (fun w => va_P (dC, dI) rf_cl w H1) (rf_ws_set (h := h) (h' := (h.1, rf_up2 h.2.1 k0 i.toNat x, h.2.2)) _ _ _ rfl hs (fun q j hq => ⟨rf_up2_k _ _ _ _ hq, rfl⟩) rfl)) hP1
  · cases h0
theorem rf_n_bastore (ck : rf_cki nL own ini rt pc len (.bastore) a b c w z ts = true) (hd : decode cc pc = .ok (.bastore, len)) (hI : ∀ s', ks s' = some r → rf_Go l d cc own nL rt ini r X s') (h0 : rf_ins cal ms (pc + len) (.bastore) a b c z ts L st h some ks = some r) : rf_Go l d cc own nL rt ini r X (pc, L, st, h) := by
  have ck : false = true := ck
  cases ck
theorem rf_n_aastore (ck : rf_cki nL own ini rt pc len (.aastore) a b c w z ts = true) (hd : decode cc pc = .ok (.aastore, len)) (hI : ∀ s', ks s' = some r → rf_Go l d cc own nL rt ini r X s') (h0 : rf_ins cal ms (pc + len) (.aastore) a b c z ts L st h some ks = some r) : rf_Go l d cc own nL rt ini r X (pc, L, st, h) := by
  have ck : len = 1 := of_decide_eq_true ck
  subst ck
  simp only [rf_ins] at h0
  split at h0
  · rename_i x i r0 st
    obtain ⟨k0, rfl, h0⟩ := rf_nn_inv h0
    obtain ⟨h', hg, h0⟩ := rf_bd_inv h0
    obtain ⟨n, hs, hin, hv2, rfl⟩ := rf_sR_some hg
    refine rf_go_heap (hI _ h0) (fun pu => ?_) ?_ (fun pu p e R s m args below meth c base ro dC dI cy n0 z0 Q ls H locs cells slots FX lv rel hR3 hR4 k => ?_)
    · have o := rf_okS_3 pu.2.1
      exact ⟨pu.1.msk _, o.2.2, pu.2.2.1.putR, pu.2.2.2⟩
    · exact ⟨Nat.le_refl _, Nat.le_refl _⟩
    · obtain ⟨hx, hb, hml, hown, htb, hnt, hK, hro, hz1, hz2, hao, hbs, hR1, hR2, hini⟩ := FX
      show W p l e R s m args below meth c H locs cells slots Q (F0 m pc ls (rf_cv (rf_ad base ro) (.inr (.inr (some x))) :: .int (Int32.ofInt i) :: rf_cv (rf_ad base ro) (.inr (.inr (some k0))) :: st.map (rf_cv (rf_ad base ro))))
      have hk := rf_klt pu.2.2.1 hs
      have hk2 := rf_klt pu.2.2.1 hv2
      rw [rf_had hk, rf_had hk2]
      have hv := rf_vin (rf_okS_3 pu.2.1).2.1 hin
      refine va_astq hx hb hK rel.1 (rf_ws_D (rf_ad base ro) cy base (A := fun q => base ≤ q) (fun q h => h) h) rel.2.1 k0 2 x 2 (r := (RX3, TX3, 2)) (rf_ha hs rfl) rfl (rf_he hv2) rfl hv.1 hd fun H1 locs1 hP1 hD1 hS1 => k H1 locs1 _ _ (lv.msk _) ⟨?_, hS1, rel.2.2⟩
      have he : va_up (fun j => (h.2.2.1 k0 j).map (rf_ad base ro)) i.toNat (some (base + x)) = fun j => (rf_up2 h.2.2.1 k0 i.toNat (some x) k0 j).map (rf_ad base ro) := by
        funext j
        unfold va_up
        by_cases e : j = i.toNat
        · rw [if_pos e, e, rf_up2_s]
          show some (base + x) = some (rf_ad base ro x)
          unfold rf_ad
          rw [if_neg (by omega)]
        · rw [if_neg e, rf_up2_i _ _ _ _ e]
      rw [hv.2, he] at hP1
      exact Eq.mp (congrArg (fun w => va_P (dC, dI) rf_cl w H1) (rf_ws_set (h := h) (h' := (h.1, h.2.1, rf_up2 h.2.2.1 k0 i.toNat (some x), h.2.2.2)) _ _ _ rfl hs (fun q j hq => ⟨rfl, rf_up2_k _ _ _ _ hq⟩) rfl)) hP1
  · cases h0
end RFA
