/-! The law's first instructions: the object is made; its body's answer. -/
theorem lw_isO (T : List rf_Sh) (n c : Nat) (hn : T.length = n) : rf_isO (T ++ [.inl c]) n c = true := by
  subst hn
  unfold rf_isO
  rw [rf_sh_get, List.getElem?_append_right (Nat.le_refl _), Nat.sub_self]
  show Nat.beq c c = true
  exact Nat.beq_refl c
section LWB
variable {cal : rf_C} {M : rf_M} {pc nx a b c n q : Nat} {z : Int} {ts : List Nat} {mk : List Bool} {L L' : List (Option rf_V)} {st : List rf_V} {h h' : rf_H} {T : Option rf_R}
theorem lw_s_new (f : rf_Fb M pc nx (.new q) a b c z ts mk = true) (hm : rf_msk mk L = L') (hl : h.1.length = n) (hn : n < 1000000) (K : rf_den cal M (nx, L', .inr (.inr (some n)) :: st, rf_nw h (.inl a)) = T) : rf_den cal M (pc, L, st, h) = T := by
  subst hl
  obtain ⟨e, hk⟩ := rf_sx (cal := cal) f L st h
  rw [e]
  show (if h.1.length < 1000000 then rf_den cal M (nx, rf_msk (rf_look M.2.2.2.2.2 nx) L, .inr (.inr (some h.1.length)) :: st, rf_nw h (.inl a)) else none) = T
  rw [if_pos hn, hk, hm]
  exact K
theorem lw_s_spec (f : rf_Fb M pc nx (.invokespecial q) a 0 3 z ts mk = true) (hm : rf_msk mk L = L') (hc : Nat.ble (rf_cat st) 8 = true) (ho : rf_isO h.1 n z.toNat = true) (e : cal a [.inr (.inr (some n))] h = some (none, h')) (K : rf_den cal M (nx, L', st, h') = T) : rf_den cal M (pc, L, .inr (.inr (some n)) :: st, h) = T := by
  obtain ⟨e0, hk⟩ := rf_sx (cal := cal) f L (.inr (.inr (some n)) :: st) h
  rw [e0]
  show (bif Nat.ble (rf_cat st) 8 then (bif rf_isO h.1 n z.toNat then (cal a [.inr (.inr (some n))] h).bind fun q => rf_ret 3 q fun v h' => rf_den cal M (nx, rf_msk (rf_look M.2.2.2.2.2 nx) L, v ++ st, h') else none) else none) = T
  rw [hc, ho, e, hk, hm]
  exact K
end LWB
theorem lw_nw1 (h : rf_H) (x : rf_Sh) : (rf_nw h x).1 = h.1 ++ [x] := rfl
theorem lw_iso1 (X : rf_X) : rf_isO (rf_nw (rg_h0 X) (.inl 4)).1 0 4 = true := by
  rw [lw_nw1]
  exact lw_isO [] 0 4 rfl
/-- the places of the law's own frame -/
def lw_L : List (Option rf_V) := [some (.inr (.inr (some 1000000))), none, none, none, none, none, none, none, none, none, none, none, none, none, none, none, none, none, none, none, none, none, none, none, none]
theorem lw_begin_1 {X : rf_X} {h1 : rf_H} {T : Option rf_R} (e1 : rf_call 30 53 [.inr (.inr (some 0))] (rf_nw (rg_h0 X) (.inl 4)) = some (none, h1)) (K : rf_j_L_law_8 30 1000000 0 h1 = T) : rf_den (rf_call 30) rf_m_L_law (0, lw_L, [], rg_h0 X) = T := by
  unfold lw_L
  refine lw_s_new rf_f_L_law_0 (rf_m0 _) (n := 0) rfl (by decide) ?_
  refine rf_s_dupA rf_f_L_law_3 (rf_m0 _) ?_
  refine lw_s_spec rf_f_L_law_4 (rf_m0 _) rfl (lw_iso1 X) e1 ?_
  refine rf_s_astore_n rf_f_L_law_7 (rf_m0 _) ?_
  exact K
theorem lw_TS0 : pq_TS rg_D0 := ⟨rg_De (k := 6) (i := 1) (v := 6) (by decide +kernel), rg_De (k := 8) (i := 1) (v := 4) (by decide +kernel), rg_De (k := 10) (i := 1) (v := 3) (by decide +kernel)⟩
theorem lw_den {X : rf_X} (hX : XL X) : ∃ (P' : rf_P) (D' : rf_D), rf_den (rf_call 30) rf_m_L_law (0, lw_L, [], rg_h0 X) = some (some (.inl 1), lh P' X D') := by
  obtain ⟨P', D', r⟩ := lw_all hX lw_TS0 15
  exact ⟨P', D', lw_begin_1 (rg_new1 X) r⟩
