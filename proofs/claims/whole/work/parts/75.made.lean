/-! The law's first instructions: both objects are made. -/
theorem lw_isO (T : List rf_Sh) (n c : Nat) (hn : T.length = n) : rf_isO (T ++ [.inl c]) n c = true := by
  subst hn
  unfold rf_isO
  rw [rf_sh_get, List.getElem?_append_right (Nat.le_refl _), Nat.sub_self]
  show Nat.beq c c = true
  exact Nat.beq_refl c
section LWB
variable {cal : rf_C} {M : rf_M} {pc nx a b c n q : Nat} {z : Int} {ts : List Nat} {mk : List Bool} {L L' : List (Option rf_V)} {st : List rf_V} {h h' : rf_H} {T : Option rf_R}
theorem lw_s_new (f : rf_Fb M pc nx (.new q) a b c z ts mk = true) (hm : rf_msk mk L = L') (hl : h.1.length = n) (hn : n < 1000000) (K : rf_den cal M (nx, L', .inr (.inr (some n)) :: st, rf_nw h (.inl a)) = T) : rf_den cal M (pc, L, st, h) = T := by
  subst hl
  obtain ⟨e, hk⟩ := rf_sx (cal := cal) f L st h
  rw [e]
  show (if h.1.length < 1000000 then rf_den cal M (nx, rf_msk (rf_look M.2.2.2.2.2 nx) L, .inr (.inr (some h.1.length)) :: st, rf_nw h (.inl a)) else none) = T
  rw [if_pos hn, hk, hm]
  exact K
theorem lw_s_spec (f : rf_Fb M pc nx (.invokespecial q) a 0 3 z ts mk = true) (hm : rf_msk mk L = L') (hc : Nat.ble (rf_cat st) 8 = true) (ho : rf_isO h.1 n z.toNat = true) (e : cal a [.inr (.inr (some n))] h = some (none, h')) (K : rf_den cal M (nx, L', st, h') = T) : rf_den cal M (pc, L, .inr (.inr (some n)) :: st, h) = T := by
  obtain ⟨e0, hk⟩ := rf_sx (cal := cal) f L (.inr (.inr (some n)) :: st) h
  rw [e0]
  show (bif Nat.ble (rf_cat st) 8 then (bif rf_isO h.1 n z.toNat then (cal a [.inr (.inr (some n))] h).bind fun q => rf_ret 3 q fun v h' => rf_den cal M (nx, rf_msk (rf_look M.2.2.2.2.2 nx) L, v ++ st, h') else none) else none) = T
  rw [hc, ho, e, hk, hm]
  exact K
end LWB
theorem rf_f_L_law_0 : rf_Fb rf_m_L_law 0 3 (.new 7) 4 0 0 0 [] [] = true := by decide +kernel
theorem rf_f_L_law_3 : rf_Fb rf_m_L_law 3 4 .dup 0 0 0 0 [] [] = true := by decide +kernel
theorem rf_f_L_law_4 : rf_Fb rf_m_L_law 4 7 (.invokespecial 9) 53 0 3 4 [] [] = true := by decide +kernel
theorem rf_f_L_law_7 : rf_Fb rf_m_L_law 7 8 (.astore_n 1) 0 0 0 0 [] [] = true := by decide +kernel
theorem rf_f_L_law_8 : rf_Fb rf_m_L_law 8 11 (.new 10) 5 0 0 0 [] [] = true := by decide +kernel
theorem rf_f_L_law_11 : rf_Fb rf_m_L_law 11 12 .dup 0 0 0 0 [] [] = true := by decide +kernel
theorem rf_f_L_law_12 : rf_Fb rf_m_L_law 12 15 (.invokespecial 12) 115 0 3 5 [] [] = true := by decide +kernel
theorem rf_f_L_law_15 : rf_Fb rf_m_L_law 15 16 (.astore_n 2) 0 0 0 0 [] [] = true := by decide +kernel
theorem rf_f_L_law_16 : rf_Fb rf_m_L_law 16 17 (.iconst 0) 0 0 0 0 [] [] = true := by decide +kernel
theorem rf_f_L_law_17 : rf_Fb rf_m_L_law 17 18 (.istore_n 3) 0 0 0 0 [] [true, true, true, true] = true := by decide +kernel
theorem lw_sx1 (X : rf_X) (h : rf_H) : (rf_sX X h).1 = h.1 := rfl
theorem lw_nw1 (h : rf_H) (x : rf_Sh) : (rf_nw h x).1 = h.1 ++ [x] := rfl
theorem lw_len1 (X : rf_X) : (rf_sX X rg_r1.2).1.length = 77 := by
  rw [lw_sx1]
  exact rg_r1len
theorem lw_iso1 (X : rf_X) : rf_isO (rf_nw (rg_h0 X) (.inl 4)).1 0 4 = true := by
  rw [lw_nw1]
  exact lw_isO [] 0 4 rfl
theorem lw_iso2 (X : rf_X) : rf_isO (rf_nw (rf_sX X rg_r1.2) (.inl 5)).1 77 5 = true := by
  rw [lw_nw1]
  exact lw_isO _ 77 5 (lw_len1 X)
theorem lw_begin_1 {X : rf_X} {h1 h2 : rf_H} {T : Option rf_R} (e1 : rf_call 30 53 [.inr (.inr (some 0))] (rf_nw (rg_h0 X) (.inl 4)) = some (none, h1)) (hl : h1.1.length = 77) (ho : rf_isO (rf_nw h1 (.inl 5)).1 77 5 = true) (e2 : rf_call 30 115 [.inr (.inr (some 77))] (rf_nw h1 (.inl 5)) = some (none, h2)) (K : rf_j_L_law_18 30 (some 1000000) (some 0) (some 77) 0 h2 = T) : rf_den (rf_call 30) rf_m_L_law (0, [some (.inr (.inr (some 1000000))), none, none, none], [], rg_h0 X) = T := by
  refine lw_s_new rf_f_L_law_0 (rf_m0 _) (n := 0) rfl (by decide) ?_
  refine rf_s_dupA rf_f_L_law_3 (rf_m0 _) ?_
  refine lw_s_spec rf_f_L_law_4 (rf_m0 _) rfl (lw_iso1 X) e1 ?_
  refine rf_s_astore_n rf_f_L_law_7 (rf_m0 _) ?_
  refine lw_s_new rf_f_L_law_8 (rf_m0 _) hl (by decide) ?_
  refine rf_s_dupA rf_f_L_law_11 (rf_m0 _) ?_
  refine lw_s_spec rf_f_L_law_12 (rf_m0 _) rfl ho e2 ?_
  refine rf_s_astore_n rf_f_L_law_15 (rf_m0 _) ?_
  refine rf_s_iconst rf_f_L_law_16 (rf_m0 _) ?_
  refine rf_s_istore_n rf_f_L_law_17 rfl ?_
  exact K
theorem lw_den {X : rf_X} (hX : XL X) (hs : ∀ j, I32 ((X 0).2 j)) (hL : (X 0).1 ≤ 3072) : ∃ D', rf_den (rf_call 30) rf_m_L_law (0, [some (.inr (.inr (some 1000000))), none, none, none], [], rg_h0 X) = some (some (.inl 1), hp X D') := by
  obtain ⟨D', r⟩ := lw_loop hX hs hL 3072 0 rg_D0 (by omega) rg_s_Inv
  rw [show ((0 : Nat) : Int) = 0 from rfl] at r
  exact ⟨D', lw_begin_1 (rg_new1 X) (lw_len1 X) (lw_iso2 X) (rg_new2 X) r⟩
