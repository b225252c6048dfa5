theorem rf_u_W_row : rf_mt 54 = rf_m_W_row := rfl
theorem rf_f_W_row_0 : rf_Fb rf_m_W_row 0 1 (.aload_n 0) 0 0 0 0 [] [] = true := by decide +kernel
theorem rf_f_W_row_1 : rf_Fb rf_m_W_row 1 2 (.aload_n 0) 0 0 0 0 [] [] = true := by decide +kernel
theorem rf_f_W_row_2 : rf_Fb rf_m_W_row 2 5 (.getfield 11) 4 0 2 0 [] [] = true := by decide +kernel
theorem rf_f_W_row_5 : rf_Fb rf_m_W_row 5 6 (.iload_n 1) 0 0 0 0 [] [] = true := by decide +kernel
theorem rf_f_W_row_6 : rf_Fb rf_m_W_row 6 9 (.invokestatic 74) 55 2 2 0 [] [] = true := by decide +kernel
theorem rf_f_W_row_9 : rf_Fb rf_m_W_row 9 10 (.iload_n 2) 0 0 0 0 [] [] = true := by decide +kernel
theorem rf_f_W_row_10 : rf_Fb rf_m_W_row 10 12 (.bipush 40) 0 0 0 0 [] [] = true := by decide +kernel
theorem rf_f_W_row_12 : rf_Fb rf_m_W_row 12 13 (.iconst 0) 0 0 0 0 [] [] = true := by decide +kernel
theorem rf_f_W_row_13 : rf_Fb rf_m_W_row 13 16 (.invokevirtual 78) 56 4 0 4 [] [] = true := by decide +kernel
theorem rf_f_W_row_16 : rf_Fb rf_m_W_row 16 17 (.ireturn) 0 0 0 0 [] [] = true := by decide +kernel
set_option maxRecDepth 20000 in
set_option maxHeartbeats 2000000 in
theorem rf_e_W_row (d : Nat) (o : Nat) (a1 : Int) (a2 : Int) (h : rf_H) : rf_call (d + 1) 54 [.inr (.inr (some o)), .inl a1, .inl a2] h = ((rf_gR h 4 o 0).bind fun x1 => ((rf_call d 55 [.inr (.inr x1), .inl a1] h).bind fun q3 => rf_kR q3 fun x4 h2 => (bif rf_isO h2.1 o 4 then ((rf_call d 56 [.inr (.inr (some o)), .inr (.inr x4), .inl a2, .inl 40, .inl 0] h2).bind fun q6 => rf_kI q6 fun x7 h5 => some (some (.inl x7), h5)) else none))) := by
  show rf_den (rf_call d) (rf_mt 54) _ = _
  rw [rf_u_W_row]
  exact ((rf_s_aload_n rf_f_W_row_0 rfl (rf_m0 _) (rf_s_aload_n rf_f_W_row_1 rfl (rf_m0 _) (rf_s_getAS rf_f_W_row_2 (rf_m0 _) fun x1 => (rf_s_iload_n rf_f_W_row_5 rfl (rf_m0 _) (rf_s_invS2 rf_f_W_row_6 rfl rfl (rf_m0 _) fun q3 x4 h2 => (rf_s_iload_n rf_f_W_row_9 rfl (rf_m0 _) (rf_s_bipush rf_f_W_row_10 (rf_m0 _) (rf_s_iconst rf_f_W_row_12 (rf_m0 _) (rf_s_invV0S rf_f_W_row_13 rfl rfl (rf_m0 _) fun q6 x7 h5 => (rf_s_iret rf_f_W_row_16)))))))))) : rf_den (rf_call d) rf_m_W_row (0, [some (.inr (.inr (some o))), some (.inl a1), some (.inl a2)], [], h) = _)
theorem rf_u_W_pick : rf_mt 55 = rf_m_W_pick := rfl
theorem rf_f_W_pick_0 : rf_Fb rf_m_W_pick 0 1 (.iload_n 1) 0 0 0 0 [] [] = true := by decide +kernel
theorem rf_f_W_pick_1 : rf_Fb rf_m_W_pick 1 4 (.ifCond .lt 15) 16 0 0 0 [] [] = true := by decide +kernel
theorem rf_f_W_pick_4 : rf_Fb rf_m_W_pick 4 5 (.iload_n 1) 0 0 0 0 [] [] = true := by decide +kernel
theorem rf_f_W_pick_5 : rf_Fb rf_m_W_pick 5 6 (.aload_n 0) 0 0 0 0 [] [] = true := by decide +kernel
theorem rf_f_W_pick_6 : rf_Fb rf_m_W_pick 6 7 (.arraylength) 0 0 0 0 [] [] = true := by decide +kernel
theorem rf_f_W_pick_7 : rf_Fb rf_m_W_pick 7 10 (.if_icmp .ge 9) 16 0 0 0 [] [] = true := by decide +kernel
theorem rf_f_W_pick_10 : rf_Fb rf_m_W_pick 10 11 (.aload_n 0) 0 0 0 0 [] [] = true := by decide +kernel
theorem rf_f_W_pick_11 : rf_Fb rf_m_W_pick 11 12 (.iload_n 1) 0 0 0 0 [] [] = true := by decide +kernel
theorem rf_f_W_pick_12 : rf_Fb rf_m_W_pick 12 13 (.aaload) 0 0 0 0 [] [] = true := by decide +kernel
theorem rf_f_W_pick_13 : rf_Fb rf_m_W_pick 13 16 (.goto 4) 17 0 0 0 [] [] = true := by decide +kernel
theorem rf_f_W_pick_16 : rf_Fb rf_m_W_pick 16 17 (.aconst_null) 0 0 0 0 [] [] = true := by decide +kernel
theorem rf_f_W_pick_17 : rf_Fb rf_m_W_pick 17 18 (.areturn) 0 0 0 0 [] [] = true := by decide +kernel
set_option maxRecDepth 20000 in
set_option maxHeartbeats 2000000 in
theorem rf_e_W_pick (d : Nat) (a1 : Option Nat) (a2 : Int) (h : rf_H) : rf_call (d + 1) 55 [.inr (.inr a1), .inl a2] h = (if a2 < 0 then some (some (.inr (.inr none)), h) else (rf_nn a1 fun k1 => ((rf_aL h k1).bind fun x2 => (if a2 < x2 then (rf_nn a1 fun k3 => ((rf_aR h k3 a2).bind fun x4 => some (some (.inr (.inr x4)), h))) else some (some (.inr (.inr none)), h))))) := by
  show rf_den (rf_call d) (rf_mt 55) _ = _
  rw [rf_u_W_pick]
  exact ((rf_s_iload_n rf_f_W_pick_0 rfl (rf_m0 _) (rf_s_if_lt rf_f_W_pick_1 rfl (rf_m0 _) (rf_m0 _) (rf_s_aconst_null rf_f_W_pick_16 (rf_m0 _) (rf_s_aret rf_f_W_pick_17)) (rf_s_iload_n rf_f_W_pick_4 rfl (rf_m0 _) (rf_s_aload_n rf_f_W_pick_5 rfl (rf_m0 _) (rf_s_alenR rf_f_W_pick_6 (rf_m0 _) fun k1 x2 => (rf_s_icmp_ge rf_f_W_pick_7 rfl (rf_m0 _) (rf_m0 _) (rf_s_aconst_null rf_f_W_pick_16 (rf_m0 _) (rf_s_aret rf_f_W_pick_17)) (rf_s_aload_n rf_f_W_pick_10 rfl (rf_m0 _) (rf_s_iload_n rf_f_W_pick_11 rfl (rf_m0 _) (rf_s_aaldR rf_f_W_pick_12 (rf_m0 _) fun k3 x4 => (rf_s_goto rf_f_W_pick_13 rfl (rf_m0 _) (rf_s_aret rf_f_W_pick_17))))))))))) : rf_den (rf_call d) rf_m_W_pick (0, [some (.inr (.inr a1)), some (.inl a2)], [], h) = _)
theorem rf_u_W_renewed : rf_mt 56 = rf_m_W_renewed := rfl
theorem rf_f_W_renewed_0 : rf_Fb rf_m_W_renewed 0 1 (.aload_n 1) 0 0 0 0 [] [] = true := by decide +kernel
theorem rf_f_W_renewed_1 : rf_Fb rf_m_W_renewed 1 4 (.ifnull 8) 9 0 0 0 [] [] = true := by decide +kernel
theorem rf_f_W_renewed_4 : rf_Fb rf_m_W_renewed 4 5 (.iload_n 2) 0 0 0 0 [] [] = true := by decide +kernel
theorem rf_f_W_renewed_5 : rf_Fb rf_m_W_renewed 5 6 (.iload_n 3) 0 0 0 0 [] [] = true := by decide +kernel
theorem rf_f_W_renewed_6 : rf_Fb rf_m_W_renewed 6 9 (.if_icmp .le 5) 11 0 0 0 [] [] = true := by decide +kernel
theorem rf_f_W_renewed_9 : rf_Fb rf_m_W_renewed 9 10 (.iconst (-1)) 0 0 0 0 [] [] = true := by decide +kernel
theorem rf_f_W_renewed_10 : rf_Fb rf_m_W_renewed 10 11 (.ireturn) 0 0 0 0 [] [] = true := by decide +kernel
theorem rf_f_W_renewed_11 : rf_Fb rf_m_W_renewed 11 12 (.iload_n 2) 0 0 0 0 [] [] = true := by decide +kernel
theorem rf_f_W_renewed_12 : rf_Fb rf_m_W_renewed 12 15 (.ifCond .ge 9) 21 0 0 0 [] [] = true := by decide +kernel
theorem rf_f_W_renewed_15 : rf_Fb rf_m_W_renewed 15 16 (.aload_n 0) 0 0 0 0 [] [] = true := by decide +kernel
theorem rf_f_W_renewed_16 : rf_Fb rf_m_W_renewed 16 17 (.iconst 5) 0 0 0 0 [] [] = true := by decide +kernel
theorem rf_f_W_renewed_17 : rf_Fb rf_m_W_renewed 17 20 (.invokevirtual 101) 57 1 0 4 [] [] = true := by decide +kernel
theorem rf_f_W_renewed_20 : rf_Fb rf_m_W_renewed 20 21 (.ireturn) 0 0 0 0 [] [] = true := by decide +kernel
theorem rf_f_W_renewed_21 : rf_Fb rf_m_W_renewed 21 22 (.aload_n 1) 0 0 0 0 [] [] = true := by decide +kernel
theorem rf_f_W_renewed_22 : rf_Fb rf_m_W_renewed 22 23 (.iload_n 2) 0 0 0 0 [] [] = true := by decide +kernel
theorem rf_f_W_renewed_23 : rf_Fb rf_m_W_renewed 23 25 (.iload 4) 0 0 0 0 [] [] = true := by decide +kernel
theorem rf_f_W_renewed_25 : rf_Fb rf_m_W_renewed 25 28 (.invokevirtual 67) 1 2 3 2 [] [] = true := by decide +kernel
theorem rf_f_W_renewed_28 : rf_Fb rf_m_W_renewed 28 29 (.iload_n 2) 0 0 0 0 [] [] = true := by decide +kernel
theorem rf_f_W_renewed_29 : rf_Fb rf_m_W_renewed 29 30 (.ireturn) 0 0 0 0 [] [] = true := by decide +kernel
set_option maxRecDepth 20000 in
set_option maxHeartbeats 2000000 in
theorem rf_e_W_renewed (d : Nat) (o : Nat) (a1 : Option Nat) (a2 : Int) (a3 : Int) (a4 : Int) (h : rf_H) : rf_call (d + 1) 56 [.inr (.inr (some o)), .inr (.inr a1), .inl a2, .inl a3, .inl a4] h = (rf_nz a1 (some (some (.inl (-1)), h)) ((if a3 < a2 then some (some (.inl (-1)), h) else (if a2 < 0 then (bif rf_isO h.1 o 4 then ((rf_call d 57 [.inr (.inr (some o)), .inl 5] h).bind fun q5 => rf_kI q5 fun x6 h4 => some (some (.inl x6), h4)) else none) else (rf_nn a1 fun k1 => (bif rf_isO h.1 k1 2 then ((rf_call d 1 [.inr (.inr (some k1)), .inl a2, .inl a4] h).bind fun q3 => rf_kV q3 fun h2 => some (some (.inl a2), h2)) else none)))))) := by
  show rf_den (rf_call d) (rf_mt 56) _ = _
  rw [rf_u_W_renewed]
  exact ((rf_s_aload_n rf_f_W_renewed_0 rfl (rf_m0 _) (rf_s_ifnull rf_f_W_renewed_1 rfl (rf_m0 _) (rf_m0 _) (rf_s_iconst rf_f_W_renewed_9 (rf_m0 _) (rf_s_iret rf_f_W_renewed_10)) (rf_s_iload_n rf_f_W_renewed_4 rfl (rf_m0 _) (rf_s_iload_n rf_f_W_renewed_5 rfl (rf_m0 _) (rf_s_icmp_le rf_f_W_renewed_6 rfl (rf_m0 _) (rf_m0 _) (rf_s_iload_n rf_f_W_renewed_11 rfl (rf_m0 _) (rf_s_if_ge rf_f_W_renewed_12 rfl (rf_m0 _) (rf_m0 _) (rf_s_aload_n rf_f_W_renewed_21 rfl (rf_m0 _) (rf_s_iload_n rf_f_W_renewed_22 rfl (rf_m0 _) (rf_s_iload rf_f_W_renewed_23 rfl (rf_m0 _) (rf_s_invV3R rf_f_W_renewed_25 rfl rfl (rf_m0 _) fun k1 q3 h2 => (rf_s_iload_n rf_f_W_renewed_28 rfl (rf_m0 _) (rf_s_iret rf_f_W_renewed_29)))))) (rf_s_aload_n rf_f_W_renewed_15 rfl (rf_m0 _) (rf_s_iconst rf_f_W_renewed_16 (rf_m0 _) (rf_s_invV0S rf_f_W_renewed_17 rfl rfl (rf_m0 _) fun q5 x6 h4 => (rf_s_iret rf_f_W_renewed_20)))))) (rf_s_iconst rf_f_W_renewed_9 (rf_m0 _) (rf_s_iret rf_f_W_renewed_10))))))) : rf_den (rf_call d) rf_m_W_renewed (0, [some (.inr (.inr (some o))), some (.inr (.inr a1)), some (.inl a2), some (.inl a3), some (.inl a4)], [], h) = _)
theorem rf_u_W_found : rf_mt 57 = rf_m_W_found := rfl
theorem rf_f_W_found_0 : rf_Fb rf_m_W_found 0 1 (.aload_n 0) 0 0 0 0 [] [] = true := by decide +kernel
theorem rf_f_W_found_1 : rf_Fb rf_m_W_found 1 2 (.iload_n 1) 0 0 0 0 [] [] = true := by decide +kernel
theorem rf_f_W_found_2 : rf_Fb rf_m_W_found 2 5 (.putfield 288) 4 16 0 0 [] [] = true := by decide +kernel
theorem rf_f_W_found_5 : rf_Fb rf_m_W_found 5 6 (.aload_n 0) 0 0 0 0 [] [] = true := by decide +kernel
theorem rf_f_W_found_6 : rf_Fb rf_m_W_found 6 9 (.getfield 28) 4 4 2 0 [] [] = true := by decide +kernel
theorem rf_f_W_found_9 : rf_Fb rf_m_W_found 9 10 (.iload_n 1) 0 0 0 0 [] [] = true := by decide +kernel
theorem rf_f_W_found_10 : rf_Fb rf_m_W_found 10 11 (.aload_n 0) 0 0 0 0 [] [] = true := by decide +kernel
theorem rf_f_W_found_11 : rf_Fb rf_m_W_found 11 14 (.getfield 28) 4 4 2 0 [] [] = true := by decide +kernel
theorem rf_f_W_found_14 : rf_Fb rf_m_W_found 14 15 (.iload_n 1) 0 0 0 0 [] [] = true := by decide +kernel
theorem rf_f_W_found_15 : rf_Fb rf_m_W_found 15 18 (.invokevirtual 86) 4 1 0 2 [] [] = true := by decide +kernel
theorem rf_f_W_found_18 : rf_Fb rf_m_W_found 18 19 (.iconst 1) 0 0 0 0 [] [] = true := by decide +kernel
theorem rf_f_W_found_19 : rf_Fb rf_m_W_found 19 20 (.iadd) 0 0 0 0 [] [] = true := by decide +kernel
theorem rf_f_W_found_20 : rf_Fb rf_m_W_found 20 23 (.invokevirtual 90) 2 2 3 2 [] [] = true := by decide +kernel
theorem rf_f_W_found_23 : rf_Fb rf_m_W_found 23 25 (.bipush (-3)) 0 0 0 0 [] [] = true := by decide +kernel
theorem rf_f_W_found_25 : rf_Fb rf_m_W_found 25 26 (.ireturn) 0 0 0 0 [] [] = true := by decide +kernel
set_option maxRecDepth 20000 in
set_option maxHeartbeats 2000000 in
theorem rf_e_W_found (d : Nat) (o : Nat) (a1 : Int) (h : rf_H) : rf_call (d + 1) 57 [.inr (.inr (some o)), .inl a1] h = ((rf_pI h 4 o 16 a1).bind fun h1 => ((rf_gR h1 4 o 4).bind fun x2 => ((rf_gR h1 4 o 4).bind fun x3 => (rf_nn x3 fun k4 => (bif rf_isO h1.1 k4 2 then ((rf_call d 4 [.inr (.inr (some k4)), .inl a1] h1).bind fun q6 => rf_kI q6 fun x7 h5 => (rf_nn x2 fun k8 => (bif rf_isO h5.1 k8 2 then ((rf_call d 2 [.inr (.inr (some k8)), .inl a1, .inl (rf_w (x7 + 1))] h5).bind fun q10 => rf_kV q10 fun h9 => some (some (.inl (-3)), h9)) else none))) else none))))) := by
  show rf_den (rf_call d) (rf_mt 57) _ = _
  rw [rf_u_W_found]
  exact ((rf_s_aload_n rf_f_W_found_0 rfl (rf_m0 _) (rf_s_iload_n rf_f_W_found_1 rfl (rf_m0 _) (rf_s_putIS rf_f_W_found_2 (rf_m0 _) fun h1 => (rf_s_aload_n rf_f_W_found_5 rfl (rf_m0 _) (rf_s_getAS rf_f_W_found_6 (rf_m0 _) fun x2 => (rf_s_iload_n rf_f_W_found_9 rfl (rf_m0 _) (rf_s_aload_n rf_f_W_found_10 rfl (rf_m0 _) (rf_s_getAS rf_f_W_found_11 (rf_m0 _) fun x3 => (rf_s_iload_n rf_f_W_found_14 rfl (rf_m0 _) (rf_s_invV0R rf_f_W_found_15 rfl rfl (rf_m0 _) fun k4 q6 x7 h5 => (rf_s_iconst rf_f_W_found_18 (rf_m0 _) (rf_s_iadd rf_f_W_found_19 (rf_m0 _) (rf_s_invV3R rf_f_W_found_20 rfl rfl (rf_m0 _) fun k8 q10 h9 => (rf_s_bipush rf_f_W_found_23 (rf_m0 _) (rf_s_iret rf_f_W_found_25))))))))))))))) : rf_den (rf_call d) rf_m_W_found (0, [some (.inr (.inr (some o))), some (.inl a1)], [], h) = _)
theorem rf_u_W_lay : rf_mt 58 = rf_m_W_lay := rfl
theorem rf_f_W_lay_0 : rf_Fb rf_m_W_lay 0 1 (.aload_n 0) 0 0 0 0 [] [] = true := by decide +kernel
theorem rf_f_W_lay_1 : rf_Fb rf_m_W_lay 1 4 (.getfield 11) 4 0 2 0 [] [] = true := by decide +kernel
theorem rf_f_W_lay_4 : rf_Fb rf_m_W_lay 4 5 (.iload_n 1) 0 0 0 0 [] [] = true := by decide +kernel
theorem rf_f_W_lay_5 : rf_Fb rf_m_W_lay 5 8 (.invokestatic 74) 55 2 2 0 [] [] = true := by decide +kernel
theorem rf_f_W_lay_8 : rf_Fb rf_m_W_lay 8 10 (.astore 4) 0 0 0 0 [] [] = true := by decide +kernel
theorem rf_f_W_lay_10 : rf_Fb rf_m_W_lay 10 12 (.aload 4) 0 0 0 0 [] [] = true := by decide +kernel
theorem rf_f_W_lay_12 : rf_Fb rf_m_W_lay 12 15 (.ifnonnull 5) 17 0 0 0 [] [] = true := by decide +kernel
theorem rf_f_W_lay_15 : rf_Fb rf_m_W_lay 15 16 (.iconst (-1)) 0 0 0 0 [] [] = true := by decide +kernel
theorem rf_f_W_lay_16 : rf_Fb rf_m_W_lay 16 17 (.ireturn) 0 0 0 0 [] [] = true := by decide +kernel
theorem rf_f_W_lay_17 : rf_Fb rf_m_W_lay 17 18 (.aload_n 0) 0 0 0 0 [] [] = true := by decide +kernel
theorem rf_f_W_lay_18 : rf_Fb rf_m_W_lay 18 20 (.aload 4) 0 0 0 0 [] [] = true := by decide +kernel
theorem rf_f_W_lay_20 : rf_Fb rf_m_W_lay 20 21 (.iload_n 2) 0 0 0 0 [] [] = true := by decide +kernel
theorem rf_f_W_lay_21 : rf_Fb rf_m_W_lay 21 24 (.invokevirtual 82) 59 2 0 4 [] [] = true := by decide +kernel
theorem rf_f_W_lay_24 : rf_Fb rf_m_W_lay 24 26 (.istore 5) 0 0 0 0 [] [] = true := by decide +kernel
theorem rf_f_W_lay_26 : rf_Fb rf_m_W_lay 26 28 (.iload 5) 0 0 0 0 [] [] = true := by decide +kernel
theorem rf_f_W_lay_28 : rf_Fb rf_m_W_lay 28 31 (.ifCond .eq 6) 34 0 0 0 [] [] = true := by decide +kernel
theorem rf_f_W_lay_31 : rf_Fb rf_m_W_lay 31 33 (.iload 5) 0 0 0 0 [] [] = true := by decide +kernel
theorem rf_f_W_lay_33 : rf_Fb rf_m_W_lay 33 34 (.ireturn) 0 0 0 0 [] [] = true := by decide +kernel
theorem rf_f_W_lay_34 : rf_Fb rf_m_W_lay 34 36 (.aload 4) 0 0 0 0 [] [] = true := by decide +kernel
theorem rf_f_W_lay_36 : rf_Fb rf_m_W_lay 36 37 (.iload_n 2) 0 0 0 0 [] [] = true := by decide +kernel
theorem rf_f_W_lay_37 : rf_Fb rf_m_W_lay 37 40 (.invokevirtual 86) 4 1 0 2 [] [] = true := by decide +kernel
theorem rf_f_W_lay_40 : rf_Fb rf_m_W_lay 40 42 (.istore 6) 0 0 0 0 [] [] = true := by decide +kernel
theorem rf_f_W_lay_42 : rf_Fb rf_m_W_lay 42 44 (.aload 4) 0 0 0 0 [] [] = true := by decide +kernel
theorem rf_f_W_lay_44 : rf_Fb rf_m_W_lay 44 45 (.iload_n 2) 0 0 0 0 [] [] = true := by decide +kernel
theorem rf_f_W_lay_45 : rf_Fb rf_m_W_lay 45 46 (.iload_n 3) 0 0 0 0 [] [] = true := by decide +kernel
theorem rf_f_W_lay_46 : rf_Fb rf_m_W_lay 46 49 (.invokevirtual 90) 2 2 3 2 [] [] = true := by decide +kernel
theorem rf_f_W_lay_49 : rf_Fb rf_m_W_lay 49 50 (.aload_n 0) 0 0 0 0 [] [] = true := by decide +kernel
theorem rf_f_W_lay_50 : rf_Fb rf_m_W_lay 50 52 (.iload 6) 0 0 0 0 [] [] = true := by decide +kernel
theorem rf_f_W_lay_52 : rf_Fb rf_m_W_lay 52 53 (.iconst 1) 0 0 0 0 [] [] = true := by decide +kernel
theorem rf_f_W_lay_53 : rf_Fb rf_m_W_lay 53 56 (.invokevirtual 93) 60 2 0 4 [] [] = true := by decide +kernel
theorem rf_f_W_lay_56 : rf_Fb rf_m_W_lay 56 57 (.ireturn) 0 0 0 0 [] [] = true := by decide +kernel
set_option maxRecDepth 20000 in
set_option maxHeartbeats 2000000 in
theorem rf_e_W_lay (d : Nat) (o : Nat) (a1 : Int) (a2 : Int) (a3 : Int) (h : rf_H) : rf_call (d + 1) 58 [.inr (.inr (some o)), .inl a1, .inl a2, .inl a3] h = ((rf_gR h 4 o 0).bind fun x1 => ((rf_call d 55 [.inr (.inr x1), .inl a1] h).bind fun q3 => rf_kR q3 fun x4 h2 => (rf_nz x4 (some (some (.inl (-1)), h2)) ((bif rf_isO h2.1 o 4 then ((rf_call d 59 [.inr (.inr (some o)), .inr (.inr x4), .inl a2] h2).bind fun q6 => rf_kI q6 fun x7 h5 => (if x7 = 0 then (rf_nn x4 fun k8 => (bif rf_isO h5.1 k8 2 then ((rf_call d 4 [.inr (.inr (some k8)), .inl a2] h5).bind fun q10 => rf_kI q10 fun x11 h9 => (rf_nn x4 fun k12 => (bif rf_isO h9.1 k12 2 then ((rf_call d 2 [.inr (.inr (some k12)), .inl a2, .inl a3] h9).bind fun q14 => rf_kV q14 fun h13 => (bif rf_isO h13.1 o 4 then ((rf_call d 60 [.inr (.inr (some o)), .inl x11, .inl 1] h13).bind fun q16 => rf_kI q16 fun x17 h15 => some (some (.inl x17), h15)) else none)) else none))) else none)) else some (some (.inl x7), h5))) else none))))) := by
  show rf_den (rf_call d) (rf_mt 58) _ = _
  rw [rf_u_W_lay]
  exact ((rf_s_aload_n rf_f_W_lay_0 rfl (rf_m0 _) (rf_s_getAS rf_f_W_lay_1 (rf_m0 _) fun x1 => (rf_s_iload_n rf_f_W_lay_4 rfl (rf_m0 _) (rf_s_invS2 rf_f_W_lay_5 rfl rfl (rf_m0 _) fun q3 x4 h2 => (rf_s_astore (L' := [some (.inr (.inr (some o))), some (.inl a1), some (.inl a2), some (.inl a3), some (.inr (.inr x4)), none, none]) rf_f_W_lay_8 rfl (rf_s_aload rf_f_W_lay_10 rfl (rf_m0 _) (rf_s_ifnonnull rf_f_W_lay_12 rfl (rf_m0 _) (rf_m0 _) (rf_s_aload_n rf_f_W_lay_17 rfl (rf_m0 _) (rf_s_aload rf_f_W_lay_18 rfl (rf_m0 _) (rf_s_iload_n rf_f_W_lay_20 rfl (rf_m0 _) (rf_s_invV0S rf_f_W_lay_21 rfl rfl (rf_m0 _) fun q6 x7 h5 => (rf_s_istore (L' := [some (.inr (.inr (some o))), some (.inl a1), some (.inl a2), some (.inl a3), some (.inr (.inr x4)), some (.inl x7), none]) rf_f_W_lay_24 rfl (rf_s_iload rf_f_W_lay_26 rfl (rf_m0 _) (rf_s_if_eq rf_f_W_lay_28 rfl (rf_m0 _) (rf_m0 _) (rf_s_aload rf_f_W_lay_34 rfl (rf_m0 _) (rf_s_iload_n rf_f_W_lay_36 rfl (rf_m0 _) (rf_s_invV0R rf_f_W_lay_37 rfl rfl (rf_m0 _) fun k8 q10 x11 h9 => (rf_s_istore (L' := [some (.inr (.inr (some o))), some (.inl a1), some (.inl a2), some (.inl a3), some (.inr (.inr x4)), some (.inl x7), some (.inl x11)]) rf_f_W_lay_40 rfl (rf_s_aload rf_f_W_lay_42 rfl (rf_m0 _) (rf_s_iload_n rf_f_W_lay_44 rfl (rf_m0 _) (rf_s_iload_n rf_f_W_lay_45 rfl (rf_m0 _) (rf_s_invV3R rf_f_W_lay_46 rfl rfl (rf_m0 _) fun k12 q14 h13 => (rf_s_aload_n rf_f_W_lay_49 rfl (rf_m0 _) (rf_s_iload rf_f_W_lay_50 rfl (rf_m0 _) (rf_s_iconst rf_f_W_lay_52 (rf_m0 _) (rf_s_invV0S rf_f_W_lay_53 rfl rfl (rf_m0 _) fun q16 x17 h15 => (rf_s_iret rf_f_W_lay_56))))))))))))) (rf_s_iload rf_f_W_lay_31 rfl (rf_m0 _) (rf_s_iret rf_f_W_lay_33))))))))) (rf_s_iconst rf_f_W_lay_15 (rf_m0 _) (rf_s_iret rf_f_W_lay_16))))))))) : rf_den (rf_call d) rf_m_W_lay (0, [some (.inr (.inr (some o))), some (.inl a1), some (.inl a2), some (.inl a3), none, none, none], [], h) = _)
theorem rf_u_W_refusedPlace : rf_mt 59 = rf_m_W_refusedPlace := rfl
theorem rf_f_W_refusedPlace_0 : rf_Fb rf_m_W_refusedPlace 0 1 (.aload_n 1) 0 0 0 0 [] [] = true := by decide +kernel
theorem rf_f_W_refusedPlace_1 : rf_Fb rf_m_W_refusedPlace 1 4 (.invokevirtual 97) 5 0 0 2 [] [] = true := by decide +kernel
theorem rf_f_W_refusedPlace_4 : rf_Fb rf_m_W_refusedPlace 4 7 (.ifCond .ne 9) 13 0 0 0 [] [] = true := by decide +kernel
theorem rf_f_W_refusedPlace_7 : rf_Fb rf_m_W_refusedPlace 7 8 (.aload_n 0) 0 0 0 0 [] [] = true := by decide +kernel
theorem rf_f_W_refusedPlace_8 : rf_Fb rf_m_W_refusedPlace 8 9 (.iconst 1) 0 0 0 0 [] [] = true := by decide +kernel
theorem rf_f_W_refusedPlace_9 : rf_Fb rf_m_W_refusedPlace 9 12 (.invokevirtual 101) 57 1 0 4 [] [] = true := by decide +kernel
theorem rf_f_W_refusedPlace_12 : rf_Fb rf_m_W_refusedPlace 12 13 (.ireturn) 0 0 0 0 [] [] = true := by decide +kernel
theorem rf_f_W_refusedPlace_13 : rf_Fb rf_m_W_refusedPlace 13 14 (.aload_n 1) 0 0 0 0 [] [] = true := by decide +kernel
theorem rf_f_W_refusedPlace_14 : rf_Fb rf_m_W_refusedPlace 14 15 (.iload_n 2) 0 0 0 0 [] [] = true := by decide +kernel
theorem rf_f_W_refusedPlace_15 : rf_Fb rf_m_W_refusedPlace 15 18 (.invokevirtual 305) 3 1 0 2 [] [] = true := by decide +kernel
theorem rf_f_W_refusedPlace_18 : rf_Fb rf_m_W_refusedPlace 18 21 (.ifCond .eq 7) 25 0 0 0 [] [] = true := by decide +kernel
theorem rf_f_W_refusedPlace_21 : rf_Fb rf_m_W_refusedPlace 21 22 (.iconst 0) 0 0 0 0 [] [] = true := by decide +kernel
theorem rf_f_W_refusedPlace_22 : rf_Fb rf_m_W_refusedPlace 22 25 (.goto 8) 30 0 0 0 [] [] = true := by decide +kernel
theorem rf_f_W_refusedPlace_25 : rf_Fb rf_m_W_refusedPlace 25 26 (.aload_n 0) 0 0 0 0 [] [] = true := by decide +kernel
theorem rf_f_W_refusedPlace_26 : rf_Fb rf_m_W_refusedPlace 26 27 (.iconst 2) 0 0 0 0 [] [] = true := by decide +kernel
theorem rf_f_W_refusedPlace_27 : rf_Fb rf_m_W_refusedPlace 27 30 (.invokevirtual 101) 57 1 0 4 [] [] = true := by decide +kernel
theorem rf_f_W_refusedPlace_30 : rf_Fb rf_m_W_refusedPlace 30 31 (.ireturn) 0 0 0 0 [] [] = true := by decide +kernel
set_option maxRecDepth 20000 in
set_option maxHeartbeats 2000000 in
theorem rf_e_W_refusedPlace (d : Nat) (o : Nat) (a1 : Option Nat) (a2 : Int) (h : rf_H) : rf_call (d + 1) 59 [.inr (.inr (some o)), .inr (.inr a1), .inl a2] h = (rf_nn a1 fun k1 => (bif rf_isO h.1 k1 2 then ((rf_call d 5 [.inr (.inr (some k1))] h).bind fun q3 => rf_kI q3 fun x4 h2 => (if x4 = 0 then (bif rf_isO h2.1 o 4 then ((rf_call d 57 [.inr (.inr (some o)), .inl 1] h2).bind fun q13 => rf_kI q13 fun x14 h12 => some (some (.inl x14), h12)) else none) else (rf_nn a1 fun k5 => (bif rf_isO h2.1 k5 2 then ((rf_call d 3 [.inr (.inr (some k5)), .inl a2] h2).bind fun q7 => rf_kI q7 fun x8 h6 => (if x8 = 0 then (bif rf_isO h6.1 o 4 then ((rf_call d 57 [.inr (.inr (some o)), .inl 2] h6).bind fun q10 => rf_kI q10 fun x11 h9 => some (some (.inl x11), h9)) else none) else some (some (.inl 0), h6))) else none)))) else none)) := by
  show rf_den (rf_call d) (rf_mt 59) _ = _
  rw [rf_u_W_refusedPlace]
  exact ((rf_s_aload_n rf_f_W_refusedPlace_0 rfl (rf_m0 _) (rf_s_invV0R rf_f_W_refusedPlace_1 rfl rfl (rf_m0 _) fun k1 q3 x4 h2 => (rf_s_if_ne rf_f_W_refusedPlace_4 rfl (rf_m0 _) (rf_m0 _) (rf_s_aload_n rf_f_W_refusedPlace_13 rfl (rf_m0 _) (rf_s_iload_n rf_f_W_refusedPlace_14 rfl (rf_m0 _) (rf_s_invV0R rf_f_W_refusedPlace_15 rfl rfl (rf_m0 _) fun k5 q7 x8 h6 => (rf_s_if_eq rf_f_W_refusedPlace_18 rfl (rf_m0 _) (rf_m0 _) (rf_s_aload_n rf_f_W_refusedPlace_25 rfl (rf_m0 _) (rf_s_iconst rf_f_W_refusedPlace_26 (rf_m0 _) (rf_s_invV0S rf_f_W_refusedPlace_27 rfl rfl (rf_m0 _) fun q10 x11 h9 => (rf_s_iret rf_f_W_refusedPlace_30)))) (rf_s_iconst rf_f_W_refusedPlace_21 (rf_m0 _) (rf_s_goto rf_f_W_refusedPlace_22 rfl (rf_m0 _) (rf_s_iret rf_f_W_refusedPlace_30))))))) (rf_s_aload_n rf_f_W_refusedPlace_7 rfl (rf_m0 _) (rf_s_iconst rf_f_W_refusedPlace_8 (rf_m0 _) (rf_s_invV0S rf_f_W_refusedPlace_9 rfl rfl (rf_m0 _) fun q13 x14 h12 => (rf_s_iret rf_f_W_refusedPlace_12))))))) : rf_den (rf_call d) rf_m_W_refusedPlace (0, [some (.inr (.inr (some o))), some (.inr (.inr a1)), some (.inl a2)], [], h) = _)
theorem rf_u_W_tell : rf_mt 60 = rf_m_W_tell := rfl
theorem rf_f_W_tell_0 : rf_Fb rf_m_W_tell 0 1 (.aload_n 0) 0 0 0 0 [] [] = true := by decide +kernel
theorem rf_f_W_tell_1 : rf_Fb rf_m_W_tell 1 2 (.iload_n 1) 0 0 0 0 [] [] = true := by decide +kernel
theorem rf_f_W_tell_2 : rf_Fb rf_m_W_tell 2 5 (.putfield 279) 4 13 0 0 [] [] = true := by decide +kernel
theorem rf_f_W_tell_5 : rf_Fb rf_m_W_tell 5 6 (.iload_n 2) 0 0 0 0 [] [] = true := by decide +kernel
theorem rf_f_W_tell_6 : rf_Fb rf_m_W_tell 6 7 (.ireturn) 0 0 0 0 [] [] = true := by decide +kernel
set_option maxRecDepth 20000 in
set_option maxHeartbeats 2000000 in
theorem rf_e_W_tell (d : Nat) (o : Nat) (a1 : Int) (a2 : Int) (h : rf_H) : rf_call (d + 1) 60 [.inr (.inr (some o)), .inl a1, .inl a2] h = ((rf_pI h 4 o 13 a1).bind fun h1 => some (some (.inl a2), h1)) := by
  show rf_den (rf_call d) (rf_mt 60) _ = _
  rw [rf_u_W_tell]
  exact ((rf_s_aload_n rf_f_W_tell_0 rfl (rf_m0 _) (rf_s_iload_n rf_f_W_tell_1 rfl (rf_m0 _) (rf_s_putIS rf_f_W_tell_2 (rf_m0 _) fun h1 => (rf_s_iload_n rf_f_W_tell_5 rfl (rf_m0 _) (rf_s_iret rf_f_W_tell_6))))) : rf_den (rf_call d) rf_m_W_tell (0, [some (.inr (.inr (some o))), some (.inl a1), some (.inl a2)], [], h) = _)
theorem rf_u_W_at : rf_mt 61 = rf_m_W_at := rfl
theorem rf_f_W_at_0 : rf_Fb rf_m_W_at 0 1 (.aload_n 0) 0 0 0 0 [] [] = true := by decide +kernel
theorem rf_f_W_at_1 : rf_Fb rf_m_W_at 1 4 (.getfield 11) 4 0 2 0 [] [] = true := by decide +kernel
theorem rf_f_W_at_4 : rf_Fb rf_m_W_at 4 5 (.iload_n 1) 0 0 0 0 [] [] = true := by decide +kernel
theorem rf_f_W_at_5 : rf_Fb rf_m_W_at 5 8 (.invokestatic 74) 55 2 2 0 [] [] = true := by decide +kernel
theorem rf_f_W_at_8 : rf_Fb rf_m_W_at 8 9 (.astore_n 3) 0 0 0 0 [] [] = true := by decide +kernel
theorem rf_f_W_at_9 : rf_Fb rf_m_W_at 9 10 (.aload_n 3) 0 0 0 0 [] [] = true := by decide +kernel
theorem rf_f_W_at_10 : rf_Fb rf_m_W_at 10 13 (.ifnonnull 5) 15 0 0 0 [] [] = true := by decide +kernel
theorem rf_f_W_at_13 : rf_Fb rf_m_W_at 13 14 (.iconst (-1)) 0 0 0 0 [] [] = true := by decide +kernel
theorem rf_f_W_at_14 : rf_Fb rf_m_W_at 14 15 (.ireturn) 0 0 0 0 [] [] = true := by decide +kernel
theorem rf_f_W_at_15 : rf_Fb rf_m_W_at 15 16 (.aload_n 0) 0 0 0 0 [] [] = true := by decide +kernel
theorem rf_f_W_at_16 : rf_Fb rf_m_W_at 16 17 (.aload_n 3) 0 0 0 0 [] [] = true := by decide +kernel
theorem rf_f_W_at_17 : rf_Fb rf_m_W_at 17 18 (.iload_n 2) 0 0 0 0 [] [] = true := by decide +kernel
theorem rf_f_W_at_18 : rf_Fb rf_m_W_at 18 21 (.invokevirtual 82) 59 2 0 4 [] [] = true := by decide +kernel
theorem rf_f_W_at_21 : rf_Fb rf_m_W_at 21 23 (.istore 4) 0 0 0 0 [] [] = true := by decide +kernel
theorem rf_f_W_at_23 : rf_Fb rf_m_W_at 23 25 (.iload 4) 0 0 0 0 [] [] = true := by decide +kernel
theorem rf_f_W_at_25 : rf_Fb rf_m_W_at 25 28 (.ifCond .ne 16) 41 0 0 0 [] [] = true := by decide +kernel
theorem rf_f_W_at_28 : rf_Fb rf_m_W_at 28 29 (.aload_n 0) 0 0 0 0 [] [] = true := by decide +kernel
theorem rf_f_W_at_29 : rf_Fb rf_m_W_at 29 30 (.aload_n 3) 0 0 0 0 [] [] = true := by decide +kernel
theorem rf_f_W_at_30 : rf_Fb rf_m_W_at 30 31 (.iload_n 2) 0 0 0 0 [] [] = true := by decide +kernel
theorem rf_f_W_at_31 : rf_Fb rf_m_W_at 31 34 (.invokevirtual 86) 4 1 0 2 [] [] = true := by decide +kernel
theorem rf_f_W_at_34 : rf_Fb rf_m_W_at 34 35 (.iconst 1) 0 0 0 0 [] [] = true := by decide +kernel
theorem rf_f_W_at_35 : rf_Fb rf_m_W_at 35 38 (.invokevirtual 93) 60 2 0 4 [] [] = true := by decide +kernel
theorem rf_f_W_at_38 : rf_Fb rf_m_W_at 38 41 (.goto 5) 43 0 0 0 [] [] = true := by decide +kernel
theorem rf_f_W_at_41 : rf_Fb rf_m_W_at 41 43 (.iload 4) 0 0 0 0 [] [] = true := by decide +kernel
theorem rf_f_W_at_43 : rf_Fb rf_m_W_at 43 44 (.ireturn) 0 0 0 0 [] [] = true := by decide +kernel
set_option maxRecDepth 20000 in
set_option maxHeartbeats 2000000 in
theorem rf_e_W_at (d : Nat) (o : Nat) (a1 : Int) (a2 : Int) (h : rf_H) : rf_call (d + 1) 61 [.inr (.inr (some o)), .inl a1, .inl a2] h = ((rf_gR h 4 o 0).bind fun x1 => ((rf_call d 55 [.inr (.inr x1), .inl a1] h).bind fun q3 => rf_kR q3 fun x4 h2 => (rf_nz x4 (some (some (.inl (-1)), h2)) ((bif rf_isO h2.1 o 4 then ((rf_call d 59 [.inr (.inr (some o)), .inr (.inr x4), .inl a2] h2).bind fun q6 => rf_kI q6 fun x7 h5 => (if x7 = 0 then (rf_nn x4 fun k8 => (bif rf_isO h5.1 k8 2 then ((rf_call d 4 [.inr (.inr (some k8)), .inl a2] h5).bind fun q10 => rf_kI q10 fun x11 h9 => (bif rf_isO h9.1 o 4 then ((rf_call d 60 [.inr (.inr (some o)), .inl x11, .inl 1] h9).bind fun q13 => rf_kI q13 fun x14 h12 => some (some (.inl x14), h12)) else none)) else none)) else some (some (.inl x7), h5))) else none))))) := by
  show rf_den (rf_call d) (rf_mt 61) _ = _
  rw [rf_u_W_at]
  exact ((rf_s_aload_n rf_f_W_at_0 rfl (rf_m0 _) (rf_s_getAS rf_f_W_at_1 (rf_m0 _) fun x1 => (rf_s_iload_n rf_f_W_at_4 rfl (rf_m0 _) (rf_s_invS2 rf_f_W_at_5 rfl rfl (rf_m0 _) fun q3 x4 h2 => (rf_s_astore_n (L' := [some (.inr (.inr (some o))), some (.inl a1), some (.inl a2), some (.inr (.inr x4)), none]) rf_f_W_at_8 rfl (rf_s_aload_n rf_f_W_at_9 rfl (rf_m0 _) (rf_s_ifnonnull rf_f_W_at_10 rfl (rf_m0 _) (rf_m0 _) (rf_s_aload_n rf_f_W_at_15 rfl (rf_m0 _) (rf_s_aload_n rf_f_W_at_16 rfl (rf_m0 _) (rf_s_iload_n rf_f_W_at_17 rfl (rf_m0 _) (rf_s_invV0S rf_f_W_at_18 rfl rfl (rf_m0 _) fun q6 x7 h5 => (rf_s_istore (L' := [some (.inr (.inr (some o))), some (.inl a1), some (.inl a2), some (.inr (.inr x4)), some (.inl x7)]) rf_f_W_at_21 rfl (rf_s_iload rf_f_W_at_23 rfl (rf_m0 _) (rf_s_if_ne rf_f_W_at_25 rfl (rf_m0 _) (rf_m0 _) (rf_s_iload rf_f_W_at_41 rfl (rf_m0 _) (rf_s_iret rf_f_W_at_43)) (rf_s_aload_n rf_f_W_at_28 rfl (rf_m0 _) (rf_s_aload_n rf_f_W_at_29 rfl (rf_m0 _) (rf_s_iload_n rf_f_W_at_30 rfl (rf_m0 _) (rf_s_invV0R rf_f_W_at_31 rfl rfl (rf_m0 _) fun k8 q10 x11 h9 => (rf_s_iconst rf_f_W_at_34 (rf_m0 _) (rf_s_invV0S rf_f_W_at_35 rfl rfl (rf_m0 _) fun q13 x14 h12 => (rf_s_goto rf_f_W_at_38 rfl (rf_m0 _) (rf_s_iret rf_f_W_at_43))))))))))))))) (rf_s_iconst rf_f_W_at_13 (rf_m0 _) (rf_s_iret rf_f_W_at_14))))))))) : rf_den (rf_call d) rf_m_W_at (0, [some (.inr (.inr (some o))), some (.inl a1), some (.inl a2), none, none], [], h) = _)
theorem rf_u_W_tear : rf_mt 62 = rf_m_W_tear := rfl
theorem rf_f_W_tear_0 : rf_Fb rf_m_W_tear 0 1 (.aload_n 0) 0 0 0 0 [] [] = true := by decide +kernel
theorem rf_f_W_tear_1 : rf_Fb rf_m_W_tear 1 4 (.getfield 11) 4 0 2 0 [] [] = true := by decide +kernel
theorem rf_f_W_tear_4 : rf_Fb rf_m_W_tear 4 5 (.iload_n 1) 0 0 0 0 [] [] = true := by decide +kernel
theorem rf_f_W_tear_5 : rf_Fb rf_m_W_tear 5 8 (.invokestatic 74) 55 2 2 0 [] [] = true := by decide +kernel
theorem rf_f_W_tear_8 : rf_Fb rf_m_W_tear 8 9 (.astore_n 2) 0 0 0 0 [] [] = true := by decide +kernel
theorem rf_f_W_tear_9 : rf_Fb rf_m_W_tear 9 10 (.aload_n 2) 0 0 0 0 [] [] = true := by decide +kernel
theorem rf_f_W_tear_10 : rf_Fb rf_m_W_tear 10 13 (.ifnonnull 5) 15 0 0 0 [] [] = true := by decide +kernel
theorem rf_f_W_tear_13 : rf_Fb rf_m_W_tear 13 14 (.iconst (-1)) 0 0 0 0 [] [] = true := by decide +kernel
theorem rf_f_W_tear_14 : rf_Fb rf_m_W_tear 14 15 (.ireturn) 0 0 0 0 [] [] = true := by decide +kernel
theorem rf_f_W_tear_15 : rf_Fb rf_m_W_tear 15 16 (.aload_n 2) 0 0 0 0 [] [] = true := by decide +kernel
theorem rf_f_W_tear_16 : rf_Fb rf_m_W_tear 16 19 (.invokevirtual 97) 5 0 0 2 [] [] = true := by decide +kernel
theorem rf_f_W_tear_19 : rf_Fb rf_m_W_tear 19 22 (.ifCond .ne 9) 28 0 0 0 [] [] = true := by decide +kernel
theorem rf_f_W_tear_22 : rf_Fb rf_m_W_tear 22 23 (.aload_n 0) 0 0 0 0 [] [] = true := by decide +kernel
theorem rf_f_W_tear_23 : rf_Fb rf_m_W_tear 23 24 (.iconst 1) 0 0 0 0 [] [] = true := by decide +kernel
theorem rf_f_W_tear_24 : rf_Fb rf_m_W_tear 24 27 (.invokevirtual 101) 57 1 0 4 [] [] = true := by decide +kernel
theorem rf_f_W_tear_27 : rf_Fb rf_m_W_tear 27 28 (.ireturn) 0 0 0 0 [] [] = true := by decide +kernel
theorem rf_f_W_tear_28 : rf_Fb rf_m_W_tear 28 29 (.aload_n 2) 0 0 0 0 [] [] = true := by decide +kernel
theorem rf_f_W_tear_29 : rf_Fb rf_m_W_tear 29 32 (.invokevirtual 104) 6 0 3 2 [] [] = true := by decide +kernel
theorem rf_f_W_tear_32 : rf_Fb rf_m_W_tear 32 33 (.iconst 1) 0 0 0 0 [] [] = true := by decide +kernel
theorem rf_f_W_tear_33 : rf_Fb rf_m_W_tear 33 34 (.ireturn) 0 0 0 0 [] [] = true := by decide +kernel
set_option maxRecDepth 20000 in
set_option maxHeartbeats 2000000 in
theorem rf_e_W_tear (d : Nat) (o : Nat) (a1 : Int) (h : rf_H) : rf_call (d + 1) 62 [.inr (.inr (some o)), .inl a1] h = ((rf_gR h 4 o 0).bind fun x1 => ((rf_call d 55 [.inr (.inr x1), .inl a1] h).bind fun q3 => rf_kR q3 fun x4 h2 => (rf_nz x4 (some (some (.inl (-1)), h2)) ((rf_nn x4 fun k5 => (bif rf_isO h2.1 k5 2 then ((rf_call d 5 [.inr (.inr (some k5))] h2).bind fun q7 => rf_kI q7 fun x8 h6 => (if x8 = 0 then (bif rf_isO h6.1 o 4 then ((rf_call d 57 [.inr (.inr (some o)), .inl 1] h6).bind fun q13 => rf_kI q13 fun x14 h12 => some (some (.inl x14), h12)) else none) else (rf_nn x4 fun k9 => (bif rf_isO h6.1 k9 2 then ((rf_call d 6 [.inr (.inr (some k9))] h6).bind fun q11 => rf_kV q11 fun h10 => some (some (.inl 1), h10)) else none)))) else none)))))) := by
  show rf_den (rf_call d) (rf_mt 62) _ = _
  rw [rf_u_W_tear]
  exact ((rf_s_aload_n rf_f_W_tear_0 rfl (rf_m0 _) (rf_s_getAS rf_f_W_tear_1 (rf_m0 _) fun x1 => (rf_s_iload_n rf_f_W_tear_4 rfl (rf_m0 _) (rf_s_invS2 rf_f_W_tear_5 rfl rfl (rf_m0 _) fun q3 x4 h2 => (rf_s_astore_n (L' := [some (.inr (.inr (some o))), some (.inl a1), some (.inr (.inr x4))]) rf_f_W_tear_8 rfl (rf_s_aload_n rf_f_W_tear_9 rfl (rf_m0 _) (rf_s_ifnonnull rf_f_W_tear_10 rfl (rf_m0 _) (rf_m0 _) (rf_s_aload_n rf_f_W_tear_15 rfl (rf_m0 _) (rf_s_invV0R rf_f_W_tear_16 rfl rfl (rf_m0 _) fun k5 q7 x8 h6 => (rf_s_if_ne rf_f_W_tear_19 rfl (rf_m0 _) (rf_m0 _) (rf_s_aload_n rf_f_W_tear_28 rfl (rf_m0 _) (rf_s_invV3R rf_f_W_tear_29 rfl rfl (rf_m0 _) fun k9 q11 h10 => (rf_s_iconst rf_f_W_tear_32 (rf_m0 _) (rf_s_iret rf_f_W_tear_33)))) (rf_s_aload_n rf_f_W_tear_22 rfl (rf_m0 _) (rf_s_iconst rf_f_W_tear_23 (rf_m0 _) (rf_s_invV0S rf_f_W_tear_24 rfl rfl (rf_m0 _) fun q13 x14 h12 => (rf_s_iret rf_f_W_tear_27))))))) (rf_s_iconst rf_f_W_tear_13 (rf_m0 _) (rf_s_iret rf_f_W_tear_14))))))))) : rf_den (rf_call d) rf_m_W_tear (0, [some (.inr (.inr (some o))), some (.inl a1), none], [], h) = _)
theorem rf_u_W_copy : rf_mt 63 = rf_m_W_copy := rfl
theorem rf_f_W_copy_0 : rf_Fb rf_m_W_copy 0 1 (.aload_n 0) 0 0 0 0 [] [] = true := by decide +kernel
theorem rf_f_W_copy_1 : rf_Fb rf_m_W_copy 1 4 (.getfield 11) 4 0 2 0 [] [] = true := by decide +kernel
theorem rf_f_W_copy_4 : rf_Fb rf_m_W_copy 4 5 (.iload_n 1) 0 0 0 0 [] [] = true := by decide +kernel
theorem rf_f_W_copy_5 : rf_Fb rf_m_W_copy 5 8 (.invokestatic 74) 55 2 2 0 [] [] = true := by decide +kernel
theorem rf_f_W_copy_8 : rf_Fb rf_m_W_copy 8 10 (.astore 6) 0 0 0 0 [] [] = true := by decide +kernel
theorem rf_f_W_copy_10 : rf_Fb rf_m_W_copy 10 11 (.aload_n 0) 0 0 0 0 [] [] = true := by decide +kernel
theorem rf_f_W_copy_11 : rf_Fb rf_m_W_copy 11 14 (.getfield 11) 4 0 2 0 [] [] = true := by decide +kernel
theorem rf_f_W_copy_14 : rf_Fb rf_m_W_copy 14 15 (.iload_n 3) 0 0 0 0 [] [] = true := by decide +kernel
theorem rf_f_W_copy_15 : rf_Fb rf_m_W_copy 15 18 (.invokestatic 74) 55 2 2 0 [] [] = true := by decide +kernel
theorem rf_f_W_copy_18 : rf_Fb rf_m_W_copy 18 20 (.astore 7) 0 0 0 0 [] [] = true := by decide +kernel
theorem rf_f_W_copy_20 : rf_Fb rf_m_W_copy 20 22 (.aload 6) 0 0 0 0 [] [] = true := by decide +kernel
theorem rf_f_W_copy_22 : rf_Fb rf_m_W_copy 22 25 (.ifnull 8) 30 0 0 0 [] [] = true := by decide +kernel
theorem rf_f_W_copy_25 : rf_Fb rf_m_W_copy 25 27 (.aload 7) 0 0 0 0 [] [] = true := by decide +kernel
theorem rf_f_W_copy_27 : rf_Fb rf_m_W_copy 27 30 (.ifnonnull 5) 32 0 0 0 [] [] = true := by decide +kernel
theorem rf_f_W_copy_30 : rf_Fb rf_m_W_copy 30 31 (.iconst (-1)) 0 0 0 0 [] [] = true := by decide +kernel
theorem rf_f_W_copy_31 : rf_Fb rf_m_W_copy 31 32 (.ireturn) 0 0 0 0 [] [] = true := by decide +kernel
theorem rf_f_W_copy_32 : rf_Fb rf_m_W_copy 32 34 (.iload 5) 0 0 0 0 [] [] = true := by decide +kernel
theorem rf_f_W_copy_34 : rf_Fb rf_m_W_copy 34 37 (.ifCond .ge 9) 43 0 0 0 [] [] = true := by decide +kernel
theorem rf_f_W_copy_37 : rf_Fb rf_m_W_copy 37 38 (.aload_n 0) 0 0 0 0 [] [] = true := by decide +kernel
theorem rf_f_W_copy_38 : rf_Fb rf_m_W_copy 38 39 (.iconst 5) 0 0 0 0 [] [] = true := by decide +kernel
theorem rf_f_W_copy_39 : rf_Fb rf_m_W_copy 39 42 (.invokevirtual 101) 57 1 0 4 [] [] = true := by decide +kernel
theorem rf_f_W_copy_42 : rf_Fb rf_m_W_copy 42 43 (.ireturn) 0 0 0 0 [] [] = true := by decide +kernel
theorem rf_f_W_copy_43 : rf_Fb rf_m_W_copy 43 45 (.aload 6) 0 0 0 0 [] [] = true := by decide +kernel
theorem rf_f_W_copy_45 : rf_Fb rf_m_W_copy 45 48 (.invokevirtual 97) 5 0 0 2 [] [] = true := by decide +kernel
theorem rf_f_W_copy_48 : rf_Fb rf_m_W_copy 48 51 (.ifCond .eq 11) 59 0 0 0 [] [] = true := by decide +kernel
theorem rf_f_W_copy_51 : rf_Fb rf_m_W_copy 51 53 (.aload 7) 0 0 0 0 [] [] = true := by decide +kernel
theorem rf_f_W_copy_53 : rf_Fb rf_m_W_copy 53 56 (.invokevirtual 97) 5 0 0 2 [] [] = true := by decide +kernel
theorem rf_f_W_copy_56 : rf_Fb rf_m_W_copy 56 59 (.ifCond .ne 9) 65 0 0 0 [] [] = true := by decide +kernel
theorem rf_f_W_copy_59 : rf_Fb rf_m_W_copy 59 60 (.aload_n 0) 0 0 0 0 [] [] = true := by decide +kernel
theorem rf_f_W_copy_60 : rf_Fb rf_m_W_copy 60 61 (.iconst 1) 0 0 0 0 [] [] = true := by decide +kernel
theorem rf_f_W_copy_61 : rf_Fb rf_m_W_copy 61 64 (.invokevirtual 101) 57 1 0 4 [] [] = true := by decide +kernel
theorem rf_f_W_copy_64 : rf_Fb rf_m_W_copy 64 65 (.ireturn) 0 0 0 0 [] [] = true := by decide +kernel
theorem rf_f_W_copy_65 : rf_Fb rf_m_W_copy 65 67 (.aload 7) 0 0 0 0 [] [] = true := by decide +kernel
theorem rf_f_W_copy_67 : rf_Fb rf_m_W_copy 67 69 (.aload 6) 0 0 0 0 [] [] = true := by decide +kernel
theorem rf_f_W_copy_69 : rf_Fb rf_m_W_copy 69 70 (.iload_n 2) 0 0 0 0 [] [] = true := by decide +kernel
theorem rf_f_W_copy_70 : rf_Fb rf_m_W_copy 70 72 (.iload 4) 0 0 0 0 [] [] = true := by decide +kernel
theorem rf_f_W_copy_72 : rf_Fb rf_m_W_copy 72 74 (.iload 5) 0 0 0 0 [] [] = true := by decide +kernel
theorem rf_f_W_copy_74 : rf_Fb rf_m_W_copy 74 77 (.invokevirtual 107) 7 4 0 2 [] [] = true := by decide +kernel
theorem rf_f_W_copy_77 : rf_Fb rf_m_W_copy 77 80 (.ifCond .eq 7) 84 0 0 0 [] [] = true := by decide +kernel
theorem rf_f_W_copy_80 : rf_Fb rf_m_W_copy 80 81 (.iconst 1) 0 0 0 0 [] [] = true := by decide +kernel
theorem rf_f_W_copy_81 : rf_Fb rf_m_W_copy 81 84 (.goto 8) 89 0 0 0 [] [] = true := by decide +kernel
theorem rf_f_W_copy_84 : rf_Fb rf_m_W_copy 84 85 (.aload_n 0) 0 0 0 0 [] [] = true := by decide +kernel
theorem rf_f_W_copy_85 : rf_Fb rf_m_W_copy 85 86 (.iconst 2) 0 0 0 0 [] [] = true := by decide +kernel
theorem rf_f_W_copy_86 : rf_Fb rf_m_W_copy 86 89 (.invokevirtual 101) 57 1 0 4 [] [] = true := by decide +kernel
theorem rf_f_W_copy_89 : rf_Fb rf_m_W_copy 89 90 (.ireturn) 0 0 0 0 [] [] = true := by decide +kernel
set_option maxRecDepth 20000 in
set_option maxHeartbeats 2000000 in
theorem rf_e_W_copy (d : Nat) (o : Nat) (a1 : Int) (a2 : Int) (a3 : Int) (a4 : Int) (a5 : Int) (h : rf_H) : rf_call (d + 1) 63 [.inr (.inr (some o)), .inl a1, .inl a2, .inl a3, .inl a4, .inl a5] h = ((rf_gR h 4 o 0).bind fun x1 => ((rf_call d 55 [.inr (.inr x1), .inl a1] h).bind fun q3 => rf_kR q3 fun x4 h2 => ((rf_gR h2 4 o 0).bind fun x5 => ((rf_call d 55 [.inr (.inr x5), .inl a3] h2).bind fun q7 => rf_kR q7 fun x8 h6 => (rf_nz x4 (some (some (.inl (-1)), h6)) ((rf_nz x8 (some (some (.inl (-1)), h6)) ((if a5 < 0 then (bif rf_isO h6.1 o 4 then ((rf_call d 57 [.inr (.inr (some o)), .inl 5] h6).bind fun q31 => rf_kI q31 fun x32 h30 => some (some (.inl x32), h30)) else none) else (rf_nn x4 fun k9 => (bif rf_isO h6.1 k9 2 then ((rf_call d 5 [.inr (.inr (some k9))] h6).bind fun q11 => rf_kI q11 fun x12 h10 => (if x12 = 0 then (bif rf_isO h10.1 o 4 then ((rf_call d 57 [.inr (.inr (some o)), .inl 1] h10).bind fun q14 => rf_kI q14 fun x15 h13 => some (some (.inl x15), h13)) else none) else (rf_nn x8 fun k16 => (bif rf_isO h10.1 k16 2 then ((rf_call d 5 [.inr (.inr (some k16))] h10).bind fun q18 => rf_kI q18 fun x19 h17 => (if x19 = 0 then (bif rf_isO h17.1 o 4 then ((rf_call d 57 [.inr (.inr (some o)), .inl 1] h17).bind fun q28 => rf_kI q28 fun x29 h27 => some (some (.inl x29), h27)) else none) else (rf_nn x8 fun k20 => (bif rf_isO h17.1 k20 2 then ((rf_call d 7 [.inr (.inr (some k20)), .inr (.inr x4), .inl a2, .inl a4, .inl a5] h17).bind fun q22 => rf_kI q22 fun x23 h21 => (if x23 = 0 then (bif rf_isO h21.1 o 4 then ((rf_call d 57 [.inr (.inr (some o)), .inl 2] h21).bind fun q25 => rf_kI q25 fun x26 h24 => some (some (.inl x26), h24)) else none) else some (some (.inl 1), h21))) else none)))) else none)))) else none))))))))))) := by
  show rf_den (rf_call d) (rf_mt 63) _ = _
  rw [rf_u_W_copy]
  exact ((rf_s_aload_n rf_f_W_copy_0 rfl (rf_m0 _) (rf_s_getAS rf_f_W_copy_1 (rf_m0 _) fun x1 => (rf_s_iload_n rf_f_W_copy_4 rfl (rf_m0 _) (rf_s_invS2 rf_f_W_copy_5 rfl rfl (rf_m0 _) fun q3 x4 h2 => (rf_s_astore (L' := [some (.inr (.inr (some o))), some (.inl a1), some (.inl a2), some (.inl a3), some (.inl a4), some (.inl a5), some (.inr (.inr x4)), none]) rf_f_W_copy_8 rfl (rf_s_aload_n rf_f_W_copy_10 rfl (rf_m0 _) (rf_s_getAS rf_f_W_copy_11 (rf_m0 _) fun x5 => (rf_s_iload_n rf_f_W_copy_14 rfl (rf_m0 _) (rf_s_invS2 rf_f_W_copy_15 rfl rfl (rf_m0 _) fun q7 x8 h6 => (rf_s_astore (L' := [some (.inr (.inr (some o))), some (.inl a1), some (.inl a2), some (.inl a3), some (.inl a4), some (.inl a5), some (.inr (.inr x4)), some (.inr (.inr x8))]) rf_f_W_copy_18 rfl (rf_s_aload rf_f_W_copy_20 rfl (rf_m0 _) (rf_s_ifnull rf_f_W_copy_22 rfl (rf_m0 _) (rf_m0 _) (rf_s_iconst rf_f_W_copy_30 (rf_m0 _) (rf_s_iret rf_f_W_copy_31)) (rf_s_aload rf_f_W_copy_25 rfl (rf_m0 _) (rf_s_ifnonnull rf_f_W_copy_27 rfl (rf_m0 _) (rf_m0 _) (rf_s_iload rf_f_W_copy_32 rfl (rf_m0 _) (rf_s_if_ge rf_f_W_copy_34 rfl (rf_m0 _) (rf_m0 _) (rf_s_aload rf_f_W_copy_43 rfl (rf_m0 _) (rf_s_invV0R rf_f_W_copy_45 rfl rfl (rf_m0 _) fun k9 q11 x12 h10 => (rf_s_if_eq rf_f_W_copy_48 rfl (rf_m0 _) (rf_m0 _) (rf_s_aload_n rf_f_W_copy_59 rfl (rf_m0 _) (rf_s_iconst rf_f_W_copy_60 (rf_m0 _) (rf_s_invV0S rf_f_W_copy_61 rfl rfl (rf_m0 _) fun q14 x15 h13 => (rf_s_iret rf_f_W_copy_64)))) (rf_s_aload rf_f_W_copy_51 rfl (rf_m0 _) (rf_s_invV0R rf_f_W_copy_53 rfl rfl (rf_m0 _) fun k16 q18 x19 h17 => (rf_s_if_ne rf_f_W_copy_56 rfl (rf_m0 _) (rf_m0 _) (rf_s_aload rf_f_W_copy_65 rfl (rf_m0 _) (rf_s_aload rf_f_W_copy_67 rfl (rf_m0 _) (rf_s_iload_n rf_f_W_copy_69 rfl (rf_m0 _) (rf_s_iload rf_f_W_copy_70 rfl (rf_m0 _) (rf_s_iload rf_f_W_copy_72 rfl (rf_m0 _) (rf_s_invV0R rf_f_W_copy_74 rfl rfl (rf_m0 _) fun k20 q22 x23 h21 => (rf_s_if_eq rf_f_W_copy_77 rfl (rf_m0 _) (rf_m0 _) (rf_s_aload_n rf_f_W_copy_84 rfl (rf_m0 _) (rf_s_iconst rf_f_W_copy_85 (rf_m0 _) (rf_s_invV0S rf_f_W_copy_86 rfl rfl (rf_m0 _) fun q25 x26 h24 => (rf_s_iret rf_f_W_copy_89)))) (rf_s_iconst rf_f_W_copy_80 (rf_m0 _) (rf_s_goto rf_f_W_copy_81 rfl (rf_m0 _) (rf_s_iret rf_f_W_copy_89)))))))))) (rf_s_aload_n rf_f_W_copy_59 rfl (rf_m0 _) (rf_s_iconst rf_f_W_copy_60 (rf_m0 _) (rf_s_invV0S rf_f_W_copy_61 rfl rfl (rf_m0 _) fun q28 x29 h27 => (rf_s_iret rf_f_W_copy_64)))))))))) (rf_s_aload_n rf_f_W_copy_37 rfl (rf_m0 _) (rf_s_iconst rf_f_W_copy_38 (rf_m0 _) (rf_s_invV0S rf_f_W_copy_39 rfl rfl (rf_m0 _) fun q31 x32 h30 => (rf_s_iret rf_f_W_copy_42)))))) (rf_s_iconst rf_f_W_copy_30 (rf_m0 _) (rf_s_iret rf_f_W_copy_31)))))))))))))))) : rf_den (rf_call d) rf_m_W_copy (0, [some (.inr (.inr (some o))), some (.inl a1), some (.inl a2), some (.inl a3), some (.inl a4), some (.inl a5), none, none], [], h) = _)
theorem rf_u_W_mean : rf_mt 64 = rf_m_W_mean := rfl
theorem rf_f_W_mean_0 : rf_Fb rf_m_W_mean 0 1 (.aload_n 0) 0 0 0 0 [] [] = true := by decide +kernel
theorem rf_f_W_mean_1 : rf_Fb rf_m_W_mean 1 4 (.getfield 11) 4 0 2 0 [] [] = true := by decide +kernel
theorem rf_f_W_mean_4 : rf_Fb rf_m_W_mean 4 5 (.iload_n 1) 0 0 0 0 [] [] = true := by decide +kernel
theorem rf_f_W_mean_5 : rf_Fb rf_m_W_mean 5 8 (.invokestatic 74) 55 2 2 0 [] [] = true := by decide +kernel
theorem rf_f_W_mean_8 : rf_Fb rf_m_W_mean 8 9 (.astore_n 2) 0 0 0 0 [] [] = true := by decide +kernel
theorem rf_f_W_mean_9 : rf_Fb rf_m_W_mean 9 10 (.aload_n 2) 0 0 0 0 [] [] = true := by decide +kernel
theorem rf_f_W_mean_10 : rf_Fb rf_m_W_mean 10 13 (.ifnonnull 5) 15 0 0 0 [] [] = true := by decide +kernel
theorem rf_f_W_mean_13 : rf_Fb rf_m_W_mean 13 14 (.iconst (-1)) 0 0 0 0 [] [] = true := by decide +kernel
theorem rf_f_W_mean_14 : rf_Fb rf_m_W_mean 14 15 (.ireturn) 0 0 0 0 [] [] = true := by decide +kernel
theorem rf_f_W_mean_15 : rf_Fb rf_m_W_mean 15 16 (.aload_n 2) 0 0 0 0 [] [] = true := by decide +kernel
theorem rf_f_W_mean_16 : rf_Fb rf_m_W_mean 16 19 (.invokevirtual 97) 5 0 0 2 [] [] = true := by decide +kernel
theorem rf_f_W_mean_19 : rf_Fb rf_m_W_mean 19 22 (.ifCond .ne 9) 28 0 0 0 [] [] = true := by decide +kernel
theorem rf_f_W_mean_22 : rf_Fb rf_m_W_mean 22 23 (.aload_n 0) 0 0 0 0 [] [] = true := by decide +kernel
theorem rf_f_W_mean_23 : rf_Fb rf_m_W_mean 23 24 (.iconst 1) 0 0 0 0 [] [] = true := by decide +kernel
theorem rf_f_W_mean_24 : rf_Fb rf_m_W_mean 24 27 (.invokevirtual 101) 57 1 0 4 [] [] = true := by decide +kernel
theorem rf_f_W_mean_27 : rf_Fb rf_m_W_mean 27 28 (.ireturn) 0 0 0 0 [] [] = true := by decide +kernel
theorem rf_f_W_mean_28 : rf_Fb rf_m_W_mean 28 29 (.aload_n 2) 0 0 0 0 [] [] = true := by decide +kernel
theorem rf_f_W_mean_29 : rf_Fb rf_m_W_mean 29 32 (.getfield 111) 2 1 0 0 [] [] = true := by decide +kernel
theorem rf_f_W_mean_32 : rf_Fb rf_m_W_mean 32 35 (.ifCond .ne 9) 41 0 0 0 [] [] = true := by decide +kernel
theorem rf_f_W_mean_35 : rf_Fb rf_m_W_mean 35 36 (.aload_n 0) 0 0 0 0 [] [] = true := by decide +kernel
theorem rf_f_W_mean_36 : rf_Fb rf_m_W_mean 36 37 (.iconst 4) 0 0 0 0 [] [] = true := by decide +kernel
theorem rf_f_W_mean_37 : rf_Fb rf_m_W_mean 37 40 (.invokevirtual 101) 57 1 0 4 [] [] = true := by decide +kernel
theorem rf_f_W_mean_40 : rf_Fb rf_m_W_mean 40 41 (.ireturn) 0 0 0 0 [] [] = true := by decide +kernel
theorem rf_f_W_mean_41 : rf_Fb rf_m_W_mean 41 42 (.aload_n 0) 0 0 0 0 [] [] = true := by decide +kernel
theorem rf_f_W_mean_42 : rf_Fb rf_m_W_mean 42 43 (.aload_n 2) 0 0 0 0 [] [] = true := by decide +kernel
theorem rf_f_W_mean_43 : rf_Fb rf_m_W_mean 43 46 (.invokevirtual 115) 9 0 1 2 [] [] = true := by decide +kernel
theorem rf_f_W_mean_46 : rf_Fb rf_m_W_mean 46 47 (.aload_n 2) 0 0 0 0 [] [] = true := by decide +kernel
theorem rf_f_W_mean_47 : rf_Fb rf_m_W_mean 47 50 (.getfield 111) 2 1 0 0 [] [] = true := by decide +kernel
theorem rf_f_W_mean_50 : rf_Fb rf_m_W_mean 50 51 (.i2l) 0 0 0 0 [] [] = true := by decide +kernel
theorem rf_f_W_mean_51 : rf_Fb rf_m_W_mean 51 52 (.ldiv) 0 0 0 0 [] [] = true := by decide +kernel
theorem rf_f_W_mean_52 : rf_Fb rf_m_W_mean 52 53 (.l2i) 0 0 0 0 [] [] = true := by decide +kernel
theorem rf_f_W_mean_53 : rf_Fb rf_m_W_mean 53 54 (.iconst 1) 0 0 0 0 [] [] = true := by decide +kernel
theorem rf_f_W_mean_54 : rf_Fb rf_m_W_mean 54 57 (.invokevirtual 93) 60 2 0 4 [] [] = true := by decide +kernel
theorem rf_f_W_mean_57 : rf_Fb rf_m_W_mean 57 58 (.ireturn) 0 0 0 0 [] [] = true := by decide +kernel
set_option maxRecDepth 20000 in
set_option maxHeartbeats 2000000 in
theorem rf_e_W_mean (d : Nat) (o : Nat) (a1 : Int) (h : rf_H) : rf_call (d + 1) 64 [.inr (.inr (some o)), .inl a1] h = ((rf_gR h 4 o 0).bind fun x1 => ((rf_call d 55 [.inr (.inr x1), .inl a1] h).bind fun q3 => rf_kR q3 fun x4 h2 => (rf_nz x4 (some (some (.inl (-1)), h2)) ((rf_nn x4 fun k5 => (bif rf_isO h2.1 k5 2 then ((rf_call d 5 [.inr (.inr (some k5))] h2).bind fun q7 => rf_kI q7 fun x8 h6 => (if x8 = 0 then (bif rf_isO h6.1 o 4 then ((rf_call d 57 [.inr (.inr (some o)), .inl 1] h6).bind fun q24 => rf_kI q24 fun x25 h23 => some (some (.inl x25), h23)) else none) else (rf_nn x4 fun k9 => ((rf_gI h6 2 k9 1).bind fun x10 => (if x10 = 0 then (bif rf_isO h6.1 o 4 then ((rf_call d 57 [.inr (.inr (some o)), .inl 4] h6).bind fun q21 => rf_kI q21 fun x22 h20 => some (some (.inl x22), h20)) else none) else (rf_nn x4 fun k11 => (bif rf_isO h6.1 k11 2 then ((rf_call d 9 [.inr (.inr (some k11))] h6).bind fun q13 => rf_kL q13 fun x14 h12 => (rf_nn x4 fun k15 => ((rf_gI h12 2 k15 1).bind fun x16 => (if x16 = 0 then none else (bif rf_isO h12.1 o 4 then ((rf_call d 60 [.inr (.inr (some o)), .inl (rf_w (rf_wl (Int.tdiv x14 x16))), .inl 1] h12).bind fun q18 => rf_kI q18 fun x19 h17 => some (some (.inl x19), h17)) else none))))) else none))))))) else none)))))) := by
  show rf_den (rf_call d) (rf_mt 64) _ = _
  rw [rf_u_W_mean]
  exact ((rf_s_aload_n rf_f_W_mean_0 rfl (rf_m0 _) (rf_s_getAS rf_f_W_mean_1 (rf_m0 _) fun x1 => (rf_s_iload_n rf_f_W_mean_4 rfl (rf_m0 _) (rf_s_invS2 rf_f_W_mean_5 rfl rfl (rf_m0 _) fun q3 x4 h2 => (rf_s_astore_n (L' := [some (.inr (.inr (some o))), some (.inl a1), some (.inr (.inr x4))]) rf_f_W_mean_8 rfl (rf_s_aload_n rf_f_W_mean_9 rfl (rf_m0 _) (rf_s_ifnonnull rf_f_W_mean_10 rfl (rf_m0 _) (rf_m0 _) (rf_s_aload_n rf_f_W_mean_15 rfl (rf_m0 _) (rf_s_invV0R rf_f_W_mean_16 rfl rfl (rf_m0 _) fun k5 q7 x8 h6 => (rf_s_if_ne rf_f_W_mean_19 rfl (rf_m0 _) (rf_m0 _) (rf_s_aload_n rf_f_W_mean_28 rfl (rf_m0 _) (rf_s_getIR rf_f_W_mean_29 (rf_m0 _) fun k9 x10 => (rf_s_if_ne rf_f_W_mean_32 rfl (rf_m0 _) (rf_m0 _) (rf_s_aload_n rf_f_W_mean_41 rfl (rf_m0 _) (rf_s_aload_n rf_f_W_mean_42 rfl (rf_m0 _) (rf_s_invV1R rf_f_W_mean_43 rfl rfl (rf_m0 _) fun k11 q13 x14 h12 => (rf_s_aload_n rf_f_W_mean_46 rfl (rf_m0 _) (rf_s_getIR rf_f_W_mean_47 (rf_m0 _) fun k15 x16 => (rf_s_i2l rf_f_W_mean_50 (rf_m0 _) (rf_s_ldivZ rf_f_W_mean_51 (rf_m0 _) (rf_s_l2i rf_f_W_mean_52 (rf_m0 _) (rf_s_iconst rf_f_W_mean_53 (rf_m0 _) (rf_s_invV0S rf_f_W_mean_54 rfl rfl (rf_m0 _) fun q18 x19 h17 => (rf_s_iret rf_f_W_mean_57))))))))))) (rf_s_aload_n rf_f_W_mean_35 rfl (rf_m0 _) (rf_s_iconst rf_f_W_mean_36 (rf_m0 _) (rf_s_invV0S rf_f_W_mean_37 rfl rfl (rf_m0 _) fun q21 x22 h20 => (rf_s_iret rf_f_W_mean_40))))))) (rf_s_aload_n rf_f_W_mean_22 rfl (rf_m0 _) (rf_s_iconst rf_f_W_mean_23 (rf_m0 _) (rf_s_invV0S rf_f_W_mean_24 rfl rfl (rf_m0 _) fun q24 x25 h23 => (rf_s_iret rf_f_W_mean_27))))))) (rf_s_iconst rf_f_W_mean_13 (rf_m0 _) (rf_s_iret rf_f_W_mean_14))))))))) : rf_den (rf_call d) rf_m_W_mean (0, [some (.inr (.inr (some o))), some (.inl a1), none], [], h) = _)
theorem rf_u_W_text : rf_mt 65 = rf_m_W_text := rfl
theorem rf_f_W_text_0 : rf_Fb rf_m_W_text 0 1 (.aload_n 0) 0 0 0 0 [] [] = true := by decide +kernel
theorem rf_f_W_text_1 : rf_Fb rf_m_W_text 1 2 (.aload_n 0) 0 0 0 0 [] [] = true := by decide +kernel
theorem rf_f_W_text_2 : rf_Fb rf_m_W_text 2 5 (.getfield 15) 4 1 2 0 [] [] = true := by decide +kernel
theorem rf_f_W_text_5 : rf_Fb rf_m_W_text 5 6 (.iload_n 1) 0 0 0 0 [] [] = true := by decide +kernel
theorem rf_f_W_text_6 : rf_Fb rf_m_W_text 6 9 (.invokestatic 74) 55 2 2 0 [] [] = true := by decide +kernel
theorem rf_f_W_text_9 : rf_Fb rf_m_W_text 9 10 (.iload_n 2) 0 0 0 0 [] [] = true := by decide +kernel
theorem rf_f_W_text_10 : rf_Fb rf_m_W_text 10 12 (.bipush 60) 0 0 0 0 [] [] = true := by decide +kernel
theorem rf_f_W_text_12 : rf_Fb rf_m_W_text 12 14 (.bipush 32) 0 0 0 0 [] [] = true := by decide +kernel
theorem rf_f_W_text_14 : rf_Fb rf_m_W_text 14 17 (.invokevirtual 78) 56 4 0 4 [] [] = true := by decide +kernel
theorem rf_f_W_text_17 : rf_Fb rf_m_W_text 17 18 (.ireturn) 0 0 0 0 [] [] = true := by decide +kernel
set_option maxRecDepth 20000 in
set_option maxHeartbeats 2000000 in
theorem rf_e_W_text (d : Nat) (o : Nat) (a1 : Int) (a2 : Int) (h : rf_H) : rf_call (d + 1) 65 [.inr (.inr (some o)), .inl a1, .inl a2] h = ((rf_gR h 4 o 1).bind fun x1 => ((rf_call d 55 [.inr (.inr x1), .inl a1] h).bind fun q3 => rf_kR q3 fun x4 h2 => (bif rf_isO h2.1 o 4 then ((rf_call d 56 [.inr (.inr (some o)), .inr (.inr x4), .inl a2, .inl 60, .inl 32] h2).bind fun q6 => rf_kI q6 fun x7 h5 => some (some (.inl x7), h5)) else none))) := by
  show rf_den (rf_call d) (rf_mt 65) _ = _
  rw [rf_u_W_text]
  exact ((rf_s_aload_n rf_f_W_text_0 rfl (rf_m0 _) (rf_s_aload_n rf_f_W_text_1 rfl (rf_m0 _) (rf_s_getAS rf_f_W_text_2 (rf_m0 _) fun x1 => (rf_s_iload_n rf_f_W_text_5 rfl (rf_m0 _) (rf_s_invS2 rf_f_W_text_6 rfl rfl (rf_m0 _) fun q3 x4 h2 => (rf_s_iload_n rf_f_W_text_9 rfl (rf_m0 _) (rf_s_bipush rf_f_W_text_10 (rf_m0 _) (rf_s_bipush rf_f_W_text_12 (rf_m0 _) (rf_s_invV0S rf_f_W_text_14 rfl rfl (rf_m0 _) fun q6 x7 h5 => (rf_s_iret rf_f_W_text_17)))))))))) : rf_den (rf_call d) rf_m_W_text (0, [some (.inr (.inr (some o))), some (.inl a1), some (.inl a2)], [], h) = _)
theorem rf_u_W_put : rf_mt 66 = rf_m_W_put := rfl
theorem rf_f_W_put_0 : rf_Fb rf_m_W_put 0 1 (.aload_n 0) 0 0 0 0 [] [] = true := by decide +kernel
theorem rf_f_W_put_1 : rf_Fb rf_m_W_put 1 4 (.getfield 15) 4 1 2 0 [] [] = true := by decide +kernel
theorem rf_f_W_put_4 : rf_Fb rf_m_W_put 4 5 (.iload_n 1) 0 0 0 0 [] [] = true := by decide +kernel
theorem rf_f_W_put_5 : rf_Fb rf_m_W_put 5 8 (.invokestatic 74) 55 2 2 0 [] [] = true := by decide +kernel
theorem rf_f_W_put_8 : rf_Fb rf_m_W_put 8 10 (.astore 4) 0 0 0 0 [] [] = true := by decide +kernel
theorem rf_f_W_put_10 : rf_Fb rf_m_W_put 10 12 (.aload 4) 0 0 0 0 [] [] = true := by decide +kernel
theorem rf_f_W_put_12 : rf_Fb rf_m_W_put 12 15 (.ifnonnull 5) 17 0 0 0 [] [] = true := by decide +kernel
theorem rf_f_W_put_15 : rf_Fb rf_m_W_put 15 16 (.iconst (-1)) 0 0 0 0 [] [] = true := by decide +kernel
theorem rf_f_W_put_16 : rf_Fb rf_m_W_put 16 17 (.ireturn) 0 0 0 0 [] [] = true := by decide +kernel
theorem rf_f_W_put_17 : rf_Fb rf_m_W_put 17 18 (.aload_n 0) 0 0 0 0 [] [] = true := by decide +kernel
theorem rf_f_W_put_18 : rf_Fb rf_m_W_put 18 20 (.aload 4) 0 0 0 0 [] [] = true := by decide +kernel
theorem rf_f_W_put_20 : rf_Fb rf_m_W_put 20 21 (.iload_n 2) 0 0 0 0 [] [] = true := by decide +kernel
theorem rf_f_W_put_21 : rf_Fb rf_m_W_put 21 24 (.invokevirtual 82) 59 2 0 4 [] [] = true := by decide +kernel
theorem rf_f_W_put_24 : rf_Fb rf_m_W_put 24 26 (.istore 5) 0 0 0 0 [] [] = true := by decide +kernel
theorem rf_f_W_put_26 : rf_Fb rf_m_W_put 26 28 (.iload 5) 0 0 0 0 [] [] = true := by decide +kernel
theorem rf_f_W_put_28 : rf_Fb rf_m_W_put 28 31 (.ifCond .eq 6) 34 0 0 0 [] [] = true := by decide +kernel
theorem rf_f_W_put_31 : rf_Fb rf_m_W_put 31 33 (.iload 5) 0 0 0 0 [] [] = true := by decide +kernel
theorem rf_f_W_put_33 : rf_Fb rf_m_W_put 33 34 (.ireturn) 0 0 0 0 [] [] = true := by decide +kernel
theorem rf_f_W_put_34 : rf_Fb rf_m_W_put 34 36 (.aload 4) 0 0 0 0 [] [] = true := by decide +kernel
theorem rf_f_W_put_36 : rf_Fb rf_m_W_put 36 37 (.iload_n 2) 0 0 0 0 [] [] = true := by decide +kernel
theorem rf_f_W_put_37 : rf_Fb rf_m_W_put 37 40 (.invokevirtual 86) 4 1 0 2 [] [] = true := by decide +kernel
theorem rf_f_W_put_40 : rf_Fb rf_m_W_put 40 42 (.istore 6) 0 0 0 0 [] [] = true := by decide +kernel
theorem rf_f_W_put_42 : rf_Fb rf_m_W_put 42 44 (.aload 4) 0 0 0 0 [] [] = true := by decide +kernel
theorem rf_f_W_put_44 : rf_Fb rf_m_W_put 44 45 (.iload_n 2) 0 0 0 0 [] [] = true := by decide +kernel
theorem rf_f_W_put_45 : rf_Fb rf_m_W_put 45 46 (.iload_n 3) 0 0 0 0 [] [] = true := by decide +kernel
theorem rf_f_W_put_46 : rf_Fb rf_m_W_put 46 47 (.i2b) 0 0 0 0 [] [] = true := by decide +kernel
theorem rf_f_W_put_47 : rf_Fb rf_m_W_put 47 50 (.invokevirtual 90) 2 2 3 2 [] [] = true := by decide +kernel
theorem rf_f_W_put_50 : rf_Fb rf_m_W_put 50 52 (.iload 6) 0 0 0 0 [] [] = true := by decide +kernel
theorem rf_f_W_put_52 : rf_Fb rf_m_W_put 52 55 (.sipush 1000) 0 0 0 0 [] [] = true := by decide +kernel
theorem rf_f_W_put_55 : rf_Fb rf_m_W_put 55 56 (.iadd) 0 0 0 0 [] [] = true := by decide +kernel
theorem rf_f_W_put_56 : rf_Fb rf_m_W_put 56 57 (.ireturn) 0 0 0 0 [] [] = true := by decide +kernel
set_option maxRecDepth 20000 in
set_option maxHeartbeats 2000000 in
theorem rf_e_W_put (d : Nat) (o : Nat) (a1 : Int) (a2 : Int) (a3 : Int) (h : rf_H) : rf_call (d + 1) 66 [.inr (.inr (some o)), .inl a1, .inl a2, .inl a3] h = ((rf_gR h 4 o 1).bind fun x1 => ((rf_call d 55 [.inr (.inr x1), .inl a1] h).bind fun q3 => rf_kR q3 fun x4 h2 => (rf_nz x4 (some (some (.inl (-1)), h2)) ((bif rf_isO h2.1 o 4 then ((rf_call d 59 [.inr (.inr (some o)), .inr (.inr x4), .inl a2] h2).bind fun q6 => rf_kI q6 fun x7 h5 => (if x7 = 0 then (rf_nn x4 fun k8 => (bif rf_isO h5.1 k8 2 then ((rf_call d 4 [.inr (.inr (some k8)), .inl a2] h5).bind fun q10 => rf_kI q10 fun x11 h9 => (rf_nn x4 fun k12 => (bif rf_isO h9.1 k12 2 then ((rf_call d 2 [.inr (.inr (some k12)), .inl a2, .inl (rf_w8 a3)] h9).bind fun q14 => rf_kV q14 fun h13 => some (some (.inl (rf_w (x11 + 1000))), h13)) else none))) else none)) else some (some (.inl x7), h5))) else none))))) := by
  show rf_den (rf_call d) (rf_mt 66) _ = _
  rw [rf_u_W_put]
  exact ((rf_s_aload_n rf_f_W_put_0 rfl (rf_m0 _) (rf_s_getAS rf_f_W_put_1 (rf_m0 _) fun x1 => (rf_s_iload_n rf_f_W_put_4 rfl (rf_m0 _) (rf_s_invS2 rf_f_W_put_5 rfl rfl (rf_m0 _) fun q3 x4 h2 => (rf_s_astore (L' := [some (.inr (.inr (some o))), some (.inl a1), some (.inl a2), some (.inl a3), some (.inr (.inr x4)), none, none]) rf_f_W_put_8 rfl (rf_s_aload rf_f_W_put_10 rfl (rf_m0 _) (rf_s_ifnonnull rf_f_W_put_12 rfl (rf_m0 _) (rf_m0 _) (rf_s_aload_n rf_f_W_put_17 rfl (rf_m0 _) (rf_s_aload rf_f_W_put_18 rfl (rf_m0 _) (rf_s_iload_n rf_f_W_put_20 rfl (rf_m0 _) (rf_s_invV0S rf_f_W_put_21 rfl rfl (rf_m0 _) fun q6 x7 h5 => (rf_s_istore (L' := [some (.inr (.inr (some o))), some (.inl a1), some (.inl a2), some (.inl a3), some (.inr (.inr x4)), some (.inl x7), none]) rf_f_W_put_24 rfl (rf_s_iload rf_f_W_put_26 rfl (rf_m0 _) (rf_s_if_eq rf_f_W_put_28 rfl (rf_m0 _) (rf_m0 _) (rf_s_aload rf_f_W_put_34 rfl (rf_m0 _) (rf_s_iload_n rf_f_W_put_36 rfl (rf_m0 _) (rf_s_invV0R rf_f_W_put_37 rfl rfl (rf_m0 _) fun k8 q10 x11 h9 => (rf_s_istore (L' := [some (.inr (.inr (some o))), some (.inl a1), some (.inl a2), some (.inl a3), some (.inr (.inr x4)), some (.inl x7), some (.inl x11)]) rf_f_W_put_40 rfl (rf_s_aload rf_f_W_put_42 rfl (rf_m0 _) (rf_s_iload_n rf_f_W_put_44 rfl (rf_m0 _) (rf_s_iload_n rf_f_W_put_45 rfl (rf_m0 _) (rf_s_i2b rf_f_W_put_46 (rf_m0 _) (rf_s_invV3R rf_f_W_put_47 rfl rfl (rf_m0 _) fun k12 q14 h13 => (rf_s_iload rf_f_W_put_50 rfl (rf_m0 _) (rf_s_sipush rf_f_W_put_52 (rf_m0 _) (rf_s_iadd rf_f_W_put_55 (rf_m0 _) (rf_s_iret rf_f_W_put_56))))))))))))) (rf_s_iload rf_f_W_put_31 rfl (rf_m0 _) (rf_s_iret rf_f_W_put_33))))))))) (rf_s_iconst rf_f_W_put_15 (rf_m0 _) (rf_s_iret rf_f_W_put_16))))))))) : rf_den (rf_call d) rf_m_W_put (0, [some (.inr (.inr (some o))), some (.inl a1), some (.inl a2), some (.inl a3), none, none, none], [], h) = _)
theorem rf_u_W_fault : rf_mt 67 = rf_m_W_fault := rfl
theorem rf_f_W_fault_0 : rf_Fb rf_m_W_fault 0 1 (.aload_n 0) 0 0 0 0 [] [] = true := by decide +kernel
theorem rf_f_W_fault_1 : rf_Fb rf_m_W_fault 1 4 (.getfield 15) 4 1 2 0 [] [] = true := by decide +kernel
theorem rf_f_W_fault_4 : rf_Fb rf_m_W_fault 4 5 (.iload_n 1) 0 0 0 0 [] [] = true := by decide +kernel
theorem rf_f_W_fault_5 : rf_Fb rf_m_W_fault 5 8 (.invokestatic 74) 55 2 2 0 [] [] = true := by decide +kernel
theorem rf_f_W_fault_8 : rf_Fb rf_m_W_fault 8 9 (.astore_n 2) 0 0 0 0 [] [] = true := by decide +kernel
theorem rf_f_W_fault_9 : rf_Fb rf_m_W_fault 9 10 (.aload_n 2) 0 0 0 0 [] [] = true := by decide +kernel
theorem rf_f_W_fault_10 : rf_Fb rf_m_W_fault 10 13 (.ifnonnull 5) 15 0 0 0 [] [] = true := by decide +kernel
theorem rf_f_W_fault_13 : rf_Fb rf_m_W_fault 13 14 (.iconst (-1)) 0 0 0 0 [] [] = true := by decide +kernel
theorem rf_f_W_fault_14 : rf_Fb rf_m_W_fault 14 15 (.ireturn) 0 0 0 0 [] [] = true := by decide +kernel
theorem rf_f_W_fault_15 : rf_Fb rf_m_W_fault 15 16 (.aload_n 2) 0 0 0 0 [] [] = true := by decide +kernel
theorem rf_f_W_fault_16 : rf_Fb rf_m_W_fault 16 19 (.invokevirtual 97) 5 0 0 2 [] [] = true := by decide +kernel
theorem rf_f_W_fault_19 : rf_Fb rf_m_W_fault 19 22 (.ifCond .eq 18) 37 0 0 0 [] [] = true := by decide +kernel
theorem rf_f_W_fault_22 : rf_Fb rf_m_W_fault 22 23 (.aload_n 0) 0 0 0 0 [] [] = true := by decide +kernel
theorem rf_f_W_fault_23 : rf_Fb rf_m_W_fault 23 26 (.getfield 40) 4 7 2 0 [] [] = true := by decide +kernel
theorem rf_f_W_fault_26 : rf_Fb rf_m_W_fault 26 27 (.aload_n 2) 0 0 0 0 [] [] = true := by decide +kernel
theorem rf_f_W_fault_27 : rf_Fb rf_m_W_fault 27 28 (.aload_n 0) 0 0 0 0 [] [] = true := by decide +kernel
theorem rf_f_W_fault_28 : rf_Fb rf_m_W_fault 28 31 (.getfield 47) 4 8 2 0 [] [] = true := by decide +kernel
theorem rf_f_W_fault_31 : rf_Fb rf_m_W_fault 31 34 (.invokevirtual 119) 28 2 0 1 [] [] = true := by decide +kernel
theorem rf_f_W_fault_34 : rf_Fb rf_m_W_fault 34 37 (.goto 8) 42 0 0 0 [] [] = true := by decide +kernel
theorem rf_f_W_fault_37 : rf_Fb rf_m_W_fault 37 38 (.aload_n 0) 0 0 0 0 [] [] = true := by decide +kernel
theorem rf_f_W_fault_38 : rf_Fb rf_m_W_fault 38 39 (.iconst 1) 0 0 0 0 [] [] = true := by decide +kernel
theorem rf_f_W_fault_39 : rf_Fb rf_m_W_fault 39 42 (.invokevirtual 101) 57 1 0 4 [] [] = true := by decide +kernel
theorem rf_f_W_fault_42 : rf_Fb rf_m_W_fault 42 43 (.ireturn) 0 0 0 0 [] [] = true := by decide +kernel
set_option maxRecDepth 20000 in
set_option maxHeartbeats 2000000 in
theorem rf_e_W_fault (d : Nat) (o : Nat) (a1 : Int) (h : rf_H) : rf_call (d + 1) 67 [.inr (.inr (some o)), .inl a1] h = ((rf_gR h 4 o 1).bind fun x1 => ((rf_call d 55 [.inr (.inr x1), .inl a1] h).bind fun q3 => rf_kR q3 fun x4 h2 => (rf_nz x4 (some (some (.inl (-1)), h2)) ((rf_nn x4 fun k5 => (bif rf_isO h2.1 k5 2 then ((rf_call d 5 [.inr (.inr (some k5))] h2).bind fun q7 => rf_kI q7 fun x8 h6 => (if x8 = 0 then (bif rf_isO h6.1 o 4 then ((rf_call d 57 [.inr (.inr (some o)), .inl 1] h6).bind fun q10 => rf_kI q10 fun x11 h9 => some (some (.inl x11), h9)) else none) else ((rf_gR h6 4 o 7).bind fun x12 => ((rf_gR h6 4 o 8).bind fun x13 => (rf_nn x12 fun k14 => (bif rf_isO h6.1 k14 1 then ((rf_call d 28 [.inr (.inr (some k14)), .inr (.inr x4), .inr (.inr x13)] h6).bind fun q16 => rf_kI q16 fun x17 h15 => some (some (.inl x17), h15)) else none)))))) else none)))))) := by
  show rf_den (rf_call d) (rf_mt 67) _ = _
  rw [rf_u_W_fault]
  exact ((rf_s_aload_n rf_f_W_fault_0 rfl (rf_m0 _) (rf_s_getAS rf_f_W_fault_1 (rf_m0 _) fun x1 => (rf_s_iload_n rf_f_W_fault_4 rfl (rf_m0 _) (rf_s_invS2 rf_f_W_fault_5 rfl rfl (rf_m0 _) fun q3 x4 h2 => (rf_s_astore_n (L' := [some (.inr (.inr (some o))), some (.inl a1), some (.inr (.inr x4))]) rf_f_W_fault_8 rfl (rf_s_aload_n rf_f_W_fault_9 rfl (rf_m0 _) (rf_s_ifnonnull rf_f_W_fault_10 rfl (rf_m0 _) (rf_m0 _) (rf_s_aload_n rf_f_W_fault_15 rfl (rf_m0 _) (rf_s_invV0R rf_f_W_fault_16 rfl rfl (rf_m0 _) fun k5 q7 x8 h6 => (rf_s_if_eq rf_f_W_fault_19 rfl (rf_m0 _) (rf_m0 _) (rf_s_aload_n rf_f_W_fault_37 rfl (rf_m0 _) (rf_s_iconst rf_f_W_fault_38 (rf_m0 _) (rf_s_invV0S rf_f_W_fault_39 rfl rfl (rf_m0 _) fun q10 x11 h9 => (rf_s_iret rf_f_W_fault_42)))) (rf_s_aload_n rf_f_W_fault_22 rfl (rf_m0 _) (rf_s_getAS rf_f_W_fault_23 (rf_m0 _) fun x12 => (rf_s_aload_n rf_f_W_fault_26 rfl (rf_m0 _) (rf_s_aload_n rf_f_W_fault_27 rfl (rf_m0 _) (rf_s_getAS rf_f_W_fault_28 (rf_m0 _) fun x13 => (rf_s_invV0R rf_f_W_fault_31 rfl rfl (rf_m0 _) fun k14 q16 x17 h15 => (rf_s_goto rf_f_W_fault_34 rfl (rf_m0 _) (rf_s_iret rf_f_W_fault_42))))))))))) (rf_s_iconst rf_f_W_fault_13 (rf_m0 _) (rf_s_iret rf_f_W_fault_14))))))))) : rf_den (rf_call d) rf_m_W_fault (0, [some (.inr (.inr (some o))), some (.inl a1), none], [], h) = _)
noncomputable def rf_j_W_train_77 (d : Nat) (o : Nat) (l3 : Int) (h : rf_H) : Option rf_R := rf_den (rf_call d) rf_m_W_train (77, [some (.inr (.inr (some o))), none, none, some (.inl l3), none], [], h)
theorem rf_u_W_train : rf_mt 68 = rf_m_W_train := rfl
theorem rf_f_W_train_0 : rf_Fb rf_m_W_train 0 1 (.aload_n 0) 0 0 0 0 [] [] = true := by decide +kernel
theorem rf_f_W_train_1 : rf_Fb rf_m_W_train 1 4 (.getfield 15) 4 1 2 0 [] [] = true := by decide +kernel
theorem rf_f_W_train_4 : rf_Fb rf_m_W_train 4 5 (.iload_n 1) 0 0 0 0 [] [] = true := by decide +kernel
theorem rf_f_W_train_5 : rf_Fb rf_m_W_train 5 8 (.invokestatic 74) 55 2 2 0 [] [] = true := by decide +kernel
theorem rf_f_W_train_8 : rf_Fb rf_m_W_train 8 9 (.astore_n 2) 0 0 0 0 [] [] = true := by decide +kernel
theorem rf_f_W_train_9 : rf_Fb rf_m_W_train 9 10 (.aload_n 2) 0 0 0 0 [] [] = true := by decide +kernel
theorem rf_f_W_train_10 : rf_Fb rf_m_W_train 10 13 (.ifnonnull 5) 15 0 0 0 [] [] = true := by decide +kernel
theorem rf_f_W_train_13 : rf_Fb rf_m_W_train 13 14 (.iconst (-1)) 0 0 0 0 [] [] = true := by decide +kernel
theorem rf_f_W_train_14 : rf_Fb rf_m_W_train 14 15 (.ireturn) 0 0 0 0 [] [] = true := by decide +kernel
theorem rf_f_W_train_15 : rf_Fb rf_m_W_train 15 16 (.aload_n 2) 0 0 0 0 [] [] = true := by decide +kernel
theorem rf_f_W_train_16 : rf_Fb rf_m_W_train 16 19 (.invokevirtual 97) 5 0 0 2 [] [] = true := by decide +kernel
theorem rf_f_W_train_19 : rf_Fb rf_m_W_train 19 22 (.ifCond .ne 9) 28 0 0 0 [] [] = true := by decide +kernel
theorem rf_f_W_train_22 : rf_Fb rf_m_W_train 22 23 (.aload_n 0) 0 0 0 0 [] [] = true := by decide +kernel
theorem rf_f_W_train_23 : rf_Fb rf_m_W_train 23 24 (.iconst 1) 0 0 0 0 [] [] = true := by decide +kernel
theorem rf_f_W_train_24 : rf_Fb rf_m_W_train 24 27 (.invokevirtual 101) 57 1 0 4 [] [] = true := by decide +kernel
theorem rf_f_W_train_27 : rf_Fb rf_m_W_train 27 28 (.ireturn) 0 0 0 0 [] [] = true := by decide +kernel
theorem rf_f_W_train_28 : rf_Fb rf_m_W_train 28 29 (.aload_n 0) 0 0 0 0 [] [] = true := by decide +kernel
theorem rf_f_W_train_29 : rf_Fb rf_m_W_train 29 32 (.getfield 40) 4 7 2 0 [] [] = true := by decide +kernel
theorem rf_f_W_train_32 : rf_Fb rf_m_W_train 32 33 (.aload_n 2) 0 0 0 0 [] [] = true := by decide +kernel
theorem rf_f_W_train_33 : rf_Fb rf_m_W_train 33 34 (.aload_n 0) 0 0 0 0 [] [] = true := by decide +kernel
theorem rf_f_W_train_34 : rf_Fb rf_m_W_train 34 37 (.getfield 47) 4 8 2 0 [] [] = true := by decide +kernel
theorem rf_f_W_train_37 : rf_Fb rf_m_W_train 37 40 (.invokevirtual 119) 28 2 0 1 [] [] = true := by decide +kernel
theorem rf_f_W_train_40 : rf_Fb rf_m_W_train 40 42 (.bipush (-9)) 0 0 0 0 [] [] = true := by decide +kernel
theorem rf_f_W_train_42 : rf_Fb rf_m_W_train 42 45 (.if_icmp .eq 6) 48 0 0 0 [] [] = true := by decide +kernel
theorem rf_f_W_train_45 : rf_Fb rf_m_W_train 45 47 (.bipush (-4)) 0 0 0 0 [] [] = true := by decide +kernel
theorem rf_f_W_train_47 : rf_Fb rf_m_W_train 47 48 (.ireturn) 0 0 0 0 [] [] = true := by decide +kernel
theorem rf_f_W_train_48 : rf_Fb rf_m_W_train 48 49 (.aload_n 0) 0 0 0 0 [] [] = true := by decide +kernel
theorem rf_f_W_train_49 : rf_Fb rf_m_W_train 49 52 (.getfield 40) 4 7 2 0 [] [] = true := by decide +kernel
theorem rf_f_W_train_52 : rf_Fb rf_m_W_train 52 53 (.aload_n 2) 0 0 0 0 [] [] = true := by decide +kernel
theorem rf_f_W_train_53 : rf_Fb rf_m_W_train 53 54 (.aload_n 0) 0 0 0 0 [] [] = true := by decide +kernel
theorem rf_f_W_train_54 : rf_Fb rf_m_W_train 54 57 (.getfield 51) 4 9 2 0 [] [] = true := by decide +kernel
theorem rf_f_W_train_57 : rf_Fb rf_m_W_train 57 60 (.invokevirtual 119) 28 2 0 1 [] [] = true := by decide +kernel
theorem rf_f_W_train_60 : rf_Fb rf_m_W_train 60 61 (.pop) 0 0 0 0 [] [] = true := by decide +kernel
theorem rf_f_W_train_61 : rf_Fb rf_m_W_train 61 62 (.aload_n 0) 0 0 0 0 [] [] = true := by decide +kernel
theorem rf_f_W_train_62 : rf_Fb rf_m_W_train 62 63 (.iconst 1) 0 0 0 0 [] [] = true := by decide +kernel
theorem rf_f_W_train_63 : rf_Fb rf_m_W_train 63 66 (.putfield 123) 4 12 3 0 [] [] = true := by decide +kernel
theorem rf_f_W_train_66 : rf_Fb rf_m_W_train 66 67 (.aload_n 0) 0 0 0 0 [] [] = true := by decide +kernel
theorem rf_f_W_train_67 : rf_Fb rf_m_W_train 67 70 (.getfield 24) 4 3 2 0 [] [] = true := by decide +kernel
theorem rf_f_W_train_70 : rf_Fb rf_m_W_train 70 71 (.iconst 0) 0 0 0 0 [] [] = true := by decide +kernel
theorem rf_f_W_train_71 : rf_Fb rf_m_W_train 71 72 (.iconst 0) 0 0 0 0 [] [] = true := by decide +kernel
theorem rf_f_W_train_72 : rf_Fb rf_m_W_train 72 75 (.invokevirtual 67) 1 2 3 2 [] [] = true := by decide +kernel
theorem rf_f_W_train_75 : rf_Fb rf_m_W_train 75 76 (.iconst 0) 0 0 0 0 [] [] = true := by decide +kernel
theorem rf_f_W_train_76 : rf_Fb rf_m_W_train 76 77 (.istore_n 3) 0 0 0 0 [] [true, false, false, true, false] = true := by decide +kernel
theorem rf_f_W_train_77 : rf_Fb rf_m_W_train 77 78 (.iload_n 3) 0 0 0 0 [] [] = true := by decide +kernel
theorem rf_f_W_train_78 : rf_Fb rf_m_W_train 78 79 (.iconst 3) 0 0 0 0 [] [] = true := by decide +kernel
theorem rf_f_W_train_79 : rf_Fb rf_m_W_train 79 82 (.if_icmp .ge 29) 108 0 0 0 [] [] = true := by decide +kernel
theorem rf_f_W_train_82 : rf_Fb rf_m_W_train 82 83 (.aload_n 0) 0 0 0 0 [] [] = true := by decide +kernel
theorem rf_f_W_train_83 : rf_Fb rf_m_W_train 83 86 (.getfield 18) 4 2 2 0 [] [] = true := by decide +kernel
theorem rf_f_W_train_86 : rf_Fb rf_m_W_train 86 87 (.iload_n 3) 0 0 0 0 [] [] = true := by decide +kernel
theorem rf_f_W_train_87 : rf_Fb rf_m_W_train 87 90 (.invokestatic 74) 55 2 2 0 [] [] = true := by decide +kernel
theorem rf_f_W_train_90 : rf_Fb rf_m_W_train 90 92 (.astore 4) 0 0 0 0 [] [] = true := by decide +kernel
theorem rf_f_W_train_92 : rf_Fb rf_m_W_train 92 94 (.aload 4) 0 0 0 0 [] [] = true := by decide +kernel
theorem rf_f_W_train_94 : rf_Fb rf_m_W_train 94 97 (.ifnull 8) 102 0 0 0 [] [] = true := by decide +kernel
theorem rf_f_W_train_97 : rf_Fb rf_m_W_train 97 99 (.aload 4) 0 0 0 0 [] [] = true := by decide +kernel
theorem rf_f_W_train_99 : rf_Fb rf_m_W_train 99 102 (.invokevirtual 104) 6 0 3 2 [] [] = true := by decide +kernel
theorem rf_f_W_train_102 : rf_Fb rf_m_W_train 102 105 (.iinc 3 1) 0 0 0 0 [] [] = true := by decide +kernel
theorem rf_f_W_train_105 : rf_Fb rf_m_W_train 105 108 (.goto (-28)) 77 0 0 0 [] [] = true := by decide +kernel
theorem rf_f_W_train_108 : rf_Fb rf_m_W_train 108 109 (.aload_n 0) 0 0 0 0 [] [] = true := by decide +kernel
theorem rf_f_W_train_109 : rf_Fb rf_m_W_train 109 112 (.invokevirtual 127) 69 0 3 4 [] [] = true := by decide +kernel
theorem rf_f_W_train_112 : rf_Fb rf_m_W_train 112 113 (.aload_n 0) 0 0 0 0 [] [] = true := by decide +kernel
theorem rf_f_W_train_113 : rf_Fb rf_m_W_train 113 116 (.getfield 59) 4 10 2 0 [] [] = true := by decide +kernel
theorem rf_f_W_train_116 : rf_Fb rf_m_W_train 116 119 (.getfield 130) 3 6 0 0 [] [] = true := by decide +kernel
theorem rf_f_W_train_119 : rf_Fb rf_m_W_train 119 120 (.ireturn) 0 0 0 0 [] [] = true := by decide +kernel
set_option maxRecDepth 20000 in
set_option maxHeartbeats 2000000 in
theorem rf_e_W_train (d : Nat) (o : Nat) (a1 : Int) (h : rf_H) : rf_call (d + 1) 68 [.inr (.inr (some o)), .inl a1] h = ((rf_gR h 4 o 1).bind fun x1 => ((rf_call d 55 [.inr (.inr x1), .inl a1] h).bind fun q3 => rf_kR q3 fun x4 h2 => (rf_nz x4 (some (some (.inl (-1)), h2)) ((rf_nn x4 fun k5 => (bif rf_isO h2.1 k5 2 then ((rf_call d 5 [.inr (.inr (some k5))] h2).bind fun q7 => rf_kI q7 fun x8 h6 => (if x8 = 0 then (bif rf_isO h6.1 o 4 then ((rf_call d 57 [.inr (.inr (some o)), .inl 1] h6).bind fun q27 => rf_kI q27 fun x28 h26 => some (some (.inl x28), h26)) else none) else ((rf_gR h6 4 o 7).bind fun x9 => ((rf_gR h6 4 o 8).bind fun x10 => (rf_nn x9 fun k11 => (bif rf_isO h6.1 k11 1 then ((rf_call d 28 [.inr (.inr (some k11)), .inr (.inr x4), .inr (.inr x10)] h6).bind fun q13 => rf_kI q13 fun x14 h12 => (if x14 = (-9) then ((rf_gR h12 4 o 7).bind fun x15 => ((rf_gR h12 4 o 9).bind fun x16 => (rf_nn x15 fun k17 => (bif rf_isO h12.1 k17 1 then ((rf_call d 28 [.inr (.inr (some k17)), .inr (.inr x4), .inr (.inr x16)] h12).bind fun q19 => rf_kI q19 fun x20 h18 => ((rf_pI h18 4 o 12 1).bind fun h21 => ((rf_gR h21 4 o 3).bind fun x22 => (rf_nn x22 fun k23 => (bif rf_isO h21.1 k23 2 then ((rf_call d 1 [.inr (.inr (some k23)), .inl 0, .inl 0] h21).bind fun q25 => rf_kV q25 fun h24 => rf_j_W_train_77 d o 0 h24) else none))))) else none)))) else some (some (.inl (-4)), h12))) else none)))))) else none)))))) := by
  show rf_den (rf_call d) (rf_mt 68) _ = _
  rw [rf_u_W_train]
  exact ((rf_s_aload_n rf_f_W_train_0 rfl (rf_m0 _) (rf_s_getAS rf_f_W_train_1 (rf_m0 _) fun x1 => (rf_s_iload_n rf_f_W_train_4 rfl (rf_m0 _) (rf_s_invS2 rf_f_W_train_5 rfl rfl (rf_m0 _) fun q3 x4 h2 => (rf_s_astore_n (L' := [some (.inr (.inr (some o))), some (.inl a1), some (.inr (.inr x4)), none, none]) rf_f_W_train_8 rfl (rf_s_aload_n rf_f_W_train_9 rfl (rf_m0 _) (rf_s_ifnonnull rf_f_W_train_10 rfl (rf_m0 _) (rf_m0 _) (rf_s_aload_n rf_f_W_train_15 rfl (rf_m0 _) (rf_s_invV0R rf_f_W_train_16 rfl rfl (rf_m0 _) fun k5 q7 x8 h6 => (rf_s_if_ne rf_f_W_train_19 rfl (rf_m0 _) (rf_m0 _) (rf_s_aload_n rf_f_W_train_28 rfl (rf_m0 _) (rf_s_getAS rf_f_W_train_29 (rf_m0 _) fun x9 => (rf_s_aload_n rf_f_W_train_32 rfl (rf_m0 _) (rf_s_aload_n rf_f_W_train_33 rfl (rf_m0 _) (rf_s_getAS rf_f_W_train_34 (rf_m0 _) fun x10 => (rf_s_invV0R rf_f_W_train_37 rfl rfl (rf_m0 _) fun k11 q13 x14 h12 => (rf_s_bipush rf_f_W_train_40 (rf_m0 _) (rf_s_icmp_eq rf_f_W_train_42 rfl (rf_m0 _) (rf_m0 _) (rf_s_aload_n rf_f_W_train_48 rfl (rf_m0 _) (rf_s_getAS rf_f_W_train_49 (rf_m0 _) fun x15 => (rf_s_aload_n rf_f_W_train_52 rfl (rf_m0 _) (rf_s_aload_n rf_f_W_train_53 rfl (rf_m0 _) (rf_s_getAS rf_f_W_train_54 (rf_m0 _) fun x16 => (rf_s_invV0R rf_f_W_train_57 rfl rfl (rf_m0 _) fun k17 q19 x20 h18 => (rf_s_popI rf_f_W_train_60 (rf_m0 _) (rf_s_aload_n rf_f_W_train_61 rfl (rf_m0 _) (rf_s_iconst rf_f_W_train_62 (rf_m0 _) (rf_s_putZS (by decide) rf_f_W_train_63 (rf_m0 _) fun h21 => (rf_s_aload_n rf_f_W_train_66 rfl (rf_m0 _) (rf_s_getAS rf_f_W_train_67 (rf_m0 _) fun x22 => (rf_s_iconst rf_f_W_train_70 (rf_m0 _) (rf_s_iconst rf_f_W_train_71 (rf_m0 _) (rf_s_invV3R rf_f_W_train_72 rfl rfl (rf_m0 _) fun k23 q25 h24 => (rf_s_iconst rf_f_W_train_75 (rf_m0 _) (rf_s_istore_n rf_f_W_train_76 rfl rfl))))))))))))))))) (rf_s_bipush rf_f_W_train_45 (rf_m0 _) (rf_s_iret rf_f_W_train_47)))))))))) (rf_s_aload_n rf_f_W_train_22 rfl (rf_m0 _) (rf_s_iconst rf_f_W_train_23 (rf_m0 _) (rf_s_invV0S rf_f_W_train_24 rfl rfl (rf_m0 _) fun q27 x28 h26 => (rf_s_iret rf_f_W_train_27))))))) (rf_s_iconst rf_f_W_train_13 (rf_m0 _) (rf_s_iret rf_f_W_train_14))))))))) : rf_den (rf_call d) rf_m_W_train (0, [some (.inr (.inr (some o))), some (.inl a1), none, none, none], [], h) = _)
set_option maxRecDepth 20000 in
set_option maxHeartbeats 2000000 in
theorem rf_e_W_train_77 (d : Nat) (o : Nat) (l3 : Int) (h : rf_H) : rf_j_W_train_77 d o l3 h = (if l3 < 3 then ((rf_gR h 4 o 2).bind fun x6 => ((rf_call d 55 [.inr (.inr x6), .inl l3] h).bind fun q8 => rf_kR q8 fun x9 h7 => (rf_nz x9 (rf_j_W_train_77 d o (rf_w (l3 + 1)) h7) ((rf_nn x9 fun k10 => (bif rf_isO h7.1 k10 2 then ((rf_call d 6 [.inr (.inr (some k10))] h7).bind fun q12 => rf_kV q12 fun h11 => rf_j_W_train_77 d o (rf_w (l3 + 1)) h11) else none)))))) else (bif rf_isO h.1 o 4 then ((rf_call d 69 [.inr (.inr (some o))] h).bind fun q2 => rf_kV q2 fun h1 => ((rf_gR h1 4 o 10).bind fun x3 => (rf_nn x3 fun k4 => ((rf_gI h1 3 k4 6).bind fun x5 => some (some (.inl x5), h1))))) else none)) :=
  ((rf_s_iload_n rf_f_W_train_77 rfl (rf_m0 _) (rf_s_iconst rf_f_W_train_78 (rf_m0 _) (rf_s_icmp_ge rf_f_W_train_79 rfl (rf_m0 _) (rf_m0 _) (rf_s_aload_n rf_f_W_train_108 rfl (rf_m0 _) (rf_s_invV3S rf_f_W_train_109 rfl rfl (rf_m0 _) fun q2 h1 => (rf_s_aload_n rf_f_W_train_112 rfl (rf_m0 _) (rf_s_getAS rf_f_W_train_113 (rf_m0 _) fun x3 => (rf_s_getIR rf_f_W_train_116 (rf_m0 _) fun k4 x5 => (rf_s_iret rf_f_W_train_119)))))) (rf_s_aload_n rf_f_W_train_82 rfl (rf_m0 _) (rf_s_getAS rf_f_W_train_83 (rf_m0 _) fun x6 => (rf_s_iload_n rf_f_W_train_86 rfl (rf_m0 _) (rf_s_invS2 rf_f_W_train_87 rfl rfl (rf_m0 _) fun q8 x9 h7 => (rf_s_astore (L' := [some (.inr (.inr (some o))), none, none, some (.inl l3), some (.inr (.inr x9))]) rf_f_W_train_90 rfl (rf_s_aload rf_f_W_train_92 rfl (rf_m0 _) (rf_s_ifnull rf_f_W_train_94 rfl (rf_m0 _) (rf_m0 _) (rf_s_iinc (L' := [some (.inr (.inr (some o))), none, none, some (.inl (rf_w (l3 + 1))), some (.inr (.inr x9))]) rf_f_W_train_102 rfl rfl (rf_s_goto rf_f_W_train_105 rfl rfl rfl)) (rf_s_aload rf_f_W_train_97 rfl (rf_m0 _) (rf_s_invV3R rf_f_W_train_99 rfl rfl (rf_m0 _) fun k10 q12 h11 => (rf_s_iinc (L' := [some (.inr (.inr (some o))), none, none, some (.inl (rf_w (l3 + 1))), some (.inr (.inr x9))]) rf_f_W_train_102 rfl rfl (rf_s_goto rf_f_W_train_105 rfl rfl rfl)))))))))))))) : rf_den (rf_call d) rf_m_W_train (77, [some (.inr (.inr (some o))), none, none, some (.inl l3), none], [], h) = _)
noncomputable def rf_j_W_doDeedsAnew_9 (d : Nat) (o : Nat) (l1 : Int) (h : rf_H) : Option rf_R := rf_den (rf_call d) rf_m_W_doDeedsAnew (9, [some (.inr (.inr (some o))), some (.inl l1)], [], h)
theorem rf_u_W_doDeedsAnew : rf_mt 69 = rf_m_W_doDeedsAnew := rfl
theorem rf_f_W_doDeedsAnew_0 : rf_Fb rf_m_W_doDeedsAnew 0 1 (.aload_n 0) 0 0 0 0 [] [] = true := by decide +kernel
theorem rf_f_W_doDeedsAnew_1 : rf_Fb rf_m_W_doDeedsAnew 1 4 (.getfield 59) 4 10 2 0 [] [] = true := by decide +kernel
theorem rf_f_W_doDeedsAnew_4 : rf_Fb rf_m_W_doDeedsAnew 4 7 (.invokevirtual 314) 38 0 3 3 [] [] = true := by decide +kernel
theorem rf_f_W_doDeedsAnew_7 : rf_Fb rf_m_W_doDeedsAnew 7 8 (.iconst 0) 0 0 0 0 [] [] = true := by decide +kernel
theorem rf_f_W_doDeedsAnew_8 : rf_Fb rf_m_W_doDeedsAnew 8 9 (.istore_n 1) 0 0 0 0 [] [true, true] = true := by decide +kernel
theorem rf_f_W_doDeedsAnew_9 : rf_Fb rf_m_W_doDeedsAnew 9 10 (.iload_n 1) 0 0 0 0 [] [] = true := by decide +kernel
theorem rf_f_W_doDeedsAnew_10 : rf_Fb rf_m_W_doDeedsAnew 10 11 (.aload_n 0) 0 0 0 0 [] [] = true := by decide +kernel
theorem rf_f_W_doDeedsAnew_11 : rf_Fb rf_m_W_doDeedsAnew 11 14 (.getfield 24) 4 3 2 0 [] [] = true := by decide +kernel
theorem rf_f_W_doDeedsAnew_14 : rf_Fb rf_m_W_doDeedsAnew 14 17 (.getfield 111) 2 1 0 0 [] [] = true := by decide +kernel
theorem rf_f_W_doDeedsAnew_17 : rf_Fb rf_m_W_doDeedsAnew 17 20 (.if_icmp .ge 32) 49 0 0 0 [] [] = true := by decide +kernel
theorem rf_f_W_doDeedsAnew_20 : rf_Fb rf_m_W_doDeedsAnew 20 21 (.aload_n 0) 0 0 0 0 [] [] = true := by decide +kernel
theorem rf_f_W_doDeedsAnew_21 : rf_Fb rf_m_W_doDeedsAnew 21 24 (.getfield 59) 4 10 2 0 [] [] = true := by decide +kernel
theorem rf_f_W_doDeedsAnew_24 : rf_Fb rf_m_W_doDeedsAnew 24 25 (.aload_n 0) 0 0 0 0 [] [] = true := by decide +kernel
theorem rf_f_W_doDeedsAnew_25 : rf_Fb rf_m_W_doDeedsAnew 25 28 (.getfield 24) 4 3 2 0 [] [] = true := by decide +kernel
theorem rf_f_W_doDeedsAnew_28 : rf_Fb rf_m_W_doDeedsAnew 28 29 (.iload_n 1) 0 0 0 0 [] [] = true := by decide +kernel
theorem rf_f_W_doDeedsAnew_29 : rf_Fb rf_m_W_doDeedsAnew 29 32 (.invokevirtual 86) 4 1 0 2 [] [] = true := by decide +kernel
theorem rf_f_W_doDeedsAnew_32 : rf_Fb rf_m_W_doDeedsAnew 32 33 (.aload_n 0) 0 0 0 0 [] [] = true := by decide +kernel
theorem rf_f_W_doDeedsAnew_33 : rf_Fb rf_m_W_doDeedsAnew 33 36 (.getfield 59) 4 10 2 0 [] [] = true := by decide +kernel
theorem rf_f_W_doDeedsAnew_36 : rf_Fb rf_m_W_doDeedsAnew 36 39 (.invokevirtual 179) 39 0 0 3 [] [] = true := by decide +kernel
theorem rf_f_W_doDeedsAnew_39 : rf_Fb rf_m_W_doDeedsAnew 39 42 (.invokevirtual 212) 40 2 0 3 [] [] = true := by decide +kernel
theorem rf_f_W_doDeedsAnew_42 : rf_Fb rf_m_W_doDeedsAnew 42 43 (.pop) 0 0 0 0 [] [] = true := by decide +kernel
theorem rf_f_W_doDeedsAnew_43 : rf_Fb rf_m_W_doDeedsAnew 43 46 (.iinc 1 1) 0 0 0 0 [] [] = true := by decide +kernel
theorem rf_f_W_doDeedsAnew_46 : rf_Fb rf_m_W_doDeedsAnew 46 49 (.goto (-37)) 9 0 0 0 [] [] = true := by decide +kernel
theorem rf_f_W_doDeedsAnew_49 : rf_Fb rf_m_W_doDeedsAnew 49 50 (.return_) 0 0 0 0 [] [] = true := by decide +kernel
set_option maxRecDepth 20000 in
set_option maxHeartbeats 2000000 in
theorem rf_e_W_doDeedsAnew (d : Nat) (o : Nat) (h : rf_H) : rf_call (d + 1) 69 [.inr (.inr (some o))] h = ((rf_gR h 4 o 10).bind fun x1 => (rf_nn x1 fun k2 => (bif rf_isO h.1 k2 3 then ((rf_call d 38 [.inr (.inr (some k2))] h).bind fun q4 => rf_kV q4 fun h3 => rf_j_W_doDeedsAnew_9 d o 0 h3) else none))) := by
  show rf_den (rf_call d) (rf_mt 69) _ = _
  rw [rf_u_W_doDeedsAnew]
  exact ((rf_s_aload_n rf_f_W_doDeedsAnew_0 rfl (rf_m0 _) (rf_s_getAS rf_f_W_doDeedsAnew_1 (rf_m0 _) fun x1 => (rf_s_invV3R rf_f_W_doDeedsAnew_4 rfl rfl (rf_m0 _) fun k2 q4 h3 => (rf_s_iconst rf_f_W_doDeedsAnew_7 (rf_m0 _) (rf_s_istore_n rf_f_W_doDeedsAnew_8 rfl rfl))))) : rf_den (rf_call d) rf_m_W_doDeedsAnew (0, [some (.inr (.inr (some o))), none], [], h) = _)
set_option maxRecDepth 20000 in
set_option maxHeartbeats 2000000 in
theorem rf_e_W_doDeedsAnew_9 (d : Nat) (o : Nat) (l1 : Int) (h : rf_H) : rf_j_W_doDeedsAnew_9 d o l1 h = ((rf_gR h 4 o 3).bind fun x1 => (rf_nn x1 fun k2 => ((rf_gI h 2 k2 1).bind fun x3 => (if l1 < x3 then ((rf_gR h 4 o 10).bind fun x4 => ((rf_gR h 4 o 3).bind fun x5 => (rf_nn x5 fun k6 => (bif rf_isO h.1 k6 2 then ((rf_call d 4 [.inr (.inr (some k6)), .inl l1] h).bind fun q8 => rf_kI q8 fun x9 h7 => ((rf_gR h7 4 o 10).bind fun x10 => (rf_nn x10 fun k11 => (bif rf_isO h7.1 k11 3 then ((rf_call d 39 [.inr (.inr (some k11))] h7).bind fun q13 => rf_kI q13 fun x14 h12 => (rf_nn x4 fun k15 => (bif rf_isO h12.1 k15 3 then ((rf_call d 40 [.inr (.inr (some k15)), .inl x9, .inl x14] h12).bind fun q17 => rf_kI q17 fun x18 h16 => rf_j_W_doDeedsAnew_9 d o (rf_w (l1 + 1)) h16) else none))) else none)))) else none)))) else some (none, h))))) :=
  ((rf_s_iload_n rf_f_W_doDeedsAnew_9 rfl (rf_m0 _) (rf_s_aload_n rf_f_W_doDeedsAnew_10 rfl (rf_m0 _) (rf_s_getAS rf_f_W_doDeedsAnew_11 (rf_m0 _) fun x1 => (rf_s_getIR rf_f_W_doDeedsAnew_14 (rf_m0 _) fun k2 x3 => (rf_s_icmp_ge rf_f_W_doDeedsAnew_17 rfl (rf_m0 _) (rf_m0 _) (rf_s_vret rf_f_W_doDeedsAnew_49) (rf_s_aload_n rf_f_W_doDeedsAnew_20 rfl (rf_m0 _) (rf_s_getAS rf_f_W_doDeedsAnew_21 (rf_m0 _) fun x4 => (rf_s_aload_n rf_f_W_doDeedsAnew_24 rfl (rf_m0 _) (rf_s_getAS rf_f_W_doDeedsAnew_25 (rf_m0 _) fun x5 => (rf_s_iload_n rf_f_W_doDeedsAnew_28 rfl (rf_m0 _) (rf_s_invV0R rf_f_W_doDeedsAnew_29 rfl rfl (rf_m0 _) fun k6 q8 x9 h7 => (rf_s_aload_n rf_f_W_doDeedsAnew_32 rfl (rf_m0 _) (rf_s_getAS rf_f_W_doDeedsAnew_33 (rf_m0 _) fun x10 => (rf_s_invV0R rf_f_W_doDeedsAnew_36 rfl rfl (rf_m0 _) fun k11 q13 x14 h12 => (rf_s_invV0R rf_f_W_doDeedsAnew_39 rfl rfl (rf_m0 _) fun k15 q17 x18 h16 => (rf_s_popI rf_f_W_doDeedsAnew_42 (rf_m0 _) (rf_s_iinc (L' := [some (.inr (.inr (some o))), some (.inl (rf_w (l1 + 1)))]) rf_f_W_doDeedsAnew_43 rfl rfl (rf_s_goto rf_f_W_doDeedsAnew_46 rfl rfl rfl)))))))))))))))))) : rf_den (rf_call d) rf_m_W_doDeedsAnew (9, [some (.inr (.inr (some o))), some (.inl l1)], [], h) = _)
theorem rf_u_W_gripFactor : rf_mt 70 = rf_m_W_gripFactor := rfl
theorem rf_f_W_gripFactor_0 : rf_Fb rf_m_W_gripFactor 0 1 (.iconst 3) 0 0 0 0 [] [] = true := by decide +kernel
theorem rf_f_W_gripFactor_1 : rf_Fb rf_m_W_gripFactor 1 2 (.iload_n 0) 0 0 0 0 [] [] = true := by decide +kernel
theorem rf_f_W_gripFactor_2 : rf_Fb rf_m_W_gripFactor 2 3 (.isub) 0 0 0 0 [] [] = true := by decide +kernel
theorem rf_f_W_gripFactor_3 : rf_Fb rf_m_W_gripFactor 3 4 (.ireturn) 0 0 0 0 [] [] = true := by decide +kernel
set_option maxRecDepth 20000 in
set_option maxHeartbeats 2000000 in
theorem rf_e_W_gripFactor (d : Nat) (a1 : Int) (h : rf_H) : rf_call (d + 1) 70 [.inl a1] h = some (some (.inl (rf_w (3 - a1))), h) := by
  show rf_den (rf_call d) (rf_mt 70) _ = _
  rw [rf_u_W_gripFactor]
  exact ((rf_s_iconst rf_f_W_gripFactor_0 (rf_m0 _) (rf_s_iload_n rf_f_W_gripFactor_1 rfl (rf_m0 _) (rf_s_isub rf_f_W_gripFactor_2 (rf_m0 _) (rf_s_iret rf_f_W_gripFactor_3)))) : rf_den (rf_call d) rf_m_W_gripFactor (0, [some (.inl a1)], [], h) = _)
theorem rf_u_W_wagon : rf_mt 71 = rf_m_W_wagon := rfl
theorem rf_f_W_wagon_0 : rf_Fb rf_m_W_wagon 0 1 (.iload_n 1) 0 0 0 0 [] [] = true := by decide +kernel
theorem rf_f_W_wagon_1 : rf_Fb rf_m_W_wagon 1 4 (.ifCond .lt 24) 25 0 0 0 [] [] = true := by decide +kernel
theorem rf_f_W_wagon_4 : rf_Fb rf_m_W_wagon 4 5 (.iload_n 1) 0 0 0 0 [] [] = true := by decide +kernel
theorem rf_f_W_wagon_5 : rf_Fb rf_m_W_wagon 5 6 (.aload_n 0) 0 0 0 0 [] [] = true := by decide +kernel
theorem rf_f_W_wagon_6 : rf_Fb rf_m_W_wagon 6 9 (.getfield 59) 4 10 2 0 [] [] = true := by decide +kernel
theorem rf_f_W_wagon_9 : rf_Fb rf_m_W_wagon 9 12 (.getfield 130) 3 6 0 0 [] [] = true := by decide +kernel
theorem rf_f_W_wagon_12 : rf_Fb rf_m_W_wagon 12 15 (.if_icmp .ge 13) 25 0 0 0 [] [] = true := by decide +kernel
theorem rf_f_W_wagon_15 : rf_Fb rf_m_W_wagon 15 16 (.iload_n 2) 0 0 0 0 [] [] = true := by decide +kernel
theorem rf_f_W_wagon_16 : rf_Fb rf_m_W_wagon 16 19 (.ifCond .lt 9) 25 0 0 0 [] [] = true := by decide +kernel
theorem rf_f_W_wagon_19 : rf_Fb rf_m_W_wagon 19 20 (.iload_n 2) 0 0 0 0 [] [] = true := by decide +kernel
theorem rf_f_W_wagon_20 : rf_Fb rf_m_W_wagon 20 22 (.bipush 6) 0 0 0 0 [] [] = true := by decide +kernel
theorem rf_f_W_wagon_22 : rf_Fb rf_m_W_wagon 22 25 (.if_icmp .lt 5) 27 0 0 0 [] [] = true := by decide +kernel
theorem rf_f_W_wagon_25 : rf_Fb rf_m_W_wagon 25 26 (.iconst (-1)) 0 0 0 0 [] [] = true := by decide +kernel
theorem rf_f_W_wagon_26 : rf_Fb rf_m_W_wagon 26 27 (.ireturn) 0 0 0 0 [] [] = true := by decide +kernel
theorem rf_f_W_wagon_27 : rf_Fb rf_m_W_wagon 27 28 (.aload_n 0) 0 0 0 0 [] [] = true := by decide +kernel
theorem rf_f_W_wagon_28 : rf_Fb rf_m_W_wagon 28 29 (.aload_n 0) 0 0 0 0 [] [] = true := by decide +kernel
theorem rf_f_W_wagon_29 : rf_Fb rf_m_W_wagon 29 30 (.iload_n 1) 0 0 0 0 [] [] = true := by decide +kernel
theorem rf_f_W_wagon_30 : rf_Fb rf_m_W_wagon 30 31 (.iload_n 2) 0 0 0 0 [] [] = true := by decide +kernel
theorem rf_f_W_wagon_31 : rf_Fb rf_m_W_wagon 31 34 (.invokevirtual 133) 72 2 0 4 [] [] = true := by decide +kernel
theorem rf_f_W_wagon_34 : rf_Fb rf_m_W_wagon 34 35 (.iconst 1) 0 0 0 0 [] [] = true := by decide +kernel
theorem rf_f_W_wagon_35 : rf_Fb rf_m_W_wagon 35 38 (.invokevirtual 93) 60 2 0 4 [] [] = true := by decide +kernel
theorem rf_f_W_wagon_38 : rf_Fb rf_m_W_wagon 38 39 (.ireturn) 0 0 0 0 [] [] = true := by decide +kernel
set_option maxRecDepth 20000 in
set_option maxHeartbeats 2000000 in
theorem rf_e_W_wagon (d : Nat) (o : Nat) (a1 : Int) (a2 : Int) (h : rf_H) : rf_call (d + 1) 71 [.inr (.inr (some o)), .inl a1, .inl a2] h = (if a1 < 0 then some (some (.inl (-1)), h) else ((rf_gR h 4 o 10).bind fun x1 => (rf_nn x1 fun k2 => ((rf_gI h 3 k2 6).bind fun x3 => (if a1 < x3 then (if a2 < 0 then some (some (.inl (-1)), h) else (if a2 < 6 then (bif rf_isO h.1 o 4 then ((rf_call d 72 [.inr (.inr (some o)), .inl a1, .inl a2] h).bind fun q5 => rf_kI q5 fun x6 h4 => (bif rf_isO h4.1 o 4 then ((rf_call d 60 [.inr (.inr (some o)), .inl x6, .inl 1] h4).bind fun q8 => rf_kI q8 fun x9 h7 => some (some (.inl x9), h7)) else none)) else none) else some (some (.inl (-1)), h))) else some (some (.inl (-1)), h)))))) := by
  show rf_den (rf_call d) (rf_mt 71) _ = _
  rw [rf_u_W_wagon]
  exact ((rf_s_iload_n rf_f_W_wagon_0 rfl (rf_m0 _) (rf_s_if_lt rf_f_W_wagon_1 rfl (rf_m0 _) (rf_m0 _) (rf_s_iconst rf_f_W_wagon_25 (rf_m0 _) (rf_s_iret rf_f_W_wagon_26)) (rf_s_iload_n rf_f_W_wagon_4 rfl (rf_m0 _) (rf_s_aload_n rf_f_W_wagon_5 rfl (rf_m0 _) (rf_s_getAS rf_f_W_wagon_6 (rf_m0 _) fun x1 => (rf_s_getIR rf_f_W_wagon_9 (rf_m0 _) fun k2 x3 => (rf_s_icmp_ge rf_f_W_wagon_12 rfl (rf_m0 _) (rf_m0 _) (rf_s_iconst rf_f_W_wagon_25 (rf_m0 _) (rf_s_iret rf_f_W_wagon_26)) (rf_s_iload_n rf_f_W_wagon_15 rfl (rf_m0 _) (rf_s_if_lt rf_f_W_wagon_16 rfl (rf_m0 _) (rf_m0 _) (rf_s_iconst rf_f_W_wagon_25 (rf_m0 _) (rf_s_iret rf_f_W_wagon_26)) (rf_s_iload_n rf_f_W_wagon_19 rfl (rf_m0 _) (rf_s_bipush rf_f_W_wagon_20 (rf_m0 _) (rf_s_icmp_lt rf_f_W_wagon_22 rfl (rf_m0 _) (rf_m0 _) (rf_s_aload_n rf_f_W_wagon_27 rfl (rf_m0 _) (rf_s_aload_n rf_f_W_wagon_28 rfl (rf_m0 _) (rf_s_iload_n rf_f_W_wagon_29 rfl (rf_m0 _) (rf_s_iload_n rf_f_W_wagon_30 rfl (rf_m0 _) (rf_s_invV0S rf_f_W_wagon_31 rfl rfl (rf_m0 _) fun q5 x6 h4 => (rf_s_iconst rf_f_W_wagon_34 (rf_m0 _) (rf_s_invV0S rf_f_W_wagon_35 rfl rfl (rf_m0 _) fun q8 x9 h7 => (rf_s_iret rf_f_W_wagon_38)))))))) (rf_s_iconst rf_f_W_wagon_25 (rf_m0 _) (rf_s_iret rf_f_W_wagon_26)))))))))))))) : rf_den (rf_call d) rf_m_W_wagon (0, [some (.inr (.inr (some o))), some (.inl a1), some (.inl a2)], [], h) = _)
theorem rf_u_W_wagonFact : rf_mt 72 = rf_m_W_wagonFact := rfl
theorem rf_f_W_wagonFact_0 : rf_Fb rf_m_W_wagonFact 0 1 (.iload_n 2) 0 0 0 0 [] [] = true := by decide +kernel
theorem rf_f_W_wagonFact_1 : rf_Fb rf_m_W_wagonFact 1 36 (.tableswitch 93 0 4 #[35, 47, 59, 75, 84]) 94 0 0 0 [36, 48, 60, 76, 85] [] = true := by decide +kernel
theorem rf_f_W_wagonFact_36 : rf_Fb rf_m_W_wagonFact 36 37 (.aload_n 0) 0 0 0 0 [] [] = true := by decide +kernel
theorem rf_f_W_wagonFact_37 : rf_Fb rf_m_W_wagonFact 37 40 (.getfield 51) 4 9 2 0 [] [] = true := by decide +kernel
theorem rf_f_W_wagonFact_40 : rf_Fb rf_m_W_wagonFact 40 43 (.getfield 320) 0 1 2 0 [] [] = true := by decide +kernel
theorem rf_f_W_wagonFact_43 : rf_Fb rf_m_W_wagonFact 43 44 (.iload_n 1) 0 0 0 0 [] [] = true := by decide +kernel
theorem rf_f_W_wagonFact_44 : rf_Fb rf_m_W_wagonFact 44 47 (.invokevirtual 86) 4 1 0 2 [] [] = true := by decide +kernel
theorem rf_f_W_wagonFact_47 : rf_Fb rf_m_W_wagonFact 47 48 (.ireturn) 0 0 0 0 [] [] = true := by decide +kernel
theorem rf_f_W_wagonFact_48 : rf_Fb rf_m_W_wagonFact 48 49 (.aload_n 0) 0 0 0 0 [] [] = true := by decide +kernel
theorem rf_f_W_wagonFact_49 : rf_Fb rf_m_W_wagonFact 49 52 (.getfield 51) 4 9 2 0 [] [] = true := by decide +kernel
theorem rf_f_W_wagonFact_52 : rf_Fb rf_m_W_wagonFact 52 55 (.getfield 140) 0 2 2 0 [] [] = true := by decide +kernel
theorem rf_f_W_wagonFact_55 : rf_Fb rf_m_W_wagonFact 55 56 (.iload_n 1) 0 0 0 0 [] [] = true := by decide +kernel
theorem rf_f_W_wagonFact_56 : rf_Fb rf_m_W_wagonFact 56 59 (.invokevirtual 86) 4 1 0 2 [] [] = true := by decide +kernel
theorem rf_f_W_wagonFact_59 : rf_Fb rf_m_W_wagonFact 59 60 (.ireturn) 0 0 0 0 [] [] = true := by decide +kernel
theorem rf_f_W_wagonFact_60 : rf_Fb rf_m_W_wagonFact 60 61 (.aload_n 0) 0 0 0 0 [] [] = true := by decide +kernel
theorem rf_f_W_wagonFact_61 : rf_Fb rf_m_W_wagonFact 61 64 (.getfield 51) 4 9 2 0 [] [] = true := by decide +kernel
theorem rf_f_W_wagonFact_64 : rf_Fb rf_m_W_wagonFact 64 65 (.iload_n 1) 0 0 0 0 [] [] = true := by decide +kernel
theorem rf_f_W_wagonFact_65 : rf_Fb rf_m_W_wagonFact 65 66 (.aload_n 0) 0 0 0 0 [] [] = true := by decide +kernel
theorem rf_f_W_wagonFact_66 : rf_Fb rf_m_W_wagonFact 66 69 (.getfield 59) 4 10 2 0 [] [] = true := by decide +kernel
theorem rf_f_W_wagonFact_69 : rf_Fb rf_m_W_wagonFact 69 72 (.getfield 146) 3 10 0 0 [] [] = true := by decide +kernel
theorem rf_f_W_wagonFact_72 : rf_Fb rf_m_W_wagonFact 72 75 (.invokevirtual 149) 24 2 0 0 [] [] = true := by decide +kernel
theorem rf_f_W_wagonFact_75 : rf_Fb rf_m_W_wagonFact 75 76 (.ireturn) 0 0 0 0 [] [] = true := by decide +kernel
theorem rf_f_W_wagonFact_76 : rf_Fb rf_m_W_wagonFact 76 77 (.aload_n 0) 0 0 0 0 [] [] = true := by decide +kernel
theorem rf_f_W_wagonFact_77 : rf_Fb rf_m_W_wagonFact 77 80 (.getfield 51) 4 9 2 0 [] [] = true := by decide +kernel
theorem rf_f_W_wagonFact_80 : rf_Fb rf_m_W_wagonFact 80 81 (.iload_n 1) 0 0 0 0 [] [] = true := by decide +kernel
theorem rf_f_W_wagonFact_81 : rf_Fb rf_m_W_wagonFact 81 84 (.invokevirtual 159) 21 1 0 0 [] [] = true := by decide +kernel
theorem rf_f_W_wagonFact_84 : rf_Fb rf_m_W_wagonFact 84 85 (.ireturn) 0 0 0 0 [] [] = true := by decide +kernel
theorem rf_f_W_wagonFact_85 : rf_Fb rf_m_W_wagonFact 85 86 (.aload_n 0) 0 0 0 0 [] [] = true := by decide +kernel
theorem rf_f_W_wagonFact_86 : rf_Fb rf_m_W_wagonFact 86 89 (.getfield 51) 4 9 2 0 [] [] = true := by decide +kernel
theorem rf_f_W_wagonFact_89 : rf_Fb rf_m_W_wagonFact 89 90 (.iload_n 1) 0 0 0 0 [] [] = true := by decide +kernel
theorem rf_f_W_wagonFact_90 : rf_Fb rf_m_W_wagonFact 90 93 (.invokevirtual 323) 23 1 0 0 [] [] = true := by decide +kernel
theorem rf_f_W_wagonFact_93 : rf_Fb rf_m_W_wagonFact 93 94 (.ireturn) 0 0 0 0 [] [] = true := by decide +kernel
theorem rf_f_W_wagonFact_94 : rf_Fb rf_m_W_wagonFact 94 95 (.iload_n 1) 0 0 0 0 [] [] = true := by decide +kernel
theorem rf_f_W_wagonFact_95 : rf_Fb rf_m_W_wagonFact 95 96 (.aload_n 0) 0 0 0 0 [] [] = true := by decide +kernel
theorem rf_f_W_wagonFact_96 : rf_Fb rf_m_W_wagonFact 96 99 (.getfield 59) 4 10 2 0 [] [] = true := by decide +kernel
theorem rf_f_W_wagonFact_99 : rf_Fb rf_m_W_wagonFact 99 102 (.getfield 192) 3 5 0 0 [] [] = true := by decide +kernel
theorem rf_f_W_wagonFact_102 : rf_Fb rf_m_W_wagonFact 102 105 (.if_icmp .ge 7) 109 0 0 0 [] [] = true := by decide +kernel
theorem rf_f_W_wagonFact_105 : rf_Fb rf_m_W_wagonFact 105 106 (.iconst 1) 0 0 0 0 [] [] = true := by decide +kernel
theorem rf_f_W_wagonFact_106 : rf_Fb rf_m_W_wagonFact 106 109 (.goto 4) 110 0 0 0 [] [] = true := by decide +kernel
theorem rf_f_W_wagonFact_109 : rf_Fb rf_m_W_wagonFact 109 110 (.iconst 0) 0 0 0 0 [] [] = true := by decide +kernel
theorem rf_f_W_wagonFact_110 : rf_Fb rf_m_W_wagonFact 110 111 (.ireturn) 0 0 0 0 [] [] = true := by decide +kernel
set_option maxRecDepth 20000 in
set_option maxHeartbeats 2000000 in
theorem rf_e_W_wagonFact (d : Nat) (o : Nat) (a1 : Int) (a2 : Int) (h : rf_H) : rf_call (d + 1) 72 [.inr (.inr (some o)), .inl a1, .inl a2] h = (if a2 = 0 then ((rf_gR h 4 o 9).bind fun x29 => (rf_nn x29 fun k30 => ((rf_gR h 0 k30 1).bind fun x31 => (rf_nn x31 fun k32 => (bif rf_isO h.1 k32 2 then ((rf_call d 4 [.inr (.inr (some k32)), .inl a1] h).bind fun q34 => rf_kI q34 fun x35 h33 => some (some (.inl x35), h33)) else none))))) else (if a2 = (0 + 1) then ((rf_gR h 4 o 9).bind fun x22 => (rf_nn x22 fun k23 => ((rf_gR h 0 k23 2).bind fun x24 => (rf_nn x24 fun k25 => (bif rf_isO h.1 k25 2 then ((rf_call d 4 [.inr (.inr (some k25)), .inl a1] h).bind fun q27 => rf_kI q27 fun x28 h26 => some (some (.inl x28), h26)) else none))))) else (if a2 = ((0 + 1) + 1) then ((rf_gR h 4 o 9).bind fun x14 => ((rf_gR h 4 o 10).bind fun x15 => (rf_nn x15 fun k16 => ((rf_gI h 3 k16 10).bind fun x17 => (rf_nn x14 fun k18 => (bif rf_isO h.1 k18 0 then ((rf_call d 24 [.inr (.inr (some k18)), .inl a1, .inl x17] h).bind fun q20 => rf_kI q20 fun x21 h19 => some (some (.inl x21), h19)) else none)))))) else (if a2 = (((0 + 1) + 1) + 1) then ((rf_gR h 4 o 9).bind fun x9 => (rf_nn x9 fun k10 => (bif rf_isO h.1 k10 0 then ((rf_call d 21 [.inr (.inr (some k10)), .inl a1] h).bind fun q12 => rf_kI q12 fun x13 h11 => some (some (.inl x13), h11)) else none))) else (if a2 = ((((0 + 1) + 1) + 1) + 1) then ((rf_gR h 4 o 9).bind fun x4 => (rf_nn x4 fun k5 => (bif rf_isO h.1 k5 0 then ((rf_call d 23 [.inr (.inr (some k5)), .inl a1] h).bind fun q7 => rf_kI q7 fun x8 h6 => some (some (.inl x8), h6)) else none))) else ((rf_gR h 4 o 10).bind fun x1 => (rf_nn x1 fun k2 => ((rf_gI h 3 k2 5).bind fun x3 => (if a1 < x3 then some (some (.inl 1), h) else some (some (.inl 0), h)))))))))) := by
  show rf_den (rf_call d) (rf_mt 72) _ = _
  rw [rf_u_W_wagonFact]
  exact ((rf_s_iload_n rf_f_W_wagonFact_0 rfl (rf_m0 _) (rf_s_tsw rf_f_W_wagonFact_1 (rf_tsw_c (rf_tsw_g rfl (rf_m0 _) (rf_s_aload_n rf_f_W_wagonFact_36 rfl (rf_m0 _) (rf_s_getAS rf_f_W_wagonFact_37 (rf_m0 _) fun x29 => (rf_s_getAR rf_f_W_wagonFact_40 (rf_m0 _) fun k30 x31 => (rf_s_iload_n rf_f_W_wagonFact_43 rfl (rf_m0 _) (rf_s_invV0R rf_f_W_wagonFact_44 rfl rfl (rf_m0 _) fun k32 q34 x35 h33 => (rf_s_iret rf_f_W_wagonFact_47))))))) (rf_tsw_c (rf_tsw_g rfl (rf_m0 _) (rf_s_aload_n rf_f_W_wagonFact_48 rfl (rf_m0 _) (rf_s_getAS rf_f_W_wagonFact_49 (rf_m0 _) fun x22 => (rf_s_getAR rf_f_W_wagonFact_52 (rf_m0 _) fun k23 x24 => (rf_s_iload_n rf_f_W_wagonFact_55 rfl (rf_m0 _) (rf_s_invV0R rf_f_W_wagonFact_56 rfl rfl (rf_m0 _) fun k25 q27 x28 h26 => (rf_s_iret rf_f_W_wagonFact_59))))))) (rf_tsw_c (rf_tsw_g rfl (rf_m0 _) (rf_s_aload_n rf_f_W_wagonFact_60 rfl (rf_m0 _) (rf_s_getAS rf_f_W_wagonFact_61 (rf_m0 _) fun x14 => (rf_s_iload_n rf_f_W_wagonFact_64 rfl (rf_m0 _) (rf_s_aload_n rf_f_W_wagonFact_65 rfl (rf_m0 _) (rf_s_getAS rf_f_W_wagonFact_66 (rf_m0 _) fun x15 => (rf_s_getIR rf_f_W_wagonFact_69 (rf_m0 _) fun k16 x17 => (rf_s_invV0R rf_f_W_wagonFact_72 rfl rfl (rf_m0 _) fun k18 q20 x21 h19 => (rf_s_iret rf_f_W_wagonFact_75))))))))) (rf_tsw_c (rf_tsw_g rfl (rf_m0 _) (rf_s_aload_n rf_f_W_wagonFact_76 rfl (rf_m0 _) (rf_s_getAS rf_f_W_wagonFact_77 (rf_m0 _) fun x9 => (rf_s_iload_n rf_f_W_wagonFact_80 rfl (rf_m0 _) (rf_s_invV0R rf_f_W_wagonFact_81 rfl rfl (rf_m0 _) fun k10 q12 x13 h11 => (rf_s_iret rf_f_W_wagonFact_84)))))) (rf_tsw_c (rf_tsw_g rfl (rf_m0 _) (rf_s_aload_n rf_f_W_wagonFact_85 rfl (rf_m0 _) (rf_s_getAS rf_f_W_wagonFact_86 (rf_m0 _) fun x4 => (rf_s_iload_n rf_f_W_wagonFact_89 rfl (rf_m0 _) (rf_s_invV0R rf_f_W_wagonFact_90 rfl rfl (rf_m0 _) fun k5 q7 x8 h6 => (rf_s_iret rf_f_W_wagonFact_93)))))) (rf_tsw_n (rf_tsw_g rfl (rf_m0 _) (rf_s_iload_n rf_f_W_wagonFact_94 rfl (rf_m0 _) (rf_s_aload_n rf_f_W_wagonFact_95 rfl (rf_m0 _) (rf_s_getAS rf_f_W_wagonFact_96 (rf_m0 _) fun x1 => (rf_s_getIR rf_f_W_wagonFact_99 (rf_m0 _) fun k2 x3 => (rf_s_icmp_ge rf_f_W_wagonFact_102 rfl (rf_m0 _) (rf_m0 _) (rf_s_iconst rf_f_W_wagonFact_109 (rf_m0 _) (rf_s_iret rf_f_W_wagonFact_110)) (rf_s_iconst rf_f_W_wagonFact_105 (rf_m0 _) (rf_s_goto rf_f_W_wagonFact_106 rfl (rf_m0 _) (rf_s_iret rf_f_W_wagonFact_110))))))))))))))))) : rf_den (rf_call d) rf_m_W_wagonFact (0, [some (.inr (.inr (some o))), some (.inl a1), some (.inl a2)], [], h) = _)
theorem rf_u_W_mark : rf_mt 73 = rf_m_W_mark := rfl
theorem rf_f_W_mark_0 : rf_Fb rf_m_W_mark 0 1 (.iload_n 1) 0 0 0 0 [] [] = true := by decide +kernel
theorem rf_f_W_mark_1 : rf_Fb rf_m_W_mark 1 4 (.ifCond .lt 23) 24 0 0 0 [] [] = true := by decide +kernel
theorem rf_f_W_mark_4 : rf_Fb rf_m_W_mark 4 5 (.iload_n 1) 0 0 0 0 [] [] = true := by decide +kernel
theorem rf_f_W_mark_5 : rf_Fb rf_m_W_mark 5 6 (.aload_n 0) 0 0 0 0 [] [] = true := by decide +kernel
theorem rf_f_W_mark_6 : rf_Fb rf_m_W_mark 6 9 (.getfield 59) 4 10 2 0 [] [] = true := by decide +kernel
theorem rf_f_W_mark_9 : rf_Fb rf_m_W_mark 9 12 (.getfield 130) 3 6 0 0 [] [] = true := by decide +kernel
theorem rf_f_W_mark_12 : rf_Fb rf_m_W_mark 12 15 (.if_icmp .ge 12) 24 0 0 0 [] [] = true := by decide +kernel
theorem rf_f_W_mark_15 : rf_Fb rf_m_W_mark 15 16 (.iload_n 2) 0 0 0 0 [] [] = true := by decide +kernel
theorem rf_f_W_mark_16 : rf_Fb rf_m_W_mark 16 19 (.ifCond .le 8) 24 0 0 0 [] [] = true := by decide +kernel
theorem rf_f_W_mark_19 : rf_Fb rf_m_W_mark 19 20 (.iload_n 2) 0 0 0 0 [] [] = true := by decide +kernel
theorem rf_f_W_mark_20 : rf_Fb rf_m_W_mark 20 21 (.iconst 5) 0 0 0 0 [] [] = true := by decide +kernel
theorem rf_f_W_mark_21 : rf_Fb rf_m_W_mark 21 24 (.if_icmp .le 5) 26 0 0 0 [] [] = true := by decide +kernel
theorem rf_f_W_mark_24 : rf_Fb rf_m_W_mark 24 25 (.iconst (-1)) 0 0 0 0 [] [] = true := by decide +kernel
theorem rf_f_W_mark_25 : rf_Fb rf_m_W_mark 25 26 (.ireturn) 0 0 0 0 [] [] = true := by decide +kernel
theorem rf_f_W_mark_26 : rf_Fb rf_m_W_mark 26 27 (.aload_n 0) 0 0 0 0 [] [] = true := by decide +kernel
theorem rf_f_W_mark_27 : rf_Fb rf_m_W_mark 27 30 (.getfield 51) 4 9 2 0 [] [] = true := by decide +kernel
theorem rf_f_W_mark_30 : rf_Fb rf_m_W_mark 30 31 (.iload_n 1) 0 0 0 0 [] [] = true := by decide +kernel
theorem rf_f_W_mark_31 : rf_Fb rf_m_W_mark 31 32 (.iload_n 2) 0 0 0 0 [] [] = true := by decide +kernel
theorem rf_f_W_mark_32 : rf_Fb rf_m_W_mark 32 35 (.invokevirtual 136) 22 2 0 0 [] [] = true := by decide +kernel
theorem rf_f_W_mark_35 : rf_Fb rf_m_W_mark 35 38 (.ifCond .ne 9) 44 0 0 0 [] [] = true := by decide +kernel
theorem rf_f_W_mark_38 : rf_Fb rf_m_W_mark 38 39 (.aload_n 0) 0 0 0 0 [] [] = true := by decide +kernel
theorem rf_f_W_mark_39 : rf_Fb rf_m_W_mark 39 40 (.iconst 3) 0 0 0 0 [] [] = true := by decide +kernel
theorem rf_f_W_mark_40 : rf_Fb rf_m_W_mark 40 43 (.invokevirtual 101) 57 1 0 4 [] [] = true := by decide +kernel
theorem rf_f_W_mark_43 : rf_Fb rf_m_W_mark 43 44 (.ireturn) 0 0 0 0 [] [] = true := by decide +kernel
theorem rf_f_W_mark_44 : rf_Fb rf_m_W_mark 44 45 (.iload_n 2) 0 0 0 0 [] [] = true := by decide +kernel
theorem rf_f_W_mark_45 : rf_Fb rf_m_W_mark 45 76 (.tableswitch 93 1 4 #[31, 43, 53, 72]) 138 0 0 1 [76, 88, 98, 117] [] = true := by decide +kernel
theorem rf_f_W_mark_76 : rf_Fb rf_m_W_mark 76 77 (.aload_n 0) 0 0 0 0 [] [] = true := by decide +kernel
theorem rf_f_W_mark_77 : rf_Fb rf_m_W_mark 77 80 (.getfield 51) 4 9 2 0 [] [] = true := by decide +kernel
theorem rf_f_W_mark_80 : rf_Fb rf_m_W_mark 80 83 (.getfield 140) 0 2 2 0 [] [] = true := by decide +kernel
theorem rf_f_W_mark_83 : rf_Fb rf_m_W_mark 83 84 (.iload_n 1) 0 0 0 0 [] [] = true := by decide +kernel
theorem rf_f_W_mark_84 : rf_Fb rf_m_W_mark 84 87 (.invokevirtual 86) 4 1 0 2 [] [] = true := by decide +kernel
theorem rf_f_W_mark_87 : rf_Fb rf_m_W_mark 87 88 (.ireturn) 0 0 0 0 [] [] = true := by decide +kernel
theorem rf_f_W_mark_88 : rf_Fb rf_m_W_mark 88 89 (.aload_n 0) 0 0 0 0 [] [] = true := by decide +kernel
theorem rf_f_W_mark_89 : rf_Fb rf_m_W_mark 89 92 (.getfield 51) 4 9 2 0 [] [] = true := by decide +kernel
theorem rf_f_W_mark_92 : rf_Fb rf_m_W_mark 92 93 (.iconst 2) 0 0 0 0 [] [] = true := by decide +kernel
theorem rf_f_W_mark_93 : rf_Fb rf_m_W_mark 93 94 (.iload_n 1) 0 0 0 0 [] [] = true := by decide +kernel
theorem rf_f_W_mark_94 : rf_Fb rf_m_W_mark 94 97 (.invokevirtual 143) 26 2 0 0 [] [] = true := by decide +kernel
theorem rf_f_W_mark_97 : rf_Fb rf_m_W_mark 97 98 (.ireturn) 0 0 0 0 [] [] = true := by decide +kernel
theorem rf_f_W_mark_98 : rf_Fb rf_m_W_mark 98 99 (.aload_n 0) 0 0 0 0 [] [] = true := by decide +kernel
theorem rf_f_W_mark_99 : rf_Fb rf_m_W_mark 99 102 (.getfield 51) 4 9 2 0 [] [] = true := by decide +kernel
theorem rf_f_W_mark_102 : rf_Fb rf_m_W_mark 102 103 (.iload_n 1) 0 0 0 0 [] [] = true := by decide +kernel
theorem rf_f_W_mark_103 : rf_Fb rf_m_W_mark 103 104 (.aload_n 0) 0 0 0 0 [] [] = true := by decide +kernel
theorem rf_f_W_mark_104 : rf_Fb rf_m_W_mark 104 107 (.getfield 59) 4 10 2 0 [] [] = true := by decide +kernel
theorem rf_f_W_mark_107 : rf_Fb rf_m_W_mark 107 110 (.getfield 146) 3 10 0 0 [] [] = true := by decide +kernel
theorem rf_f_W_mark_110 : rf_Fb rf_m_W_mark 110 113 (.invokevirtual 149) 24 2 0 0 [] [] = true := by decide +kernel
theorem rf_f_W_mark_113 : rf_Fb rf_m_W_mark 113 116 (.invokestatic 153) 74 1 0 0 [] [] = true := by decide +kernel
theorem rf_f_W_mark_116 : rf_Fb rf_m_W_mark 116 117 (.ireturn) 0 0 0 0 [] [] = true := by decide +kernel
theorem rf_f_W_mark_117 : rf_Fb rf_m_W_mark 117 118 (.aload_n 0) 0 0 0 0 [] [] = true := by decide +kernel
theorem rf_f_W_mark_118 : rf_Fb rf_m_W_mark 118 121 (.getfield 51) 4 9 2 0 [] [] = true := by decide +kernel
theorem rf_f_W_mark_121 : rf_Fb rf_m_W_mark 121 124 (.getfield 156) 0 3 2 0 [] [] = true := by decide +kernel
theorem rf_f_W_mark_124 : rf_Fb rf_m_W_mark 124 125 (.iload_n 1) 0 0 0 0 [] [] = true := by decide +kernel
theorem rf_f_W_mark_125 : rf_Fb rf_m_W_mark 125 128 (.invokevirtual 86) 4 1 0 2 [] [] = true := by decide +kernel
theorem rf_f_W_mark_128 : rf_Fb rf_m_W_mark 128 129 (.aload_n 0) 0 0 0 0 [] [] = true := by decide +kernel
theorem rf_f_W_mark_129 : rf_Fb rf_m_W_mark 129 132 (.getfield 51) 4 9 2 0 [] [] = true := by decide +kernel
theorem rf_f_W_mark_132 : rf_Fb rf_m_W_mark 132 133 (.iload_n 1) 0 0 0 0 [] [] = true := by decide +kernel
theorem rf_f_W_mark_133 : rf_Fb rf_m_W_mark 133 136 (.invokevirtual 159) 21 1 0 0 [] [] = true := by decide +kernel
theorem rf_f_W_mark_136 : rf_Fb rf_m_W_mark 136 137 (.isub) 0 0 0 0 [] [] = true := by decide +kernel
theorem rf_f_W_mark_137 : rf_Fb rf_m_W_mark 137 138 (.ireturn) 0 0 0 0 [] [] = true := by decide +kernel
theorem rf_f_W_mark_138 : rf_Fb rf_m_W_mark 138 139 (.aload_n 0) 0 0 0 0 [] [] = true := by decide +kernel
theorem rf_f_W_mark_139 : rf_Fb rf_m_W_mark 139 142 (.getfield 59) 4 10 2 0 [] [] = true := by decide +kernel
theorem rf_f_W_mark_142 : rf_Fb rf_m_W_mark 142 145 (.getfield 130) 3 6 0 0 [] [] = true := by decide +kernel
theorem rf_f_W_mark_145 : rf_Fb rf_m_W_mark 145 146 (.iconst 1) 0 0 0 0 [] [] = true := by decide +kernel
theorem rf_f_W_mark_146 : rf_Fb rf_m_W_mark 146 147 (.isub) 0 0 0 0 [] [] = true := by decide +kernel
theorem rf_f_W_mark_147 : rf_Fb rf_m_W_mark 147 148 (.iload_n 1) 0 0 0 0 [] [] = true := by decide +kernel
theorem rf_f_W_mark_148 : rf_Fb rf_m_W_mark 148 149 (.isub) 0 0 0 0 [] [] = true := by decide +kernel
theorem rf_f_W_mark_149 : rf_Fb rf_m_W_mark 149 150 (.ireturn) 0 0 0 0 [] [] = true := by decide +kernel
set_option maxRecDepth 20000 in
set_option maxHeartbeats 2000000 in
theorem rf_e_W_mark (d : Nat) (o : Nat) (a1 : Int) (a2 : Int) (h : rf_H) : rf_call (d + 1) 73 [.inr (.inr (some o)), .inl a1, .inl a2] h = (if a1 < 0 then some (some (.inl (-1)), h) else ((rf_gR h 4 o 10).bind fun x1 => (rf_nn x1 fun k2 => ((rf_gI h 3 k2 6).bind fun x3 => (if a1 < x3 then (if 0 < a2 then (if 5 < a2 then some (some (.inl (-1)), h) else ((rf_gR h 4 o 9).bind fun x4 => (rf_nn x4 fun k5 => (bif rf_isO h.1 k5 0 then ((rf_call d 22 [.inr (.inr (some k5)), .inl a1, .inl a2] h).bind fun q7 => rf_kI q7 fun x8 h6 => (if x8 = 0 then (bif rf_isO h6.1 o 4 then ((rf_call d 57 [.inr (.inr (some o)), .inl 3] h6).bind fun q48 => rf_kI q48 fun x49 h47 => some (some (.inl x49), h47)) else none) else (if a2 = 1 then ((rf_gR h6 4 o 9).bind fun x40 => (rf_nn x40 fun k41 => ((rf_gR h6 0 k41 2).bind fun x42 => (rf_nn x42 fun k43 => (bif rf_isO h6.1 k43 2 then ((rf_call d 4 [.inr (.inr (some k43)), .inl a1] h6).bind fun q45 => rf_kI q45 fun x46 h44 => some (some (.inl x46), h44)) else none))))) else (if a2 = (1 + 1) then ((rf_gR h6 4 o 9).bind fun x35 => (rf_nn x35 fun k36 => (bif rf_isO h6.1 k36 0 then ((rf_call d 26 [.inr (.inr (some k36)), .inl 2, .inl a1] h6).bind fun q38 => rf_kI q38 fun x39 h37 => some (some (.inl x39), h37)) else none))) else (if a2 = ((1 + 1) + 1) then ((rf_gR h6 4 o 9).bind fun x24 => ((rf_gR h6 4 o 10).bind fun x25 => (rf_nn x25 fun k26 => ((rf_gI h6 3 k26 10).bind fun x27 => (rf_nn x24 fun k28 => (bif rf_isO h6.1 k28 0 then ((rf_call d 24 [.inr (.inr (some k28)), .inl a1, .inl x27] h6).bind fun q30 => rf_kI q30 fun x31 h29 => ((rf_call d 74 [.inl x31] h29).bind fun q33 => rf_kI q33 fun x34 h32 => some (some (.inl x34), h32))) else none)))))) else (if a2 = (((1 + 1) + 1) + 1) then ((rf_gR h6 4 o 9).bind fun x12 => (rf_nn x12 fun k13 => ((rf_gR h6 0 k13 3).bind fun x14 => (rf_nn x14 fun k15 => (bif rf_isO h6.1 k15 2 then ((rf_call d 4 [.inr (.inr (some k15)), .inl a1] h6).bind fun q17 => rf_kI q17 fun x18 h16 => ((rf_gR h16 4 o 9).bind fun x19 => (rf_nn x19 fun k20 => (bif rf_isO h16.1 k20 0 then ((rf_call d 21 [.inr (.inr (some k20)), .inl a1] h16).bind fun q22 => rf_kI q22 fun x23 h21 => some (some (.inl (rf_w (x18 - x23))), h21)) else none)))) else none))))) else ((rf_gR h6 4 o 10).bind fun x9 => (rf_nn x9 fun k10 => ((rf_gI h6 3 k10 6).bind fun x11 => some (some (.inl (rf_w ((rf_w (x11 - 1)) - a1))), h6)))))))))) else none)))) else some (some (.inl (-1)), h)) else some (some (.inl (-1)), h)))))) := by
  show rf_den (rf_call d) (rf_mt 73) _ = _
  rw [rf_u_W_mark]
  exact ((rf_s_iload_n rf_f_W_mark_0 rfl (rf_m0 _) (rf_s_if_lt rf_f_W_mark_1 rfl (rf_m0 _) (rf_m0 _) (rf_s_iconst rf_f_W_mark_24 (rf_m0 _) (rf_s_iret rf_f_W_mark_25)) (rf_s_iload_n rf_f_W_mark_4 rfl (rf_m0 _) (rf_s_aload_n rf_f_W_mark_5 rfl (rf_m0 _) (rf_s_getAS rf_f_W_mark_6 (rf_m0 _) fun x1 => (rf_s_getIR rf_f_W_mark_9 (rf_m0 _) fun k2 x3 => (rf_s_icmp_ge rf_f_W_mark_12 rfl (rf_m0 _) (rf_m0 _) (rf_s_iconst rf_f_W_mark_24 (rf_m0 _) (rf_s_iret rf_f_W_mark_25)) (rf_s_iload_n rf_f_W_mark_15 rfl (rf_m0 _) (rf_s_if_le rf_f_W_mark_16 rfl (rf_m0 _) (rf_m0 _) (rf_s_iconst rf_f_W_mark_24 (rf_m0 _) (rf_s_iret rf_f_W_mark_25)) (rf_s_iload_n rf_f_W_mark_19 rfl (rf_m0 _) (rf_s_iconst rf_f_W_mark_20 (rf_m0 _) (rf_s_icmp_le rf_f_W_mark_21 rfl (rf_m0 _) (rf_m0 _) (rf_s_aload_n rf_f_W_mark_26 rfl (rf_m0 _) (rf_s_getAS rf_f_W_mark_27 (rf_m0 _) fun x4 => (rf_s_iload_n rf_f_W_mark_30 rfl (rf_m0 _) (rf_s_iload_n rf_f_W_mark_31 rfl (rf_m0 _) (rf_s_invV0R rf_f_W_mark_32 rfl rfl (rf_m0 _) fun k5 q7 x8 h6 => (rf_s_if_ne rf_f_W_mark_35 rfl (rf_m0 _) (rf_m0 _) (rf_s_iload_n rf_f_W_mark_44 rfl (rf_m0 _) (rf_s_tsw rf_f_W_mark_45 (rf_tsw_c (rf_tsw_g rfl (rf_m0 _) (rf_s_aload_n rf_f_W_mark_76 rfl (rf_m0 _) (rf_s_getAS rf_f_W_mark_77 (rf_m0 _) fun x40 => (rf_s_getAR rf_f_W_mark_80 (rf_m0 _) fun k41 x42 => (rf_s_iload_n rf_f_W_mark_83 rfl (rf_m0 _) (rf_s_invV0R rf_f_W_mark_84 rfl rfl (rf_m0 _) fun k43 q45 x46 h44 => (rf_s_iret rf_f_W_mark_87))))))) (rf_tsw_c (rf_tsw_g rfl (rf_m0 _) (rf_s_aload_n rf_f_W_mark_88 rfl (rf_m0 _) (rf_s_getAS rf_f_W_mark_89 (rf_m0 _) fun x35 => (rf_s_iconst rf_f_W_mark_92 (rf_m0 _) (rf_s_iload_n rf_f_W_mark_93 rfl (rf_m0 _) (rf_s_invV0R rf_f_W_mark_94 rfl rfl (rf_m0 _) fun k36 q38 x39 h37 => (rf_s_iret rf_f_W_mark_97))))))) (rf_tsw_c (rf_tsw_g rfl (rf_m0 _) (rf_s_aload_n rf_f_W_mark_98 rfl (rf_m0 _) (rf_s_getAS rf_f_W_mark_99 (rf_m0 _) fun x24 => (rf_s_iload_n rf_f_W_mark_102 rfl (rf_m0 _) (rf_s_aload_n rf_f_W_mark_103 rfl (rf_m0 _) (rf_s_getAS rf_f_W_mark_104 (rf_m0 _) fun x25 => (rf_s_getIR rf_f_W_mark_107 (rf_m0 _) fun k26 x27 => (rf_s_invV0R rf_f_W_mark_110 rfl rfl (rf_m0 _) fun k28 q30 x31 h29 => (rf_s_invS0 rf_f_W_mark_113 rfl rfl (rf_m0 _) fun q33 x34 h32 => (rf_s_iret rf_f_W_mark_116)))))))))) (rf_tsw_c (rf_tsw_g rfl (rf_m0 _) (rf_s_aload_n rf_f_W_mark_117 rfl (rf_m0 _) (rf_s_getAS rf_f_W_mark_118 (rf_m0 _) fun x12 => (rf_s_getAR rf_f_W_mark_121 (rf_m0 _) fun k13 x14 => (rf_s_iload_n rf_f_W_mark_124 rfl (rf_m0 _) (rf_s_invV0R rf_f_W_mark_125 rfl rfl (rf_m0 _) fun k15 q17 x18 h16 => (rf_s_aload_n rf_f_W_mark_128 rfl (rf_m0 _) (rf_s_getAS rf_f_W_mark_129 (rf_m0 _) fun x19 => (rf_s_iload_n rf_f_W_mark_132 rfl (rf_m0 _) (rf_s_invV0R rf_f_W_mark_133 rfl rfl (rf_m0 _) fun k20 q22 x23 h21 => (rf_s_isub rf_f_W_mark_136 (rf_m0 _) (rf_s_iret rf_f_W_mark_137)))))))))))) (rf_tsw_n (rf_tsw_g rfl (rf_m0 _) (rf_s_aload_n rf_f_W_mark_138 rfl (rf_m0 _) (rf_s_getAS rf_f_W_mark_139 (rf_m0 _) fun x9 => (rf_s_getIR rf_f_W_mark_142 (rf_m0 _) fun k10 x11 => (rf_s_iconst rf_f_W_mark_145 (rf_m0 _) (rf_s_isub rf_f_W_mark_146 (rf_m0 _) (rf_s_iload_n rf_f_W_mark_147 rfl (rf_m0 _) (rf_s_isub rf_f_W_mark_148 (rf_m0 _) (rf_s_iret rf_f_W_mark_149)))))))))))))))) (rf_s_aload_n rf_f_W_mark_38 rfl (rf_m0 _) (rf_s_iconst rf_f_W_mark_39 (rf_m0 _) (rf_s_invV0S rf_f_W_mark_40 rfl rfl (rf_m0 _) fun q48 x49 h47 => (rf_s_iret rf_f_W_mark_43)))))))))) (rf_s_iconst rf_f_W_mark_24 (rf_m0 _) (rf_s_iret rf_f_W_mark_25)))))))))))))) : rf_den (rf_call d) rf_m_W_mark (0, [some (.inr (.inr (some o))), some (.inl a1), some (.inl a2)], [], h) = _)
theorem rf_u_W_leastSteam : rf_mt 74 = rf_m_W_leastSteam := rfl
theorem rf_f_W_leastSteam_0 : rf_Fb rf_m_W_leastSteam 0 1 (.iload_n 0) 0 0 0 0 [] [] = true := by decide +kernel
theorem rf_f_W_leastSteam_1 : rf_Fb rf_m_W_leastSteam 1 2 (.iconst 1) 0 0 0 0 [] [] = true := by decide +kernel
theorem rf_f_W_leastSteam_2 : rf_Fb rf_m_W_leastSteam 2 3 (.iadd) 0 0 0 0 [] [] = true := by decide +kernel
theorem rf_f_W_leastSteam_3 : rf_Fb rf_m_W_leastSteam 3 4 (.iconst 2) 0 0 0 0 [] [] = true := by decide +kernel
theorem rf_f_W_leastSteam_4 : rf_Fb rf_m_W_leastSteam 4 5 (.idiv) 0 0 0 0 [] [] = true := by decide +kernel
theorem rf_f_W_leastSteam_5 : rf_Fb rf_m_W_leastSteam 5 6 (.istore_n 1) 0 0 0 0 [] [] = true := by decide +kernel
theorem rf_f_W_leastSteam_6 : rf_Fb rf_m_W_leastSteam 6 7 (.iload_n 1) 0 0 0 0 [] [] = true := by decide +kernel
theorem rf_f_W_leastSteam_7 : rf_Fb rf_m_W_leastSteam 7 9 (.bipush 9) 0 0 0 0 [] [] = true := by decide +kernel
theorem rf_f_W_leastSteam_9 : rf_Fb rf_m_W_leastSteam 9 12 (.if_icmp .gt 7) 16 0 0 0 [] [] = true := by decide +kernel
theorem rf_f_W_leastSteam_12 : rf_Fb rf_m_W_leastSteam 12 13 (.iload_n 1) 0 0 0 0 [] [] = true := by decide +kernel
theorem rf_f_W_leastSteam_13 : rf_Fb rf_m_W_leastSteam 13 16 (.goto 5) 18 0 0 0 [] [] = true := by decide +kernel
theorem rf_f_W_leastSteam_16 : rf_Fb rf_m_W_leastSteam 16 18 (.bipush (-9)) 0 0 0 0 [] [] = true := by decide +kernel
theorem rf_f_W_leastSteam_18 : rf_Fb rf_m_W_leastSteam 18 19 (.ireturn) 0 0 0 0 [] [] = true := by decide +kernel
set_option maxRecDepth 20000 in
set_option maxHeartbeats 2000000 in
theorem rf_e_W_leastSteam (d : Nat) (a1 : Int) (h : rf_H) : rf_call (d + 1) 74 [.inl a1] h = (if 9 < (rf_w (Int.tdiv (rf_w (a1 + 1)) 2)) then some (some (.inl (-9)), h) else some (some (.inl (rf_w (Int.tdiv (rf_w (a1 + 1)) 2))), h)) := by
  show rf_den (rf_call d) (rf_mt 74) _ = _
  rw [rf_u_W_leastSteam]
  exact ((rf_s_iload_n rf_f_W_leastSteam_0 rfl (rf_m0 _) (rf_s_iconst rf_f_W_leastSteam_1 (rf_m0 _) (rf_s_iadd rf_f_W_leastSteam_2 (rf_m0 _) (rf_s_iconst rf_f_W_leastSteam_3 (rf_m0 _) (rf_s_idiv rf_f_W_leastSteam_4 (by decide) (rf_m0 _) (rf_s_istore_n (L' := [some (.inl a1), some (.inl (rf_w (Int.tdiv (rf_w (a1 + 1)) 2)))]) rf_f_W_leastSteam_5 rfl (rf_s_iload_n rf_f_W_leastSteam_6 rfl (rf_m0 _) (rf_s_bipush rf_f_W_leastSteam_7 (rf_m0 _) (rf_s_icmp_gt rf_f_W_leastSteam_9 rfl (rf_m0 _) (rf_m0 _) (rf_s_bipush rf_f_W_leastSteam_16 (rf_m0 _) (rf_s_iret rf_f_W_leastSteam_18)) (rf_s_iload_n rf_f_W_leastSteam_12 rfl (rf_m0 _) (rf_s_goto rf_f_W_leastSteam_13 rfl (rf_m0 _) (rf_s_iret rf_f_W_leastSteam_18)))))))))))) : rf_den (rf_call d) rf_m_W_leastSteam (0, [some (.inl a1), none], [], h) = _)
theorem rf_u_W_engine : rf_mt 75 = rf_m_W_engine := rfl
theorem rf_f_W_engine_0 : rf_Fb rf_m_W_engine 0 1 (.aload_n 0) 0 0 0 0 [] [] = true := by decide +kernel
theorem rf_f_W_engine_1 : rf_Fb rf_m_W_engine 1 4 (.getfield 123) 4 12 0 0 [] [] = true := by decide +kernel
theorem rf_f_W_engine_4 : rf_Fb rf_m_W_engine 4 7 (.ifCond .ne 6) 10 0 0 0 [] [] = true := by decide +kernel
theorem rf_f_W_engine_7 : rf_Fb rf_m_W_engine 7 9 (.bipush (-4)) 0 0 0 0 [] [] = true := by decide +kernel
theorem rf_f_W_engine_9 : rf_Fb rf_m_W_engine 9 10 (.ireturn) 0 0 0 0 [] [] = true := by decide +kernel
theorem rf_f_W_engine_10 : rf_Fb rf_m_W_engine 10 11 (.iload_n 1) 0 0 0 0 [] [] = true := by decide +kernel
theorem rf_f_W_engine_11 : rf_Fb rf_m_W_engine 11 14 (.ifCond .lt 9) 20 0 0 0 [] [] = true := by decide +kernel
theorem rf_f_W_engine_14 : rf_Fb rf_m_W_engine 14 15 (.iload_n 1) 0 0 0 0 [] [] = true := by decide +kernel
theorem rf_f_W_engine_15 : rf_Fb rf_m_W_engine 15 17 (.bipush 10) 0 0 0 0 [] [] = true := by decide +kernel
theorem rf_f_W_engine_17 : rf_Fb rf_m_W_engine 17 20 (.if_icmp .lt 5) 22 0 0 0 [] [] = true := by decide +kernel
theorem rf_f_W_engine_20 : rf_Fb rf_m_W_engine 20 21 (.iconst (-1)) 0 0 0 0 [] [] = true := by decide +kernel
theorem rf_f_W_engine_21 : rf_Fb rf_m_W_engine 21 22 (.ireturn) 0 0 0 0 [] [] = true := by decide +kernel
theorem rf_f_W_engine_22 : rf_Fb rf_m_W_engine 22 23 (.aload_n 0) 0 0 0 0 [] [] = true := by decide +kernel
theorem rf_f_W_engine_23 : rf_Fb rf_m_W_engine 23 24 (.aload_n 0) 0 0 0 0 [] [] = true := by decide +kernel
theorem rf_f_W_engine_24 : rf_Fb rf_m_W_engine 24 25 (.iload_n 1) 0 0 0 0 [] [] = true := by decide +kernel
theorem rf_f_W_engine_25 : rf_Fb rf_m_W_engine 25 28 (.invokevirtual 162) 76 1 0 4 [] [] = true := by decide +kernel
theorem rf_f_W_engine_28 : rf_Fb rf_m_W_engine 28 29 (.iconst 1) 0 0 0 0 [] [] = true := by decide +kernel
theorem rf_f_W_engine_29 : rf_Fb rf_m_W_engine 29 32 (.invokevirtual 93) 60 2 0 4 [] [] = true := by decide +kernel
theorem rf_f_W_engine_32 : rf_Fb rf_m_W_engine 32 33 (.ireturn) 0 0 0 0 [] [] = true := by decide +kernel
set_option maxRecDepth 20000 in
set_option maxHeartbeats 2000000 in
theorem rf_e_W_engine (d : Nat) (o : Nat) (a1 : Int) (h : rf_H) : rf_call (d + 1) 75 [.inr (.inr (some o)), .inl a1] h = ((rf_gI h 4 o 12).bind fun x1 => (if x1 = 0 then some (some (.inl (-4)), h) else (if a1 < 0 then some (some (.inl (-1)), h) else (if a1 < 10 then (bif rf_isO h.1 o 4 then ((rf_call d 76 [.inr (.inr (some o)), .inl a1] h).bind fun q3 => rf_kI q3 fun x4 h2 => (bif rf_isO h2.1 o 4 then ((rf_call d 60 [.inr (.inr (some o)), .inl x4, .inl 1] h2).bind fun q6 => rf_kI q6 fun x7 h5 => some (some (.inl x7), h5)) else none)) else none) else some (some (.inl (-1)), h))))) := by
  show rf_den (rf_call d) (rf_mt 75) _ = _
  rw [rf_u_W_engine]
  exact ((rf_s_aload_n rf_f_W_engine_0 rfl (rf_m0 _) (rf_s_getIS rf_f_W_engine_1 (rf_m0 _) fun x1 => (rf_s_if_ne rf_f_W_engine_4 rfl (rf_m0 _) (rf_m0 _) (rf_s_iload_n rf_f_W_engine_10 rfl (rf_m0 _) (rf_s_if_lt rf_f_W_engine_11 rfl (rf_m0 _) (rf_m0 _) (rf_s_iconst rf_f_W_engine_20 (rf_m0 _) (rf_s_iret rf_f_W_engine_21)) (rf_s_iload_n rf_f_W_engine_14 rfl (rf_m0 _) (rf_s_bipush rf_f_W_engine_15 (rf_m0 _) (rf_s_icmp_lt rf_f_W_engine_17 rfl (rf_m0 _) (rf_m0 _) (rf_s_aload_n rf_f_W_engine_22 rfl (rf_m0 _) (rf_s_aload_n rf_f_W_engine_23 rfl (rf_m0 _) (rf_s_iload_n rf_f_W_engine_24 rfl (rf_m0 _) (rf_s_invV0S rf_f_W_engine_25 rfl rfl (rf_m0 _) fun q3 x4 h2 => (rf_s_iconst rf_f_W_engine_28 (rf_m0 _) (rf_s_invV0S rf_f_W_engine_29 rfl rfl (rf_m0 _) fun q6 x7 h5 => (rf_s_iret rf_f_W_engine_32))))))) (rf_s_iconst rf_f_W_engine_20 (rf_m0 _) (rf_s_iret rf_f_W_engine_21))))))) (rf_s_bipush rf_f_W_engine_7 (rf_m0 _) (rf_s_iret rf_f_W_engine_9))))) : rf_den (rf_call d) rf_m_W_engine (0, [some (.inr (.inr (some o))), some (.inl a1)], [], h) = _)
theorem rf_u_W_engineFact : rf_mt 76 = rf_m_W_engineFact := rfl
theorem rf_f_W_engineFact_0 : rf_Fb rf_m_W_engineFact 0 1 (.iload_n 1) 0 0 0 0 [] [] = true := by decide +kernel
theorem rf_f_W_engineFact_1 : rf_Fb rf_m_W_engineFact 1 52 (.tableswitch 139 0 8 #[51, 59, 67, 75, 83, 91, 107, 123, 131]) 140 0 0 0 [52, 60, 68, 76, 84, 92, 108, 124, 132] [] = true := by decide +kernel
theorem rf_f_W_engineFact_52 : rf_Fb rf_m_W_engineFact 52 53 (.aload_n 0) 0 0 0 0 [] [] = true := by decide +kernel
theorem rf_f_W_engineFact_53 : rf_Fb rf_m_W_engineFact 53 56 (.getfield 51) 4 9 2 0 [] [] = true := by decide +kernel
theorem rf_f_W_engineFact_56 : rf_Fb rf_m_W_engineFact 56 59 (.getfield 326) 0 7 0 0 [] [] = true := by decide +kernel
theorem rf_f_W_engineFact_59 : rf_Fb rf_m_W_engineFact 59 60 (.ireturn) 0 0 0 0 [] [] = true := by decide +kernel
theorem rf_f_W_engineFact_60 : rf_Fb rf_m_W_engineFact 60 61 (.aload_n 0) 0 0 0 0 [] [] = true := by decide +kernel
theorem rf_f_W_engineFact_61 : rf_Fb rf_m_W_engineFact 61 64 (.getfield 59) 4 10 2 0 [] [] = true := by decide +kernel
theorem rf_f_W_engineFact_64 : rf_Fb rf_m_W_engineFact 64 67 (.getfield 329) 3 2 0 0 [] [] = true := by decide +kernel
theorem rf_f_W_engineFact_67 : rf_Fb rf_m_W_engineFact 67 68 (.ireturn) 0 0 0 0 [] [] = true := by decide +kernel
theorem rf_f_W_engineFact_68 : rf_Fb rf_m_W_engineFact 68 69 (.aload_n 0) 0 0 0 0 [] [] = true := by decide +kernel
theorem rf_f_W_engineFact_69 : rf_Fb rf_m_W_engineFact 69 72 (.getfield 59) 4 10 2 0 [] [] = true := by decide +kernel
theorem rf_f_W_engineFact_72 : rf_Fb rf_m_W_engineFact 72 75 (.getfield 332) 3 3 0 0 [] [] = true := by decide +kernel
theorem rf_f_W_engineFact_75 : rf_Fb rf_m_W_engineFact 75 76 (.ireturn) 0 0 0 0 [] [] = true := by decide +kernel
theorem rf_f_W_engineFact_76 : rf_Fb rf_m_W_engineFact 76 77 (.aload_n 0) 0 0 0 0 [] [] = true := by decide +kernel
theorem rf_f_W_engineFact_77 : rf_Fb rf_m_W_engineFact 77 80 (.getfield 51) 4 9 2 0 [] [] = true := by decide +kernel
theorem rf_f_W_engineFact_80 : rf_Fb rf_m_W_engineFact 80 83 (.getfield 335) 0 10 0 0 [] [] = true := by decide +kernel
theorem rf_f_W_engineFact_83 : rf_Fb rf_m_W_engineFact 83 84 (.ireturn) 0 0 0 0 [] [] = true := by decide +kernel
theorem rf_f_W_engineFact_84 : rf_Fb rf_m_W_engineFact 84 85 (.aload_n 0) 0 0 0 0 [] [] = true := by decide +kernel
theorem rf_f_W_engineFact_85 : rf_Fb rf_m_W_engineFact 85 88 (.getfield 59) 4 10 2 0 [] [] = true := by decide +kernel
theorem rf_f_W_engineFact_88 : rf_Fb rf_m_W_engineFact 88 91 (.getfield 338) 3 4 0 0 [] [] = true := by decide +kernel
theorem rf_f_W_engineFact_91 : rf_Fb rf_m_W_engineFact 91 92 (.ireturn) 0 0 0 0 [] [] = true := by decide +kernel
theorem rf_f_W_engineFact_92 : rf_Fb rf_m_W_engineFact 92 93 (.aload_n 0) 0 0 0 0 [] [] = true := by decide +kernel
theorem rf_f_W_engineFact_93 : rf_Fb rf_m_W_engineFact 93 96 (.getfield 59) 4 10 2 0 [] [] = true := by decide +kernel
theorem rf_f_W_engineFact_96 : rf_Fb rf_m_W_engineFact 96 99 (.getfield 186) 3 9 0 0 [] [] = true := by decide +kernel
theorem rf_f_W_engineFact_99 : rf_Fb rf_m_W_engineFact 99 102 (.ifCond .eq 7) 106 0 0 0 [] [] = true := by decide +kernel
theorem rf_f_W_engineFact_102 : rf_Fb rf_m_W_engineFact 102 103 (.iconst 1) 0 0 0 0 [] [] = true := by decide +kernel
theorem rf_f_W_engineFact_103 : rf_Fb rf_m_W_engineFact 103 106 (.goto 4) 107 0 0 0 [] [] = true := by decide +kernel
theorem rf_f_W_engineFact_106 : rf_Fb rf_m_W_engineFact 106 107 (.iconst 0) 0 0 0 0 [] [] = true := by decide +kernel
theorem rf_f_W_engineFact_107 : rf_Fb rf_m_W_engineFact 107 108 (.ireturn) 0 0 0 0 [] [] = true := by decide +kernel
theorem rf_f_W_engineFact_108 : rf_Fb rf_m_W_engineFact 108 109 (.aload_n 0) 0 0 0 0 [] [] = true := by decide +kernel
theorem rf_f_W_engineFact_109 : rf_Fb rf_m_W_engineFact 109 112 (.getfield 59) 4 10 2 0 [] [] = true := by decide +kernel
theorem rf_f_W_engineFact_112 : rf_Fb rf_m_W_engineFact 112 115 (.getfield 146) 3 10 0 0 [] [] = true := by decide +kernel
theorem rf_f_W_engineFact_115 : rf_Fb rf_m_W_engineFact 115 118 (.ifCond .eq 7) 122 0 0 0 [] [] = true := by decide +kernel
theorem rf_f_W_engineFact_118 : rf_Fb rf_m_W_engineFact 118 119 (.iconst 1) 0 0 0 0 [] [] = true := by decide +kernel
theorem rf_f_W_engineFact_119 : rf_Fb rf_m_W_engineFact 119 122 (.goto 4) 123 0 0 0 [] [] = true := by decide +kernel
theorem rf_f_W_engineFact_122 : rf_Fb rf_m_W_engineFact 122 123 (.iconst 0) 0 0 0 0 [] [] = true := by decide +kernel
theorem rf_f_W_engineFact_123 : rf_Fb rf_m_W_engineFact 123 124 (.ireturn) 0 0 0 0 [] [] = true := by decide +kernel
theorem rf_f_W_engineFact_124 : rf_Fb rf_m_W_engineFact 124 125 (.aload_n 0) 0 0 0 0 [] [] = true := by decide +kernel
theorem rf_f_W_engineFact_125 : rf_Fb rf_m_W_engineFact 125 128 (.getfield 59) 4 10 2 0 [] [] = true := by decide +kernel
theorem rf_f_W_engineFact_128 : rf_Fb rf_m_W_engineFact 128 131 (.getfield 192) 3 5 0 0 [] [] = true := by decide +kernel
theorem rf_f_W_engineFact_131 : rf_Fb rf_m_W_engineFact 131 132 (.ireturn) 0 0 0 0 [] [] = true := by decide +kernel
theorem rf_f_W_engineFact_132 : rf_Fb rf_m_W_engineFact 132 133 (.aload_n 0) 0 0 0 0 [] [] = true := by decide +kernel
theorem rf_f_W_engineFact_133 : rf_Fb rf_m_W_engineFact 133 136 (.getfield 59) 4 10 2 0 [] [] = true := by decide +kernel
theorem rf_f_W_engineFact_136 : rf_Fb rf_m_W_engineFact 136 139 (.getfield 228) 3 8 0 0 [] [] = true := by decide +kernel
theorem rf_f_W_engineFact_139 : rf_Fb rf_m_W_engineFact 139 140 (.ireturn) 0 0 0 0 [] [] = true := by decide +kernel
theorem rf_f_W_engineFact_140 : rf_Fb rf_m_W_engineFact 140 141 (.aload_n 0) 0 0 0 0 [] [] = true := by decide +kernel
theorem rf_f_W_engineFact_141 : rf_Fb rf_m_W_engineFact 141 144 (.getfield 59) 4 10 2 0 [] [] = true := by decide +kernel
theorem rf_f_W_engineFact_144 : rf_Fb rf_m_W_engineFact 144 147 (.getfield 215) 3 7 0 0 [] [] = true := by decide +kernel
theorem rf_f_W_engineFact_147 : rf_Fb rf_m_W_engineFact 147 148 (.ireturn) 0 0 0 0 [] [] = true := by decide +kernel
set_option maxRecDepth 20000 in
set_option maxHeartbeats 2000000 in
theorem rf_e_W_engineFact (d : Nat) (o : Nat) (a1 : Int) (h : rf_H) : rf_call (d + 1) 76 [.inr (.inr (some o)), .inl a1] h = (if a1 = 0 then ((rf_gR h 4 o 9).bind fun x28 => (rf_nn x28 fun k29 => ((rf_gI h 0 k29 7).bind fun x30 => some (some (.inl x30), h)))) else (if a1 = (0 + 1) then ((rf_gR h 4 o 10).bind fun x25 => (rf_nn x25 fun k26 => ((rf_gI h 3 k26 2).bind fun x27 => some (some (.inl x27), h)))) else (if a1 = ((0 + 1) + 1) then ((rf_gR h 4 o 10).bind fun x22 => (rf_nn x22 fun k23 => ((rf_gI h 3 k23 3).bind fun x24 => some (some (.inl x24), h)))) else (if a1 = (((0 + 1) + 1) + 1) then ((rf_gR h 4 o 9).bind fun x19 => (rf_nn x19 fun k20 => ((rf_gI h 0 k20 10).bind fun x21 => some (some (.inl x21), h)))) else (if a1 = ((((0 + 1) + 1) + 1) + 1) then ((rf_gR h 4 o 10).bind fun x16 => (rf_nn x16 fun k17 => ((rf_gI h 3 k17 4).bind fun x18 => some (some (.inl x18), h)))) else (if a1 = (((((0 + 1) + 1) + 1) + 1) + 1) then ((rf_gR h 4 o 10).bind fun x13 => (rf_nn x13 fun k14 => ((rf_gI h 3 k14 9).bind fun x15 => (if x15 = 0 then some (some (.inl 0), h) else some (some (.inl 1), h))))) else (if a1 = ((((((0 + 1) + 1) + 1) + 1) + 1) + 1) then ((rf_gR h 4 o 10).bind fun x10 => (rf_nn x10 fun k11 => ((rf_gI h 3 k11 10).bind fun x12 => (if x12 = 0 then some (some (.inl 0), h) else some (some (.inl 1), h))))) else (if a1 = (((((((0 + 1) + 1) + 1) + 1) + 1) + 1) + 1) then ((rf_gR h 4 o 10).bind fun x7 => (rf_nn x7 fun k8 => ((rf_gI h 3 k8 5).bind fun x9 => some (some (.inl x9), h)))) else (if a1 = ((((((((0 + 1) + 1) + 1) + 1) + 1) + 1) + 1) + 1) then ((rf_gR h 4 o 10).bind fun x4 => (rf_nn x4 fun k5 => ((rf_gI h 3 k5 8).bind fun x6 => some (some (.inl x6), h)))) else ((rf_gR h 4 o 10).bind fun x1 => (rf_nn x1 fun k2 => ((rf_gI h 3 k2 7).bind fun x3 => some (some (.inl x3), h))))))))))))) := by
  show rf_den (rf_call d) (rf_mt 76) _ = _
  rw [rf_u_W_engineFact]
  exact ((rf_s_iload_n rf_f_W_engineFact_0 rfl (rf_m0 _) (rf_s_tsw rf_f_W_engineFact_1 (rf_tsw_c (rf_tsw_g rfl (rf_m0 _) (rf_s_aload_n rf_f_W_engineFact_52 rfl (rf_m0 _) (rf_s_getAS rf_f_W_engineFact_53 (rf_m0 _) fun x28 => (rf_s_getIR rf_f_W_engineFact_56 (rf_m0 _) fun k29 x30 => (rf_s_iret rf_f_W_engineFact_59))))) (rf_tsw_c (rf_tsw_g rfl (rf_m0 _) (rf_s_aload_n rf_f_W_engineFact_60 rfl (rf_m0 _) (rf_s_getAS rf_f_W_engineFact_61 (rf_m0 _) fun x25 => (rf_s_getIR rf_f_W_engineFact_64 (rf_m0 _) fun k26 x27 => (rf_s_iret rf_f_W_engineFact_67))))) (rf_tsw_c (rf_tsw_g rfl (rf_m0 _) (rf_s_aload_n rf_f_W_engineFact_68 rfl (rf_m0 _) (rf_s_getAS rf_f_W_engineFact_69 (rf_m0 _) fun x22 => (rf_s_getIR rf_f_W_engineFact_72 (rf_m0 _) fun k23 x24 => (rf_s_iret rf_f_W_engineFact_75))))) (rf_tsw_c (rf_tsw_g rfl (rf_m0 _) (rf_s_aload_n rf_f_W_engineFact_76 rfl (rf_m0 _) (rf_s_getAS rf_f_W_engineFact_77 (rf_m0 _) fun x19 => (rf_s_getIR rf_f_W_engineFact_80 (rf_m0 _) fun k20 x21 => (rf_s_iret rf_f_W_engineFact_83))))) (rf_tsw_c (rf_tsw_g rfl (rf_m0 _) (rf_s_aload_n rf_f_W_engineFact_84 rfl (rf_m0 _) (rf_s_getAS rf_f_W_engineFact_85 (rf_m0 _) fun x16 => (rf_s_getIR rf_f_W_engineFact_88 (rf_m0 _) fun k17 x18 => (rf_s_iret rf_f_W_engineFact_91))))) (rf_tsw_c (rf_tsw_g rfl (rf_m0 _) (rf_s_aload_n rf_f_W_engineFact_92 rfl (rf_m0 _) (rf_s_getAS rf_f_W_engineFact_93 (rf_m0 _) fun x13 => (rf_s_getIR rf_f_W_engineFact_96 (rf_m0 _) fun k14 x15 => (rf_s_if_eq rf_f_W_engineFact_99 rfl (rf_m0 _) (rf_m0 _) (rf_s_iconst rf_f_W_engineFact_106 (rf_m0 _) (rf_s_iret rf_f_W_engineFact_107)) (rf_s_iconst rf_f_W_engineFact_102 (rf_m0 _) (rf_s_goto rf_f_W_engineFact_103 rfl (rf_m0 _) (rf_s_iret rf_f_W_engineFact_107)))))))) (rf_tsw_c (rf_tsw_g rfl (rf_m0 _) (rf_s_aload_n rf_f_W_engineFact_108 rfl (rf_m0 _) (rf_s_getAS rf_f_W_engineFact_109 (rf_m0 _) fun x10 => (rf_s_getIR rf_f_W_engineFact_112 (rf_m0 _) fun k11 x12 => (rf_s_if_eq rf_f_W_engineFact_115 rfl (rf_m0 _) (rf_m0 _) (rf_s_iconst rf_f_W_engineFact_122 (rf_m0 _) (rf_s_iret rf_f_W_engineFact_123)) (rf_s_iconst rf_f_W_engineFact_118 (rf_m0 _) (rf_s_goto rf_f_W_engineFact_119 rfl (rf_m0 _) (rf_s_iret rf_f_W_engineFact_123)))))))) (rf_tsw_c (rf_tsw_g rfl (rf_m0 _) (rf_s_aload_n rf_f_W_engineFact_124 rfl (rf_m0 _) (rf_s_getAS rf_f_W_engineFact_125 (rf_m0 _) fun x7 => (rf_s_getIR rf_f_W_engineFact_128 (rf_m0 _) fun k8 x9 => (rf_s_iret rf_f_W_engineFact_131))))) (rf_tsw_c (rf_tsw_g rfl (rf_m0 _) (rf_s_aload_n rf_f_W_engineFact_132 rfl (rf_m0 _) (rf_s_getAS rf_f_W_engineFact_133 (rf_m0 _) fun x4 => (rf_s_getIR rf_f_W_engineFact_136 (rf_m0 _) fun k5 x6 => (rf_s_iret rf_f_W_engineFact_139))))) (rf_tsw_n (rf_tsw_g rfl (rf_m0 _) (rf_s_aload_n rf_f_W_engineFact_140 rfl (rf_m0 _) (rf_s_getAS rf_f_W_engineFact_141 (rf_m0 _) fun x1 => (rf_s_getIR rf_f_W_engineFact_144 (rf_m0 _) fun k2 x3 => (rf_s_iret rf_f_W_engineFact_147))))))))))))))))) : rf_den (rf_call d) rf_m_W_engineFact (0, [some (.inr (.inr (some o))), some (.inl a1)], [], h) = _)
theorem rf_u_W_go : rf_mt 77 = rf_m_W_go := rfl
theorem rf_f_W_go_0 : rf_Fb rf_m_W_go 0 1 (.iload_n 1) 0 0 0 0 [] [] = true := by decide +kernel
theorem rf_f_W_go_1 : rf_Fb rf_m_W_go 1 4 (.ifCond .lt 9) 10 0 0 0 [] [] = true := by decide +kernel
theorem rf_f_W_go_4 : rf_Fb rf_m_W_go 4 5 (.iload_n 1) 0 0 0 0 [] [] = true := by decide +kernel
theorem rf_f_W_go_5 : rf_Fb rf_m_W_go 5 7 (.bipush 15) 0 0 0 0 [] [] = true := by decide +kernel
theorem rf_f_W_go_7 : rf_Fb rf_m_W_go 7 10 (.if_icmp .lt 5) 12 0 0 0 [] [] = true := by decide +kernel
theorem rf_f_W_go_10 : rf_Fb rf_m_W_go 10 11 (.iconst (-1)) 0 0 0 0 [] [] = true := by decide +kernel
theorem rf_f_W_go_11 : rf_Fb rf_m_W_go 11 12 (.ireturn) 0 0 0 0 [] [] = true := by decide +kernel
theorem rf_f_W_go_12 : rf_Fb rf_m_W_go 12 13 (.aload_n 0) 0 0 0 0 [] [] = true := by decide +kernel
theorem rf_f_W_go_13 : rf_Fb rf_m_W_go 13 16 (.getfield 123) 4 12 0 0 [] [] = true := by decide +kernel
theorem rf_f_W_go_16 : rf_Fb rf_m_W_go 16 19 (.ifCond .eq 14) 30 0 0 0 [] [] = true := by decide +kernel
theorem rf_f_W_go_19 : rf_Fb rf_m_W_go 19 20 (.aload_n 0) 0 0 0 0 [] [] = true := by decide +kernel
theorem rf_f_W_go_20 : rf_Fb rf_m_W_go 20 23 (.getfield 59) 4 10 2 0 [] [] = true := by decide +kernel
theorem rf_f_W_go_23 : rf_Fb rf_m_W_go 23 24 (.iload_n 1) 0 0 0 0 [] [] = true := by decide +kernel
theorem rf_f_W_go_24 : rf_Fb rf_m_W_go 24 27 (.invokevirtual 165) 47 1 0 3 [] [] = true := by decide +kernel
theorem rf_f_W_go_27 : rf_Fb rf_m_W_go 27 30 (.ifCond .ne 6) 33 0 0 0 [] [] = true := by decide +kernel
theorem rf_f_W_go_30 : rf_Fb rf_m_W_go 30 32 (.bipush (-4)) 0 0 0 0 [] [] = true := by decide +kernel
theorem rf_f_W_go_32 : rf_Fb rf_m_W_go 32 33 (.ireturn) 0 0 0 0 [] [] = true := by decide +kernel
theorem rf_f_W_go_33 : rf_Fb rf_m_W_go 33 34 (.aload_n 0) 0 0 0 0 [] [] = true := by decide +kernel
theorem rf_f_W_go_34 : rf_Fb rf_m_W_go 34 37 (.getfield 24) 4 3 2 0 [] [] = true := by decide +kernel
theorem rf_f_W_go_37 : rf_Fb rf_m_W_go 37 40 (.getfield 111) 2 1 0 0 [] [] = true := by decide +kernel
theorem rf_f_W_go_40 : rf_Fb rf_m_W_go 40 42 (.bipush 60) 0 0 0 0 [] [] = true := by decide +kernel
theorem rf_f_W_go_42 : rf_Fb rf_m_W_go 42 45 (.if_icmp .ge 11) 53 0 0 0 [] [] = true := by decide +kernel
theorem rf_f_W_go_45 : rf_Fb rf_m_W_go 45 46 (.aload_n 0) 0 0 0 0 [] [] = true := by decide +kernel
theorem rf_f_W_go_46 : rf_Fb rf_m_W_go 46 47 (.iload_n 1) 0 0 0 0 [] [] = true := by decide +kernel
theorem rf_f_W_go_47 : rf_Fb rf_m_W_go 47 50 (.invokevirtual 169) 78 1 0 4 [] [] = true := by decide +kernel
theorem rf_f_W_go_50 : rf_Fb rf_m_W_go 50 53 (.goto 5) 55 0 0 0 [] [] = true := by decide +kernel
theorem rf_f_W_go_53 : rf_Fb rf_m_W_go 53 55 (.bipush (-2)) 0 0 0 0 [] [] = true := by decide +kernel
theorem rf_f_W_go_55 : rf_Fb rf_m_W_go 55 56 (.ireturn) 0 0 0 0 [] [] = true := by decide +kernel
set_option maxRecDepth 20000 in
set_option maxHeartbeats 2000000 in
theorem rf_e_W_go (d : Nat) (o : Nat) (a1 : Int) (h : rf_H) : rf_call (d + 1) 77 [.inr (.inr (some o)), .inl a1] h = (if a1 < 0 then some (some (.inl (-1)), h) else (if a1 < 15 then ((rf_gI h 4 o 12).bind fun x1 => (if x1 = 0 then some (some (.inl (-4)), h) else ((rf_gR h 4 o 10).bind fun x2 => (rf_nn x2 fun k3 => (bif rf_isO h.1 k3 3 then ((rf_call d 47 [.inr (.inr (some k3)), .inl a1] h).bind fun q5 => rf_kI q5 fun x6 h4 => (if x6 = 0 then some (some (.inl (-4)), h4) else ((rf_gR h4 4 o 3).bind fun x7 => (rf_nn x7 fun k8 => ((rf_gI h4 2 k8 1).bind fun x9 => (if x9 < 60 then (bif rf_isO h4.1 o 4 then ((rf_call d 78 [.inr (.inr (some o)), .inl a1] h4).bind fun q11 => rf_kI q11 fun x12 h10 => some (some (.inl x12), h10)) else none) else some (some (.inl (-2)), h4))))))) else none))))) else some (some (.inl (-1)), h))) := by
  show rf_den (rf_call d) (rf_mt 77) _ = _
  rw [rf_u_W_go]
  exact ((rf_s_iload_n rf_f_W_go_0 rfl (rf_m0 _) (rf_s_if_lt rf_f_W_go_1 rfl (rf_m0 _) (rf_m0 _) (rf_s_iconst rf_f_W_go_10 (rf_m0 _) (rf_s_iret rf_f_W_go_11)) (rf_s_iload_n rf_f_W_go_4 rfl (rf_m0 _) (rf_s_bipush rf_f_W_go_5 (rf_m0 _) (rf_s_icmp_lt rf_f_W_go_7 rfl (rf_m0 _) (rf_m0 _) (rf_s_aload_n rf_f_W_go_12 rfl (rf_m0 _) (rf_s_getIS rf_f_W_go_13 (rf_m0 _) fun x1 => (rf_s_if_eq rf_f_W_go_16 rfl (rf_m0 _) (rf_m0 _) (rf_s_bipush rf_f_W_go_30 (rf_m0 _) (rf_s_iret rf_f_W_go_32)) (rf_s_aload_n rf_f_W_go_19 rfl (rf_m0 _) (rf_s_getAS rf_f_W_go_20 (rf_m0 _) fun x2 => (rf_s_iload_n rf_f_W_go_23 rfl (rf_m0 _) (rf_s_invV0R rf_f_W_go_24 rfl rfl (rf_m0 _) fun k3 q5 x6 h4 => (rf_s_if_ne rf_f_W_go_27 rfl (rf_m0 _) (rf_m0 _) (rf_s_aload_n rf_f_W_go_33 rfl (rf_m0 _) (rf_s_getAS rf_f_W_go_34 (rf_m0 _) fun x7 => (rf_s_getIR rf_f_W_go_37 (rf_m0 _) fun k8 x9 => (rf_s_bipush rf_f_W_go_40 (rf_m0 _) (rf_s_icmp_ge rf_f_W_go_42 rfl (rf_m0 _) (rf_m0 _) (rf_s_bipush rf_f_W_go_53 (rf_m0 _) (rf_s_iret rf_f_W_go_55)) (rf_s_aload_n rf_f_W_go_45 rfl (rf_m0 _) (rf_s_iload_n rf_f_W_go_46 rfl (rf_m0 _) (rf_s_invV0S rf_f_W_go_47 rfl rfl (rf_m0 _) fun q11 x12 h10 => (rf_s_goto rf_f_W_go_50 rfl (rf_m0 _) (rf_s_iret rf_f_W_go_55)))))))))) (rf_s_bipush rf_f_W_go_30 (rf_m0 _) (rf_s_iret rf_f_W_go_32)))))))))) (rf_s_iconst rf_f_W_go_10 (rf_m0 _) (rf_s_iret rf_f_W_go_11))))))) : rf_den (rf_call d) rf_m_W_go (0, [some (.inr (.inr (some o))), some (.inl a1)], [], h) = _)
theorem rf_u_W_doDeed : rf_mt 78 = rf_m_W_doDeed := rfl
theorem rf_f_W_doDeed_0 : rf_Fb rf_m_W_doDeed 0 1 (.aload_n 0) 0 0 0 0 [] [] = true := by decide +kernel
theorem rf_f_W_doDeed_1 : rf_Fb rf_m_W_doDeed 1 4 (.getfield 24) 4 3 2 0 [] [] = true := by decide +kernel
theorem rf_f_W_doDeed_4 : rf_Fb rf_m_W_doDeed 4 5 (.iload_n 1) 0 0 0 0 [] [] = true := by decide +kernel
theorem rf_f_W_doDeed_5 : rf_Fb rf_m_W_doDeed 5 8 (.invokevirtual 311) 10 1 3 2 [] [] = true := by decide +kernel
theorem rf_f_W_doDeed_8 : rf_Fb rf_m_W_doDeed 8 9 (.aload_n 0) 0 0 0 0 [] [] = true := by decide +kernel
theorem rf_f_W_doDeed_9 : rf_Fb rf_m_W_doDeed 9 12 (.getfield 59) 4 10 2 0 [] [] = true := by decide +kernel
theorem rf_f_W_doDeed_12 : rf_Fb rf_m_W_doDeed 12 13 (.iload_n 1) 0 0 0 0 [] [] = true := by decide +kernel
theorem rf_f_W_doDeed_13 : rf_Fb rf_m_W_doDeed 13 14 (.aload_n 0) 0 0 0 0 [] [] = true := by decide +kernel
theorem rf_f_W_doDeed_14 : rf_Fb rf_m_W_doDeed 14 17 (.getfield 59) 4 10 2 0 [] [] = true := by decide +kernel
theorem rf_f_W_doDeed_17 : rf_Fb rf_m_W_doDeed 17 20 (.invokevirtual 179) 39 0 0 3 [] [] = true := by decide +kernel
theorem rf_f_W_doDeed_20 : rf_Fb rf_m_W_doDeed 20 23 (.invokevirtual 212) 40 2 0 3 [] [] = true := by decide +kernel
theorem rf_f_W_doDeed_23 : rf_Fb rf_m_W_doDeed 23 24 (.ireturn) 0 0 0 0 [] [] = true := by decide +kernel
set_option maxRecDepth 20000 in
set_option maxHeartbeats 2000000 in
theorem rf_e_W_doDeed (d : Nat) (o : Nat) (a1 : Int) (h : rf_H) : rf_call (d + 1) 78 [.inr (.inr (some o)), .inl a1] h = ((rf_gR h 4 o 3).bind fun x1 => (rf_nn x1 fun k2 => (bif rf_isO h.1 k2 2 then ((rf_call d 10 [.inr (.inr (some k2)), .inl a1] h).bind fun q4 => rf_kV q4 fun h3 => ((rf_gR h3 4 o 10).bind fun x5 => ((rf_gR h3 4 o 10).bind fun x6 => (rf_nn x6 fun k7 => (bif rf_isO h3.1 k7 3 then ((rf_call d 39 [.inr (.inr (some k7))] h3).bind fun q9 => rf_kI q9 fun x10 h8 => (rf_nn x5 fun k11 => (bif rf_isO h8.1 k11 3 then ((rf_call d 40 [.inr (.inr (some k11)), .inl a1, .inl x10] h8).bind fun q13 => rf_kI q13 fun x14 h12 => some (some (.inl x14), h12)) else none))) else none))))) else none))) := by
  show rf_den (rf_call d) (rf_mt 78) _ = _
  rw [rf_u_W_doDeed]
  exact ((rf_s_aload_n rf_f_W_doDeed_0 rfl (rf_m0 _) (rf_s_getAS rf_f_W_doDeed_1 (rf_m0 _) fun x1 => (rf_s_iload_n rf_f_W_doDeed_4 rfl (rf_m0 _) (rf_s_invV3R rf_f_W_doDeed_5 rfl rfl (rf_m0 _) fun k2 q4 h3 => (rf_s_aload_n rf_f_W_doDeed_8 rfl (rf_m0 _) (rf_s_getAS rf_f_W_doDeed_9 (rf_m0 _) fun x5 => (rf_s_iload_n rf_f_W_doDeed_12 rfl (rf_m0 _) (rf_s_aload_n rf_f_W_doDeed_13 rfl (rf_m0 _) (rf_s_getAS rf_f_W_doDeed_14 (rf_m0 _) fun x6 => (rf_s_invV0R rf_f_W_doDeed_17 rfl rfl (rf_m0 _) fun k7 q9 x10 h8 => (rf_s_invV0R rf_f_W_doDeed_20 rfl rfl (rf_m0 _) fun k11 q13 x14 h12 => (rf_s_iret rf_f_W_doDeed_23)))))))))))) : rf_den (rf_call d) rf_m_W_doDeed (0, [some (.inr (.inr (some o))), some (.inl a1)], [], h) = _)
theorem rf_u_W_undo : rf_mt 79 = rf_m_W_undo := rfl
theorem rf_f_W_undo_0 : rf_Fb rf_m_W_undo 0 1 (.iload_n 1) 0 0 0 0 [] [] = true := by decide +kernel
theorem rf_f_W_undo_1 : rf_Fb rf_m_W_undo 1 4 (.ifCond .lt 14) 15 0 0 0 [] [] = true := by decide +kernel
theorem rf_f_W_undo_4 : rf_Fb rf_m_W_undo 4 5 (.iload_n 1) 0 0 0 0 [] [] = true := by decide +kernel
theorem rf_f_W_undo_5 : rf_Fb rf_m_W_undo 5 6 (.aload_n 0) 0 0 0 0 [] [] = true := by decide +kernel
theorem rf_f_W_undo_6 : rf_Fb rf_m_W_undo 6 9 (.getfield 24) 4 3 2 0 [] [] = true := by decide +kernel
theorem rf_f_W_undo_9 : rf_Fb rf_m_W_undo 9 12 (.getfield 111) 2 1 0 0 [] [] = true := by decide +kernel
theorem rf_f_W_undo_12 : rf_Fb rf_m_W_undo 12 15 (.if_icmp .le 5) 17 0 0 0 [] [] = true := by decide +kernel
theorem rf_f_W_undo_15 : rf_Fb rf_m_W_undo 15 16 (.iconst (-1)) 0 0 0 0 [] [] = true := by decide +kernel
theorem rf_f_W_undo_16 : rf_Fb rf_m_W_undo 16 17 (.ireturn) 0 0 0 0 [] [] = true := by decide +kernel
theorem rf_f_W_undo_17 : rf_Fb rf_m_W_undo 17 18 (.aload_n 0) 0 0 0 0 [] [] = true := by decide +kernel
theorem rf_f_W_undo_18 : rf_Fb rf_m_W_undo 18 21 (.getfield 24) 4 3 2 0 [] [] = true := by decide +kernel
theorem rf_f_W_undo_21 : rf_Fb rf_m_W_undo 21 24 (.getfield 111) 2 1 0 0 [] [] = true := by decide +kernel
theorem rf_f_W_undo_24 : rf_Fb rf_m_W_undo 24 25 (.iload_n 1) 0 0 0 0 [] [] = true := by decide +kernel
theorem rf_f_W_undo_25 : rf_Fb rf_m_W_undo 25 26 (.isub) 0 0 0 0 [] [] = true := by decide +kernel
theorem rf_f_W_undo_26 : rf_Fb rf_m_W_undo 26 27 (.istore_n 2) 0 0 0 0 [] [] = true := by decide +kernel
theorem rf_f_W_undo_27 : rf_Fb rf_m_W_undo 27 28 (.aload_n 0) 0 0 0 0 [] [] = true := by decide +kernel
theorem rf_f_W_undo_28 : rf_Fb rf_m_W_undo 28 31 (.getfield 24) 4 3 2 0 [] [] = true := by decide +kernel
theorem rf_f_W_undo_31 : rf_Fb rf_m_W_undo 31 32 (.iload_n 1) 0 0 0 0 [] [] = true := by decide +kernel
theorem rf_f_W_undo_32 : rf_Fb rf_m_W_undo 32 35 (.invokevirtual 172) 11 1 3 2 [] [] = true := by decide +kernel
theorem rf_f_W_undo_35 : rf_Fb rf_m_W_undo 35 36 (.aload_n 0) 0 0 0 0 [] [] = true := by decide +kernel
theorem rf_f_W_undo_36 : rf_Fb rf_m_W_undo 36 39 (.invokevirtual 127) 69 0 3 4 [] [] = true := by decide +kernel
theorem rf_f_W_undo_39 : rf_Fb rf_m_W_undo 39 40 (.iload_n 2) 0 0 0 0 [] [] = true := by decide +kernel
theorem rf_f_W_undo_40 : rf_Fb rf_m_W_undo 40 41 (.ireturn) 0 0 0 0 [] [] = true := by decide +kernel
set_option maxRecDepth 20000 in
set_option maxHeartbeats 2000000 in
theorem rf_e_W_undo (d : Nat) (o : Nat) (a1 : Int) (h : rf_H) : rf_call (d + 1) 79 [.inr (.inr (some o)), .inl a1] h = (if a1 < 0 then some (some (.inl (-1)), h) else ((rf_gR h 4 o 3).bind fun x1 => (rf_nn x1 fun k2 => ((rf_gI h 2 k2 1).bind fun x3 => (if x3 < a1 then some (some (.inl (-1)), h) else ((rf_gR h 4 o 3).bind fun x4 => (rf_nn x4 fun k5 => ((rf_gI h 2 k5 1).bind fun x6 => ((rf_gR h 4 o 3).bind fun x7 => (rf_nn x7 fun k8 => (bif rf_isO h.1 k8 2 then ((rf_call d 11 [.inr (.inr (some k8)), .inl a1] h).bind fun q10 => rf_kV q10 fun h9 => (bif rf_isO h9.1 o 4 then ((rf_call d 69 [.inr (.inr (some o))] h9).bind fun q12 => rf_kV q12 fun h11 => some (some (.inl (rf_w (x6 - a1))), h11)) else none)) else none))))))))))) := by
  show rf_den (rf_call d) (rf_mt 79) _ = _
  rw [rf_u_W_undo]
  exact ((rf_s_iload_n rf_f_W_undo_0 rfl (rf_m0 _) (rf_s_if_lt rf_f_W_undo_1 rfl (rf_m0 _) (rf_m0 _) (rf_s_iconst rf_f_W_undo_15 (rf_m0 _) (rf_s_iret rf_f_W_undo_16)) (rf_s_iload_n rf_f_W_undo_4 rfl (rf_m0 _) (rf_s_aload_n rf_f_W_undo_5 rfl (rf_m0 _) (rf_s_getAS rf_f_W_undo_6 (rf_m0 _) fun x1 => (rf_s_getIR rf_f_W_undo_9 (rf_m0 _) fun k2 x3 => (rf_s_icmp_le rf_f_W_undo_12 rfl (rf_m0 _) (rf_m0 _) (rf_s_aload_n rf_f_W_undo_17 rfl (rf_m0 _) (rf_s_getAS rf_f_W_undo_18 (rf_m0 _) fun x4 => (rf_s_getIR rf_f_W_undo_21 (rf_m0 _) fun k5 x6 => (rf_s_iload_n rf_f_W_undo_24 rfl (rf_m0 _) (rf_s_isub rf_f_W_undo_25 (rf_m0 _) (rf_s_istore_n (L' := [some (.inr (.inr (some o))), some (.inl a1), some (.inl (rf_w (x6 - a1)))]) rf_f_W_undo_26 rfl (rf_s_aload_n rf_f_W_undo_27 rfl (rf_m0 _) (rf_s_getAS rf_f_W_undo_28 (rf_m0 _) fun x7 => (rf_s_iload_n rf_f_W_undo_31 rfl (rf_m0 _) (rf_s_invV3R rf_f_W_undo_32 rfl rfl (rf_m0 _) fun k8 q10 h9 => (rf_s_aload_n rf_f_W_undo_35 rfl (rf_m0 _) (rf_s_invV3S rf_f_W_undo_36 rfl rfl (rf_m0 _) fun q12 h11 => (rf_s_iload_n rf_f_W_undo_39 rfl (rf_m0 _) (rf_s_iret rf_f_W_undo_40)))))))))))))) (rf_s_iconst rf_f_W_undo_15 (rf_m0 _) (rf_s_iret rf_f_W_undo_16))))))))) : rf_den (rf_call d) rf_m_W_undo (0, [some (.inr (.inr (some o))), some (.inl a1), none], [], h) = _)
theorem rf_u_W_keep : rf_mt 80 = rf_m_W_keep := rfl
theorem rf_f_W_keep_0 : rf_Fb rf_m_W_keep 0 1 (.aload_n 0) 0 0 0 0 [] [] = true := by decide +kernel
theorem rf_f_W_keep_1 : rf_Fb rf_m_W_keep 1 4 (.getfield 18) 4 2 2 0 [] [] = true := by decide +kernel
theorem rf_f_W_keep_4 : rf_Fb rf_m_W_keep 4 5 (.iload_n 1) 0 0 0 0 [] [] = true := by decide +kernel
theorem rf_f_W_keep_5 : rf_Fb rf_m_W_keep 5 8 (.invokestatic 74) 55 2 2 0 [] [] = true := by decide +kernel
theorem rf_f_W_keep_8 : rf_Fb rf_m_W_keep 8 9 (.astore_n 2) 0 0 0 0 [] [] = true := by decide +kernel
theorem rf_f_W_keep_9 : rf_Fb rf_m_W_keep 9 10 (.aload_n 2) 0 0 0 0 [] [] = true := by decide +kernel
theorem rf_f_W_keep_10 : rf_Fb rf_m_W_keep 10 13 (.ifnonnull 5) 15 0 0 0 [] [] = true := by decide +kernel
theorem rf_f_W_keep_13 : rf_Fb rf_m_W_keep 13 14 (.iconst (-1)) 0 0 0 0 [] [] = true := by decide +kernel
theorem rf_f_W_keep_14 : rf_Fb rf_m_W_keep 14 15 (.ireturn) 0 0 0 0 [] [] = true := by decide +kernel
theorem rf_f_W_keep_15 : rf_Fb rf_m_W_keep 15 16 (.aload_n 0) 0 0 0 0 [] [] = true := by decide +kernel
theorem rf_f_W_keep_16 : rf_Fb rf_m_W_keep 16 19 (.getfield 123) 4 12 0 0 [] [] = true := by decide +kernel
theorem rf_f_W_keep_19 : rf_Fb rf_m_W_keep 19 22 (.ifCond .ne 6) 25 0 0 0 [] [] = true := by decide +kernel
theorem rf_f_W_keep_22 : rf_Fb rf_m_W_keep 22 24 (.bipush (-4)) 0 0 0 0 [] [] = true := by decide +kernel
theorem rf_f_W_keep_24 : rf_Fb rf_m_W_keep 24 25 (.ireturn) 0 0 0 0 [] [] = true := by decide +kernel
theorem rf_f_W_keep_25 : rf_Fb rf_m_W_keep 25 26 (.aload_n 2) 0 0 0 0 [] [] = true := by decide +kernel
theorem rf_f_W_keep_26 : rf_Fb rf_m_W_keep 26 27 (.aload_n 0) 0 0 0 0 [] [] = true := by decide +kernel
theorem rf_f_W_keep_27 : rf_Fb rf_m_W_keep 27 30 (.getfield 24) 4 3 2 0 [] [] = true := by decide +kernel
theorem rf_f_W_keep_30 : rf_Fb rf_m_W_keep 30 33 (.invokevirtual 175) 12 1 3 2 [] [] = true := by decide +kernel
theorem rf_f_W_keep_33 : rf_Fb rf_m_W_keep 33 34 (.aload_n 0) 0 0 0 0 [] [] = true := by decide +kernel
theorem rf_f_W_keep_34 : rf_Fb rf_m_W_keep 34 37 (.getfield 24) 4 3 2 0 [] [] = true := by decide +kernel
theorem rf_f_W_keep_37 : rf_Fb rf_m_W_keep 37 40 (.getfield 111) 2 1 0 0 [] [] = true := by decide +kernel
theorem rf_f_W_keep_40 : rf_Fb rf_m_W_keep 40 41 (.ireturn) 0 0 0 0 [] [] = true := by decide +kernel
set_option maxRecDepth 20000 in
set_option maxHeartbeats 2000000 in
theorem rf_e_W_keep (d : Nat) (o : Nat) (a1 : Int) (h : rf_H) : rf_call (d + 1) 80 [.inr (.inr (some o)), .inl a1] h = ((rf_gR h 4 o 2).bind fun x1 => ((rf_call d 55 [.inr (.inr x1), .inl a1] h).bind fun q3 => rf_kR q3 fun x4 h2 => (rf_nz x4 (some (some (.inl (-1)), h2)) (((rf_gI h2 4 o 12).bind fun x5 => (if x5 = 0 then some (some (.inl (-4)), h2) else ((rf_gR h2 4 o 3).bind fun x6 => (rf_nn x4 fun k7 => (bif rf_isO h2.1 k7 2 then ((rf_call d 12 [.inr (.inr (some k7)), .inr (.inr x6)] h2).bind fun q9 => rf_kV q9 fun h8 => ((rf_gR h8 4 o 3).bind fun x10 => (rf_nn x10 fun k11 => ((rf_gI h8 2 k11 1).bind fun x12 => some (some (.inl x12), h8))))) else none))))))))) := by
  show rf_den (rf_call d) (rf_mt 80) _ = _
  rw [rf_u_W_keep]
  exact ((rf_s_aload_n rf_f_W_keep_0 rfl (rf_m0 _) (rf_s_getAS rf_f_W_keep_1 (rf_m0 _) fun x1 => (rf_s_iload_n rf_f_W_keep_4 rfl (rf_m0 _) (rf_s_invS2 rf_f_W_keep_5 rfl rfl (rf_m0 _) fun q3 x4 h2 => (rf_s_astore_n (L' := [some (.inr (.inr (some o))), some (.inl a1), some (.inr (.inr x4))]) rf_f_W_keep_8 rfl (rf_s_aload_n rf_f_W_keep_9 rfl (rf_m0 _) (rf_s_ifnonnull rf_f_W_keep_10 rfl (rf_m0 _) (rf_m0 _) (rf_s_aload_n rf_f_W_keep_15 rfl (rf_m0 _) (rf_s_getIS rf_f_W_keep_16 (rf_m0 _) fun x5 => (rf_s_if_ne rf_f_W_keep_19 rfl (rf_m0 _) (rf_m0 _) (rf_s_aload_n rf_f_W_keep_25 rfl (rf_m0 _) (rf_s_aload_n rf_f_W_keep_26 rfl (rf_m0 _) (rf_s_getAS rf_f_W_keep_27 (rf_m0 _) fun x6 => (rf_s_invV3R rf_f_W_keep_30 rfl rfl (rf_m0 _) fun k7 q9 h8 => (rf_s_aload_n rf_f_W_keep_33 rfl (rf_m0 _) (rf_s_getAS rf_f_W_keep_34 (rf_m0 _) fun x10 => (rf_s_getIR rf_f_W_keep_37 (rf_m0 _) fun k11 x12 => (rf_s_iret rf_f_W_keep_40)))))))) (rf_s_bipush rf_f_W_keep_22 (rf_m0 _) (rf_s_iret rf_f_W_keep_24))))) (rf_s_iconst rf_f_W_keep_13 (rf_m0 _) (rf_s_iret rf_f_W_keep_14))))))))) : rf_den (rf_call d) rf_m_W_keep (0, [some (.inr (.inr (some o))), some (.inl a1), none], [], h) = _)
theorem rf_u_W_on : rf_mt 81 = rf_m_W_on := rfl
theorem rf_f_W_on_0 : rf_Fb rf_m_W_on 0 1 (.aload_n 0) 0 0 0 0 [] [] = true := by decide +kernel
theorem rf_f_W_on_1 : rf_Fb rf_m_W_on 1 4 (.getfield 18) 4 2 2 0 [] [] = true := by decide +kernel
theorem rf_f_W_on_4 : rf_Fb rf_m_W_on 4 5 (.iload_n 1) 0 0 0 0 [] [] = true := by decide +kernel
theorem rf_f_W_on_5 : rf_Fb rf_m_W_on 5 8 (.invokestatic 74) 55 2 2 0 [] [] = true := by decide +kernel
theorem rf_f_W_on_8 : rf_Fb rf_m_W_on 8 9 (.astore_n 2) 0 0 0 0 [] [] = true := by decide +kernel
theorem rf_f_W_on_9 : rf_Fb rf_m_W_on 9 10 (.aload_n 2) 0 0 0 0 [] [] = true := by decide +kernel
theorem rf_f_W_on_10 : rf_Fb rf_m_W_on 10 13 (.ifnonnull 5) 15 0 0 0 [] [] = true := by decide +kernel
theorem rf_f_W_on_13 : rf_Fb rf_m_W_on 13 14 (.iconst (-1)) 0 0 0 0 [] [] = true := by decide +kernel
theorem rf_f_W_on_14 : rf_Fb rf_m_W_on 14 15 (.ireturn) 0 0 0 0 [] [] = true := by decide +kernel
theorem rf_f_W_on_15 : rf_Fb rf_m_W_on 15 16 (.aload_n 2) 0 0 0 0 [] [] = true := by decide +kernel
theorem rf_f_W_on_16 : rf_Fb rf_m_W_on 16 19 (.invokevirtual 97) 5 0 0 2 [] [] = true := by decide +kernel
theorem rf_f_W_on_19 : rf_Fb rf_m_W_on 19 22 (.ifCond .ne 9) 28 0 0 0 [] [] = true := by decide +kernel
theorem rf_f_W_on_22 : rf_Fb rf_m_W_on 22 23 (.aload_n 0) 0 0 0 0 [] [] = true := by decide +kernel
theorem rf_f_W_on_23 : rf_Fb rf_m_W_on 23 24 (.iconst 1) 0 0 0 0 [] [] = true := by decide +kernel
theorem rf_f_W_on_24 : rf_Fb rf_m_W_on 24 27 (.invokevirtual 101) 57 1 0 4 [] [] = true := by decide +kernel
theorem rf_f_W_on_27 : rf_Fb rf_m_W_on 27 28 (.ireturn) 0 0 0 0 [] [] = true := by decide +kernel
theorem rf_f_W_on_28 : rf_Fb rf_m_W_on 28 29 (.aload_n 0) 0 0 0 0 [] [] = true := by decide +kernel
theorem rf_f_W_on_29 : rf_Fb rf_m_W_on 29 32 (.getfield 24) 4 3 2 0 [] [] = true := by decide +kernel
theorem rf_f_W_on_32 : rf_Fb rf_m_W_on 32 33 (.aload_n 2) 0 0 0 0 [] [] = true := by decide +kernel
theorem rf_f_W_on_33 : rf_Fb rf_m_W_on 33 36 (.invokevirtual 175) 12 1 3 2 [] [] = true := by decide +kernel
theorem rf_f_W_on_36 : rf_Fb rf_m_W_on 36 37 (.aload_n 0) 0 0 0 0 [] [] = true := by decide +kernel
theorem rf_f_W_on_37 : rf_Fb rf_m_W_on 37 40 (.invokevirtual 127) 69 0 3 4 [] [] = true := by decide +kernel
theorem rf_f_W_on_40 : rf_Fb rf_m_W_on 40 41 (.aload_n 0) 0 0 0 0 [] [] = true := by decide +kernel
theorem rf_f_W_on_41 : rf_Fb rf_m_W_on 41 44 (.getfield 24) 4 3 2 0 [] [] = true := by decide +kernel
theorem rf_f_W_on_44 : rf_Fb rf_m_W_on 44 47 (.getfield 111) 2 1 0 0 [] [] = true := by decide +kernel
theorem rf_f_W_on_47 : rf_Fb rf_m_W_on 47 48 (.ireturn) 0 0 0 0 [] [] = true := by decide +kernel
set_option maxRecDepth 20000 in
set_option maxHeartbeats 2000000 in
theorem rf_e_W_on (d : Nat) (o : Nat) (a1 : Int) (h : rf_H) : rf_call (d + 1) 81 [.inr (.inr (some o)), .inl a1] h = ((rf_gR h 4 o 2).bind fun x1 => ((rf_call d 55 [.inr (.inr x1), .inl a1] h).bind fun q3 => rf_kR q3 fun x4 h2 => (rf_nz x4 (some (some (.inl (-1)), h2)) ((rf_nn x4 fun k5 => (bif rf_isO h2.1 k5 2 then ((rf_call d 5 [.inr (.inr (some k5))] h2).bind fun q7 => rf_kI q7 fun x8 h6 => (if x8 = 0 then (bif rf_isO h6.1 o 4 then ((rf_call d 57 [.inr (.inr (some o)), .inl 1] h6).bind fun q19 => rf_kI q19 fun x20 h18 => some (some (.inl x20), h18)) else none) else ((rf_gR h6 4 o 3).bind fun x9 => (rf_nn x9 fun k10 => (bif rf_isO h6.1 k10 2 then ((rf_call d 12 [.inr (.inr (some k10)), .inr (.inr x4)] h6).bind fun q12 => rf_kV q12 fun h11 => (bif rf_isO h11.1 o 4 then ((rf_call d 69 [.inr (.inr (some o))] h11).bind fun q14 => rf_kV q14 fun h13 => ((rf_gR h13 4 o 3).bind fun x15 => (rf_nn x15 fun k16 => ((rf_gI h13 2 k16 1).bind fun x17 => some (some (.inl x17), h13))))) else none)) else none))))) else none)))))) := by
  show rf_den (rf_call d) (rf_mt 81) _ = _
  rw [rf_u_W_on]
  exact ((rf_s_aload_n rf_f_W_on_0 rfl (rf_m0 _) (rf_s_getAS rf_f_W_on_1 (rf_m0 _) fun x1 => (rf_s_iload_n rf_f_W_on_4 rfl (rf_m0 _) (rf_s_invS2 rf_f_W_on_5 rfl rfl (rf_m0 _) fun q3 x4 h2 => (rf_s_astore_n (L' := [some (.inr (.inr (some o))), some (.inl a1), some (.inr (.inr x4))]) rf_f_W_on_8 rfl (rf_s_aload_n rf_f_W_on_9 rfl (rf_m0 _) (rf_s_ifnonnull rf_f_W_on_10 rfl (rf_m0 _) (rf_m0 _) (rf_s_aload_n rf_f_W_on_15 rfl (rf_m0 _) (rf_s_invV0R rf_f_W_on_16 rfl rfl (rf_m0 _) fun k5 q7 x8 h6 => (rf_s_if_ne rf_f_W_on_19 rfl (rf_m0 _) (rf_m0 _) (rf_s_aload_n rf_f_W_on_28 rfl (rf_m0 _) (rf_s_getAS rf_f_W_on_29 (rf_m0 _) fun x9 => (rf_s_aload_n rf_f_W_on_32 rfl (rf_m0 _) (rf_s_invV3R rf_f_W_on_33 rfl rfl (rf_m0 _) fun k10 q12 h11 => (rf_s_aload_n rf_f_W_on_36 rfl (rf_m0 _) (rf_s_invV3S rf_f_W_on_37 rfl rfl (rf_m0 _) fun q14 h13 => (rf_s_aload_n rf_f_W_on_40 rfl (rf_m0 _) (rf_s_getAS rf_f_W_on_41 (rf_m0 _) fun x15 => (rf_s_getIR rf_f_W_on_44 (rf_m0 _) fun k16 x17 => (rf_s_iret rf_f_W_on_47)))))))))) (rf_s_aload_n rf_f_W_on_22 rfl (rf_m0 _) (rf_s_iconst rf_f_W_on_23 (rf_m0 _) (rf_s_invV0S rf_f_W_on_24 rfl rfl (rf_m0 _) fun q19 x20 h18 => (rf_s_iret rf_f_W_on_27))))))) (rf_s_iconst rf_f_W_on_13 (rf_m0 _) (rf_s_iret rf_f_W_on_14))))))))) : rf_den (rf_call d) rf_m_W_on (0, [some (.inr (.inr (some o))), some (.inl a1), none], [], h) = _)
theorem rf_u_W_grip : rf_mt 82 = rf_m_W_grip := rfl
theorem rf_f_W_grip_0 : rf_Fb rf_m_W_grip 0 1 (.aload_n 0) 0 0 0 0 [] [] = true := by decide +kernel
theorem rf_f_W_grip_1 : rf_Fb rf_m_W_grip 1 4 (.getfield 123) 4 12 0 0 [] [] = true := by decide +kernel
theorem rf_f_W_grip_4 : rf_Fb rf_m_W_grip 4 7 (.ifCond .ne 6) 10 0 0 0 [] [] = true := by decide +kernel
theorem rf_f_W_grip_7 : rf_Fb rf_m_W_grip 7 9 (.bipush (-4)) 0 0 0 0 [] [] = true := by decide +kernel
theorem rf_f_W_grip_9 : rf_Fb rf_m_W_grip 9 10 (.ireturn) 0 0 0 0 [] [] = true := by decide +kernel
theorem rf_f_W_grip_10 : rf_Fb rf_m_W_grip 10 11 (.aload_n 0) 0 0 0 0 [] [] = true := by decide +kernel
theorem rf_f_W_grip_11 : rf_Fb rf_m_W_grip 11 14 (.getfield 59) 4 10 2 0 [] [] = true := by decide +kernel
theorem rf_f_W_grip_14 : rf_Fb rf_m_W_grip 14 17 (.invokevirtual 179) 39 0 0 3 [] [] = true := by decide +kernel
theorem rf_f_W_grip_17 : rf_Fb rf_m_W_grip 17 18 (.istore_n 1) 0 0 0 0 [] [] = true := by decide +kernel
theorem rf_f_W_grip_18 : rf_Fb rf_m_W_grip 18 19 (.aload_n 0) 0 0 0 0 [] [] = true := by decide +kernel
theorem rf_f_W_grip_19 : rf_Fb rf_m_W_grip 19 20 (.aload_n 0) 0 0 0 0 [] [] = true := by decide +kernel
theorem rf_f_W_grip_20 : rf_Fb rf_m_W_grip 20 23 (.getfield 59) 4 10 2 0 [] [] = true := by decide +kernel
theorem rf_f_W_grip_23 : rf_Fb rf_m_W_grip 23 24 (.iload_n 1) 0 0 0 0 [] [] = true := by decide +kernel
theorem rf_f_W_grip_24 : rf_Fb rf_m_W_grip 24 25 (.iconst 1) 0 0 0 0 [] [] = true := by decide +kernel
theorem rf_f_W_grip_25 : rf_Fb rf_m_W_grip 25 28 (.invokevirtual 183) 42 2 0 3 [] [] = true := by decide +kernel
theorem rf_f_W_grip_28 : rf_Fb rf_m_W_grip 28 29 (.aload_n 0) 0 0 0 0 [] [] = true := by decide +kernel
theorem rf_f_W_grip_29 : rf_Fb rf_m_W_grip 29 32 (.getfield 59) 4 10 2 0 [] [] = true := by decide +kernel
theorem rf_f_W_grip_32 : rf_Fb rf_m_W_grip 32 33 (.iload_n 1) 0 0 0 0 [] [] = true := by decide +kernel
theorem rf_f_W_grip_33 : rf_Fb rf_m_W_grip 33 34 (.aload_n 0) 0 0 0 0 [] [] = true := by decide +kernel
theorem rf_f_W_grip_34 : rf_Fb rf_m_W_grip 34 37 (.getfield 59) 4 10 2 0 [] [] = true := by decide +kernel
theorem rf_f_W_grip_37 : rf_Fb rf_m_W_grip 37 40 (.getfield 186) 3 9 0 0 [] [] = true := by decide +kernel
theorem rf_f_W_grip_40 : rf_Fb rf_m_W_grip 40 43 (.invokevirtual 183) 42 2 0 3 [] [] = true := by decide +kernel
theorem rf_f_W_grip_43 : rf_Fb rf_m_W_grip 43 46 (.invokevirtual 93) 60 2 0 4 [] [] = true := by decide +kernel
theorem rf_f_W_grip_46 : rf_Fb rf_m_W_grip 46 47 (.ireturn) 0 0 0 0 [] [] = true := by decide +kernel
set_option maxRecDepth 20000 in
set_option maxHeartbeats 2000000 in
theorem rf_e_W_grip (d : Nat) (o : Nat) (h : rf_H) : rf_call (d + 1) 82 [.inr (.inr (some o))] h = ((rf_gI h 4 o 12).bind fun x1 => (if x1 = 0 then some (some (.inl (-4)), h) else ((rf_gR h 4 o 10).bind fun x2 => (rf_nn x2 fun k3 => (bif rf_isO h.1 k3 3 then ((rf_call d 39 [.inr (.inr (some k3))] h).bind fun q5 => rf_kI q5 fun x6 h4 => ((rf_gR h4 4 o 10).bind fun x7 => (rf_nn x7 fun k8 => (bif rf_isO h4.1 k8 3 then ((rf_call d 42 [.inr (.inr (some k8)), .inl x6, .inl 1] h4).bind fun q10 => rf_kI q10 fun x11 h9 => ((rf_gR h9 4 o 10).bind fun x12 => ((rf_gR h9 4 o 10).bind fun x13 => (rf_nn x13 fun k14 => ((rf_gI h9 3 k14 9).bind fun x15 => (rf_nn x12 fun k16 => (bif rf_isO h9.1 k16 3 then ((rf_call d 42 [.inr (.inr (some k16)), .inl x6, .inl x15] h9).bind fun q18 => rf_kI q18 fun x19 h17 => (bif rf_isO h17.1 o 4 then ((rf_call d 60 [.inr (.inr (some o)), .inl x11, .inl x19] h17).bind fun q21 => rf_kI q21 fun x22 h20 => some (some (.inl x22), h20)) else none)) else none))))))) else none)))) else none))))) := by
  show rf_den (rf_call d) (rf_mt 82) _ = _
  rw [rf_u_W_grip]
  exact ((rf_s_aload_n rf_f_W_grip_0 rfl (rf_m0 _) (rf_s_getIS rf_f_W_grip_1 (rf_m0 _) fun x1 => (rf_s_if_ne rf_f_W_grip_4 rfl (rf_m0 _) (rf_m0 _) (rf_s_aload_n rf_f_W_grip_10 rfl (rf_m0 _) (rf_s_getAS rf_f_W_grip_11 (rf_m0 _) fun x2 => (rf_s_invV0R rf_f_W_grip_14 rfl rfl (rf_m0 _) fun k3 q5 x6 h4 => (rf_s_istore_n (L' := [some (.inr (.inr (some o))), some (.inl x6)]) rf_f_W_grip_17 rfl (rf_s_aload_n rf_f_W_grip_18 rfl (rf_m0 _) (rf_s_aload_n rf_f_W_grip_19 rfl (rf_m0 _) (rf_s_getAS rf_f_W_grip_20 (rf_m0 _) fun x7 => (rf_s_iload_n rf_f_W_grip_23 rfl (rf_m0 _) (rf_s_iconst rf_f_W_grip_24 (rf_m0 _) (rf_s_invV0R rf_f_W_grip_25 rfl rfl (rf_m0 _) fun k8 q10 x11 h9 => (rf_s_aload_n rf_f_W_grip_28 rfl (rf_m0 _) (rf_s_getAS rf_f_W_grip_29 (rf_m0 _) fun x12 => (rf_s_iload_n rf_f_W_grip_32 rfl (rf_m0 _) (rf_s_aload_n rf_f_W_grip_33 rfl (rf_m0 _) (rf_s_getAS rf_f_W_grip_34 (rf_m0 _) fun x13 => (rf_s_getIR rf_f_W_grip_37 (rf_m0 _) fun k14 x15 => (rf_s_invV0R rf_f_W_grip_40 rfl rfl (rf_m0 _) fun k16 q18 x19 h17 => (rf_s_invV0S rf_f_W_grip_43 rfl rfl (rf_m0 _) fun q21 x22 h20 => (rf_s_iret rf_f_W_grip_46))))))))))))))))))) (rf_s_bipush rf_f_W_grip_7 (rf_m0 _) (rf_s_iret rf_f_W_grip_9))))) : rf_den (rf_call d) rf_m_W_grip (0, [some (.inr (.inr (some o))), none], [], h) = _)
theorem rf_u_W_load : rf_mt 83 = rf_m_W_load := rfl
theorem rf_f_W_load_0 : rf_Fb rf_m_W_load 0 1 (.iload_n 1) 0 0 0 0 [] [] = true := by decide +kernel
theorem rf_f_W_load_1 : rf_Fb rf_m_W_load 1 4 (.ifCond .lt 14) 15 0 0 0 [] [] = true := by decide +kernel
theorem rf_f_W_load_4 : rf_Fb rf_m_W_load 4 5 (.iload_n 1) 0 0 0 0 [] [] = true := by decide +kernel
theorem rf_f_W_load_5 : rf_Fb rf_m_W_load 5 6 (.aload_n 0) 0 0 0 0 [] [] = true := by decide +kernel
theorem rf_f_W_load_6 : rf_Fb rf_m_W_load 6 9 (.getfield 59) 4 10 2 0 [] [] = true := by decide +kernel
theorem rf_f_W_load_9 : rf_Fb rf_m_W_load 9 12 (.getfield 130) 3 6 0 0 [] [] = true := by decide +kernel
theorem rf_f_W_load_12 : rf_Fb rf_m_W_load 12 15 (.if_icmp .le 7) 19 0 0 0 [] [] = true := by decide +kernel
theorem rf_f_W_load_15 : rf_Fb rf_m_W_load 15 16 (.iconst (-1)) 0 0 0 0 [] [] = true := by decide +kernel
theorem rf_f_W_load_16 : rf_Fb rf_m_W_load 16 19 (.goto 11) 27 0 0 0 [] [] = true := by decide +kernel
theorem rf_f_W_load_19 : rf_Fb rf_m_W_load 19 20 (.aload_n 0) 0 0 0 0 [] [] = true := by decide +kernel
theorem rf_f_W_load_20 : rf_Fb rf_m_W_load 20 23 (.getfield 59) 4 10 2 0 [] [] = true := by decide +kernel
theorem rf_f_W_load_23 : rf_Fb rf_m_W_load 23 24 (.iload_n 1) 0 0 0 0 [] [] = true := by decide +kernel
theorem rf_f_W_load_24 : rf_Fb rf_m_W_load 24 27 (.invokevirtual 189) 43 1 0 3 [] [] = true := by decide +kernel
theorem rf_f_W_load_27 : rf_Fb rf_m_W_load 27 28 (.ireturn) 0 0 0 0 [] [] = true := by decide +kernel
set_option maxRecDepth 20000 in
set_option maxHeartbeats 2000000 in
theorem rf_e_W_load (d : Nat) (o : Nat) (a1 : Int) (h : rf_H) : rf_call (d + 1) 83 [.inr (.inr (some o)), .inl a1] h = (if a1 < 0 then some (some (.inl (-1)), h) else ((rf_gR h 4 o 10).bind fun x1 => (rf_nn x1 fun k2 => ((rf_gI h 3 k2 6).bind fun x3 => (if x3 < a1 then some (some (.inl (-1)), h) else ((rf_gR h 4 o 10).bind fun x4 => (rf_nn x4 fun k5 => (bif rf_isO h.1 k5 3 then ((rf_call d 43 [.inr (.inr (some k5)), .inl a1] h).bind fun q7 => rf_kI q7 fun x8 h6 => some (some (.inl x8), h6)) else none)))))))) := by
  show rf_den (rf_call d) (rf_mt 83) _ = _
  rw [rf_u_W_load]
  exact ((rf_s_iload_n rf_f_W_load_0 rfl (rf_m0 _) (rf_s_if_lt rf_f_W_load_1 rfl (rf_m0 _) (rf_m0 _) (rf_s_iconst rf_f_W_load_15 (rf_m0 _) (rf_s_goto rf_f_W_load_16 rfl (rf_m0 _) (rf_s_iret rf_f_W_load_27))) (rf_s_iload_n rf_f_W_load_4 rfl (rf_m0 _) (rf_s_aload_n rf_f_W_load_5 rfl (rf_m0 _) (rf_s_getAS rf_f_W_load_6 (rf_m0 _) fun x1 => (rf_s_getIR rf_f_W_load_9 (rf_m0 _) fun k2 x3 => (rf_s_icmp_le rf_f_W_load_12 rfl (rf_m0 _) (rf_m0 _) (rf_s_aload_n rf_f_W_load_19 rfl (rf_m0 _) (rf_s_getAS rf_f_W_load_20 (rf_m0 _) fun x4 => (rf_s_iload_n rf_f_W_load_23 rfl (rf_m0 _) (rf_s_invV0R rf_f_W_load_24 rfl rfl (rf_m0 _) fun k5 q7 x8 h6 => (rf_s_iret rf_f_W_load_27))))) (rf_s_iconst rf_f_W_load_15 (rf_m0 _) (rf_s_goto rf_f_W_load_16 rfl (rf_m0 _) (rf_s_iret rf_f_W_load_27)))))))))) : rf_den (rf_call d) rf_m_W_load (0, [some (.inr (.inr (some o))), some (.inl a1)], [], h) = _)
theorem rf_u_W_steam : rf_mt 84 = rf_m_W_steam := rfl
theorem rf_f_W_steam_0 : rf_Fb rf_m_W_steam 0 1 (.aload_n 0) 0 0 0 0 [] [] = true := by decide +kernel
theorem rf_f_W_steam_1 : rf_Fb rf_m_W_steam 1 4 (.getfield 123) 4 12 0 0 [] [] = true := by decide +kernel
theorem rf_f_W_steam_4 : rf_Fb rf_m_W_steam 4 7 (.ifCond .ne 6) 10 0 0 0 [] [] = true := by decide +kernel
theorem rf_f_W_steam_7 : rf_Fb rf_m_W_steam 7 9 (.bipush (-4)) 0 0 0 0 [] [] = true := by decide +kernel
theorem rf_f_W_steam_9 : rf_Fb rf_m_W_steam 9 10 (.ireturn) 0 0 0 0 [] [] = true := by decide +kernel
theorem rf_f_W_steam_10 : rf_Fb rf_m_W_steam 10 11 (.aload_n 0) 0 0 0 0 [] [] = true := by decide +kernel
theorem rf_f_W_steam_11 : rf_Fb rf_m_W_steam 11 14 (.getfield 59) 4 10 2 0 [] [] = true := by decide +kernel
theorem rf_f_W_steam_14 : rf_Fb rf_m_W_steam 14 15 (.aload_n 0) 0 0 0 0 [] [] = true := by decide +kernel
theorem rf_f_W_steam_15 : rf_Fb rf_m_W_steam 15 18 (.getfield 59) 4 10 2 0 [] [] = true := by decide +kernel
theorem rf_f_W_steam_18 : rf_Fb rf_m_W_steam 18 21 (.getfield 192) 3 5 0 0 [] [] = true := by decide +kernel
theorem rf_f_W_steam_21 : rf_Fb rf_m_W_steam 21 22 (.iconst 1) 0 0 0 0 [] [] = true := by decide +kernel
theorem rf_f_W_steam_22 : rf_Fb rf_m_W_steam 22 23 (.iadd) 0 0 0 0 [] [] = true := by decide +kernel
theorem rf_f_W_steam_23 : rf_Fb rf_m_W_steam 23 24 (.aload_n 0) 0 0 0 0 [] [] = true := by decide +kernel
theorem rf_f_W_steam_24 : rf_Fb rf_m_W_steam 24 27 (.getfield 59) 4 10 2 0 [] [] = true := by decide +kernel
theorem rf_f_W_steam_27 : rf_Fb rf_m_W_steam 27 30 (.getfield 130) 3 6 0 0 [] [] = true := by decide +kernel
theorem rf_f_W_steam_30 : rf_Fb rf_m_W_steam 30 33 (.invokestatic 195) 14 2 0 0 [] [] = true := by decide +kernel
theorem rf_f_W_steam_33 : rf_Fb rf_m_W_steam 33 36 (.invokevirtual 189) 43 1 0 3 [] [] = true := by decide +kernel
theorem rf_f_W_steam_36 : rf_Fb rf_m_W_steam 36 39 (.invokestatic 153) 74 1 0 0 [] [] = true := by decide +kernel
theorem rf_f_W_steam_39 : rf_Fb rf_m_W_steam 39 40 (.istore_n 1) 0 0 0 0 [] [] = true := by decide +kernel
theorem rf_f_W_steam_40 : rf_Fb rf_m_W_steam 40 42 (.bipush 9) 0 0 0 0 [] [] = true := by decide +kernel
theorem rf_f_W_steam_42 : rf_Fb rf_m_W_steam 42 43 (.aload_n 0) 0 0 0 0 [] [] = true := by decide +kernel
theorem rf_f_W_steam_43 : rf_Fb rf_m_W_steam 43 46 (.getfield 59) 4 10 2 0 [] [] = true := by decide +kernel
theorem rf_f_W_steam_46 : rf_Fb rf_m_W_steam 46 47 (.aload_n 0) 0 0 0 0 [] [] = true := by decide +kernel
theorem rf_f_W_steam_47 : rf_Fb rf_m_W_steam 47 50 (.getfield 59) 4 10 2 0 [] [] = true := by decide +kernel
theorem rf_f_W_steam_50 : rf_Fb rf_m_W_steam 50 53 (.invokevirtual 179) 39 0 0 3 [] [] = true := by decide +kernel
theorem rf_f_W_steam_53 : rf_Fb rf_m_W_steam 53 54 (.aload_n 0) 0 0 0 0 [] [] = true := by decide +kernel
theorem rf_f_W_steam_54 : rf_Fb rf_m_W_steam 54 57 (.getfield 59) 4 10 2 0 [] [] = true := by decide +kernel
theorem rf_f_W_steam_57 : rf_Fb rf_m_W_steam 57 60 (.getfield 186) 3 9 0 0 [] [] = true := by decide +kernel
theorem rf_f_W_steam_60 : rf_Fb rf_m_W_steam 60 63 (.invokevirtual 183) 42 2 0 3 [] [] = true := by decide +kernel
theorem rf_f_W_steam_63 : rf_Fb rf_m_W_steam 63 64 (.iconst 2) 0 0 0 0 [] [] = true := by decide +kernel
theorem rf_f_W_steam_64 : rf_Fb rf_m_W_steam 64 65 (.idiv) 0 0 0 0 [] [] = true := by decide +kernel
theorem rf_f_W_steam_65 : rf_Fb rf_m_W_steam 65 68 (.invokestatic 195) 14 2 0 0 [] [] = true := by decide +kernel
theorem rf_f_W_steam_68 : rf_Fb rf_m_W_steam 68 69 (.istore_n 2) 0 0 0 0 [] [] = true := by decide +kernel
theorem rf_f_W_steam_69 : rf_Fb rf_m_W_steam 69 70 (.aload_n 0) 0 0 0 0 [] [] = true := by decide +kernel
theorem rf_f_W_steam_70 : rf_Fb rf_m_W_steam 70 71 (.iload_n 1) 0 0 0 0 [] [] = true := by decide +kernel
theorem rf_f_W_steam_71 : rf_Fb rf_m_W_steam 71 72 (.iload_n 2) 0 0 0 0 [] [] = true := by decide +kernel
theorem rf_f_W_steam_72 : rf_Fb rf_m_W_steam 72 75 (.invokevirtual 93) 60 2 0 4 [] [] = true := by decide +kernel
theorem rf_f_W_steam_75 : rf_Fb rf_m_W_steam 75 76 (.ireturn) 0 0 0 0 [] [] = true := by decide +kernel
set_option maxRecDepth 20000 in
set_option maxHeartbeats 2000000 in
theorem rf_e_W_steam (d : Nat) (o : Nat) (h : rf_H) : rf_call (d + 1) 84 [.inr (.inr (some o))] h = ((rf_gI h 4 o 12).bind fun x1 => (if x1 = 0 then some (some (.inl (-4)), h) else ((rf_gR h 4 o 10).bind fun x2 => ((rf_gR h 4 o 10).bind fun x3 => (rf_nn x3 fun k4 => ((rf_gI h 3 k4 5).bind fun x5 => ((rf_gR h 4 o 10).bind fun x6 => (rf_nn x6 fun k7 => ((rf_gI h 3 k7 6).bind fun x8 => ((rf_call d 14 [.inl (rf_w (x5 + 1)), .inl x8] h).bind fun q10 => rf_kI q10 fun x11 h9 => (rf_nn x2 fun k12 => (bif rf_isO h9.1 k12 3 then ((rf_call d 43 [.inr (.inr (some k12)), .inl x11] h9).bind fun q14 => rf_kI q14 fun x15 h13 => ((rf_call d 74 [.inl x15] h13).bind fun q17 => rf_kI q17 fun x18 h16 => ((rf_gR h16 4 o 10).bind fun x19 => ((rf_gR h16 4 o 10).bind fun x20 => (rf_nn x20 fun k21 => (bif rf_isO h16.1 k21 3 then ((rf_call d 39 [.inr (.inr (some k21))] h16).bind fun q23 => rf_kI q23 fun x24 h22 => ((rf_gR h22 4 o 10).bind fun x25 => (rf_nn x25 fun k26 => ((rf_gI h22 3 k26 9).bind fun x27 => (rf_nn x19 fun k28 => (bif rf_isO h22.1 k28 3 then ((rf_call d 42 [.inr (.inr (some k28)), .inl x24, .inl x27] h22).bind fun q30 => rf_kI q30 fun x31 h29 => ((rf_call d 14 [.inl 9, .inl (rf_w (Int.tdiv x31 2))] h29).bind fun q33 => rf_kI q33 fun x34 h32 => (bif rf_isO h32.1 o 4 then ((rf_call d 60 [.inr (.inr (some o)), .inl x18, .inl x34] h32).bind fun q36 => rf_kI q36 fun x37 h35 => some (some (.inl x37), h35)) else none))) else none)))))) else none)))))) else none)))))))))))) := by
  show rf_den (rf_call d) (rf_mt 84) _ = _
  rw [rf_u_W_steam]
  exact ((rf_s_aload_n rf_f_W_steam_0 rfl (rf_m0 _) (rf_s_getIS rf_f_W_steam_1 (rf_m0 _) fun x1 => (rf_s_if_ne rf_f_W_steam_4 rfl (rf_m0 _) (rf_m0 _) (rf_s_aload_n rf_f_W_steam_10 rfl (rf_m0 _) (rf_s_getAS rf_f_W_steam_11 (rf_m0 _) fun x2 => (rf_s_aload_n rf_f_W_steam_14 rfl (rf_m0 _) (rf_s_getAS rf_f_W_steam_15 (rf_m0 _) fun x3 => (rf_s_getIR rf_f_W_steam_18 (rf_m0 _) fun k4 x5 => (rf_s_iconst rf_f_W_steam_21 (rf_m0 _) (rf_s_iadd rf_f_W_steam_22 (rf_m0 _) (rf_s_aload_n rf_f_W_steam_23 rfl (rf_m0 _) (rf_s_getAS rf_f_W_steam_24 (rf_m0 _) fun x6 => (rf_s_getIR rf_f_W_steam_27 (rf_m0 _) fun k7 x8 => (rf_s_invS0 rf_f_W_steam_30 rfl rfl (rf_m0 _) fun q10 x11 h9 => (rf_s_invV0R rf_f_W_steam_33 rfl rfl (rf_m0 _) fun k12 q14 x15 h13 => (rf_s_invS0 rf_f_W_steam_36 rfl rfl (rf_m0 _) fun q17 x18 h16 => (rf_s_istore_n (L' := [some (.inr (.inr (some o))), some (.inl x18), none]) rf_f_W_steam_39 rfl (rf_s_bipush rf_f_W_steam_40 (rf_m0 _) (rf_s_aload_n rf_f_W_steam_42 rfl (rf_m0 _) (rf_s_getAS rf_f_W_steam_43 (rf_m0 _) fun x19 => (rf_s_aload_n rf_f_W_steam_46 rfl (rf_m0 _) (rf_s_getAS rf_f_W_steam_47 (rf_m0 _) fun x20 => (rf_s_invV0R rf_f_W_steam_50 rfl rfl (rf_m0 _) fun k21 q23 x24 h22 => (rf_s_aload_n rf_f_W_steam_53 rfl (rf_m0 _) (rf_s_getAS rf_f_W_steam_54 (rf_m0 _) fun x25 => (rf_s_getIR rf_f_W_steam_57 (rf_m0 _) fun k26 x27 => (rf_s_invV0R rf_f_W_steam_60 rfl rfl (rf_m0 _) fun k28 q30 x31 h29 => (rf_s_iconst rf_f_W_steam_63 (rf_m0 _) (rf_s_idiv rf_f_W_steam_64 (by decide) (rf_m0 _) (rf_s_invS0 rf_f_W_steam_65 rfl rfl (rf_m0 _) fun q33 x34 h32 => (rf_s_istore_n (L' := [some (.inr (.inr (some o))), some (.inl x18), some (.inl x34)]) rf_f_W_steam_68 rfl (rf_s_aload_n rf_f_W_steam_69 rfl (rf_m0 _) (rf_s_iload_n rf_f_W_steam_70 rfl (rf_m0 _) (rf_s_iload_n rf_f_W_steam_71 rfl (rf_m0 _) (rf_s_invV0S rf_f_W_steam_72 rfl rfl (rf_m0 _) fun q36 x37 h35 => (rf_s_iret rf_f_W_steam_75))))))))))))))))))))))))))))))))) (rf_s_bipush rf_f_W_steam_7 (rf_m0 _) (rf_s_iret rf_f_W_steam_9))))) : rf_den (rf_call d) rf_m_W_steam (0, [some (.inr (.inr (some o))), none, none], [], h) = _)
theorem rf_u_W_would : rf_mt 85 = rf_m_W_would := rfl
theorem rf_f_W_would_0 : rf_Fb rf_m_W_would 0 1 (.iload_n 1) 0 0 0 0 [] [] = true := by decide +kernel
theorem rf_f_W_would_1 : rf_Fb rf_m_W_would 1 4 (.ifCond .lt 9) 10 0 0 0 [] [] = true := by decide +kernel
theorem rf_f_W_would_4 : rf_Fb rf_m_W_would 4 5 (.iload_n 1) 0 0 0 0 [] [] = true := by decide +kernel
theorem rf_f_W_would_5 : rf_Fb rf_m_W_would 5 7 (.bipush 9) 0 0 0 0 [] [] = true := by decide +kernel
theorem rf_f_W_would_7 : rf_Fb rf_m_W_would 7 10 (.if_icmp .le 5) 12 0 0 0 [] [] = true := by decide +kernel
theorem rf_f_W_would_10 : rf_Fb rf_m_W_would 10 11 (.iconst (-1)) 0 0 0 0 [] [] = true := by decide +kernel
theorem rf_f_W_would_11 : rf_Fb rf_m_W_would 11 12 (.ireturn) 0 0 0 0 [] [] = true := by decide +kernel
theorem rf_f_W_would_12 : rf_Fb rf_m_W_would 12 13 (.aload_n 0) 0 0 0 0 [] [] = true := by decide +kernel
theorem rf_f_W_would_13 : rf_Fb rf_m_W_would 13 16 (.getfield 123) 4 12 0 0 [] [] = true := by decide +kernel
theorem rf_f_W_would_16 : rf_Fb rf_m_W_would 16 19 (.ifCond .eq 21) 37 0 0 0 [] [] = true := by decide +kernel
theorem rf_f_W_would_19 : rf_Fb rf_m_W_would 19 20 (.aload_n 0) 0 0 0 0 [] [] = true := by decide +kernel
theorem rf_f_W_would_20 : rf_Fb rf_m_W_would 20 23 (.getfield 59) 4 10 2 0 [] [] = true := by decide +kernel
theorem rf_f_W_would_23 : rf_Fb rf_m_W_would 23 24 (.iload_n 1) 0 0 0 0 [] [] = true := by decide +kernel
theorem rf_f_W_would_24 : rf_Fb rf_m_W_would 24 25 (.aload_n 0) 0 0 0 0 [] [] = true := by decide +kernel
theorem rf_f_W_would_25 : rf_Fb rf_m_W_would 25 28 (.getfield 59) 4 10 2 0 [] [] = true := by decide +kernel
theorem rf_f_W_would_28 : rf_Fb rf_m_W_would 28 31 (.invokevirtual 179) 39 0 0 3 [] [] = true := by decide +kernel
theorem rf_f_W_would_31 : rf_Fb rf_m_W_would 31 34 (.invokevirtual 200) 41 2 0 3 [] [] = true := by decide +kernel
theorem rf_f_W_would_34 : rf_Fb rf_m_W_would 34 37 (.goto 5) 39 0 0 0 [] [] = true := by decide +kernel
theorem rf_f_W_would_37 : rf_Fb rf_m_W_would 37 39 (.bipush (-4)) 0 0 0 0 [] [] = true := by decide +kernel
theorem rf_f_W_would_39 : rf_Fb rf_m_W_would 39 40 (.ireturn) 0 0 0 0 [] [] = true := by decide +kernel
set_option maxRecDepth 20000 in
set_option maxHeartbeats 2000000 in
theorem rf_e_W_would (d : Nat) (o : Nat) (a1 : Int) (h : rf_H) : rf_call (d + 1) 85 [.inr (.inr (some o)), .inl a1] h = (if a1 < 0 then some (some (.inl (-1)), h) else (if 9 < a1 then some (some (.inl (-1)), h) else ((rf_gI h 4 o 12).bind fun x1 => (if x1 = 0 then some (some (.inl (-4)), h) else ((rf_gR h 4 o 10).bind fun x2 => ((rf_gR h 4 o 10).bind fun x3 => (rf_nn x3 fun k4 => (bif rf_isO h.1 k4 3 then ((rf_call d 39 [.inr (.inr (some k4))] h).bind fun q6 => rf_kI q6 fun x7 h5 => (rf_nn x2 fun k8 => (bif rf_isO h5.1 k8 3 then ((rf_call d 41 [.inr (.inr (some k8)), .inl a1, .inl x7] h5).bind fun q10 => rf_kI q10 fun x11 h9 => some (some (.inl x11), h9)) else none))) else none)))))))) := by
  show rf_den (rf_call d) (rf_mt 85) _ = _
  rw [rf_u_W_would]
  exact ((rf_s_iload_n rf_f_W_would_0 rfl (rf_m0 _) (rf_s_if_lt rf_f_W_would_1 rfl (rf_m0 _) (rf_m0 _) (rf_s_iconst rf_f_W_would_10 (rf_m0 _) (rf_s_iret rf_f_W_would_11)) (rf_s_iload_n rf_f_W_would_4 rfl (rf_m0 _) (rf_s_bipush rf_f_W_would_5 (rf_m0 _) (rf_s_icmp_le rf_f_W_would_7 rfl (rf_m0 _) (rf_m0 _) (rf_s_aload_n rf_f_W_would_12 rfl (rf_m0 _) (rf_s_getIS rf_f_W_would_13 (rf_m0 _) fun x1 => (rf_s_if_eq rf_f_W_would_16 rfl (rf_m0 _) (rf_m0 _) (rf_s_bipush rf_f_W_would_37 (rf_m0 _) (rf_s_iret rf_f_W_would_39)) (rf_s_aload_n rf_f_W_would_19 rfl (rf_m0 _) (rf_s_getAS rf_f_W_would_20 (rf_m0 _) fun x2 => (rf_s_iload_n rf_f_W_would_23 rfl (rf_m0 _) (rf_s_aload_n rf_f_W_would_24 rfl (rf_m0 _) (rf_s_getAS rf_f_W_would_25 (rf_m0 _) fun x3 => (rf_s_invV0R rf_f_W_would_28 rfl rfl (rf_m0 _) fun k4 q6 x7 h5 => (rf_s_invV0R rf_f_W_would_31 rfl rfl (rf_m0 _) fun k8 q10 x11 h9 => (rf_s_goto rf_f_W_would_34 rfl (rf_m0 _) (rf_s_iret rf_f_W_would_39)))))))))))) (rf_s_iconst rf_f_W_would_10 (rf_m0 _) (rf_s_iret rf_f_W_would_11))))))) : rf_den (rf_call d) rf_m_W_would (0, [some (.inr (.inr (some o))), some (.inl a1)], [], h) = _)
noncomputable def rf_j_W_worst_7 (d : Nat) (o : Nat) (l1 : Int) (l2 : Int) (l3 : Int) (h : rf_H) : Option rf_R := rf_den (rf_call d) rf_m_W_worst (7, [some (.inr (.inr (some o))), some (.inl l1), some (.inl l2), some (.inl l3), none], [], h)
theorem rf_u_W_worst : rf_mt 86 = rf_m_W_worst := rfl
theorem rf_f_W_worst_0 : rf_Fb rf_m_W_worst 0 2 (.bipush (-9)) 0 0 0 0 [] [] = true := by decide +kernel
theorem rf_f_W_worst_2 : rf_Fb rf_m_W_worst 2 3 (.istore_n 1) 0 0 0 0 [] [] = true := by decide +kernel
theorem rf_f_W_worst_3 : rf_Fb rf_m_W_worst 3 4 (.iconst 0) 0 0 0 0 [] [] = true := by decide +kernel
theorem rf_f_W_worst_4 : rf_Fb rf_m_W_worst 4 5 (.istore_n 2) 0 0 0 0 [] [] = true := by decide +kernel
theorem rf_f_W_worst_5 : rf_Fb rf_m_W_worst 5 6 (.iconst 0) 0 0 0 0 [] [] = true := by decide +kernel
theorem rf_f_W_worst_6 : rf_Fb rf_m_W_worst 6 7 (.istore_n 3) 0 0 0 0 [] [true, true, true, true, false] = true := by decide +kernel
theorem rf_f_W_worst_7 : rf_Fb rf_m_W_worst 7 8 (.iload_n 3) 0 0 0 0 [] [] = true := by decide +kernel
theorem rf_f_W_worst_8 : rf_Fb rf_m_W_worst 8 9 (.aload_n 0) 0 0 0 0 [] [] = true := by decide +kernel
theorem rf_f_W_worst_9 : rf_Fb rf_m_W_worst 9 12 (.getfield 59) 4 10 2 0 [] [] = true := by decide +kernel
theorem rf_f_W_worst_12 : rf_Fb rf_m_W_worst 12 15 (.getfield 130) 3 6 0 0 [] [] = true := by decide +kernel
theorem rf_f_W_worst_15 : rf_Fb rf_m_W_worst 15 18 (.if_icmp .ge 64) 79 0 0 0 [] [] = true := by decide +kernel
theorem rf_f_W_worst_18 : rf_Fb rf_m_W_worst 18 19 (.aload_n 0) 0 0 0 0 [] [] = true := by decide +kernel
theorem rf_f_W_worst_19 : rf_Fb rf_m_W_worst 19 22 (.getfield 59) 4 10 2 0 [] [] = true := by decide +kernel
theorem rf_f_W_worst_22 : rf_Fb rf_m_W_worst 22 23 (.iload_n 3) 0 0 0 0 [] [] = true := by decide +kernel
theorem rf_f_W_worst_23 : rf_Fb rf_m_W_worst 23 24 (.iconst 1) 0 0 0 0 [] [] = true := by decide +kernel
theorem rf_f_W_worst_24 : rf_Fb rf_m_W_worst 24 25 (.iadd) 0 0 0 0 [] [] = true := by decide +kernel
theorem rf_f_W_worst_25 : rf_Fb rf_m_W_worst 25 28 (.invokevirtual 189) 43 1 0 3 [] [] = true := by decide +kernel
theorem rf_f_W_worst_28 : rf_Fb rf_m_W_worst 28 31 (.invokestatic 153) 74 1 0 0 [] [] = true := by decide +kernel
theorem rf_f_W_worst_31 : rf_Fb rf_m_W_worst 31 33 (.istore 4) 0 0 0 0 [] [] = true := by decide +kernel
theorem rf_f_W_worst_33 : rf_Fb rf_m_W_worst 33 35 (.iload 4) 0 0 0 0 [] [] = true := by decide +kernel
theorem rf_f_W_worst_35 : rf_Fb rf_m_W_worst 35 37 (.bipush (-9)) 0 0 0 0 [] [] = true := by decide +kernel
theorem rf_f_W_worst_37 : rf_Fb rf_m_W_worst 37 40 (.if_icmp .eq 36) 73 0 0 0 [] [] = true := by decide +kernel
theorem rf_f_W_worst_40 : rf_Fb rf_m_W_worst 40 41 (.iload_n 1) 0 0 0 0 [] [] = true := by decide +kernel
theorem rf_f_W_worst_41 : rf_Fb rf_m_W_worst 41 43 (.bipush (-9)) 0 0 0 0 [] [] = true := by decide +kernel
theorem rf_f_W_worst_43 : rf_Fb rf_m_W_worst 43 46 (.if_icmp .eq 17) 60 0 0 0 [] [] = true := by decide +kernel
theorem rf_f_W_worst_46 : rf_Fb rf_m_W_worst 46 47 (.aload_n 0) 0 0 0 0 [] [] = true := by decide +kernel
theorem rf_f_W_worst_47 : rf_Fb rf_m_W_worst 47 50 (.getfield 59) 4 10 2 0 [] [] = true := by decide +kernel
theorem rf_f_W_worst_50 : rf_Fb rf_m_W_worst 50 51 (.iload_n 3) 0 0 0 0 [] [] = true := by decide +kernel
theorem rf_f_W_worst_51 : rf_Fb rf_m_W_worst 51 53 (.iload 4) 0 0 0 0 [] [] = true := by decide +kernel
theorem rf_f_W_worst_53 : rf_Fb rf_m_W_worst 53 56 (.invokevirtual 203) 44 2 0 3 [] [] = true := by decide +kernel
theorem rf_f_W_worst_56 : rf_Fb rf_m_W_worst 56 57 (.iload_n 2) 0 0 0 0 [] [] = true := by decide +kernel
theorem rf_f_W_worst_57 : rf_Fb rf_m_W_worst 57 60 (.if_icmp .le 16) 73 0 0 0 [] [] = true := by decide +kernel
theorem rf_f_W_worst_60 : rf_Fb rf_m_W_worst 60 61 (.iload_n 3) 0 0 0 0 [] [] = true := by decide +kernel
theorem rf_f_W_worst_61 : rf_Fb rf_m_W_worst 61 62 (.istore_n 1) 0 0 0 0 [] [] = true := by decide +kernel
theorem rf_f_W_worst_62 : rf_Fb rf_m_W_worst 62 63 (.aload_n 0) 0 0 0 0 [] [] = true := by decide +kernel
theorem rf_f_W_worst_63 : rf_Fb rf_m_W_worst 63 66 (.getfield 59) 4 10 2 0 [] [] = true := by decide +kernel
theorem rf_f_W_worst_66 : rf_Fb rf_m_W_worst 66 67 (.iload_n 3) 0 0 0 0 [] [] = true := by decide +kernel
theorem rf_f_W_worst_67 : rf_Fb rf_m_W_worst 67 69 (.iload 4) 0 0 0 0 [] [] = true := by decide +kernel
theorem rf_f_W_worst_69 : rf_Fb rf_m_W_worst 69 72 (.invokevirtual 203) 44 2 0 3 [] [] = true := by decide +kernel
theorem rf_f_W_worst_72 : rf_Fb rf_m_W_worst 72 73 (.istore_n 2) 0 0 0 0 [] [] = true := by decide +kernel
theorem rf_f_W_worst_73 : rf_Fb rf_m_W_worst 73 76 (.iinc 3 1) 0 0 0 0 [] [] = true := by decide +kernel
theorem rf_f_W_worst_76 : rf_Fb rf_m_W_worst 76 79 (.goto (-69)) 7 0 0 0 [] [] = true := by decide +kernel
theorem rf_f_W_worst_79 : rf_Fb rf_m_W_worst 79 80 (.iload_n 1) 0 0 0 0 [] [] = true := by decide +kernel
theorem rf_f_W_worst_80 : rf_Fb rf_m_W_worst 80 82 (.bipush (-9)) 0 0 0 0 [] [] = true := by decide +kernel
theorem rf_f_W_worst_82 : rf_Fb rf_m_W_worst 82 85 (.if_icmp .ne 8) 90 0 0 0 [] [] = true := by decide +kernel
theorem rf_f_W_worst_85 : rf_Fb rf_m_W_worst 85 87 (.bipush (-9)) 0 0 0 0 [] [] = true := by decide +kernel
theorem rf_f_W_worst_87 : rf_Fb rf_m_W_worst 87 90 (.goto 12) 99 0 0 0 [] [] = true := by decide +kernel
theorem rf_f_W_worst_90 : rf_Fb rf_m_W_worst 90 91 (.aload_n 0) 0 0 0 0 [] [] = true := by decide +kernel
theorem rf_f_W_worst_91 : rf_Fb rf_m_W_worst 91 92 (.iload_n 2) 0 0 0 0 [] [] = true := by decide +kernel
theorem rf_f_W_worst_92 : rf_Fb rf_m_W_worst 92 94 (.bipush 100) 0 0 0 0 [] [] = true := by decide +kernel
theorem rf_f_W_worst_94 : rf_Fb rf_m_W_worst 94 95 (.iadd) 0 0 0 0 [] [] = true := by decide +kernel
theorem rf_f_W_worst_95 : rf_Fb rf_m_W_worst 95 96 (.iload_n 1) 0 0 0 0 [] [] = true := by decide +kernel
theorem rf_f_W_worst_96 : rf_Fb rf_m_W_worst 96 99 (.invokevirtual 93) 60 2 0 4 [] [] = true := by decide +kernel
theorem rf_f_W_worst_99 : rf_Fb rf_m_W_worst 99 100 (.ireturn) 0 0 0 0 [] [] = true := by decide +kernel
set_option maxRecDepth 20000 in
set_option maxHeartbeats 2000000 in
theorem rf_e_W_worst (d : Nat) (o : Nat) (h : rf_H) : rf_call (d + 1) 86 [.inr (.inr (some o))] h = rf_j_W_worst_7 d o (-9) 0 0 h := by
  show rf_den (rf_call d) (rf_mt 86) _ = _
  rw [rf_u_W_worst]
  exact ((rf_s_bipush rf_f_W_worst_0 (rf_m0 _) (rf_s_istore_n (L' := [some (.inr (.inr (some o))), some (.inl (-9)), none, none, none]) rf_f_W_worst_2 rfl (rf_s_iconst rf_f_W_worst_3 (rf_m0 _) (rf_s_istore_n (L' := [some (.inr (.inr (some o))), some (.inl (-9)), some (.inl 0), none, none]) rf_f_W_worst_4 rfl (rf_s_iconst rf_f_W_worst_5 (rf_m0 _) (rf_s_istore_n rf_f_W_worst_6 rfl rfl)))))) : rf_den (rf_call d) rf_m_W_worst (0, [some (.inr (.inr (some o))), none, none, none, none], [], h) = _)
set_option maxRecDepth 20000 in
set_option maxHeartbeats 2000000 in
theorem rf_e_W_worst_7 (d : Nat) (o : Nat) (l1 : Int) (l2 : Int) (l3 : Int) (h : rf_H) : rf_j_W_worst_7 d o l1 l2 l3 h = ((rf_gR h 4 o 10).bind fun x1 => (rf_nn x1 fun k2 => ((rf_gI h 3 k2 6).bind fun x3 => (if l3 < x3 then ((rf_gR h 4 o 10).bind fun x7 => (rf_nn x7 fun k8 => (bif rf_isO h.1 k8 3 then ((rf_call d 43 [.inr (.inr (some k8)), .inl (rf_w (l3 + 1))] h).bind fun q10 => rf_kI q10 fun x11 h9 => ((rf_call d 74 [.inl x11] h9).bind fun q13 => rf_kI q13 fun x14 h12 => (if x14 = (-9) then rf_j_W_worst_7 d o l1 l2 (rf_w (l3 + 1)) h12 else (if l1 = (-9) then ((rf_gR h12 4 o 10).bind fun x15 => (rf_nn x15 fun k16 => (bif rf_isO h12.1 k16 3 then ((rf_call d 44 [.inr (.inr (some k16)), .inl l3, .inl x14] h12).bind fun q18 => rf_kI q18 fun x19 h17 => rf_j_W_worst_7 d o l3 x19 (rf_w (l3 + 1)) h17) else none))) else ((rf_gR h12 4 o 10).bind fun x20 => (rf_nn x20 fun k21 => (bif rf_isO h12.1 k21 3 then ((rf_call d 44 [.inr (.inr (some k21)), .inl l3, .inl x14] h12).bind fun q23 => rf_kI q23 fun x24 h22 => (if l2 < x24 then ((rf_gR h22 4 o 10).bind fun x25 => (rf_nn x25 fun k26 => (bif rf_isO h22.1 k26 3 then ((rf_call d 44 [.inr (.inr (some k26)), .inl l3, .inl x14] h22).bind fun q28 => rf_kI q28 fun x29 h27 => rf_j_W_worst_7 d o l3 x29 (rf_w (l3 + 1)) h27) else none))) else rf_j_W_worst_7 d o l1 l2 (rf_w (l3 + 1)) h22)) else none))))))) else none))) else (if l1 = (-9) then some (some (.inl (-9)), h) else (bif rf_isO h.1 o 4 then ((rf_call d 60 [.inr (.inr (some o)), .inl (rf_w (l2 + 100)), .inl l1] h).bind fun q5 => rf_kI q5 fun x6 h4 => some (some (.inl x6), h4)) else none)))))) :=
  ((rf_s_iload_n rf_f_W_worst_7 rfl (rf_m0 _) (rf_s_aload_n rf_f_W_worst_8 rfl (rf_m0 _) (rf_s_getAS rf_f_W_worst_9 (rf_m0 _) fun x1 => (rf_s_getIR rf_f_W_worst_12 (rf_m0 _) fun k2 x3 => (rf_s_icmp_ge rf_f_W_worst_15 rfl (rf_m0 _) (rf_m0 _) (rf_s_iload_n rf_f_W_worst_79 rfl (rf_m0 _) (rf_s_bipush rf_f_W_worst_80 (rf_m0 _) (rf_s_icmp_ne rf_f_W_worst_82 rfl (rf_m0 _) (rf_m0 _) (rf_s_aload_n rf_f_W_worst_90 rfl (rf_m0 _) (rf_s_iload_n rf_f_W_worst_91 rfl (rf_m0 _) (rf_s_bipush rf_f_W_worst_92 (rf_m0 _) (rf_s_iadd rf_f_W_worst_94 (rf_m0 _) (rf_s_iload_n rf_f_W_worst_95 rfl (rf_m0 _) (rf_s_invV0S rf_f_W_worst_96 rfl rfl (rf_m0 _) fun q5 x6 h4 => (rf_s_iret rf_f_W_worst_99))))))) (rf_s_bipush rf_f_W_worst_85 (rf_m0 _) (rf_s_goto rf_f_W_worst_87 rfl (rf_m0 _) (rf_s_iret rf_f_W_worst_99)))))) (rf_s_aload_n rf_f_W_worst_18 rfl (rf_m0 _) (rf_s_getAS rf_f_W_worst_19 (rf_m0 _) fun x7 => (rf_s_iload_n rf_f_W_worst_22 rfl (rf_m0 _) (rf_s_iconst rf_f_W_worst_23 (rf_m0 _) (rf_s_iadd rf_f_W_worst_24 (rf_m0 _) (rf_s_invV0R rf_f_W_worst_25 rfl rfl (rf_m0 _) fun k8 q10 x11 h9 => (rf_s_invS0 rf_f_W_worst_28 rfl rfl (rf_m0 _) fun q13 x14 h12 => (rf_s_istore (L' := [some (.inr (.inr (some o))), some (.inl l1), some (.inl l2), some (.inl l3), some (.inl x14)]) rf_f_W_worst_31 rfl (rf_s_iload rf_f_W_worst_33 rfl (rf_m0 _) (rf_s_bipush rf_f_W_worst_35 (rf_m0 _) (rf_s_icmp_eq rf_f_W_worst_37 rfl (rf_m0 _) (rf_m0 _) (rf_s_iinc (L' := [some (.inr (.inr (some o))), some (.inl l1), some (.inl l2), some (.inl (rf_w (l3 + 1))), some (.inl x14)]) rf_f_W_worst_73 rfl rfl (rf_s_goto rf_f_W_worst_76 rfl rfl rfl)) (rf_s_iload_n rf_f_W_worst_40 rfl (rf_m0 _) (rf_s_bipush rf_f_W_worst_41 (rf_m0 _) (rf_s_icmp_eq rf_f_W_worst_43 rfl (rf_m0 _) (rf_m0 _) (rf_s_iload_n rf_f_W_worst_60 rfl (rf_m0 _) (rf_s_istore_n (L' := [some (.inr (.inr (some o))), some (.inl l3), some (.inl l2), some (.inl l3), some (.inl x14)]) rf_f_W_worst_61 rfl (rf_s_aload_n rf_f_W_worst_62 rfl (rf_m0 _) (rf_s_getAS rf_f_W_worst_63 (rf_m0 _) fun x15 => (rf_s_iload_n rf_f_W_worst_66 rfl (rf_m0 _) (rf_s_iload rf_f_W_worst_67 rfl (rf_m0 _) (rf_s_invV0R rf_f_W_worst_69 rfl rfl (rf_m0 _) fun k16 q18 x19 h17 => (rf_s_istore_n (L' := [some (.inr (.inr (some o))), some (.inl l3), some (.inl x19), some (.inl l3), some (.inl x14)]) rf_f_W_worst_72 rfl (rf_s_iinc (L' := [some (.inr (.inr (some o))), some (.inl l3), some (.inl x19), some (.inl (rf_w (l3 + 1))), some (.inl x14)]) rf_f_W_worst_73 rfl rfl (rf_s_goto rf_f_W_worst_76 rfl rfl rfl)))))))))) (rf_s_aload_n rf_f_W_worst_46 rfl (rf_m0 _) (rf_s_getAS rf_f_W_worst_47 (rf_m0 _) fun x20 => (rf_s_iload_n rf_f_W_worst_50 rfl (rf_m0 _) (rf_s_iload rf_f_W_worst_51 rfl (rf_m0 _) (rf_s_invV0R rf_f_W_worst_53 rfl rfl (rf_m0 _) fun k21 q23 x24 h22 => (rf_s_iload_n rf_f_W_worst_56 rfl (rf_m0 _) (rf_s_icmp_le rf_f_W_worst_57 rfl (rf_m0 _) (rf_m0 _) (rf_s_iinc (L' := [some (.inr (.inr (some o))), some (.inl l1), some (.inl l2), some (.inl (rf_w (l3 + 1))), some (.inl x14)]) rf_f_W_worst_73 rfl rfl (rf_s_goto rf_f_W_worst_76 rfl rfl rfl)) (rf_s_iload_n rf_f_W_worst_60 rfl (rf_m0 _) (rf_s_istore_n (L' := [some (.inr (.inr (some o))), some (.inl l3), some (.inl l2), some (.inl l3), some (.inl x14)]) rf_f_W_worst_61 rfl (rf_s_aload_n rf_f_W_worst_62 rfl (rf_m0 _) (rf_s_getAS rf_f_W_worst_63 (rf_m0 _) fun x25 => (rf_s_iload_n rf_f_W_worst_66 rfl (rf_m0 _) (rf_s_iload rf_f_W_worst_67 rfl (rf_m0 _) (rf_s_invV0R rf_f_W_worst_69 rfl rfl (rf_m0 _) fun k26 q28 x29 h27 => (rf_s_istore_n (L' := [some (.inr (.inr (some o))), some (.inl l3), some (.inl x29), some (.inl l3), some (.inl x14)]) rf_f_W_worst_72 rfl (rf_s_iinc (L' := [some (.inr (.inr (some o))), some (.inl l3), some (.inl x29), some (.inl (rf_w (l3 + 1))), some (.inl x14)]) rf_f_W_worst_73 rfl rfl (rf_s_goto rf_f_W_worst_76 rfl rfl rfl)))))))))))))))))))))))))))))))))))) : rf_den (rf_call d) rf_m_W_worst (7, [some (.inr (.inr (some o))), some (.inl l1), some (.inl l2), some (.inl l3), none], [], h) = _)
noncomputable def rf_j_W_run_37 (d : Nat) (o : Nat) (l2 : Option Nat) (l4 : Int) (h : rf_H) : Option rf_R := rf_den (rf_call d) rf_m_W_run (37, [some (.inr (.inr (some o))), none, some (.inr (.inr l2)), none, some (.inl l4), none], [], h)
theorem rf_u_W_run : rf_mt 87 = rf_m_W_run := rfl
theorem rf_f_W_run_0 : rf_Fb rf_m_W_run 0 1 (.aload_n 0) 0 0 0 0 [] [] = true := by decide +kernel
theorem rf_f_W_run_1 : rf_Fb rf_m_W_run 1 4 (.getfield 11) 4 0 2 0 [] [] = true := by decide +kernel
theorem rf_f_W_run_4 : rf_Fb rf_m_W_run 4 5 (.iload_n 1) 0 0 0 0 [] [] = true := by decide +kernel
theorem rf_f_W_run_5 : rf_Fb rf_m_W_run 5 8 (.invokestatic 74) 55 2 2 0 [] [] = true := by decide +kernel
theorem rf_f_W_run_8 : rf_Fb rf_m_W_run 8 9 (.astore_n 2) 0 0 0 0 [] [] = true := by decide +kernel
theorem rf_f_W_run_9 : rf_Fb rf_m_W_run 9 10 (.aload_n 2) 0 0 0 0 [] [] = true := by decide +kernel
theorem rf_f_W_run_10 : rf_Fb rf_m_W_run 10 13 (.ifnonnull 5) 15 0 0 0 [] [] = true := by decide +kernel
theorem rf_f_W_run_13 : rf_Fb rf_m_W_run 13 14 (.iconst (-1)) 0 0 0 0 [] [] = true := by decide +kernel
theorem rf_f_W_run_14 : rf_Fb rf_m_W_run 14 15 (.ireturn) 0 0 0 0 [] [] = true := by decide +kernel
theorem rf_f_W_run_15 : rf_Fb rf_m_W_run 15 16 (.aload_n 0) 0 0 0 0 [] [] = true := by decide +kernel
theorem rf_f_W_run_16 : rf_Fb rf_m_W_run 16 17 (.aload_n 2) 0 0 0 0 [] [] = true := by decide +kernel
theorem rf_f_W_run_17 : rf_Fb rf_m_W_run 17 19 (.bipush 12) 0 0 0 0 [] [] = true := by decide +kernel
theorem rf_f_W_run_19 : rf_Fb rf_m_W_run 19 22 (.invokevirtual 206) 88 2 0 4 [] [] = true := by decide +kernel
theorem rf_f_W_run_22 : rf_Fb rf_m_W_run 22 23 (.istore_n 3) 0 0 0 0 [] [] = true := by decide +kernel
theorem rf_f_W_run_23 : rf_Fb rf_m_W_run 23 24 (.iload_n 3) 0 0 0 0 [] [] = true := by decide +kernel
theorem rf_f_W_run_24 : rf_Fb rf_m_W_run 24 27 (.ifCond .eq 5) 29 0 0 0 [] [] = true := by decide +kernel
theorem rf_f_W_run_27 : rf_Fb rf_m_W_run 27 28 (.iload_n 3) 0 0 0 0 [] [] = true := by decide +kernel
theorem rf_f_W_run_28 : rf_Fb rf_m_W_run 28 29 (.ireturn) 0 0 0 0 [] [] = true := by decide +kernel
theorem rf_f_W_run_29 : rf_Fb rf_m_W_run 29 30 (.aload_n 0) 0 0 0 0 [] [] = true := by decide +kernel
theorem rf_f_W_run_30 : rf_Fb rf_m_W_run 30 31 (.iconst 0) 0 0 0 0 [] [] = true := by decide +kernel
theorem rf_f_W_run_31 : rf_Fb rf_m_W_run 31 34 (.invokevirtual 209) 89 1 3 4 [] [] = true := by decide +kernel
theorem rf_f_W_run_34 : rf_Fb rf_m_W_run 34 35 (.iconst 0) 0 0 0 0 [] [] = true := by decide +kernel
theorem rf_f_W_run_35 : rf_Fb rf_m_W_run 35 37 (.istore 4) 0 0 0 0 [] [true, false, true, false, true, false] = true := by decide +kernel
theorem rf_f_W_run_37 : rf_Fb rf_m_W_run 37 39 (.iload 4) 0 0 0 0 [] [] = true := by decide +kernel
theorem rf_f_W_run_39 : rf_Fb rf_m_W_run 39 40 (.aload_n 2) 0 0 0 0 [] [] = true := by decide +kernel
theorem rf_f_W_run_40 : rf_Fb rf_m_W_run 40 43 (.getfield 111) 2 1 0 0 [] [] = true := by decide +kernel
theorem rf_f_W_run_43 : rf_Fb rf_m_W_run 43 46 (.if_icmp .ge 46) 89 0 0 0 [] [] = true := by decide +kernel
theorem rf_f_W_run_46 : rf_Fb rf_m_W_run 46 47 (.aload_n 2) 0 0 0 0 [] [] = true := by decide +kernel
theorem rf_f_W_run_47 : rf_Fb rf_m_W_run 47 49 (.iload 4) 0 0 0 0 [] [] = true := by decide +kernel
theorem rf_f_W_run_49 : rf_Fb rf_m_W_run 49 52 (.invokevirtual 86) 4 1 0 2 [] [] = true := by decide +kernel
theorem rf_f_W_run_52 : rf_Fb rf_m_W_run 52 54 (.istore 5) 0 0 0 0 [] [] = true := by decide +kernel
theorem rf_f_W_run_54 : rf_Fb rf_m_W_run 54 55 (.aload_n 0) 0 0 0 0 [] [] = true := by decide +kernel
theorem rf_f_W_run_55 : rf_Fb rf_m_W_run 55 58 (.getfield 71) 4 11 2 0 [] [] = true := by decide +kernel
theorem rf_f_W_run_58 : rf_Fb rf_m_W_run 58 60 (.iload 5) 0 0 0 0 [] [] = true := by decide +kernel
theorem rf_f_W_run_60 : rf_Fb rf_m_W_run 60 63 (.invokevirtual 165) 47 1 0 3 [] [] = true := by decide +kernel
theorem rf_f_W_run_63 : rf_Fb rf_m_W_run 63 66 (.ifCond .eq 20) 83 0 0 0 [] [] = true := by decide +kernel
theorem rf_f_W_run_66 : rf_Fb rf_m_W_run 66 67 (.aload_n 0) 0 0 0 0 [] [] = true := by decide +kernel
theorem rf_f_W_run_67 : rf_Fb rf_m_W_run 67 70 (.getfield 71) 4 11 2 0 [] [] = true := by decide +kernel
theorem rf_f_W_run_70 : rf_Fb rf_m_W_run 70 72 (.iload 5) 0 0 0 0 [] [] = true := by decide +kernel
theorem rf_f_W_run_72 : rf_Fb rf_m_W_run 72 73 (.aload_n 0) 0 0 0 0 [] [] = true := by decide +kernel
theorem rf_f_W_run_73 : rf_Fb rf_m_W_run 73 76 (.getfield 71) 4 11 2 0 [] [] = true := by decide +kernel
theorem rf_f_W_run_76 : rf_Fb rf_m_W_run 76 79 (.invokevirtual 179) 39 0 0 3 [] [] = true := by decide +kernel
theorem rf_f_W_run_79 : rf_Fb rf_m_W_run 79 82 (.invokevirtual 212) 40 2 0 3 [] [] = true := by decide +kernel
theorem rf_f_W_run_82 : rf_Fb rf_m_W_run 82 83 (.pop) 0 0 0 0 [] [] = true := by decide +kernel
theorem rf_f_W_run_83 : rf_Fb rf_m_W_run 83 86 (.iinc 4 1) 0 0 0 0 [] [] = true := by decide +kernel
theorem rf_f_W_run_86 : rf_Fb rf_m_W_run 86 89 (.goto (-49)) 37 0 0 0 [] [] = true := by decide +kernel
theorem rf_f_W_run_89 : rf_Fb rf_m_W_run 89 90 (.aload_n 0) 0 0 0 0 [] [] = true := by decide +kernel
theorem rf_f_W_run_90 : rf_Fb rf_m_W_run 90 91 (.aload_n 0) 0 0 0 0 [] [] = true := by decide +kernel
theorem rf_f_W_run_91 : rf_Fb rf_m_W_run 91 94 (.getfield 71) 4 11 2 0 [] [] = true := by decide +kernel
theorem rf_f_W_run_94 : rf_Fb rf_m_W_run 94 97 (.getfield 130) 3 6 0 0 [] [] = true := by decide +kernel
theorem rf_f_W_run_97 : rf_Fb rf_m_W_run 97 98 (.aload_n 0) 0 0 0 0 [] [] = true := by decide +kernel
theorem rf_f_W_run_98 : rf_Fb rf_m_W_run 98 101 (.getfield 71) 4 11 2 0 [] [] = true := by decide +kernel
theorem rf_f_W_run_101 : rf_Fb rf_m_W_run 101 104 (.getfield 215) 3 7 0 0 [] [] = true := by decide +kernel
theorem rf_f_W_run_104 : rf_Fb rf_m_W_run 104 107 (.invokevirtual 93) 60 2 0 4 [] [] = true := by decide +kernel
theorem rf_f_W_run_107 : rf_Fb rf_m_W_run 107 108 (.ireturn) 0 0 0 0 [] [] = true := by decide +kernel
set_option maxRecDepth 20000 in
set_option maxHeartbeats 2000000 in
theorem rf_e_W_run (d : Nat) (o : Nat) (a1 : Int) (h : rf_H) : rf_call (d + 1) 87 [.inr (.inr (some o)), .inl a1] h = ((rf_gR h 4 o 0).bind fun x1 => ((rf_call d 55 [.inr (.inr x1), .inl a1] h).bind fun q3 => rf_kR q3 fun x4 h2 => (rf_nz x4 (some (some (.inl (-1)), h2)) ((bif rf_isO h2.1 o 4 then ((rf_call d 88 [.inr (.inr (some o)), .inr (.inr x4), .inl 12] h2).bind fun q6 => rf_kI q6 fun x7 h5 => (if x7 = 0 then (bif rf_isO h5.1 o 4 then ((rf_call d 89 [.inr (.inr (some o)), .inl 0] h5).bind fun q9 => rf_kV q9 fun h8 => rf_j_W_run_37 d o x4 0 h8) else none) else some (some (.inl x7), h5))) else none))))) := by
  show rf_den (rf_call d) (rf_mt 87) _ = _
  rw [rf_u_W_run]
  exact ((rf_s_aload_n rf_f_W_run_0 rfl (rf_m0 _) (rf_s_getAS rf_f_W_run_1 (rf_m0 _) fun x1 => (rf_s_iload_n rf_f_W_run_4 rfl (rf_m0 _) (rf_s_invS2 rf_f_W_run_5 rfl rfl (rf_m0 _) fun q3 x4 h2 => (rf_s_astore_n (L' := [some (.inr (.inr (some o))), some (.inl a1), some (.inr (.inr x4)), none, none, none]) rf_f_W_run_8 rfl (rf_s_aload_n rf_f_W_run_9 rfl (rf_m0 _) (rf_s_ifnonnull rf_f_W_run_10 rfl (rf_m0 _) (rf_m0 _) (rf_s_aload_n rf_f_W_run_15 rfl (rf_m0 _) (rf_s_aload_n rf_f_W_run_16 rfl (rf_m0 _) (rf_s_bipush rf_f_W_run_17 (rf_m0 _) (rf_s_invV0S rf_f_W_run_19 rfl rfl (rf_m0 _) fun q6 x7 h5 => (rf_s_istore_n (L' := [some (.inr (.inr (some o))), some (.inl a1), some (.inr (.inr x4)), some (.inl x7), none, none]) rf_f_W_run_22 rfl (rf_s_iload_n rf_f_W_run_23 rfl (rf_m0 _) (rf_s_if_eq rf_f_W_run_24 rfl (rf_m0 _) (rf_m0 _) (rf_s_aload_n rf_f_W_run_29 rfl (rf_m0 _) (rf_s_iconst rf_f_W_run_30 (rf_m0 _) (rf_s_invV3S rf_f_W_run_31 rfl rfl (rf_m0 _) fun q9 h8 => (rf_s_iconst rf_f_W_run_34 (rf_m0 _) (rf_s_istore rf_f_W_run_35 rfl rfl))))) (rf_s_iload_n rf_f_W_run_27 rfl (rf_m0 _) (rf_s_iret rf_f_W_run_28))))))))) (rf_s_iconst rf_f_W_run_13 (rf_m0 _) (rf_s_iret rf_f_W_run_14))))))))) : rf_den (rf_call d) rf_m_W_run (0, [some (.inr (.inr (some o))), some (.inl a1), none, none, none, none], [], h) = _)
set_option maxRecDepth 20000 in
set_option maxHeartbeats 2000000 in
theorem rf_e_W_run_37 (d : Nat) (o : Nat) (l2 : Option Nat) (l4 : Int) (h : rf_H) : rf_j_W_run_37 d o l2 l4 h = (rf_nn l2 fun k1 => ((rf_gI h 2 k1 1).bind fun x2 => (if l4 < x2 then (rf_nn l2 fun k12 => (bif rf_isO h.1 k12 2 then ((rf_call d 4 [.inr (.inr (some k12)), .inl l4] h).bind fun q14 => rf_kI q14 fun x15 h13 => ((rf_gR h13 4 o 11).bind fun x16 => (rf_nn x16 fun k17 => (bif rf_isO h13.1 k17 3 then ((rf_call d 47 [.inr (.inr (some k17)), .inl x15] h13).bind fun q19 => rf_kI q19 fun x20 h18 => (if x20 = 0 then rf_j_W_run_37 d o l2 (rf_w (l4 + 1)) h18 else ((rf_gR h18 4 o 11).bind fun x21 => ((rf_gR h18 4 o 11).bind fun x22 => (rf_nn x22 fun k23 => (bif rf_isO h18.1 k23 3 then ((rf_call d 39 [.inr (.inr (some k23))] h18).bind fun q25 => rf_kI q25 fun x26 h24 => (rf_nn x21 fun k27 => (bif rf_isO h24.1 k27 3 then ((rf_call d 40 [.inr (.inr (some k27)), .inl x15, .inl x26] h24).bind fun q29 => rf_kI q29 fun x30 h28 => rf_j_W_run_37 d o l2 (rf_w (l4 + 1)) h28) else none))) else none)))))) else none)))) else none)) else ((rf_gR h 4 o 11).bind fun x3 => (rf_nn x3 fun k4 => ((rf_gI h 3 k4 6).bind fun x5 => ((rf_gR h 4 o 11).bind fun x6 => (rf_nn x6 fun k7 => ((rf_gI h 3 k7 7).bind fun x8 => (bif rf_isO h.1 o 4 then ((rf_call d 60 [.inr (.inr (some o)), .inl x5, .inl x8] h).bind fun q10 => rf_kI q10 fun x11 h9 => some (some (.inl x11), h9)) else none)))))))))) :=
  ((rf_s_iload rf_f_W_run_37 rfl (rf_m0 _) (rf_s_aload_n rf_f_W_run_39 rfl (rf_m0 _) (rf_s_getIR rf_f_W_run_40 (rf_m0 _) fun k1 x2 => (rf_s_icmp_ge rf_f_W_run_43 rfl (rf_m0 _) (rf_m0 _) (rf_s_aload_n rf_f_W_run_89 rfl (rf_m0 _) (rf_s_aload_n rf_f_W_run_90 rfl (rf_m0 _) (rf_s_getAS rf_f_W_run_91 (rf_m0 _) fun x3 => (rf_s_getIR rf_f_W_run_94 (rf_m0 _) fun k4 x5 => (rf_s_aload_n rf_f_W_run_97 rfl (rf_m0 _) (rf_s_getAS rf_f_W_run_98 (rf_m0 _) fun x6 => (rf_s_getIR rf_f_W_run_101 (rf_m0 _) fun k7 x8 => (rf_s_invV0S rf_f_W_run_104 rfl rfl (rf_m0 _) fun q10 x11 h9 => (rf_s_iret rf_f_W_run_107))))))))) (rf_s_aload_n rf_f_W_run_46 rfl (rf_m0 _) (rf_s_iload rf_f_W_run_47 rfl (rf_m0 _) (rf_s_invV0R rf_f_W_run_49 rfl rfl (rf_m0 _) fun k12 q14 x15 h13 => (rf_s_istore (L' := [some (.inr (.inr (some o))), none, some (.inr (.inr l2)), none, some (.inl l4), some (.inl x15)]) rf_f_W_run_52 rfl (rf_s_aload_n rf_f_W_run_54 rfl (rf_m0 _) (rf_s_getAS rf_f_W_run_55 (rf_m0 _) fun x16 => (rf_s_iload rf_f_W_run_58 rfl (rf_m0 _) (rf_s_invV0R rf_f_W_run_60 rfl rfl (rf_m0 _) fun k17 q19 x20 h18 => (rf_s_if_eq rf_f_W_run_63 rfl (rf_m0 _) (rf_m0 _) (rf_s_iinc (L' := [some (.inr (.inr (some o))), none, some (.inr (.inr l2)), none, some (.inl (rf_w (l4 + 1))), some (.inl x15)]) rf_f_W_run_83 rfl rfl (rf_s_goto rf_f_W_run_86 rfl rfl rfl)) (rf_s_aload_n rf_f_W_run_66 rfl (rf_m0 _) (rf_s_getAS rf_f_W_run_67 (rf_m0 _) fun x21 => (rf_s_iload rf_f_W_run_70 rfl (rf_m0 _) (rf_s_aload_n rf_f_W_run_72 rfl (rf_m0 _) (rf_s_getAS rf_f_W_run_73 (rf_m0 _) fun x22 => (rf_s_invV0R rf_f_W_run_76 rfl rfl (rf_m0 _) fun k23 q25 x26 h24 => (rf_s_invV0R rf_f_W_run_79 rfl rfl (rf_m0 _) fun k27 q29 x30 h28 => (rf_s_popI rf_f_W_run_82 (rf_m0 _) (rf_s_iinc (L' := [some (.inr (.inr (some o))), none, some (.inr (.inr l2)), none, some (.inl (rf_w (l4 + 1))), some (.inl x15)]) rf_f_W_run_83 rfl rfl (rf_s_goto rf_f_W_run_86 rfl rfl rfl))))))))))))))))))))))) : rf_den (rf_call d) rf_m_W_run (37, [some (.inr (.inr (some o))), none, some (.inr (.inr l2)), none, some (.inl l4), none], [], h) = _)
noncomputable def rf_j_W_refusedPlan_39 (d : Nat) (o : Nat) (l1 : Option Nat) (l3 : Int) (h : rf_H) : Option rf_R := rf_den (rf_call d) rf_m_W_refusedPlan (39, [some (.inr (.inr (some o))), some (.inr (.inr l1)), none, some (.inl l3)], [], h)
theorem rf_u_W_refusedPlan : rf_mt 88 = rf_m_W_refusedPlan := rfl
theorem rf_f_W_refusedPlan_0 : rf_Fb rf_m_W_refusedPlan 0 1 (.aload_n 0) 0 0 0 0 [] [] = true := by decide +kernel
theorem rf_f_W_refusedPlan_1 : rf_Fb rf_m_W_refusedPlan 1 4 (.getfield 123) 4 12 0 0 [] [] = true := by decide +kernel
theorem rf_f_W_refusedPlan_4 : rf_Fb rf_m_W_refusedPlan 4 7 (.ifCond .ne 6) 10 0 0 0 [] [] = true := by decide +kernel
theorem rf_f_W_refusedPlan_7 : rf_Fb rf_m_W_refusedPlan 7 9 (.bipush (-4)) 0 0 0 0 [] [] = true := by decide +kernel
theorem rf_f_W_refusedPlan_9 : rf_Fb rf_m_W_refusedPlan 9 10 (.ireturn) 0 0 0 0 [] [] = true := by decide +kernel
theorem rf_f_W_refusedPlan_10 : rf_Fb rf_m_W_refusedPlan 10 11 (.aload_n 1) 0 0 0 0 [] [] = true := by decide +kernel
theorem rf_f_W_refusedPlan_11 : rf_Fb rf_m_W_refusedPlan 11 14 (.invokevirtual 97) 5 0 0 2 [] [] = true := by decide +kernel
theorem rf_f_W_refusedPlan_14 : rf_Fb rf_m_W_refusedPlan 14 17 (.ifCond .ne 9) 23 0 0 0 [] [] = true := by decide +kernel
theorem rf_f_W_refusedPlan_17 : rf_Fb rf_m_W_refusedPlan 17 18 (.aload_n 0) 0 0 0 0 [] [] = true := by decide +kernel
theorem rf_f_W_refusedPlan_18 : rf_Fb rf_m_W_refusedPlan 18 19 (.iconst 1) 0 0 0 0 [] [] = true := by decide +kernel
theorem rf_f_W_refusedPlan_19 : rf_Fb rf_m_W_refusedPlan 19 22 (.invokevirtual 101) 57 1 0 4 [] [] = true := by decide +kernel
theorem rf_f_W_refusedPlan_22 : rf_Fb rf_m_W_refusedPlan 22 23 (.ireturn) 0 0 0 0 [] [] = true := by decide +kernel
theorem rf_f_W_refusedPlan_23 : rf_Fb rf_m_W_refusedPlan 23 24 (.aload_n 1) 0 0 0 0 [] [] = true := by decide +kernel
theorem rf_f_W_refusedPlan_24 : rf_Fb rf_m_W_refusedPlan 24 27 (.getfield 111) 2 1 0 0 [] [] = true := by decide +kernel
theorem rf_f_W_refusedPlan_27 : rf_Fb rf_m_W_refusedPlan 27 28 (.iload_n 2) 0 0 0 0 [] [] = true := by decide +kernel
theorem rf_f_W_refusedPlan_28 : rf_Fb rf_m_W_refusedPlan 28 31 (.if_icmp .le 9) 37 0 0 0 [] [] = true := by decide +kernel
theorem rf_f_W_refusedPlan_31 : rf_Fb rf_m_W_refusedPlan 31 32 (.aload_n 0) 0 0 0 0 [] [] = true := by decide +kernel
theorem rf_f_W_refusedPlan_32 : rf_Fb rf_m_W_refusedPlan 32 33 (.iconst 5) 0 0 0 0 [] [] = true := by decide +kernel
theorem rf_f_W_refusedPlan_33 : rf_Fb rf_m_W_refusedPlan 33 36 (.invokevirtual 101) 57 1 0 4 [] [] = true := by decide +kernel
theorem rf_f_W_refusedPlan_36 : rf_Fb rf_m_W_refusedPlan 36 37 (.ireturn) 0 0 0 0 [] [] = true := by decide +kernel
theorem rf_f_W_refusedPlan_37 : rf_Fb rf_m_W_refusedPlan 37 38 (.iconst 0) 0 0 0 0 [] [] = true := by decide +kernel
theorem rf_f_W_refusedPlan_38 : rf_Fb rf_m_W_refusedPlan 38 39 (.istore_n 3) 0 0 0 0 [] [true, true, false, true] = true := by decide +kernel
theorem rf_f_W_refusedPlan_39 : rf_Fb rf_m_W_refusedPlan 39 40 (.iload_n 3) 0 0 0 0 [] [] = true := by decide +kernel
theorem rf_f_W_refusedPlan_40 : rf_Fb rf_m_W_refusedPlan 40 41 (.aload_n 1) 0 0 0 0 [] [] = true := by decide +kernel
theorem rf_f_W_refusedPlan_41 : rf_Fb rf_m_W_refusedPlan 41 44 (.getfield 111) 2 1 0 0 [] [] = true := by decide +kernel
theorem rf_f_W_refusedPlan_44 : rf_Fb rf_m_W_refusedPlan 44 47 (.if_icmp .ge 33) 77 0 0 0 [] [] = true := by decide +kernel
theorem rf_f_W_refusedPlan_47 : rf_Fb rf_m_W_refusedPlan 47 48 (.aload_n 1) 0 0 0 0 [] [] = true := by decide +kernel
theorem rf_f_W_refusedPlan_48 : rf_Fb rf_m_W_refusedPlan 48 49 (.iload_n 3) 0 0 0 0 [] [] = true := by decide +kernel
theorem rf_f_W_refusedPlan_49 : rf_Fb rf_m_W_refusedPlan 49 52 (.invokevirtual 86) 4 1 0 2 [] [] = true := by decide +kernel
theorem rf_f_W_refusedPlan_52 : rf_Fb rf_m_W_refusedPlan 52 55 (.ifCond .lt 13) 65 0 0 0 [] [] = true := by decide +kernel
theorem rf_f_W_refusedPlan_55 : rf_Fb rf_m_W_refusedPlan 55 56 (.aload_n 1) 0 0 0 0 [] [] = true := by decide +kernel
theorem rf_f_W_refusedPlan_56 : rf_Fb rf_m_W_refusedPlan 56 57 (.iload_n 3) 0 0 0 0 [] [] = true := by decide +kernel
theorem rf_f_W_refusedPlan_57 : rf_Fb rf_m_W_refusedPlan 57 60 (.invokevirtual 86) 4 1 0 2 [] [] = true := by decide +kernel
theorem rf_f_W_refusedPlan_60 : rf_Fb rf_m_W_refusedPlan 60 62 (.bipush 15) 0 0 0 0 [] [] = true := by decide +kernel
theorem rf_f_W_refusedPlan_62 : rf_Fb rf_m_W_refusedPlan 62 65 (.if_icmp .lt 9) 71 0 0 0 [] [] = true := by decide +kernel
theorem rf_f_W_refusedPlan_65 : rf_Fb rf_m_W_refusedPlan 65 66 (.aload_n 0) 0 0 0 0 [] [] = true := by decide +kernel
theorem rf_f_W_refusedPlan_66 : rf_Fb rf_m_W_refusedPlan 66 67 (.iconst 3) 0 0 0 0 [] [] = true := by decide +kernel
theorem rf_f_W_refusedPlan_67 : rf_Fb rf_m_W_refusedPlan 67 70 (.invokevirtual 101) 57 1 0 4 [] [] = true := by decide +kernel
theorem rf_f_W_refusedPlan_70 : rf_Fb rf_m_W_refusedPlan 70 71 (.ireturn) 0 0 0 0 [] [] = true := by decide +kernel
theorem rf_f_W_refusedPlan_71 : rf_Fb rf_m_W_refusedPlan 71 74 (.iinc 3 1) 0 0 0 0 [] [] = true := by decide +kernel
theorem rf_f_W_refusedPlan_74 : rf_Fb rf_m_W_refusedPlan 74 77 (.goto (-35)) 39 0 0 0 [] [] = true := by decide +kernel
theorem rf_f_W_refusedPlan_77 : rf_Fb rf_m_W_refusedPlan 77 78 (.iconst 0) 0 0 0 0 [] [] = true := by decide +kernel
theorem rf_f_W_refusedPlan_78 : rf_Fb rf_m_W_refusedPlan 78 79 (.ireturn) 0 0 0 0 [] [] = true := by decide +kernel
set_option maxRecDepth 20000 in
set_option maxHeartbeats 2000000 in
theorem rf_e_W_refusedPlan (d : Nat) (o : Nat) (a1 : Option Nat) (a2 : Int) (h : rf_H) : rf_call (d + 1) 88 [.inr (.inr (some o)), .inr (.inr a1), .inl a2] h = ((rf_gI h 4 o 12).bind fun x1 => (if x1 = 0 then some (some (.inl (-4)), h) else (rf_nn a1 fun k2 => (bif rf_isO h.1 k2 2 then ((rf_call d 5 [.inr (.inr (some k2))] h).bind fun q4 => rf_kI q4 fun x5 h3 => (if x5 = 0 then (bif rf_isO h3.1 o 4 then ((rf_call d 57 [.inr (.inr (some o)), .inl 1] h3).bind fun q12 => rf_kI q12 fun x13 h11 => some (some (.inl x13), h11)) else none) else (rf_nn a1 fun k6 => ((rf_gI h3 2 k6 1).bind fun x7 => (if a2 < x7 then (bif rf_isO h3.1 o 4 then ((rf_call d 57 [.inr (.inr (some o)), .inl 5] h3).bind fun q9 => rf_kI q9 fun x10 h8 => some (some (.inl x10), h8)) else none) else rf_j_W_refusedPlan_39 d o a1 0 h3))))) else none)))) := by
  show rf_den (rf_call d) (rf_mt 88) _ = _
  rw [rf_u_W_refusedPlan]
  exact ((rf_s_aload_n rf_f_W_refusedPlan_0 rfl (rf_m0 _) (rf_s_getIS rf_f_W_refusedPlan_1 (rf_m0 _) fun x1 => (rf_s_if_ne rf_f_W_refusedPlan_4 rfl (rf_m0 _) (rf_m0 _) (rf_s_aload_n rf_f_W_refusedPlan_10 rfl (rf_m0 _) (rf_s_invV0R rf_f_W_refusedPlan_11 rfl rfl (rf_m0 _) fun k2 q4 x5 h3 => (rf_s_if_ne rf_f_W_refusedPlan_14 rfl (rf_m0 _) (rf_m0 _) (rf_s_aload_n rf_f_W_refusedPlan_23 rfl (rf_m0 _) (rf_s_getIR rf_f_W_refusedPlan_24 (rf_m0 _) fun k6 x7 => (rf_s_iload_n rf_f_W_refusedPlan_27 rfl (rf_m0 _) (rf_s_icmp_le rf_f_W_refusedPlan_28 rfl (rf_m0 _) (rf_m0 _) (rf_s_iconst rf_f_W_refusedPlan_37 (rf_m0 _) (rf_s_istore_n rf_f_W_refusedPlan_38 rfl rfl)) (rf_s_aload_n rf_f_W_refusedPlan_31 rfl (rf_m0 _) (rf_s_iconst rf_f_W_refusedPlan_32 (rf_m0 _) (rf_s_invV0S rf_f_W_refusedPlan_33 rfl rfl (rf_m0 _) fun q9 x10 h8 => (rf_s_iret rf_f_W_refusedPlan_36)))))))) (rf_s_aload_n rf_f_W_refusedPlan_17 rfl (rf_m0 _) (rf_s_iconst rf_f_W_refusedPlan_18 (rf_m0 _) (rf_s_invV0S rf_f_W_refusedPlan_19 rfl rfl (rf_m0 _) fun q12 x13 h11 => (rf_s_iret rf_f_W_refusedPlan_22))))))) (rf_s_bipush rf_f_W_refusedPlan_7 (rf_m0 _) (rf_s_iret rf_f_W_refusedPlan_9))))) : rf_den (rf_call d) rf_m_W_refusedPlan (0, [some (.inr (.inr (some o))), some (.inr (.inr a1)), some (.inl a2), none], [], h) = _)
set_option maxRecDepth 20000 in
set_option maxHeartbeats 2000000 in
theorem rf_e_W_refusedPlan_39 (d : Nat) (o : Nat) (l1 : Option Nat) (l3 : Int) (h : rf_H) : rf_j_W_refusedPlan_39 d o l1 l3 h = (rf_nn l1 fun k1 => ((rf_gI h 2 k1 1).bind fun x2 => (if l3 < x2 then (rf_nn l1 fun k3 => (bif rf_isO h.1 k3 2 then ((rf_call d 4 [.inr (.inr (some k3)), .inl l3] h).bind fun q5 => rf_kI q5 fun x6 h4 => (if x6 < 0 then (bif rf_isO h4.1 o 4 then ((rf_call d 57 [.inr (.inr (some o)), .inl 3] h4).bind fun q8 => rf_kI q8 fun x9 h7 => some (some (.inl x9), h7)) else none) else (rf_nn l1 fun k10 => (bif rf_isO h4.1 k10 2 then ((rf_call d 4 [.inr (.inr (some k10)), .inl l3] h4).bind fun q12 => rf_kI q12 fun x13 h11 => (if x13 < 15 then rf_j_W_refusedPlan_39 d o l1 (rf_w (l3 + 1)) h11 else (bif rf_isO h11.1 o 4 then ((rf_call d 57 [.inr (.inr (some o)), .inl 3] h11).bind fun q15 => rf_kI q15 fun x16 h14 => some (some (.inl x16), h14)) else none))) else none)))) else none)) else some (some (.inl 0), h)))) :=
  ((rf_s_iload_n rf_f_W_refusedPlan_39 rfl (rf_m0 _) (rf_s_aload_n rf_f_W_refusedPlan_40 rfl (rf_m0 _) (rf_s_getIR rf_f_W_refusedPlan_41 (rf_m0 _) fun k1 x2 => (rf_s_icmp_ge rf_f_W_refusedPlan_44 rfl (rf_m0 _) (rf_m0 _) (rf_s_iconst rf_f_W_refusedPlan_77 (rf_m0 _) (rf_s_iret rf_f_W_refusedPlan_78)) (rf_s_aload_n rf_f_W_refusedPlan_47 rfl (rf_m0 _) (rf_s_iload_n rf_f_W_refusedPlan_48 rfl (rf_m0 _) (rf_s_invV0R rf_f_W_refusedPlan_49 rfl rfl (rf_m0 _) fun k3 q5 x6 h4 => (rf_s_if_lt rf_f_W_refusedPlan_52 rfl (rf_m0 _) (rf_m0 _) (rf_s_aload_n rf_f_W_refusedPlan_65 rfl (rf_m0 _) (rf_s_iconst rf_f_W_refusedPlan_66 (rf_m0 _) (rf_s_invV0S rf_f_W_refusedPlan_67 rfl rfl (rf_m0 _) fun q8 x9 h7 => (rf_s_iret rf_f_W_refusedPlan_70)))) (rf_s_aload_n rf_f_W_refusedPlan_55 rfl (rf_m0 _) (rf_s_iload_n rf_f_W_refusedPlan_56 rfl (rf_m0 _) (rf_s_invV0R rf_f_W_refusedPlan_57 rfl rfl (rf_m0 _) fun k10 q12 x13 h11 => (rf_s_bipush rf_f_W_refusedPlan_60 (rf_m0 _) (rf_s_icmp_lt rf_f_W_refusedPlan_62 rfl (rf_m0 _) (rf_m0 _) (rf_s_iinc (L' := [some (.inr (.inr (some o))), some (.inr (.inr l1)), none, some (.inl (rf_w (l3 + 1)))]) rf_f_W_refusedPlan_71 rfl rfl (rf_s_goto rf_f_W_refusedPlan_74 rfl rfl rfl)) (rf_s_aload_n rf_f_W_refusedPlan_65 rfl (rf_m0 _) (rf_s_iconst rf_f_W_refusedPlan_66 (rf_m0 _) (rf_s_invV0S rf_f_W_refusedPlan_67 rfl rfl (rf_m0 _) fun q15 x16 h14 => (rf_s_iret rf_f_W_refusedPlan_70))))))))))))))))) : rf_den (rf_call d) rf_m_W_refusedPlan (39, [some (.inr (.inr (some o))), some (.inr (.inr l1)), none, some (.inl l3)], [], h) = _)
theorem rf_u_W_stepAside : rf_mt 89 = rf_m_W_stepAside := rfl
theorem rf_f_W_stepAside_0 : rf_Fb rf_m_W_stepAside 0 1 (.aload_n 0) 0 0 0 0 [] [] = true := by decide +kernel
theorem rf_f_W_stepAside_1 : rf_Fb rf_m_W_stepAside 1 4 (.getfield 71) 4 11 2 0 [] [] = true := by decide +kernel
theorem rf_f_W_stepAside_4 : rf_Fb rf_m_W_stepAside 4 5 (.aload_n 0) 0 0 0 0 [] [] = true := by decide +kernel
theorem rf_f_W_stepAside_5 : rf_Fb rf_m_W_stepAside 5 8 (.getfield 59) 4 10 2 0 [] [] = true := by decide +kernel
theorem rf_f_W_stepAside_8 : rf_Fb rf_m_W_stepAside 8 11 (.invokevirtual 317) 48 1 3 3 [] [] = true := by decide +kernel
theorem rf_f_W_stepAside_11 : rf_Fb rf_m_W_stepAside 11 12 (.aload_n 0) 0 0 0 0 [] [] = true := by decide +kernel
theorem rf_f_W_stepAside_12 : rf_Fb rf_m_W_stepAside 12 15 (.getfield 71) 4 11 2 0 [] [] = true := by decide +kernel
theorem rf_f_W_stepAside_15 : rf_Fb rf_m_W_stepAside 15 16 (.iconst 0) 0 0 0 0 [] [] = true := by decide +kernel
theorem rf_f_W_stepAside_16 : rf_Fb rf_m_W_stepAside 16 19 (.putfield 215) 3 7 0 0 [] [] = true := by decide +kernel
theorem rf_f_W_stepAside_19 : rf_Fb rf_m_W_stepAside 19 20 (.aload_n 0) 0 0 0 0 [] [] = true := by decide +kernel
theorem rf_f_W_stepAside_20 : rf_Fb rf_m_W_stepAside 20 23 (.getfield 71) 4 11 2 0 [] [] = true := by decide +kernel
theorem rf_f_W_stepAside_23 : rf_Fb rf_m_W_stepAside 23 24 (.iconst 0) 0 0 0 0 [] [] = true := by decide +kernel
theorem rf_f_W_stepAside_24 : rf_Fb rf_m_W_stepAside 24 25 (.aload_n 0) 0 0 0 0 [] [] = true := by decide +kernel
theorem rf_f_W_stepAside_25 : rf_Fb rf_m_W_stepAside 25 28 (.getfield 59) 4 10 2 0 [] [] = true := by decide +kernel
theorem rf_f_W_stepAside_28 : rf_Fb rf_m_W_stepAside 28 31 (.getfield 130) 3 6 0 0 [] [] = true := by decide +kernel
theorem rf_f_W_stepAside_31 : rf_Fb rf_m_W_stepAside 31 32 (.iload_n 1) 0 0 0 0 [] [] = true := by decide +kernel
theorem rf_f_W_stepAside_32 : rf_Fb rf_m_W_stepAside 32 33 (.isub) 0 0 0 0 [] [] = true := by decide +kernel
theorem rf_f_W_stepAside_33 : rf_Fb rf_m_W_stepAside 33 36 (.invokestatic 267) 13 2 0 0 [] [] = true := by decide +kernel
theorem rf_f_W_stepAside_36 : rf_Fb rf_m_W_stepAside 36 39 (.putfield 130) 3 6 0 0 [] [] = true := by decide +kernel
theorem rf_f_W_stepAside_39 : rf_Fb rf_m_W_stepAside 39 40 (.aload_n 0) 0 0 0 0 [] [] = true := by decide +kernel
theorem rf_f_W_stepAside_40 : rf_Fb rf_m_W_stepAside 40 43 (.getfield 71) 4 11 2 0 [] [] = true := by decide +kernel
theorem rf_f_W_stepAside_43 : rf_Fb rf_m_W_stepAside 43 44 (.aload_n 0) 0 0 0 0 [] [] = true := by decide +kernel
theorem rf_f_W_stepAside_44 : rf_Fb rf_m_W_stepAside 44 47 (.getfield 59) 4 10 2 0 [] [] = true := by decide +kernel
theorem rf_f_W_stepAside_47 : rf_Fb rf_m_W_stepAside 47 50 (.getfield 192) 3 5 0 0 [] [] = true := by decide +kernel
theorem rf_f_W_stepAside_50 : rf_Fb rf_m_W_stepAside 50 51 (.aload_n 0) 0 0 0 0 [] [] = true := by decide +kernel
theorem rf_f_W_stepAside_51 : rf_Fb rf_m_W_stepAside 51 54 (.getfield 71) 4 11 2 0 [] [] = true := by decide +kernel
theorem rf_f_W_stepAside_54 : rf_Fb rf_m_W_stepAside 54 57 (.getfield 130) 3 6 0 0 [] [] = true := by decide +kernel
theorem rf_f_W_stepAside_57 : rf_Fb rf_m_W_stepAside 57 60 (.invokestatic 195) 14 2 0 0 [] [] = true := by decide +kernel
theorem rf_f_W_stepAside_60 : rf_Fb rf_m_W_stepAside 60 63 (.putfield 192) 3 5 0 0 [] [] = true := by decide +kernel
theorem rf_f_W_stepAside_63 : rf_Fb rf_m_W_stepAside 63 64 (.return_) 0 0 0 0 [] [] = true := by decide +kernel
set_option maxRecDepth 20000 in
set_option maxHeartbeats 2000000 in
theorem rf_e_W_stepAside (d : Nat) (o : Nat) (a1 : Int) (h : rf_H) : rf_call (d + 1) 89 [.inr (.inr (some o)), .inl a1] h = ((rf_gR h 4 o 11).bind fun x1 => ((rf_gR h 4 o 10).bind fun x2 => (rf_nn x1 fun k3 => (bif rf_isO h.1 k3 3 then ((rf_call d 48 [.inr (.inr (some k3)), .inr (.inr x2)] h).bind fun q5 => rf_kV q5 fun h4 => ((rf_gR h4 4 o 11).bind fun x6 => (rf_nn x6 fun k7 => ((rf_pI h4 3 k7 7 0).bind fun h8 => ((rf_gR h8 4 o 11).bind fun x9 => ((rf_gR h8 4 o 10).bind fun x10 => (rf_nn x10 fun k11 => ((rf_gI h8 3 k11 6).bind fun x12 => ((rf_call d 13 [.inl 0, .inl (rf_w (x12 - a1))] h8).bind fun q14 => rf_kI q14 fun x15 h13 => (rf_nn x9 fun k16 => ((rf_pI h13 3 k16 6 x15).bind fun h17 => ((rf_gR h17 4 o 11).bind fun x18 => ((rf_gR h17 4 o 10).bind fun x19 => (rf_nn x19 fun k20 => ((rf_gI h17 3 k20 5).bind fun x21 => ((rf_gR h17 4 o 11).bind fun x22 => (rf_nn x22 fun k23 => ((rf_gI h17 3 k23 6).bind fun x24 => ((rf_call d 14 [.inl x21, .inl x24] h17).bind fun q26 => rf_kI q26 fun x27 h25 => (rf_nn x18 fun k28 => ((rf_pI h25 3 k28 5 x27).bind fun h29 => some (none, h29)))))))))))))))))))))) else none)))) := by
  show rf_den (rf_call d) (rf_mt 89) _ = _
  rw [rf_u_W_stepAside]
  exact ((rf_s_aload_n rf_f_W_stepAside_0 rfl (rf_m0 _) (rf_s_getAS rf_f_W_stepAside_1 (rf_m0 _) fun x1 => (rf_s_aload_n rf_f_W_stepAside_4 rfl (rf_m0 _) (rf_s_getAS rf_f_W_stepAside_5 (rf_m0 _) fun x2 => (rf_s_invV3R rf_f_W_stepAside_8 rfl rfl (rf_m0 _) fun k3 q5 h4 => (rf_s_aload_n rf_f_W_stepAside_11 rfl (rf_m0 _) (rf_s_getAS rf_f_W_stepAside_12 (rf_m0 _) fun x6 => (rf_s_iconst rf_f_W_stepAside_15 (rf_m0 _) (rf_s_putIR rf_f_W_stepAside_16 (rf_m0 _) fun k7 h8 => (rf_s_aload_n rf_f_W_stepAside_19 rfl (rf_m0 _) (rf_s_getAS rf_f_W_stepAside_20 (rf_m0 _) fun x9 => (rf_s_iconst rf_f_W_stepAside_23 (rf_m0 _) (rf_s_aload_n rf_f_W_stepAside_24 rfl (rf_m0 _) (rf_s_getAS rf_f_W_stepAside_25 (rf_m0 _) fun x10 => (rf_s_getIR rf_f_W_stepAside_28 (rf_m0 _) fun k11 x12 => (rf_s_iload_n rf_f_W_stepAside_31 rfl (rf_m0 _) (rf_s_isub rf_f_W_stepAside_32 (rf_m0 _) (rf_s_invS0 rf_f_W_stepAside_33 rfl rfl (rf_m0 _) fun q14 x15 h13 => (rf_s_putIR rf_f_W_stepAside_36 (rf_m0 _) fun k16 h17 => (rf_s_aload_n rf_f_W_stepAside_39 rfl (rf_m0 _) (rf_s_getAS rf_f_W_stepAside_40 (rf_m0 _) fun x18 => (rf_s_aload_n rf_f_W_stepAside_43 rfl (rf_m0 _) (rf_s_getAS rf_f_W_stepAside_44 (rf_m0 _) fun x19 => (rf_s_getIR rf_f_W_stepAside_47 (rf_m0 _) fun k20 x21 => (rf_s_aload_n rf_f_W_stepAside_50 rfl (rf_m0 _) (rf_s_getAS rf_f_W_stepAside_51 (rf_m0 _) fun x22 => (rf_s_getIR rf_f_W_stepAside_54 (rf_m0 _) fun k23 x24 => (rf_s_invS0 rf_f_W_stepAside_57 rfl rfl (rf_m0 _) fun q26 x27 h25 => (rf_s_putIR rf_f_W_stepAside_60 (rf_m0 _) fun k28 h29 => (rf_s_vret rf_f_W_stepAside_63)))))))))))))))))))))))))))))) : rf_den (rf_call d) rf_m_W_stepAside (0, [some (.inr (.inr (some o))), some (.inl a1)], [], h) = _)
noncomputable def rf_j_W_shortest_42 (d : Nat) (o : Nat) (l1 : Int) (l3 : Option Nat) (l4 : Int) (h : rf_H) : Option rf_R := rf_den (rf_call d) rf_m_W_shortest (42, [some (.inr (.inr (some o))), some (.inl l1), none, some (.inr (.inr l3)), some (.inl l4)], [], h)
theorem rf_u_W_shortest : rf_mt 90 = rf_m_W_shortest := rfl
theorem rf_f_W_shortest_0 : rf_Fb rf_m_W_shortest 0 1 (.aload_n 0) 0 0 0 0 [] [] = true := by decide +kernel
theorem rf_f_W_shortest_1 : rf_Fb rf_m_W_shortest 1 4 (.getfield 11) 4 0 2 0 [] [] = true := by decide +kernel
theorem rf_f_W_shortest_4 : rf_Fb rf_m_W_shortest 4 5 (.iload_n 2) 0 0 0 0 [] [] = true := by decide +kernel
theorem rf_f_W_shortest_5 : rf_Fb rf_m_W_shortest 5 8 (.invokestatic 74) 55 2 2 0 [] [] = true := by decide +kernel
theorem rf_f_W_shortest_8 : rf_Fb rf_m_W_shortest 8 9 (.astore_n 3) 0 0 0 0 [] [] = true := by decide +kernel
theorem rf_f_W_shortest_9 : rf_Fb rf_m_W_shortest 9 10 (.aload_n 3) 0 0 0 0 [] [] = true := by decide +kernel
theorem rf_f_W_shortest_10 : rf_Fb rf_m_W_shortest 10 13 (.ifnull 12) 22 0 0 0 [] [] = true := by decide +kernel
theorem rf_f_W_shortest_13 : rf_Fb rf_m_W_shortest 13 14 (.iload_n 1) 0 0 0 0 [] [] = true := by decide +kernel
theorem rf_f_W_shortest_14 : rf_Fb rf_m_W_shortest 14 17 (.ifCond .lt 8) 22 0 0 0 [] [] = true := by decide +kernel
theorem rf_f_W_shortest_17 : rf_Fb rf_m_W_shortest 17 18 (.iload_n 1) 0 0 0 0 [] [] = true := by decide +kernel
theorem rf_f_W_shortest_18 : rf_Fb rf_m_W_shortest 18 19 (.iconst 4) 0 0 0 0 [] [] = true := by decide +kernel
theorem rf_f_W_shortest_19 : rf_Fb rf_m_W_shortest 19 22 (.if_icmp .le 5) 24 0 0 0 [] [] = true := by decide +kernel
theorem rf_f_W_shortest_22 : rf_Fb rf_m_W_shortest 22 23 (.iconst (-1)) 0 0 0 0 [] [] = true := by decide +kernel
theorem rf_f_W_shortest_23 : rf_Fb rf_m_W_shortest 23 24 (.ireturn) 0 0 0 0 [] [] = true := by decide +kernel
theorem rf_f_W_shortest_24 : rf_Fb rf_m_W_shortest 24 25 (.aload_n 0) 0 0 0 0 [] [] = true := by decide +kernel
theorem rf_f_W_shortest_25 : rf_Fb rf_m_W_shortest 25 28 (.getfield 123) 4 12 0 0 [] [] = true := by decide +kernel
theorem rf_f_W_shortest_28 : rf_Fb rf_m_W_shortest 28 31 (.ifCond .ne 6) 34 0 0 0 [] [] = true := by decide +kernel
theorem rf_f_W_shortest_31 : rf_Fb rf_m_W_shortest 31 33 (.bipush (-4)) 0 0 0 0 [] [] = true := by decide +kernel
theorem rf_f_W_shortest_33 : rf_Fb rf_m_W_shortest 33 34 (.ireturn) 0 0 0 0 [] [] = true := by decide +kernel
theorem rf_f_W_shortest_34 : rf_Fb rf_m_W_shortest 34 35 (.aload_n 0) 0 0 0 0 [] [] = true := by decide +kernel
theorem rf_f_W_shortest_35 : rf_Fb rf_m_W_shortest 35 36 (.iconst 0) 0 0 0 0 [] [] = true := by decide +kernel
theorem rf_f_W_shortest_36 : rf_Fb rf_m_W_shortest 36 39 (.invokevirtual 209) 89 1 3 4 [] [] = true := by decide +kernel
theorem rf_f_W_shortest_39 : rf_Fb rf_m_W_shortest 39 40 (.iconst 1) 0 0 0 0 [] [] = true := by decide +kernel
theorem rf_f_W_shortest_40 : rf_Fb rf_m_W_shortest 40 42 (.istore 4) 0 0 0 0 [] [true, true, false, true, true] = true := by decide +kernel
theorem rf_f_W_shortest_42 : rf_Fb rf_m_W_shortest 42 44 (.iload 4) 0 0 0 0 [] [] = true := by decide +kernel
theorem rf_f_W_shortest_44 : rf_Fb rf_m_W_shortest 44 45 (.iload_n 1) 0 0 0 0 [] [] = true := by decide +kernel
theorem rf_f_W_shortest_45 : rf_Fb rf_m_W_shortest 45 48 (.if_icmp .gt 49) 94 0 0 0 [] [] = true := by decide +kernel
theorem rf_f_W_shortest_48 : rf_Fb rf_m_W_shortest 48 49 (.aload_n 0) 0 0 0 0 [] [] = true := by decide +kernel
theorem rf_f_W_shortest_49 : rf_Fb rf_m_W_shortest 49 52 (.getfield 71) 4 11 2 0 [] [] = true := by decide +kernel
theorem rf_f_W_shortest_52 : rf_Fb rf_m_W_shortest 52 53 (.iconst 0) 0 0 0 0 [] [] = true := by decide +kernel
theorem rf_f_W_shortest_53 : rf_Fb rf_m_W_shortest 53 55 (.iload 4) 0 0 0 0 [] [] = true := by decide +kernel
theorem rf_f_W_shortest_55 : rf_Fb rf_m_W_shortest 55 56 (.aload_n 0) 0 0 0 0 [] [] = true := by decide +kernel
theorem rf_f_W_shortest_56 : rf_Fb rf_m_W_shortest 56 59 (.getfield 31) 4 5 2 0 [] [] = true := by decide +kernel
theorem rf_f_W_shortest_59 : rf_Fb rf_m_W_shortest 59 62 (.invokestatic 218) 50 4 0 0 [] [] = true := by decide +kernel
theorem rf_f_W_shortest_62 : rf_Fb rf_m_W_shortest 62 65 (.ifCond .eq 26) 88 0 0 0 [] [] = true := by decide +kernel
theorem rf_f_W_shortest_65 : rf_Fb rf_m_W_shortest 65 66 (.aload_n 3) 0 0 0 0 [] [] = true := by decide +kernel
theorem rf_f_W_shortest_66 : rf_Fb rf_m_W_shortest 66 68 (.iload 4) 0 0 0 0 [] [] = true := by decide +kernel
theorem rf_f_W_shortest_68 : rf_Fb rf_m_W_shortest 68 69 (.iconst 0) 0 0 0 0 [] [] = true := by decide +kernel
theorem rf_f_W_shortest_69 : rf_Fb rf_m_W_shortest 69 72 (.invokevirtual 67) 1 2 3 2 [] [] = true := by decide +kernel
theorem rf_f_W_shortest_72 : rf_Fb rf_m_W_shortest 72 73 (.aload_n 3) 0 0 0 0 [] [] = true := by decide +kernel
theorem rf_f_W_shortest_73 : rf_Fb rf_m_W_shortest 73 74 (.aload_n 0) 0 0 0 0 [] [] = true := by decide +kernel
theorem rf_f_W_shortest_74 : rf_Fb rf_m_W_shortest 74 77 (.getfield 31) 4 5 2 0 [] [] = true := by decide +kernel
theorem rf_f_W_shortest_77 : rf_Fb rf_m_W_shortest 77 78 (.iconst 0) 0 0 0 0 [] [] = true := by decide +kernel
theorem rf_f_W_shortest_78 : rf_Fb rf_m_W_shortest 78 79 (.iconst 0) 0 0 0 0 [] [] = true := by decide +kernel
theorem rf_f_W_shortest_79 : rf_Fb rf_m_W_shortest 79 81 (.iload 4) 0 0 0 0 [] [] = true := by decide +kernel
theorem rf_f_W_shortest_81 : rf_Fb rf_m_W_shortest 81 84 (.invokevirtual 107) 7 4 0 2 [] [] = true := by decide +kernel
theorem rf_f_W_shortest_84 : rf_Fb rf_m_W_shortest 84 85 (.pop) 0 0 0 0 [] [] = true := by decide +kernel
theorem rf_f_W_shortest_85 : rf_Fb rf_m_W_shortest 85 87 (.iload 4) 0 0 0 0 [] [] = true := by decide +kernel
theorem rf_f_W_shortest_87 : rf_Fb rf_m_W_shortest 87 88 (.ireturn) 0 0 0 0 [] [] = true := by decide +kernel
theorem rf_f_W_shortest_88 : rf_Fb rf_m_W_shortest 88 91 (.iinc 4 1) 0 0 0 0 [] [] = true := by decide +kernel
theorem rf_f_W_shortest_91 : rf_Fb rf_m_W_shortest 91 94 (.goto (-49)) 42 0 0 0 [] [] = true := by decide +kernel
theorem rf_f_W_shortest_94 : rf_Fb rf_m_W_shortest 94 96 (.bipush (-9)) 0 0 0 0 [] [] = true := by decide +kernel
theorem rf_f_W_shortest_96 : rf_Fb rf_m_W_shortest 96 97 (.ireturn) 0 0 0 0 [] [] = true := by decide +kernel
set_option maxRecDepth 20000 in
set_option maxHeartbeats 2000000 in
theorem rf_e_W_shortest (d : Nat) (o : Nat) (a1 : Int) (a2 : Int) (h : rf_H) : rf_call (d + 1) 90 [.inr (.inr (some o)), .inl a1, .inl a2] h = ((rf_gR h 4 o 0).bind fun x1 => ((rf_call d 55 [.inr (.inr x1), .inl a2] h).bind fun q3 => rf_kR q3 fun x4 h2 => (rf_nz x4 (some (some (.inl (-1)), h2)) ((if a1 < 0 then some (some (.inl (-1)), h2) else (if 4 < a1 then some (some (.inl (-1)), h2) else ((rf_gI h2 4 o 12).bind fun x5 => (if x5 = 0 then some (some (.inl (-4)), h2) else (bif rf_isO h2.1 o 4 then ((rf_call d 89 [.inr (.inr (some o)), .inl 0] h2).bind fun q7 => rf_kV q7 fun h6 => rf_j_W_shortest_42 d o a1 x4 1 h6) else none))))))))) := by
  show rf_den (rf_call d) (rf_mt 90) _ = _
  rw [rf_u_W_shortest]
  exact ((rf_s_aload_n rf_f_W_shortest_0 rfl (rf_m0 _) (rf_s_getAS rf_f_W_shortest_1 (rf_m0 _) fun x1 => (rf_s_iload_n rf_f_W_shortest_4 rfl (rf_m0 _) (rf_s_invS2 rf_f_W_shortest_5 rfl rfl (rf_m0 _) fun q3 x4 h2 => (rf_s_astore_n (L' := [some (.inr (.inr (some o))), some (.inl a1), some (.inl a2), some (.inr (.inr x4)), none]) rf_f_W_shortest_8 rfl (rf_s_aload_n rf_f_W_shortest_9 rfl (rf_m0 _) (rf_s_ifnull rf_f_W_shortest_10 rfl (rf_m0 _) (rf_m0 _) (rf_s_iconst rf_f_W_shortest_22 (rf_m0 _) (rf_s_iret rf_f_W_shortest_23)) (rf_s_iload_n rf_f_W_shortest_13 rfl (rf_m0 _) (rf_s_if_lt rf_f_W_shortest_14 rfl (rf_m0 _) (rf_m0 _) (rf_s_iconst rf_f_W_shortest_22 (rf_m0 _) (rf_s_iret rf_f_W_shortest_23)) (rf_s_iload_n rf_f_W_shortest_17 rfl (rf_m0 _) (rf_s_iconst rf_f_W_shortest_18 (rf_m0 _) (rf_s_icmp_le rf_f_W_shortest_19 rfl (rf_m0 _) (rf_m0 _) (rf_s_aload_n rf_f_W_shortest_24 rfl (rf_m0 _) (rf_s_getIS rf_f_W_shortest_25 (rf_m0 _) fun x5 => (rf_s_if_ne rf_f_W_shortest_28 rfl (rf_m0 _) (rf_m0 _) (rf_s_aload_n rf_f_W_shortest_34 rfl (rf_m0 _) (rf_s_iconst rf_f_W_shortest_35 (rf_m0 _) (rf_s_invV3S rf_f_W_shortest_36 rfl rfl (rf_m0 _) fun q7 h6 => (rf_s_iconst rf_f_W_shortest_39 (rf_m0 _) (rf_s_istore rf_f_W_shortest_40 rfl rfl))))) (rf_s_bipush rf_f_W_shortest_31 (rf_m0 _) (rf_s_iret rf_f_W_shortest_33))))) (rf_s_iconst rf_f_W_shortest_22 (rf_m0 _) (rf_s_iret rf_f_W_shortest_23)))))))))))))) : rf_den (rf_call d) rf_m_W_shortest (0, [some (.inr (.inr (some o))), some (.inl a1), some (.inl a2), none, none], [], h) = _)
set_option maxRecDepth 20000 in
set_option maxHeartbeats 2000000 in
theorem rf_e_W_shortest_42 (d : Nat) (o : Nat) (l1 : Int) (l3 : Option Nat) (l4 : Int) (h : rf_H) : rf_j_W_shortest_42 d o l1 l3 l4 h = (if l1 < l4 then some (some (.inl (-9)), h) else ((rf_gR h 4 o 11).bind fun x1 => ((rf_gR h 4 o 5).bind fun x2 => ((rf_call d 50 [.inr (.inr x1), .inl 0, .inl l4, .inr (.inr x2)] h).bind fun q4 => rf_kI q4 fun x5 h3 => (if x5 = 0 then rf_j_W_shortest_42 d o l1 l3 (rf_w (l4 + 1)) h3 else (rf_nn l3 fun k6 => (bif rf_isO h3.1 k6 2 then ((rf_call d 1 [.inr (.inr (some k6)), .inl l4, .inl 0] h3).bind fun q8 => rf_kV q8 fun h7 => ((rf_gR h7 4 o 5).bind fun x9 => (rf_nn l3 fun k10 => (bif rf_isO h7.1 k10 2 then ((rf_call d 7 [.inr (.inr (some k10)), .inr (.inr x9), .inl 0, .inl 0, .inl l4] h7).bind fun q12 => rf_kI q12 fun x13 h11 => some (some (.inl l4), h11)) else none)))) else none))))))) :=
  ((rf_s_iload rf_f_W_shortest_42 rfl (rf_m0 _) (rf_s_iload_n rf_f_W_shortest_44 rfl (rf_m0 _) (rf_s_icmp_gt rf_f_W_shortest_45 rfl (rf_m0 _) (rf_m0 _) (rf_s_bipush rf_f_W_shortest_94 (rf_m0 _) (rf_s_iret rf_f_W_shortest_96)) (rf_s_aload_n rf_f_W_shortest_48 rfl (rf_m0 _) (rf_s_getAS rf_f_W_shortest_49 (rf_m0 _) fun x1 => (rf_s_iconst rf_f_W_shortest_52 (rf_m0 _) (rf_s_iload rf_f_W_shortest_53 rfl (rf_m0 _) (rf_s_aload_n rf_f_W_shortest_55 rfl (rf_m0 _) (rf_s_getAS rf_f_W_shortest_56 (rf_m0 _) fun x2 => (rf_s_invS0 rf_f_W_shortest_59 rfl rfl (rf_m0 _) fun q4 x5 h3 => (rf_s_if_eq rf_f_W_shortest_62 rfl (rf_m0 _) (rf_m0 _) (rf_s_iinc (L' := [some (.inr (.inr (some o))), some (.inl l1), none, some (.inr (.inr l3)), some (.inl (rf_w (l4 + 1)))]) rf_f_W_shortest_88 rfl rfl (rf_s_goto rf_f_W_shortest_91 rfl rfl rfl)) (rf_s_aload_n rf_f_W_shortest_65 rfl (rf_m0 _) (rf_s_iload rf_f_W_shortest_66 rfl (rf_m0 _) (rf_s_iconst rf_f_W_shortest_68 (rf_m0 _) (rf_s_invV3R rf_f_W_shortest_69 rfl rfl (rf_m0 _) fun k6 q8 h7 => (rf_s_aload_n rf_f_W_shortest_72 rfl (rf_m0 _) (rf_s_aload_n rf_f_W_shortest_73 rfl (rf_m0 _) (rf_s_getAS rf_f_W_shortest_74 (rf_m0 _) fun x9 => (rf_s_iconst rf_f_W_shortest_77 (rf_m0 _) (rf_s_iconst rf_f_W_shortest_78 (rf_m0 _) (rf_s_iload rf_f_W_shortest_79 rfl (rf_m0 _) (rf_s_invV0R rf_f_W_shortest_81 rfl rfl (rf_m0 _) fun k10 q12 x13 h11 => (rf_s_popI rf_f_W_shortest_84 (rf_m0 _) (rf_s_iload rf_f_W_shortest_85 rfl (rf_m0 _) (rf_s_iret rf_f_W_shortest_87))))))))))))))))))))))))) : rf_den (rf_call d) rf_m_W_shortest (42, [some (.inr (.inr (some o))), some (.inl l1), none, some (.inr (.inr l3)), some (.inl l4)], [], h) = _)
theorem rf_u_W_ways : rf_mt 91 = rf_m_W_ways := rfl
theorem rf_f_W_ways_0 : rf_Fb rf_m_W_ways 0 1 (.iload_n 1) 0 0 0 0 [] [] = true := by decide +kernel
theorem rf_f_W_ways_1 : rf_Fb rf_m_W_ways 1 4 (.ifCond .lt 8) 9 0 0 0 [] [] = true := by decide +kernel
theorem rf_f_W_ways_4 : rf_Fb rf_m_W_ways 4 5 (.iload_n 1) 0 0 0 0 [] [] = true := by decide +kernel
theorem rf_f_W_ways_5 : rf_Fb rf_m_W_ways 5 6 (.iconst 4) 0 0 0 0 [] [] = true := by decide +kernel
theorem rf_f_W_ways_6 : rf_Fb rf_m_W_ways 6 9 (.if_icmp .le 5) 11 0 0 0 [] [] = true := by decide +kernel
theorem rf_f_W_ways_9 : rf_Fb rf_m_W_ways 9 10 (.iconst (-1)) 0 0 0 0 [] [] = true := by decide +kernel
theorem rf_f_W_ways_10 : rf_Fb rf_m_W_ways 10 11 (.ireturn) 0 0 0 0 [] [] = true := by decide +kernel
theorem rf_f_W_ways_11 : rf_Fb rf_m_W_ways 11 12 (.aload_n 0) 0 0 0 0 [] [] = true := by decide +kernel
theorem rf_f_W_ways_12 : rf_Fb rf_m_W_ways 12 15 (.getfield 123) 4 12 0 0 [] [] = true := by decide +kernel
theorem rf_f_W_ways_15 : rf_Fb rf_m_W_ways 15 18 (.ifCond .ne 6) 21 0 0 0 [] [] = true := by decide +kernel
theorem rf_f_W_ways_18 : rf_Fb rf_m_W_ways 18 20 (.bipush (-4)) 0 0 0 0 [] [] = true := by decide +kernel
theorem rf_f_W_ways_20 : rf_Fb rf_m_W_ways 20 21 (.ireturn) 0 0 0 0 [] [] = true := by decide +kernel
theorem rf_f_W_ways_21 : rf_Fb rf_m_W_ways 21 22 (.aload_n 0) 0 0 0 0 [] [] = true := by decide +kernel
theorem rf_f_W_ways_22 : rf_Fb rf_m_W_ways 22 23 (.iconst 0) 0 0 0 0 [] [] = true := by decide +kernel
theorem rf_f_W_ways_23 : rf_Fb rf_m_W_ways 23 26 (.invokevirtual 209) 89 1 3 4 [] [] = true := by decide +kernel
theorem rf_f_W_ways_26 : rf_Fb rf_m_W_ways 26 27 (.aload_n 0) 0 0 0 0 [] [] = true := by decide +kernel
theorem rf_f_W_ways_27 : rf_Fb rf_m_W_ways 27 28 (.aload_n 0) 0 0 0 0 [] [] = true := by decide +kernel
theorem rf_f_W_ways_28 : rf_Fb rf_m_W_ways 28 31 (.getfield 71) 4 11 2 0 [] [] = true := by decide +kernel
theorem rf_f_W_ways_31 : rf_Fb rf_m_W_ways 31 32 (.iload_n 1) 0 0 0 0 [] [] = true := by decide +kernel
theorem rf_f_W_ways_32 : rf_Fb rf_m_W_ways 32 33 (.iconst 0) 0 0 0 0 [] [] = true := by decide +kernel
theorem rf_f_W_ways_33 : rf_Fb rf_m_W_ways 33 36 (.invokestatic 224) 51 3 0 0 [] [] = true := by decide +kernel
theorem rf_f_W_ways_36 : rf_Fb rf_m_W_ways 36 37 (.aload_n 0) 0 0 0 0 [] [] = true := by decide +kernel
theorem rf_f_W_ways_37 : rf_Fb rf_m_W_ways 37 40 (.getfield 71) 4 11 2 0 [] [] = true := by decide +kernel
theorem rf_f_W_ways_40 : rf_Fb rf_m_W_ways 40 41 (.iload_n 1) 0 0 0 0 [] [] = true := by decide +kernel
theorem rf_f_W_ways_41 : rf_Fb rf_m_W_ways 41 42 (.iconst 1) 0 0 0 0 [] [] = true := by decide +kernel
theorem rf_f_W_ways_42 : rf_Fb rf_m_W_ways 42 45 (.invokestatic 224) 51 3 0 0 [] [] = true := by decide +kernel
theorem rf_f_W_ways_45 : rf_Fb rf_m_W_ways 45 48 (.invokevirtual 93) 60 2 0 4 [] [] = true := by decide +kernel
theorem rf_f_W_ways_48 : rf_Fb rf_m_W_ways 48 49 (.ireturn) 0 0 0 0 [] [] = true := by decide +kernel
set_option maxRecDepth 20000 in
set_option maxHeartbeats 2000000 in
theorem rf_e_W_ways (d : Nat) (o : Nat) (a1 : Int) (h : rf_H) : rf_call (d + 1) 91 [.inr (.inr (some o)), .inl a1] h = (if a1 < 0 then some (some (.inl (-1)), h) else (if 4 < a1 then some (some (.inl (-1)), h) else ((rf_gI h 4 o 12).bind fun x1 => (if x1 = 0 then some (some (.inl (-4)), h) else (bif rf_isO h.1 o 4 then ((rf_call d 89 [.inr (.inr (some o)), .inl 0] h).bind fun q3 => rf_kV q3 fun h2 => ((rf_gR h2 4 o 11).bind fun x4 => ((rf_call d 51 [.inr (.inr x4), .inl a1, .inl 0] h2).bind fun q6 => rf_kI q6 fun x7 h5 => ((rf_gR h5 4 o 11).bind fun x8 => ((rf_call d 51 [.inr (.inr x8), .inl a1, .inl 1] h5).bind fun q10 => rf_kI q10 fun x11 h9 => (bif rf_isO h9.1 o 4 then ((rf_call d 60 [.inr (.inr (some o)), .inl x7, .inl x11] h9).bind fun q13 => rf_kI q13 fun x14 h12 => some (some (.inl x14), h12)) else none)))))) else none))))) := by
  show rf_den (rf_call d) (rf_mt 91) _ = _
  rw [rf_u_W_ways]
  exact ((rf_s_iload_n rf_f_W_ways_0 rfl (rf_m0 _) (rf_s_if_lt rf_f_W_ways_1 rfl (rf_m0 _) (rf_m0 _) (rf_s_iconst rf_f_W_ways_9 (rf_m0 _) (rf_s_iret rf_f_W_ways_10)) (rf_s_iload_n rf_f_W_ways_4 rfl (rf_m0 _) (rf_s_iconst rf_f_W_ways_5 (rf_m0 _) (rf_s_icmp_le rf_f_W_ways_6 rfl (rf_m0 _) (rf_m0 _) (rf_s_aload_n rf_f_W_ways_11 rfl (rf_m0 _) (rf_s_getIS rf_f_W_ways_12 (rf_m0 _) fun x1 => (rf_s_if_ne rf_f_W_ways_15 rfl (rf_m0 _) (rf_m0 _) (rf_s_aload_n rf_f_W_ways_21 rfl (rf_m0 _) (rf_s_iconst rf_f_W_ways_22 (rf_m0 _) (rf_s_invV3S rf_f_W_ways_23 rfl rfl (rf_m0 _) fun q3 h2 => (rf_s_aload_n rf_f_W_ways_26 rfl (rf_m0 _) (rf_s_aload_n rf_f_W_ways_27 rfl (rf_m0 _) (rf_s_getAS rf_f_W_ways_28 (rf_m0 _) fun x4 => (rf_s_iload_n rf_f_W_ways_31 rfl (rf_m0 _) (rf_s_iconst rf_f_W_ways_32 (rf_m0 _) (rf_s_invS0 rf_f_W_ways_33 rfl rfl (rf_m0 _) fun q6 x7 h5 => (rf_s_aload_n rf_f_W_ways_36 rfl (rf_m0 _) (rf_s_getAS rf_f_W_ways_37 (rf_m0 _) fun x8 => (rf_s_iload_n rf_f_W_ways_40 rfl (rf_m0 _) (rf_s_iconst rf_f_W_ways_41 (rf_m0 _) (rf_s_invS0 rf_f_W_ways_42 rfl rfl (rf_m0 _) fun q10 x11 h9 => (rf_s_invV0S rf_f_W_ways_45 rfl rfl (rf_m0 _) fun q13 x14 h12 => (rf_s_iret rf_f_W_ways_48)))))))))))))))) (rf_s_bipush rf_f_W_ways_18 (rf_m0 _) (rf_s_iret rf_f_W_ways_20))))) (rf_s_iconst rf_f_W_ways_9 (rf_m0 _) (rf_s_iret rf_f_W_ways_10))))))) : rf_den (rf_call d) rf_m_W_ways (0, [some (.inr (.inr (some o))), some (.inl a1)], [], h) = _)
noncomputable def rf_j_W_stay_23 (d : Nat) (o : Nat) (l1 : Int) (l2 : Int) (h : rf_H) : Option rf_R := rf_den (rf_call d) rf_m_W_stay (23, [some (.inr (.inr (some o))), some (.inl l1), some (.inl l2)], [], h)
theorem rf_u_W_stay : rf_mt 92 = rf_m_W_stay := rfl
theorem rf_f_W_stay_0 : rf_Fb rf_m_W_stay 0 1 (.iload_n 1) 0 0 0 0 [] [] = true := by decide +kernel
theorem rf_f_W_stay_1 : rf_Fb rf_m_W_stay 1 4 (.ifCond .lt 8) 9 0 0 0 [] [] = true := by decide +kernel
theorem rf_f_W_stay_4 : rf_Fb rf_m_W_stay 4 5 (.iload_n 1) 0 0 0 0 [] [] = true := by decide +kernel
theorem rf_f_W_stay_5 : rf_Fb rf_m_W_stay 5 6 (.iconst 4) 0 0 0 0 [] [] = true := by decide +kernel
theorem rf_f_W_stay_6 : rf_Fb rf_m_W_stay 6 9 (.if_icmp .le 5) 11 0 0 0 [] [] = true := by decide +kernel
theorem rf_f_W_stay_9 : rf_Fb rf_m_W_stay 9 10 (.iconst (-1)) 0 0 0 0 [] [] = true := by decide +kernel
theorem rf_f_W_stay_10 : rf_Fb rf_m_W_stay 10 11 (.ireturn) 0 0 0 0 [] [] = true := by decide +kernel
theorem rf_f_W_stay_11 : rf_Fb rf_m_W_stay 11 12 (.aload_n 0) 0 0 0 0 [] [] = true := by decide +kernel
theorem rf_f_W_stay_12 : rf_Fb rf_m_W_stay 12 15 (.getfield 123) 4 12 0 0 [] [] = true := by decide +kernel
theorem rf_f_W_stay_15 : rf_Fb rf_m_W_stay 15 18 (.ifCond .ne 6) 21 0 0 0 [] [] = true := by decide +kernel
theorem rf_f_W_stay_18 : rf_Fb rf_m_W_stay 18 20 (.bipush (-4)) 0 0 0 0 [] [] = true := by decide +kernel
theorem rf_f_W_stay_20 : rf_Fb rf_m_W_stay 20 21 (.ireturn) 0 0 0 0 [] [] = true := by decide +kernel
theorem rf_f_W_stay_21 : rf_Fb rf_m_W_stay 21 22 (.iconst 0) 0 0 0 0 [] [] = true := by decide +kernel
theorem rf_f_W_stay_22 : rf_Fb rf_m_W_stay 22 23 (.istore_n 2) 0 0 0 0 [] [true, true, true] = true := by decide +kernel
theorem rf_f_W_stay_23 : rf_Fb rf_m_W_stay 23 24 (.iload_n 2) 0 0 0 0 [] [] = true := by decide +kernel
theorem rf_f_W_stay_24 : rf_Fb rf_m_W_stay 24 25 (.aload_n 0) 0 0 0 0 [] [] = true := by decide +kernel
theorem rf_f_W_stay_25 : rf_Fb rf_m_W_stay 25 28 (.getfield 59) 4 10 2 0 [] [] = true := by decide +kernel
theorem rf_f_W_stay_28 : rf_Fb rf_m_W_stay 28 31 (.getfield 130) 3 6 0 0 [] [] = true := by decide +kernel
theorem rf_f_W_stay_31 : rf_Fb rf_m_W_stay 31 34 (.if_icmp .gt 32) 63 0 0 0 [] [] = true := by decide +kernel
theorem rf_f_W_stay_34 : rf_Fb rf_m_W_stay 34 35 (.aload_n 0) 0 0 0 0 [] [] = true := by decide +kernel
theorem rf_f_W_stay_35 : rf_Fb rf_m_W_stay 35 36 (.iload_n 2) 0 0 0 0 [] [] = true := by decide +kernel
theorem rf_f_W_stay_36 : rf_Fb rf_m_W_stay 36 39 (.invokevirtual 209) 89 1 3 4 [] [] = true := by decide +kernel
theorem rf_f_W_stay_39 : rf_Fb rf_m_W_stay 39 40 (.aload_n 0) 0 0 0 0 [] [] = true := by decide +kernel
theorem rf_f_W_stay_40 : rf_Fb rf_m_W_stay 40 43 (.getfield 71) 4 11 2 0 [] [] = true := by decide +kernel
theorem rf_f_W_stay_43 : rf_Fb rf_m_W_stay 43 44 (.iconst 0) 0 0 0 0 [] [] = true := by decide +kernel
theorem rf_f_W_stay_44 : rf_Fb rf_m_W_stay 44 45 (.iload_n 1) 0 0 0 0 [] [] = true := by decide +kernel
theorem rf_f_W_stay_45 : rf_Fb rf_m_W_stay 45 46 (.aload_n 0) 0 0 0 0 [] [] = true := by decide +kernel
theorem rf_f_W_stay_46 : rf_Fb rf_m_W_stay 46 49 (.getfield 31) 4 5 2 0 [] [] = true := by decide +kernel
theorem rf_f_W_stay_49 : rf_Fb rf_m_W_stay 49 52 (.invokestatic 218) 50 4 0 0 [] [] = true := by decide +kernel
theorem rf_f_W_stay_52 : rf_Fb rf_m_W_stay 52 55 (.ifCond .eq 5) 57 0 0 0 [] [] = true := by decide +kernel
theorem rf_f_W_stay_55 : rf_Fb rf_m_W_stay 55 56 (.iload_n 2) 0 0 0 0 [] [] = true := by decide +kernel
theorem rf_f_W_stay_56 : rf_Fb rf_m_W_stay 56 57 (.ireturn) 0 0 0 0 [] [] = true := by decide +kernel
theorem rf_f_W_stay_57 : rf_Fb rf_m_W_stay 57 60 (.iinc 2 1) 0 0 0 0 [] [] = true := by decide +kernel
theorem rf_f_W_stay_60 : rf_Fb rf_m_W_stay 60 63 (.goto (-37)) 23 0 0 0 [] [] = true := by decide +kernel
theorem rf_f_W_stay_63 : rf_Fb rf_m_W_stay 63 65 (.bipush (-9)) 0 0 0 0 [] [] = true := by decide +kernel
theorem rf_f_W_stay_65 : rf_Fb rf_m_W_stay 65 66 (.ireturn) 0 0 0 0 [] [] = true := by decide +kernel
set_option maxRecDepth 20000 in
set_option maxHeartbeats 2000000 in
theorem rf_e_W_stay (d : Nat) (o : Nat) (a1 : Int) (h : rf_H) : rf_call (d + 1) 92 [.inr (.inr (some o)), .inl a1] h = (if a1 < 0 then some (some (.inl (-1)), h) else (if 4 < a1 then some (some (.inl (-1)), h) else ((rf_gI h 4 o 12).bind fun x1 => (if x1 = 0 then some (some (.inl (-4)), h) else rf_j_W_stay_23 d o a1 0 h)))) := by
  show rf_den (rf_call d) (rf_mt 92) _ = _
  rw [rf_u_W_stay]
  exact ((rf_s_iload_n rf_f_W_stay_0 rfl (rf_m0 _) (rf_s_if_lt rf_f_W_stay_1 rfl (rf_m0 _) (rf_m0 _) (rf_s_iconst rf_f_W_stay_9 (rf_m0 _) (rf_s_iret rf_f_W_stay_10)) (rf_s_iload_n rf_f_W_stay_4 rfl (rf_m0 _) (rf_s_iconst rf_f_W_stay_5 (rf_m0 _) (rf_s_icmp_le rf_f_W_stay_6 rfl (rf_m0 _) (rf_m0 _) (rf_s_aload_n rf_f_W_stay_11 rfl (rf_m0 _) (rf_s_getIS rf_f_W_stay_12 (rf_m0 _) fun x1 => (rf_s_if_ne rf_f_W_stay_15 rfl (rf_m0 _) (rf_m0 _) (rf_s_iconst rf_f_W_stay_21 (rf_m0 _) (rf_s_istore_n rf_f_W_stay_22 rfl rfl)) (rf_s_bipush rf_f_W_stay_18 (rf_m0 _) (rf_s_iret rf_f_W_stay_20))))) (rf_s_iconst rf_f_W_stay_9 (rf_m0 _) (rf_s_iret rf_f_W_stay_10))))))) : rf_den (rf_call d) rf_m_W_stay (0, [some (.inr (.inr (some o))), some (.inl a1), none], [], h) = _)
set_option maxRecDepth 20000 in
set_option maxHeartbeats 2000000 in
theorem rf_e_W_stay_23 (d : Nat) (o : Nat) (l1 : Int) (l2 : Int) (h : rf_H) : rf_j_W_stay_23 d o l1 l2 h = ((rf_gR h 4 o 10).bind fun x1 => (rf_nn x1 fun k2 => ((rf_gI h 3 k2 6).bind fun x3 => (if x3 < l2 then some (some (.inl (-9)), h) else (bif rf_isO h.1 o 4 then ((rf_call d 89 [.inr (.inr (some o)), .inl l2] h).bind fun q5 => rf_kV q5 fun h4 => ((rf_gR h4 4 o 11).bind fun x6 => ((rf_gR h4 4 o 5).bind fun x7 => ((rf_call d 50 [.inr (.inr x6), .inl 0, .inl l1, .inr (.inr x7)] h4).bind fun q9 => rf_kI q9 fun x10 h8 => (if x10 = 0 then rf_j_W_stay_23 d o l1 (rf_w (l2 + 1)) h8 else some (some (.inl l2), h8)))))) else none))))) :=
  ((rf_s_iload_n rf_f_W_stay_23 rfl (rf_m0 _) (rf_s_aload_n rf_f_W_stay_24 rfl (rf_m0 _) (rf_s_getAS rf_f_W_stay_25 (rf_m0 _) fun x1 => (rf_s_getIR rf_f_W_stay_28 (rf_m0 _) fun k2 x3 => (rf_s_icmp_gt rf_f_W_stay_31 rfl (rf_m0 _) (rf_m0 _) (rf_s_bipush rf_f_W_stay_63 (rf_m0 _) (rf_s_iret rf_f_W_stay_65)) (rf_s_aload_n rf_f_W_stay_34 rfl (rf_m0 _) (rf_s_iload_n rf_f_W_stay_35 rfl (rf_m0 _) (rf_s_invV3S rf_f_W_stay_36 rfl rfl (rf_m0 _) fun q5 h4 => (rf_s_aload_n rf_f_W_stay_39 rfl (rf_m0 _) (rf_s_getAS rf_f_W_stay_40 (rf_m0 _) fun x6 => (rf_s_iconst rf_f_W_stay_43 (rf_m0 _) (rf_s_iload_n rf_f_W_stay_44 rfl (rf_m0 _) (rf_s_aload_n rf_f_W_stay_45 rfl (rf_m0 _) (rf_s_getAS rf_f_W_stay_46 (rf_m0 _) fun x7 => (rf_s_invS0 rf_f_W_stay_49 rfl rfl (rf_m0 _) fun q9 x10 h8 => (rf_s_if_eq rf_f_W_stay_52 rfl (rf_m0 _) (rf_m0 _) (rf_s_iinc (L' := [some (.inr (.inr (some o))), some (.inl l1), some (.inl (rf_w (l2 + 1)))]) rf_f_W_stay_57 rfl rfl (rf_s_goto rf_f_W_stay_60 rfl rfl rfl)) (rf_s_iload_n rf_f_W_stay_55 rfl (rf_m0 _) (rf_s_iret rf_f_W_stay_56)))))))))))))))))) : rf_den (rf_call d) rf_m_W_stay (23, [some (.inr (.inr (some o))), some (.inl l1), some (.inl l2)], [], h) = _)
noncomputable def rf_j_W_bad_42 (d : Nat) (o : Nat) (l1 : Int) (l2 : Int) (l3 : Int) (h : rf_H) : Option rf_R := rf_den (rf_call d) rf_m_W_bad (42, [some (.inr (.inr (some o))), some (.inl l1), some (.inl l2), some (.inl l3), none], [], h)
theorem rf_u_W_bad : rf_mt 93 = rf_m_W_bad := rfl
theorem rf_f_W_bad_0 : rf_Fb rf_m_W_bad 0 1 (.aload_n 0) 0 0 0 0 [] [] = true := by decide +kernel
theorem rf_f_W_bad_1 : rf_Fb rf_m_W_bad 1 4 (.getfield 123) 4 12 0 0 [] [] = true := by decide +kernel
theorem rf_f_W_bad_4 : rf_Fb rf_m_W_bad 4 7 (.ifCond .ne 6) 10 0 0 0 [] [] = true := by decide +kernel
theorem rf_f_W_bad_7 : rf_Fb rf_m_W_bad 7 9 (.bipush (-4)) 0 0 0 0 [] [] = true := by decide +kernel
theorem rf_f_W_bad_9 : rf_Fb rf_m_W_bad 9 10 (.ireturn) 0 0 0 0 [] [] = true := by decide +kernel
theorem rf_f_W_bad_10 : rf_Fb rf_m_W_bad 10 11 (.aload_n 0) 0 0 0 0 [] [] = true := by decide +kernel
theorem rf_f_W_bad_11 : rf_Fb rf_m_W_bad 11 14 (.getfield 59) 4 10 2 0 [] [] = true := by decide +kernel
theorem rf_f_W_bad_14 : rf_Fb rf_m_W_bad 14 17 (.getfield 228) 3 8 0 0 [] [] = true := by decide +kernel
theorem rf_f_W_bad_17 : rf_Fb rf_m_W_bad 17 18 (.istore_n 1) 0 0 0 0 [] [] = true := by decide +kernel
theorem rf_f_W_bad_18 : rf_Fb rf_m_W_bad 18 19 (.aload_n 0) 0 0 0 0 [] [] = true := by decide +kernel
theorem rf_f_W_bad_19 : rf_Fb rf_m_W_bad 19 22 (.getfield 59) 4 10 2 0 [] [] = true := by decide +kernel
theorem rf_f_W_bad_22 : rf_Fb rf_m_W_bad 22 23 (.aload_n 0) 0 0 0 0 [] [] = true := by decide +kernel
theorem rf_f_W_bad_23 : rf_Fb rf_m_W_bad 23 26 (.getfield 59) 4 10 2 0 [] [] = true := by decide +kernel
theorem rf_f_W_bad_26 : rf_Fb rf_m_W_bad 26 29 (.invokevirtual 179) 39 0 0 3 [] [] = true := by decide +kernel
theorem rf_f_W_bad_29 : rf_Fb rf_m_W_bad 29 30 (.aload_n 0) 0 0 0 0 [] [] = true := by decide +kernel
theorem rf_f_W_bad_30 : rf_Fb rf_m_W_bad 30 33 (.getfield 59) 4 10 2 0 [] [] = true := by decide +kernel
theorem rf_f_W_bad_33 : rf_Fb rf_m_W_bad 33 36 (.getfield 186) 3 9 0 0 [] [] = true := by decide +kernel
theorem rf_f_W_bad_36 : rf_Fb rf_m_W_bad 36 39 (.invokevirtual 183) 42 2 0 3 [] [] = true := by decide +kernel
theorem rf_f_W_bad_39 : rf_Fb rf_m_W_bad 39 40 (.istore_n 2) 0 0 0 0 [] [] = true := by decide +kernel
theorem rf_f_W_bad_40 : rf_Fb rf_m_W_bad 40 41 (.iconst 1) 0 0 0 0 [] [] = true := by decide +kernel
theorem rf_f_W_bad_41 : rf_Fb rf_m_W_bad 41 42 (.istore_n 3) 0 0 0 0 [] [true, true, true, true, false] = true := by decide +kernel
theorem rf_f_W_bad_42 : rf_Fb rf_m_W_bad 42 43 (.iload_n 3) 0 0 0 0 [] [] = true := by decide +kernel
theorem rf_f_W_bad_43 : rf_Fb rf_m_W_bad 43 44 (.aload_n 0) 0 0 0 0 [] [] = true := by decide +kernel
theorem rf_f_W_bad_44 : rf_Fb rf_m_W_bad 44 47 (.getfield 51) 4 9 2 0 [] [] = true := by decide +kernel
theorem rf_f_W_bad_47 : rf_Fb rf_m_W_bad 47 50 (.getfield 231) 0 0 2 0 [] [] = true := by decide +kernel
theorem rf_f_W_bad_50 : rf_Fb rf_m_W_bad 50 53 (.getfield 111) 2 1 0 0 [] [] = true := by decide +kernel
theorem rf_f_W_bad_53 : rf_Fb rf_m_W_bad 53 56 (.if_icmp .ge 60) 113 0 0 0 [] [] = true := by decide +kernel
theorem rf_f_W_bad_56 : rf_Fb rf_m_W_bad 56 57 (.aload_n 0) 0 0 0 0 [] [] = true := by decide +kernel
theorem rf_f_W_bad_57 : rf_Fb rf_m_W_bad 57 60 (.getfield 59) 4 10 2 0 [] [] = true := by decide +kernel
theorem rf_f_W_bad_60 : rf_Fb rf_m_W_bad 60 61 (.aload_n 0) 0 0 0 0 [] [] = true := by decide +kernel
theorem rf_f_W_bad_61 : rf_Fb rf_m_W_bad 61 64 (.getfield 51) 4 9 2 0 [] [] = true := by decide +kernel
theorem rf_f_W_bad_64 : rf_Fb rf_m_W_bad 64 65 (.aload_n 0) 0 0 0 0 [] [] = true := by decide +kernel
theorem rf_f_W_bad_65 : rf_Fb rf_m_W_bad 65 68 (.getfield 59) 4 10 2 0 [] [] = true := by decide +kernel
theorem rf_f_W_bad_68 : rf_Fb rf_m_W_bad 68 71 (.getfield 228) 3 8 0 0 [] [] = true := by decide +kernel
theorem rf_f_W_bad_71 : rf_Fb rf_m_W_bad 71 72 (.iload_n 3) 0 0 0 0 [] [] = true := by decide +kernel
theorem rf_f_W_bad_72 : rf_Fb rf_m_W_bad 72 73 (.iadd) 0 0 0 0 [] [] = true := by decide +kernel
theorem rf_f_W_bad_73 : rf_Fb rf_m_W_bad 73 76 (.invokevirtual 234) 25 1 0 0 [] [] = true := by decide +kernel
theorem rf_f_W_bad_76 : rf_Fb rf_m_W_bad 76 77 (.aload_n 0) 0 0 0 0 [] [] = true := by decide +kernel
theorem rf_f_W_bad_77 : rf_Fb rf_m_W_bad 77 80 (.getfield 59) 4 10 2 0 [] [] = true := by decide +kernel
theorem rf_f_W_bad_80 : rf_Fb rf_m_W_bad 80 83 (.getfield 186) 3 9 0 0 [] [] = true := by decide +kernel
theorem rf_f_W_bad_83 : rf_Fb rf_m_W_bad 83 86 (.invokevirtual 183) 42 2 0 3 [] [] = true := by decide +kernel
theorem rf_f_W_bad_86 : rf_Fb rf_m_W_bad 86 88 (.istore 4) 0 0 0 0 [] [] = true := by decide +kernel
theorem rf_f_W_bad_88 : rf_Fb rf_m_W_bad 88 90 (.iload 4) 0 0 0 0 [] [] = true := by decide +kernel
theorem rf_f_W_bad_90 : rf_Fb rf_m_W_bad 90 91 (.iload_n 2) 0 0 0 0 [] [] = true := by decide +kernel
theorem rf_f_W_bad_91 : rf_Fb rf_m_W_bad 91 94 (.if_icmp .ge 16) 107 0 0 0 [] [] = true := by decide +kernel
theorem rf_f_W_bad_94 : rf_Fb rf_m_W_bad 94 95 (.aload_n 0) 0 0 0 0 [] [] = true := by decide +kernel
theorem rf_f_W_bad_95 : rf_Fb rf_m_W_bad 95 98 (.getfield 59) 4 10 2 0 [] [] = true := by decide +kernel
theorem rf_f_W_bad_98 : rf_Fb rf_m_W_bad 98 101 (.getfield 228) 3 8 0 0 [] [] = true := by decide +kernel
theorem rf_f_W_bad_101 : rf_Fb rf_m_W_bad 101 102 (.iload_n 3) 0 0 0 0 [] [] = true := by decide +kernel
theorem rf_f_W_bad_102 : rf_Fb rf_m_W_bad 102 103 (.iadd) 0 0 0 0 [] [] = true := by decide +kernel
theorem rf_f_W_bad_103 : rf_Fb rf_m_W_bad 103 104 (.istore_n 1) 0 0 0 0 [] [] = true := by decide +kernel
theorem rf_f_W_bad_104 : rf_Fb rf_m_W_bad 104 106 (.iload 4) 0 0 0 0 [] [] = true := by decide +kernel
theorem rf_f_W_bad_106 : rf_Fb rf_m_W_bad 106 107 (.istore_n 2) 0 0 0 0 [] [] = true := by decide +kernel
theorem rf_f_W_bad_107 : rf_Fb rf_m_W_bad 107 110 (.iinc 3 1) 0 0 0 0 [] [] = true := by decide +kernel
theorem rf_f_W_bad_110 : rf_Fb rf_m_W_bad 110 113 (.goto (-68)) 42 0 0 0 [] [] = true := by decide +kernel
theorem rf_f_W_bad_113 : rf_Fb rf_m_W_bad 113 114 (.aload_n 0) 0 0 0 0 [] [] = true := by decide +kernel
theorem rf_f_W_bad_114 : rf_Fb rf_m_W_bad 114 115 (.iload_n 2) 0 0 0 0 [] [] = true := by decide +kernel
theorem rf_f_W_bad_115 : rf_Fb rf_m_W_bad 115 116 (.iload_n 1) 0 0 0 0 [] [] = true := by decide +kernel
theorem rf_f_W_bad_116 : rf_Fb rf_m_W_bad 116 119 (.invokevirtual 93) 60 2 0 4 [] [] = true := by decide +kernel
theorem rf_f_W_bad_119 : rf_Fb rf_m_W_bad 119 120 (.ireturn) 0 0 0 0 [] [] = true := by decide +kernel
set_option maxRecDepth 20000 in
set_option maxHeartbeats 2000000 in
theorem rf_e_W_bad (d : Nat) (o : Nat) (h : rf_H) : rf_call (d + 1) 93 [.inr (.inr (some o))] h = ((rf_gI h 4 o 12).bind fun x1 => (if x1 = 0 then some (some (.inl (-4)), h) else ((rf_gR h 4 o 10).bind fun x2 => (rf_nn x2 fun k3 => ((rf_gI h 3 k3 8).bind fun x4 => ((rf_gR h 4 o 10).bind fun x5 => ((rf_gR h 4 o 10).bind fun x6 => (rf_nn x6 fun k7 => (bif rf_isO h.1 k7 3 then ((rf_call d 39 [.inr (.inr (some k7))] h).bind fun q9 => rf_kI q9 fun x10 h8 => ((rf_gR h8 4 o 10).bind fun x11 => (rf_nn x11 fun k12 => ((rf_gI h8 3 k12 9).bind fun x13 => (rf_nn x5 fun k14 => (bif rf_isO h8.1 k14 3 then ((rf_call d 42 [.inr (.inr (some k14)), .inl x10, .inl x13] h8).bind fun q16 => rf_kI q16 fun x17 h15 => rf_j_W_bad_42 d o x4 x17 1 h15) else none)))))) else none))))))))) := by
  show rf_den (rf_call d) (rf_mt 93) _ = _
  rw [rf_u_W_bad]
  exact ((rf_s_aload_n rf_f_W_bad_0 rfl (rf_m0 _) (rf_s_getIS rf_f_W_bad_1 (rf_m0 _) fun x1 => (rf_s_if_ne rf_f_W_bad_4 rfl (rf_m0 _) (rf_m0 _) (rf_s_aload_n rf_f_W_bad_10 rfl (rf_m0 _) (rf_s_getAS rf_f_W_bad_11 (rf_m0 _) fun x2 => (rf_s_getIR rf_f_W_bad_14 (rf_m0 _) fun k3 x4 => (rf_s_istore_n (L' := [some (.inr (.inr (some o))), some (.inl x4), none, none, none]) rf_f_W_bad_17 rfl (rf_s_aload_n rf_f_W_bad_18 rfl (rf_m0 _) (rf_s_getAS rf_f_W_bad_19 (rf_m0 _) fun x5 => (rf_s_aload_n rf_f_W_bad_22 rfl (rf_m0 _) (rf_s_getAS rf_f_W_bad_23 (rf_m0 _) fun x6 => (rf_s_invV0R rf_f_W_bad_26 rfl rfl (rf_m0 _) fun k7 q9 x10 h8 => (rf_s_aload_n rf_f_W_bad_29 rfl (rf_m0 _) (rf_s_getAS rf_f_W_bad_30 (rf_m0 _) fun x11 => (rf_s_getIR rf_f_W_bad_33 (rf_m0 _) fun k12 x13 => (rf_s_invV0R rf_f_W_bad_36 rfl rfl (rf_m0 _) fun k14 q16 x17 h15 => (rf_s_istore_n (L' := [some (.inr (.inr (some o))), some (.inl x4), some (.inl x17), none, none]) rf_f_W_bad_39 rfl (rf_s_iconst rf_f_W_bad_40 (rf_m0 _) (rf_s_istore_n rf_f_W_bad_41 rfl rfl)))))))))))))))) (rf_s_bipush rf_f_W_bad_7 (rf_m0 _) (rf_s_iret rf_f_W_bad_9))))) : rf_den (rf_call d) rf_m_W_bad (0, [some (.inr (.inr (some o))), none, none, none, none], [], h) = _)
set_option maxRecDepth 20000 in
set_option maxHeartbeats 2000000 in
theorem rf_e_W_bad_42 (d : Nat) (o : Nat) (l1 : Int) (l2 : Int) (l3 : Int) (h : rf_H) : rf_j_W_bad_42 d o l1 l2 l3 h = ((rf_gR h 4 o 9).bind fun x1 => (rf_nn x1 fun k2 => ((rf_gR h 0 k2 0).bind fun x3 => (rf_nn x3 fun k4 => ((rf_gI h 2 k4 1).bind fun x5 => (if l3 < x5 then ((rf_gR h 4 o 10).bind fun x9 => ((rf_gR h 4 o 9).bind fun x10 => ((rf_gR h 4 o 10).bind fun x11 => (rf_nn x11 fun k12 => ((rf_gI h 3 k12 8).bind fun x13 => (rf_nn x10 fun k14 => (bif rf_isO h.1 k14 0 then ((rf_call d 25 [.inr (.inr (some k14)), .inl (rf_w (x13 + l3))] h).bind fun q16 => rf_kI q16 fun x17 h15 => ((rf_gR h15 4 o 10).bind fun x18 => (rf_nn x18 fun k19 => ((rf_gI h15 3 k19 9).bind fun x20 => (rf_nn x9 fun k21 => (bif rf_isO h15.1 k21 3 then ((rf_call d 42 [.inr (.inr (some k21)), .inl x17, .inl x20] h15).bind fun q23 => rf_kI q23 fun x24 h22 => (if x24 < l2 then ((rf_gR h22 4 o 10).bind fun x25 => (rf_nn x25 fun k26 => ((rf_gI h22 3 k26 8).bind fun x27 => rf_j_W_bad_42 d o (rf_w (x27 + l3)) x24 (rf_w (l3 + 1)) h22))) else rf_j_W_bad_42 d o l1 l2 (rf_w (l3 + 1)) h22)) else none)))))) else none))))))) else (bif rf_isO h.1 o 4 then ((rf_call d 60 [.inr (.inr (some o)), .inl l2, .inl l1] h).bind fun q7 => rf_kI q7 fun x8 h6 => some (some (.inl x8), h6)) else none))))))) :=
  ((rf_s_iload_n rf_f_W_bad_42 rfl (rf_m0 _) (rf_s_aload_n rf_f_W_bad_43 rfl (rf_m0 _) (rf_s_getAS rf_f_W_bad_44 (rf_m0 _) fun x1 => (rf_s_getAR rf_f_W_bad_47 (rf_m0 _) fun k2 x3 => (rf_s_getIR rf_f_W_bad_50 (rf_m0 _) fun k4 x5 => (rf_s_icmp_ge rf_f_W_bad_53 rfl (rf_m0 _) (rf_m0 _) (rf_s_aload_n rf_f_W_bad_113 rfl (rf_m0 _) (rf_s_iload_n rf_f_W_bad_114 rfl (rf_m0 _) (rf_s_iload_n rf_f_W_bad_115 rfl (rf_m0 _) (rf_s_invV0S rf_f_W_bad_116 rfl rfl (rf_m0 _) fun q7 x8 h6 => (rf_s_iret rf_f_W_bad_119))))) (rf_s_aload_n rf_f_W_bad_56 rfl (rf_m0 _) (rf_s_getAS rf_f_W_bad_57 (rf_m0 _) fun x9 => (rf_s_aload_n rf_f_W_bad_60 rfl (rf_m0 _) (rf_s_getAS rf_f_W_bad_61 (rf_m0 _) fun x10 => (rf_s_aload_n rf_f_W_bad_64 rfl (rf_m0 _) (rf_s_getAS rf_f_W_bad_65 (rf_m0 _) fun x11 => (rf_s_getIR rf_f_W_bad_68 (rf_m0 _) fun k12 x13 => (rf_s_iload_n rf_f_W_bad_71 rfl (rf_m0 _) (rf_s_iadd rf_f_W_bad_72 (rf_m0 _) (rf_s_invV0R rf_f_W_bad_73 rfl rfl (rf_m0 _) fun k14 q16 x17 h15 => (rf_s_aload_n rf_f_W_bad_76 rfl (rf_m0 _) (rf_s_getAS rf_f_W_bad_77 (rf_m0 _) fun x18 => (rf_s_getIR rf_f_W_bad_80 (rf_m0 _) fun k19 x20 => (rf_s_invV0R rf_f_W_bad_83 rfl rfl (rf_m0 _) fun k21 q23 x24 h22 => (rf_s_istore (L' := [some (.inr (.inr (some o))), some (.inl l1), some (.inl l2), some (.inl l3), some (.inl x24)]) rf_f_W_bad_86 rfl (rf_s_iload rf_f_W_bad_88 rfl (rf_m0 _) (rf_s_iload_n rf_f_W_bad_90 rfl (rf_m0 _) (rf_s_icmp_ge rf_f_W_bad_91 rfl (rf_m0 _) (rf_m0 _) (rf_s_iinc (L' := [some (.inr (.inr (some o))), some (.inl l1), some (.inl l2), some (.inl (rf_w (l3 + 1))), some (.inl x24)]) rf_f_W_bad_107 rfl rfl (rf_s_goto rf_f_W_bad_110 rfl rfl rfl)) (rf_s_aload_n rf_f_W_bad_94 rfl (rf_m0 _) (rf_s_getAS rf_f_W_bad_95 (rf_m0 _) fun x25 => (rf_s_getIR rf_f_W_bad_98 (rf_m0 _) fun k26 x27 => (rf_s_iload_n rf_f_W_bad_101 rfl (rf_m0 _) (rf_s_iadd rf_f_W_bad_102 (rf_m0 _) (rf_s_istore_n (L' := [some (.inr (.inr (some o))), some (.inl (rf_w (x27 + l3))), some (.inl l2), some (.inl l3), some (.inl x24)]) rf_f_W_bad_103 rfl (rf_s_iload rf_f_W_bad_104 rfl (rf_m0 _) (rf_s_istore_n (L' := [some (.inr (.inr (some o))), some (.inl (rf_w (x27 + l3))), some (.inl x24), some (.inl l3), some (.inl x24)]) rf_f_W_bad_106 rfl (rf_s_iinc (L' := [some (.inr (.inr (some o))), some (.inl (rf_w (x27 + l3))), some (.inl x24), some (.inl (rf_w (l3 + 1))), some (.inl x24)]) rf_f_W_bad_107 rfl rfl (rf_s_goto rf_f_W_bad_110 rfl rfl rfl)))))))))))))))))))))))))))))))))) : rf_den (rf_call d) rf_m_W_bad (42, [some (.inr (.inr (some o))), some (.inl l1), some (.inl l2), some (.inl l3), none], [], h) = _)
noncomputable def rf_j_W_odds_100 (d : Nat) (o : Nat) (l4 : Option Nat) (l6 : Int) (l8 : Int) (h : rf_H) : Option rf_R := rf_den (rf_call d) rf_m_W_odds (100, [some (.inr (.inr (some o))), none, none, none, some (.inr (.inr l4)), none, some (.inr (.inl l6)), none, some (.inl l8)], [], h)
theorem rf_u_W_odds : rf_mt 94 = rf_m_W_odds := rfl
theorem rf_f_W_odds_0 : rf_Fb rf_m_W_odds 0 1 (.aload_n 0) 0 0 0 0 [] [] = true := by decide +kernel
theorem rf_f_W_odds_1 : rf_Fb rf_m_W_odds 1 4 (.getfield 11) 4 0 2 0 [] [] = true := by decide +kernel
theorem rf_f_W_odds_4 : rf_Fb rf_m_W_odds 4 5 (.iload_n 1) 0 0 0 0 [] [] = true := by decide +kernel
theorem rf_f_W_odds_5 : rf_Fb rf_m_W_odds 5 8 (.invokestatic 74) 55 2 2 0 [] [] = true := by decide +kernel
theorem rf_f_W_odds_8 : rf_Fb rf_m_W_odds 8 10 (.astore 4) 0 0 0 0 [] [] = true := by decide +kernel
theorem rf_f_W_odds_10 : rf_Fb rf_m_W_odds 10 12 (.aload 4) 0 0 0 0 [] [] = true := by decide +kernel
theorem rf_f_W_odds_12 : rf_Fb rf_m_W_odds 12 15 (.ifnull 25) 37 0 0 0 [] [] = true := by decide +kernel
theorem rf_f_W_odds_15 : rf_Fb rf_m_W_odds 15 16 (.iload_n 2) 0 0 0 0 [] [] = true := by decide +kernel
theorem rf_f_W_odds_16 : rf_Fb rf_m_W_odds 16 19 (.ifCond .lt 21) 37 0 0 0 [] [] = true := by decide +kernel
theorem rf_f_W_odds_19 : rf_Fb rf_m_W_odds 19 20 (.iload_n 2) 0 0 0 0 [] [] = true := by decide +kernel
theorem rf_f_W_odds_20 : rf_Fb rf_m_W_odds 20 22 (.bipush 12) 0 0 0 0 [] [] = true := by decide +kernel
theorem rf_f_W_odds_22 : rf_Fb rf_m_W_odds 22 25 (.if_icmp .gt 15) 37 0 0 0 [] [] = true := by decide +kernel
theorem rf_f_W_odds_25 : rf_Fb rf_m_W_odds 25 26 (.iload_n 3) 0 0 0 0 [] [] = true := by decide +kernel
theorem rf_f_W_odds_26 : rf_Fb rf_m_W_odds 26 29 (.ifCond .lt 11) 37 0 0 0 [] [] = true := by decide +kernel
theorem rf_f_W_odds_29 : rf_Fb rf_m_W_odds 29 30 (.iload_n 3) 0 0 0 0 [] [] = true := by decide +kernel
theorem rf_f_W_odds_30 : rf_Fb rf_m_W_odds 30 32 (.bipush 12) 0 0 0 0 [] [] = true := by decide +kernel
theorem rf_f_W_odds_32 : rf_Fb rf_m_W_odds 32 33 (.iload_n 2) 0 0 0 0 [] [] = true := by decide +kernel
theorem rf_f_W_odds_33 : rf_Fb rf_m_W_odds 33 34 (.isub) 0 0 0 0 [] [] = true := by decide +kernel
theorem rf_f_W_odds_34 : rf_Fb rf_m_W_odds 34 37 (.if_icmp .le 5) 39 0 0 0 [] [] = true := by decide +kernel
theorem rf_f_W_odds_37 : rf_Fb rf_m_W_odds 37 38 (.iconst (-1)) 0 0 0 0 [] [] = true := by decide +kernel
theorem rf_f_W_odds_38 : rf_Fb rf_m_W_odds 38 39 (.ireturn) 0 0 0 0 [] [] = true := by decide +kernel
theorem rf_f_W_odds_39 : rf_Fb rf_m_W_odds 39 40 (.aload_n 0) 0 0 0 0 [] [] = true := by decide +kernel
theorem rf_f_W_odds_40 : rf_Fb rf_m_W_odds 40 42 (.aload 4) 0 0 0 0 [] [] = true := by decide +kernel
theorem rf_f_W_odds_42 : rf_Fb rf_m_W_odds 42 44 (.bipush 6) 0 0 0 0 [] [] = true := by decide +kernel
theorem rf_f_W_odds_44 : rf_Fb rf_m_W_odds 44 47 (.invokevirtual 206) 88 2 0 4 [] [] = true := by decide +kernel
theorem rf_f_W_odds_47 : rf_Fb rf_m_W_odds 47 49 (.istore 5) 0 0 0 0 [] [] = true := by decide +kernel
theorem rf_f_W_odds_49 : rf_Fb rf_m_W_odds 49 51 (.iload 5) 0 0 0 0 [] [] = true := by decide +kernel
theorem rf_f_W_odds_51 : rf_Fb rf_m_W_odds 51 54 (.ifCond .eq 6) 57 0 0 0 [] [] = true := by decide +kernel
theorem rf_f_W_odds_54 : rf_Fb rf_m_W_odds 54 56 (.iload 5) 0 0 0 0 [] [] = true := by decide +kernel
theorem rf_f_W_odds_56 : rf_Fb rf_m_W_odds 56 57 (.ireturn) 0 0 0 0 [] [] = true := by decide +kernel
theorem rf_f_W_odds_57 : rf_Fb rf_m_W_odds 57 58 (.aload_n 0) 0 0 0 0 [] [] = true := by decide +kernel
theorem rf_f_W_odds_58 : rf_Fb rf_m_W_odds 58 61 (.getfield 34) 4 6 2 0 [] [] = true := by decide +kernel
theorem rf_f_W_odds_61 : rf_Fb rf_m_W_odds 61 62 (.iconst 0) 0 0 0 0 [] [] = true := by decide +kernel
theorem rf_f_W_odds_62 : rf_Fb rf_m_W_odds 62 63 (.iload_n 2) 0 0 0 0 [] [] = true := by decide +kernel
theorem rf_f_W_odds_63 : rf_Fb rf_m_W_odds 63 66 (.invokevirtual 90) 2 2 3 2 [] [] = true := by decide +kernel
theorem rf_f_W_odds_66 : rf_Fb rf_m_W_odds 66 67 (.aload_n 0) 0 0 0 0 [] [] = true := by decide +kernel
theorem rf_f_W_odds_67 : rf_Fb rf_m_W_odds 67 70 (.getfield 34) 4 6 2 0 [] [] = true := by decide +kernel
theorem rf_f_W_odds_70 : rf_Fb rf_m_W_odds 70 71 (.iconst 1) 0 0 0 0 [] [] = true := by decide +kernel
theorem rf_f_W_odds_71 : rf_Fb rf_m_W_odds 71 72 (.iload_n 3) 0 0 0 0 [] [] = true := by decide +kernel
theorem rf_f_W_odds_72 : rf_Fb rf_m_W_odds 72 75 (.invokevirtual 90) 2 2 3 2 [] [] = true := by decide +kernel
theorem rf_f_W_odds_75 : rf_Fb rf_m_W_odds 75 76 (.aload_n 0) 0 0 0 0 [] [] = true := by decide +kernel
theorem rf_f_W_odds_76 : rf_Fb rf_m_W_odds 76 79 (.getfield 34) 4 6 2 0 [] [] = true := by decide +kernel
theorem rf_f_W_odds_79 : rf_Fb rf_m_W_odds 79 80 (.iconst 2) 0 0 0 0 [] [] = true := by decide +kernel
theorem rf_f_W_odds_80 : rf_Fb rf_m_W_odds 80 82 (.bipush 12) 0 0 0 0 [] [] = true := by decide +kernel
theorem rf_f_W_odds_82 : rf_Fb rf_m_W_odds 82 83 (.iload_n 2) 0 0 0 0 [] [] = true := by decide +kernel
theorem rf_f_W_odds_83 : rf_Fb rf_m_W_odds 83 84 (.isub) 0 0 0 0 [] [] = true := by decide +kernel
theorem rf_f_W_odds_84 : rf_Fb rf_m_W_odds 84 85 (.iload_n 3) 0 0 0 0 [] [] = true := by decide +kernel
theorem rf_f_W_odds_85 : rf_Fb rf_m_W_odds 85 86 (.isub) 0 0 0 0 [] [] = true := by decide +kernel
theorem rf_f_W_odds_86 : rf_Fb rf_m_W_odds 86 89 (.invokevirtual 90) 2 2 3 2 [] [] = true := by decide +kernel
theorem rf_f_W_odds_89 : rf_Fb rf_m_W_odds 89 90 (.aload_n 0) 0 0 0 0 [] [] = true := by decide +kernel
theorem rf_f_W_odds_90 : rf_Fb rf_m_W_odds 90 91 (.iconst 0) 0 0 0 0 [] [] = true := by decide +kernel
theorem rf_f_W_odds_91 : rf_Fb rf_m_W_odds 91 94 (.invokevirtual 209) 89 1 3 4 [] [] = true := by decide +kernel
theorem rf_f_W_odds_94 : rf_Fb rf_m_W_odds 94 95 (.lconst 1) 0 0 0 1 [] [] = true := by decide +kernel
theorem rf_f_W_odds_95 : rf_Fb rf_m_W_odds 95 97 (.lstore 6) 0 0 0 0 [] [] = true := by decide +kernel
theorem rf_f_W_odds_97 : rf_Fb rf_m_W_odds 97 98 (.iconst 0) 0 0 0 0 [] [] = true := by decide +kernel
theorem rf_f_W_odds_98 : rf_Fb rf_m_W_odds 98 100 (.istore 8) 0 0 0 0 [] [true, false, false, false, true, false, true, false, true] = true := by decide +kernel
theorem rf_f_W_odds_100 : rf_Fb rf_m_W_odds 100 102 (.iload 8) 0 0 0 0 [] [] = true := by decide +kernel
theorem rf_f_W_odds_102 : rf_Fb rf_m_W_odds 102 104 (.aload 4) 0 0 0 0 [] [] = true := by decide +kernel
theorem rf_f_W_odds_104 : rf_Fb rf_m_W_odds 104 107 (.getfield 111) 2 1 0 0 [] [] = true := by decide +kernel
theorem rf_f_W_odds_107 : rf_Fb rf_m_W_odds 107 110 (.if_icmp .ge 17) 124 0 0 0 [] [] = true := by decide +kernel
theorem rf_f_W_odds_110 : rf_Fb rf_m_W_odds 110 112 (.lload 6) 0 0 0 0 [] [] = true := by decide +kernel
theorem rf_f_W_odds_112 : rf_Fb rf_m_W_odds 112 115 (.ldc2_w 237) 0 0 0 12 [] [] = true := by decide +kernel
theorem rf_f_W_odds_115 : rf_Fb rf_m_W_odds 115 116 (.lmul) 0 0 0 0 [] [] = true := by decide +kernel
theorem rf_f_W_odds_116 : rf_Fb rf_m_W_odds 116 118 (.lstore 6) 0 0 0 0 [] [] = true := by decide +kernel
theorem rf_f_W_odds_118 : rf_Fb rf_m_W_odds 118 121 (.iinc 8 1) 0 0 0 0 [] [] = true := by decide +kernel
theorem rf_f_W_odds_121 : rf_Fb rf_m_W_odds 121 124 (.goto (-21)) 100 0 0 0 [] [] = true := by decide +kernel
theorem rf_f_W_odds_124 : rf_Fb rf_m_W_odds 124 125 (.aload_n 0) 0 0 0 0 [] [] = true := by decide +kernel
theorem rf_f_W_odds_125 : rf_Fb rf_m_W_odds 125 126 (.aload_n 0) 0 0 0 0 [] [] = true := by decide +kernel
theorem rf_f_W_odds_126 : rf_Fb rf_m_W_odds 126 129 (.getfield 71) 4 11 2 0 [] [] = true := by decide +kernel
theorem rf_f_W_odds_129 : rf_Fb rf_m_W_odds 129 131 (.aload 4) 0 0 0 0 [] [] = true := by decide +kernel
theorem rf_f_W_odds_131 : rf_Fb rf_m_W_odds 131 132 (.iconst 0) 0 0 0 0 [] [] = true := by decide +kernel
theorem rf_f_W_odds_132 : rf_Fb rf_m_W_odds 132 133 (.aload_n 0) 0 0 0 0 [] [] = true := by decide +kernel
theorem rf_f_W_odds_133 : rf_Fb rf_m_W_odds 133 136 (.getfield 34) 4 6 2 0 [] [] = true := by decide +kernel
theorem rf_f_W_odds_136 : rf_Fb rf_m_W_odds 136 139 (.invokestatic 239) 52 4 1 0 [] [] = true := by decide +kernel
theorem rf_f_W_odds_139 : rf_Fb rf_m_W_odds 139 141 (.lload 6) 0 0 0 0 [] [] = true := by decide +kernel
theorem rf_f_W_odds_141 : rf_Fb rf_m_W_odds 141 144 (.invokevirtual 243) 95 2 3 4 [] [] = true := by decide +kernel
theorem rf_f_W_odds_144 : rf_Fb rf_m_W_odds 144 145 (.iconst 1) 0 0 0 0 [] [] = true := by decide +kernel
theorem rf_f_W_odds_145 : rf_Fb rf_m_W_odds 145 146 (.ireturn) 0 0 0 0 [] [] = true := by decide +kernel
set_option maxRecDepth 20000 in
set_option maxHeartbeats 2000000 in
theorem rf_e_W_odds (d : Nat) (o : Nat) (a1 : Int) (a2 : Int) (a3 : Int) (h : rf_H) : rf_call (d + 1) 94 [.inr (.inr (some o)), .inl a1, .inl a2, .inl a3] h = ((rf_gR h 4 o 0).bind fun x1 => ((rf_call d 55 [.inr (.inr x1), .inl a1] h).bind fun q3 => rf_kR q3 fun x4 h2 => (rf_nz x4 (some (some (.inl (-1)), h2)) ((if a2 < 0 then some (some (.inl (-1)), h2) else (if 12 < a2 then some (some (.inl (-1)), h2) else (if a3 < 0 then some (some (.inl (-1)), h2) else (if (rf_w (12 - a2)) < a3 then some (some (.inl (-1)), h2) else (bif rf_isO h2.1 o 4 then ((rf_call d 88 [.inr (.inr (some o)), .inr (.inr x4), .inl 6] h2).bind fun q6 => rf_kI q6 fun x7 h5 => (if x7 = 0 then ((rf_gR h5 4 o 6).bind fun x8 => (rf_nn x8 fun k9 => (bif rf_isO h5.1 k9 2 then ((rf_call d 2 [.inr (.inr (some k9)), .inl 0, .inl a2] h5).bind fun q11 => rf_kV q11 fun h10 => ((rf_gR h10 4 o 6).bind fun x12 => (rf_nn x12 fun k13 => (bif rf_isO h10.1 k13 2 then ((rf_call d 2 [.inr (.inr (some k13)), .inl 1, .inl a3] h10).bind fun q15 => rf_kV q15 fun h14 => ((rf_gR h14 4 o 6).bind fun x16 => (rf_nn x16 fun k17 => (bif rf_isO h14.1 k17 2 then ((rf_call d 2 [.inr (.inr (some k17)), .inl 2, .inl (rf_w ((rf_w (12 - a2)) - a3))] h14).bind fun q19 => rf_kV q19 fun h18 => (bif rf_isO h18.1 o 4 then ((rf_call d 89 [.inr (.inr (some o)), .inl 0] h18).bind fun q21 => rf_kV q21 fun h20 => rf_j_W_odds_100 d o x4 1 0 h20) else none)) else none)))) else none)))) else none))) else some (some (.inl x7), h5))) else none))))))))) := by
  show rf_den (rf_call d) (rf_mt 94) _ = _
  rw [rf_u_W_odds]
  exact ((rf_s_aload_n rf_f_W_odds_0 rfl (rf_m0 _) (rf_s_getAS rf_f_W_odds_1 (rf_m0 _) fun x1 => (rf_s_iload_n rf_f_W_odds_4 rfl (rf_m0 _) (rf_s_invS2 rf_f_W_odds_5 rfl rfl (rf_m0 _) fun q3 x4 h2 => (rf_s_astore (L' := [some (.inr (.inr (some o))), some (.inl a1), some (.inl a2), some (.inl a3), some (.inr (.inr x4)), none, none, none, none]) rf_f_W_odds_8 rfl (rf_s_aload rf_f_W_odds_10 rfl (rf_m0 _) (rf_s_ifnull rf_f_W_odds_12 rfl (rf_m0 _) (rf_m0 _) (rf_s_iconst rf_f_W_odds_37 (rf_m0 _) (rf_s_iret rf_f_W_odds_38)) (rf_s_iload_n rf_f_W_odds_15 rfl (rf_m0 _) (rf_s_if_lt rf_f_W_odds_16 rfl (rf_m0 _) (rf_m0 _) (rf_s_iconst rf_f_W_odds_37 (rf_m0 _) (rf_s_iret rf_f_W_odds_38)) (rf_s_iload_n rf_f_W_odds_19 rfl (rf_m0 _) (rf_s_bipush rf_f_W_odds_20 (rf_m0 _) (rf_s_icmp_gt rf_f_W_odds_22 rfl (rf_m0 _) (rf_m0 _) (rf_s_iconst rf_f_W_odds_37 (rf_m0 _) (rf_s_iret rf_f_W_odds_38)) (rf_s_iload_n rf_f_W_odds_25 rfl (rf_m0 _) (rf_s_if_lt rf_f_W_odds_26 rfl (rf_m0 _) (rf_m0 _) (rf_s_iconst rf_f_W_odds_37 (rf_m0 _) (rf_s_iret rf_f_W_odds_38)) (rf_s_iload_n rf_f_W_odds_29 rfl (rf_m0 _) (rf_s_bipush rf_f_W_odds_30 (rf_m0 _) (rf_s_iload_n rf_f_W_odds_32 rfl (rf_m0 _) (rf_s_isub rf_f_W_odds_33 (rf_m0 _) (rf_s_icmp_le rf_f_W_odds_34 rfl (rf_m0 _) (rf_m0 _) (rf_s_aload_n rf_f_W_odds_39 rfl (rf_m0 _) (rf_s_aload rf_f_W_odds_40 rfl (rf_m0 _) (rf_s_bipush rf_f_W_odds_42 (rf_m0 _) (rf_s_invV0S rf_f_W_odds_44 rfl rfl (rf_m0 _) fun q6 x7 h5 => (rf_s_istore (L' := [some (.inr (.inr (some o))), some (.inl a1), some (.inl a2), some (.inl a3), some (.inr (.inr x4)), some (.inl x7), none, none, none]) rf_f_W_odds_47 rfl (rf_s_iload rf_f_W_odds_49 rfl (rf_m0 _) (rf_s_if_eq rf_f_W_odds_51 rfl (rf_m0 _) (rf_m0 _) (rf_s_aload_n rf_f_W_odds_57 rfl (rf_m0 _) (rf_s_getAS rf_f_W_odds_58 (rf_m0 _) fun x8 => (rf_s_iconst rf_f_W_odds_61 (rf_m0 _) (rf_s_iload_n rf_f_W_odds_62 rfl (rf_m0 _) (rf_s_invV3R rf_f_W_odds_63 rfl rfl (rf_m0 _) fun k9 q11 h10 => (rf_s_aload_n rf_f_W_odds_66 rfl (rf_m0 _) (rf_s_getAS rf_f_W_odds_67 (rf_m0 _) fun x12 => (rf_s_iconst rf_f_W_odds_70 (rf_m0 _) (rf_s_iload_n rf_f_W_odds_71 rfl (rf_m0 _) (rf_s_invV3R rf_f_W_odds_72 rfl rfl (rf_m0 _) fun k13 q15 h14 => (rf_s_aload_n rf_f_W_odds_75 rfl (rf_m0 _) (rf_s_getAS rf_f_W_odds_76 (rf_m0 _) fun x16 => (rf_s_iconst rf_f_W_odds_79 (rf_m0 _) (rf_s_bipush rf_f_W_odds_80 (rf_m0 _) (rf_s_iload_n rf_f_W_odds_82 rfl (rf_m0 _) (rf_s_isub rf_f_W_odds_83 (rf_m0 _) (rf_s_iload_n rf_f_W_odds_84 rfl (rf_m0 _) (rf_s_isub rf_f_W_odds_85 (rf_m0 _) (rf_s_invV3R rf_f_W_odds_86 rfl rfl (rf_m0 _) fun k17 q19 h18 => (rf_s_aload_n rf_f_W_odds_89 rfl (rf_m0 _) (rf_s_iconst rf_f_W_odds_90 (rf_m0 _) (rf_s_invV3S rf_f_W_odds_91 rfl rfl (rf_m0 _) fun q21 h20 => (rf_s_lconst rf_f_W_odds_94 (rf_m0 _) (rf_s_lstore (L' := [some (.inr (.inr (some o))), some (.inl a1), some (.inl a2), some (.inl a3), some (.inr (.inr x4)), some (.inl x7), some (.inr (.inl 1)), none, none]) rf_f_W_odds_95 rfl (rf_s_iconst rf_f_W_odds_97 (rf_m0 _) (rf_s_istore rf_f_W_odds_98 rfl rfl)))))))))))))))))))))))))) (rf_s_iload rf_f_W_odds_54 rfl (rf_m0 _) (rf_s_iret rf_f_W_odds_56))))))))) (rf_s_iconst rf_f_W_odds_37 (rf_m0 _) (rf_s_iret rf_f_W_odds_38))))))))))))))))))))) : rf_den (rf_call d) rf_m_W_odds (0, [some (.inr (.inr (some o))), some (.inl a1), some (.inl a2), some (.inl a3), none, none, none, none, none], [], h) = _)
set_option maxRecDepth 20000 in
set_option maxHeartbeats 2000000 in
theorem rf_e_W_odds_100 (d : Nat) (o : Nat) (l4 : Option Nat) (l6 : Int) (l8 : Int) (h : rf_H) : rf_j_W_odds_100 d o l4 l6 l8 h = (rf_nn l4 fun k1 => ((rf_gI h 2 k1 1).bind fun x2 => (if l8 < x2 then rf_j_W_odds_100 d o l4 (rf_wl (l6 * 12)) (rf_w (l8 + 1)) h else ((rf_gR h 4 o 11).bind fun x3 => ((rf_gR h 4 o 6).bind fun x4 => ((rf_call d 52 [.inr (.inr x3), .inr (.inr l4), .inl 0, .inr (.inr x4)] h).bind fun q6 => rf_kL q6 fun x7 h5 => (bif rf_isO h5.1 o 4 then ((rf_call d 95 [.inr (.inr (some o)), .inr (.inl x7), .inr (.inl l6)] h5).bind fun q9 => rf_kV q9 fun h8 => some (some (.inl 1), h8)) else none))))))) :=
  ((rf_s_iload rf_f_W_odds_100 rfl (rf_m0 _) (rf_s_aload rf_f_W_odds_102 rfl (rf_m0 _) (rf_s_getIR rf_f_W_odds_104 (rf_m0 _) fun k1 x2 => (rf_s_icmp_ge rf_f_W_odds_107 rfl (rf_m0 _) (rf_m0 _) (rf_s_aload_n rf_f_W_odds_124 rfl (rf_m0 _) (rf_s_aload_n rf_f_W_odds_125 rfl (rf_m0 _) (rf_s_getAS rf_f_W_odds_126 (rf_m0 _) fun x3 => (rf_s_aload rf_f_W_odds_129 rfl (rf_m0 _) (rf_s_iconst rf_f_W_odds_131 (rf_m0 _) (rf_s_aload_n rf_f_W_odds_132 rfl (rf_m0 _) (rf_s_getAS rf_f_W_odds_133 (rf_m0 _) fun x4 => (rf_s_invS1 rf_f_W_odds_136 rfl rfl (rf_m0 _) fun q6 x7 h5 => (rf_s_lload rf_f_W_odds_139 rfl (rf_m0 _) (rf_s_invV3S rf_f_W_odds_141 rfl rfl (rf_m0 _) fun q9 h8 => (rf_s_iconst rf_f_W_odds_144 (rf_m0 _) (rf_s_iret rf_f_W_odds_145)))))))))))) (rf_s_lload rf_f_W_odds_110 rfl (rf_m0 _) (rf_s_ldc2_w rf_f_W_odds_112 (rf_m0 _) (rf_s_lmul rf_f_W_odds_115 (rf_m0 _) (rf_s_lstore (L' := [some (.inr (.inr (some o))), none, none, none, some (.inr (.inr l4)), none, some (.inr (.inl (rf_wl (l6 * 12)))), none, some (.inl l8)]) rf_f_W_odds_116 rfl (rf_s_iinc (L' := [some (.inr (.inr (some o))), none, none, none, some (.inr (.inr l4)), none, some (.inr (.inl (rf_wl (l6 * 12)))), none, some (.inl (rf_w (l8 + 1)))]) rf_f_W_odds_118 rfl rfl (rf_s_goto rf_f_W_odds_121 rfl rfl rfl)))))))))) : rf_den (rf_call d) rf_m_W_odds (100, [some (.inr (.inr (some o))), none, none, none, some (.inr (.inr l4)), none, some (.inr (.inl l6)), none, some (.inl l8)], [], h) = _)
theorem rf_u_W_tellChances : rf_mt 95 = rf_m_W_tellChances := rfl
theorem rf_f_W_tellChances_0 : rf_Fb rf_m_W_tellChances 0 1 (.lconst 1) 0 0 0 1 [] [] = true := by decide +kernel
theorem rf_f_W_tellChances_1 : rf_Fb rf_m_W_tellChances 1 2 (.lload_n 1) 0 0 0 0 [] [] = true := by decide +kernel
theorem rf_f_W_tellChances_2 : rf_Fb rf_m_W_tellChances 2 3 (.lload_n 3) 0 0 0 0 [] [] = true := by decide +kernel
theorem rf_f_W_tellChances_3 : rf_Fb rf_m_W_tellChances 3 6 (.invokestatic 299) 96 2 1 0 [] [] = true := by decide +kernel
theorem rf_f_W_tellChances_6 : rf_Fb rf_m_W_tellChances 6 9 (.invokestatic 303) 16 2 1 0 [] [] = true := by decide +kernel
theorem rf_f_W_tellChances_9 : rf_Fb rf_m_W_tellChances 9 11 (.lstore 5) 0 0 0 0 [] [] = true := by decide +kernel
theorem rf_f_W_tellChances_11 : rf_Fb rf_m_W_tellChances 11 12 (.aload_n 0) 0 0 0 0 [] [] = true := by decide +kernel
theorem rf_f_W_tellChances_12 : rf_Fb rf_m_W_tellChances 12 13 (.lload_n 1) 0 0 0 0 [] [] = true := by decide +kernel
theorem rf_f_W_tellChances_13 : rf_Fb rf_m_W_tellChances 13 15 (.lload 5) 0 0 0 0 [] [] = true := by decide +kernel
theorem rf_f_W_tellChances_15 : rf_Fb rf_m_W_tellChances 15 16 (.ldiv) 0 0 0 0 [] [] = true := by decide +kernel
theorem rf_f_W_tellChances_16 : rf_Fb rf_m_W_tellChances 16 19 (.putfield 282) 4 14 1 0 [] [] = true := by decide +kernel
theorem rf_f_W_tellChances_19 : rf_Fb rf_m_W_tellChances 19 20 (.aload_n 0) 0 0 0 0 [] [] = true := by decide +kernel
theorem rf_f_W_tellChances_20 : rf_Fb rf_m_W_tellChances 20 21 (.lload_n 3) 0 0 0 0 [] [] = true := by decide +kernel
theorem rf_f_W_tellChances_21 : rf_Fb rf_m_W_tellChances 21 23 (.lload 5) 0 0 0 0 [] [] = true := by decide +kernel
theorem rf_f_W_tellChances_23 : rf_Fb rf_m_W_tellChances 23 24 (.ldiv) 0 0 0 0 [] [] = true := by decide +kernel
theorem rf_f_W_tellChances_24 : rf_Fb rf_m_W_tellChances 24 27 (.putfield 63) 4 15 1 0 [] [] = true := by decide +kernel
theorem rf_f_W_tellChances_27 : rf_Fb rf_m_W_tellChances 27 28 (.return_) 0 0 0 0 [] [] = true := by decide +kernel
set_option maxRecDepth 20000 in
set_option maxHeartbeats 2000000 in
theorem rf_e_W_tellChances (d : Nat) (o : Nat) (a1 : Int) (a2 : Int) (h : rf_H) : rf_call (d + 1) 95 [.inr (.inr (some o)), .inr (.inl a1), .inr (.inl a2)] h = ((rf_call d 96 [.inr (.inl a1), .inr (.inl a2)] h).bind fun q2 => rf_kL q2 fun x3 h1 => ((rf_call d 16 [.inr (.inl 1), .inr (.inl x3)] h1).bind fun q5 => rf_kL q5 fun x6 h4 => (if x6 = 0 then none else ((rf_pI h4 4 o 14 (rf_wl (Int.tdiv a1 x6))).bind fun h7 => (if x6 = 0 then none else ((rf_pI h7 4 o 15 (rf_wl (Int.tdiv a2 x6))).bind fun h8 => some (none, h8))))))) := by
  show rf_den (rf_call d) (rf_mt 95) _ = _
  rw [rf_u_W_tellChances]
  exact ((rf_s_lconst rf_f_W_tellChances_0 (rf_m0 _) (rf_s_lload_n rf_f_W_tellChances_1 rfl (rf_m0 _) (rf_s_lload_n rf_f_W_tellChances_2 rfl (rf_m0 _) (rf_s_invS1 rf_f_W_tellChances_3 rfl rfl (rf_m0 _) fun q2 x3 h1 => (rf_s_invS1 rf_f_W_tellChances_6 rfl rfl (rf_m0 _) fun q5 x6 h4 => (rf_s_lstore (L' := [some (.inr (.inr (some o))), some (.inr (.inl a1)), none, some (.inr (.inl a2)), none, some (.inr (.inl x6)), none]) rf_f_W_tellChances_9 rfl (rf_s_aload_n rf_f_W_tellChances_11 rfl (rf_m0 _) (rf_s_lload_n rf_f_W_tellChances_12 rfl (rf_m0 _) (rf_s_lload rf_f_W_tellChances_13 rfl (rf_m0 _) (rf_s_ldivZ rf_f_W_tellChances_15 (rf_m0 _) (rf_s_putLS rf_f_W_tellChances_16 (rf_m0 _) fun h7 => (rf_s_aload_n rf_f_W_tellChances_19 rfl (rf_m0 _) (rf_s_lload_n rf_f_W_tellChances_20 rfl (rf_m0 _) (rf_s_lload rf_f_W_tellChances_21 rfl (rf_m0 _) (rf_s_ldivZ rf_f_W_tellChances_23 (rf_m0 _) (rf_s_putLS rf_f_W_tellChances_24 (rf_m0 _) fun h8 => (rf_s_vret rf_f_W_tellChances_27))))))))))))))))) : rf_den (rf_call d) rf_m_W_tellChances (0, [some (.inr (.inr (some o))), some (.inr (.inl a1)), none, some (.inr (.inl a2)), none, none, none], [], h) = _)
noncomputable def rf_j_W_commonDivisor_9 (d : Nat) (l4 : Int) (l6 : Int) (l8 : Int) (h : rf_H) : Option rf_R := rf_den (rf_call d) rf_m_W_commonDivisor (9, [none, none, none, none, some (.inr (.inl l4)), none, some (.inr (.inl l6)), none, some (.inl l8), none, none], [], h)
theorem rf_u_W_commonDivisor : rf_mt 96 = rf_m_W_commonDivisor := rfl
theorem rf_f_W_commonDivisor_0 : rf_Fb rf_m_W_commonDivisor 0 1 (.lload_n 0) 0 0 0 0 [] [] = true := by decide +kernel
theorem rf_f_W_commonDivisor_1 : rf_Fb rf_m_W_commonDivisor 1 3 (.lstore 4) 0 0 0 0 [] [] = true := by decide +kernel
theorem rf_f_W_commonDivisor_3 : rf_Fb rf_m_W_commonDivisor 3 4 (.lload_n 2) 0 0 0 0 [] [] = true := by decide +kernel
theorem rf_f_W_commonDivisor_4 : rf_Fb rf_m_W_commonDivisor 4 6 (.lstore 6) 0 0 0 0 [] [] = true := by decide +kernel
theorem rf_f_W_commonDivisor_6 : rf_Fb rf_m_W_commonDivisor 6 7 (.iconst 0) 0 0 0 0 [] [] = true := by decide +kernel
theorem rf_f_W_commonDivisor_7 : rf_Fb rf_m_W_commonDivisor 7 9 (.istore 8) 0 0 0 0 [] [false, false, false, false, true, false, true, false, true, false, false] = true := by decide +kernel
theorem rf_f_W_commonDivisor_9 : rf_Fb rf_m_W_commonDivisor 9 11 (.iload 8) 0 0 0 0 [] [] = true := by decide +kernel
theorem rf_f_W_commonDivisor_11 : rf_Fb rf_m_W_commonDivisor 11 14 (.sipush 128) 0 0 0 0 [] [] = true := by decide +kernel
theorem rf_f_W_commonDivisor_14 : rf_Fb rf_m_W_commonDivisor 14 17 (.if_icmp .ge 31) 45 0 0 0 [] [] = true := by decide +kernel
theorem rf_f_W_commonDivisor_17 : rf_Fb rf_m_W_commonDivisor 17 19 (.lload 6) 0 0 0 0 [] [] = true := by decide +kernel
theorem rf_f_W_commonDivisor_19 : rf_Fb rf_m_W_commonDivisor 19 20 (.lconst 0) 0 0 0 0 [] [] = true := by decide +kernel
theorem rf_f_W_commonDivisor_20 : rf_Fb rf_m_W_commonDivisor 20 21 (.lcmp) 0 0 0 0 [] [] = true := by decide +kernel
theorem rf_f_W_commonDivisor_21 : rf_Fb rf_m_W_commonDivisor 21 24 (.ifCond .eq 24) 45 0 0 0 [] [] = true := by decide +kernel
theorem rf_f_W_commonDivisor_24 : rf_Fb rf_m_W_commonDivisor 24 26 (.lload 4) 0 0 0 0 [] [] = true := by decide +kernel
theorem rf_f_W_commonDivisor_26 : rf_Fb rf_m_W_commonDivisor 26 28 (.lload 6) 0 0 0 0 [] [] = true := by decide +kernel
theorem rf_f_W_commonDivisor_28 : rf_Fb rf_m_W_commonDivisor 28 29 (.lrem) 0 0 0 0 [] [] = true := by decide +kernel
theorem rf_f_W_commonDivisor_29 : rf_Fb rf_m_W_commonDivisor 29 31 (.lstore 9) 0 0 0 0 [] [] = true := by decide +kernel
theorem rf_f_W_commonDivisor_31 : rf_Fb rf_m_W_commonDivisor 31 33 (.lload 6) 0 0 0 0 [] [] = true := by decide +kernel
theorem rf_f_W_commonDivisor_33 : rf_Fb rf_m_W_commonDivisor 33 35 (.lstore 4) 0 0 0 0 [] [] = true := by decide +kernel
theorem rf_f_W_commonDivisor_35 : rf_Fb rf_m_W_commonDivisor 35 37 (.lload 9) 0 0 0 0 [] [] = true := by decide +kernel
theorem rf_f_W_commonDivisor_37 : rf_Fb rf_m_W_commonDivisor 37 39 (.lstore 6) 0 0 0 0 [] [] = true := by decide +kernel
theorem rf_f_W_commonDivisor_39 : rf_Fb rf_m_W_commonDivisor 39 42 (.iinc 8 1) 0 0 0 0 [] [] = true := by decide +kernel
theorem rf_f_W_commonDivisor_42 : rf_Fb rf_m_W_commonDivisor 42 45 (.goto (-33)) 9 0 0 0 [] [] = true := by decide +kernel
theorem rf_f_W_commonDivisor_45 : rf_Fb rf_m_W_commonDivisor 45 47 (.lload 4) 0 0 0 0 [] [] = true := by decide +kernel
theorem rf_f_W_commonDivisor_47 : rf_Fb rf_m_W_commonDivisor 47 48 (.lreturn) 0 0 0 0 [] [] = true := by decide +kernel
set_option maxRecDepth 20000 in
set_option maxHeartbeats 2000000 in
theorem rf_e_W_commonDivisor (d : Nat) (a1 : Int) (a2 : Int) (h : rf_H) : rf_call (d + 1) 96 [.inr (.inl a1), .inr (.inl a2)] h = rf_j_W_commonDivisor_9 d a1 a2 0 h := by
  show rf_den (rf_call d) (rf_mt 96) _ = _
  rw [rf_u_W_commonDivisor]
  exact ((rf_s_lload_n rf_f_W_commonDivisor_0 rfl (rf_m0 _) (rf_s_lstore (L' := [some (.inr (.inl a1)), none, some (.inr (.inl a2)), none, some (.inr (.inl a1)), none, none, none, none, none, none]) rf_f_W_commonDivisor_1 rfl (rf_s_lload_n rf_f_W_commonDivisor_3 rfl (rf_m0 _) (rf_s_lstore (L' := [some (.inr (.inl a1)), none, some (.inr (.inl a2)), none, some (.inr (.inl a1)), none, some (.inr (.inl a2)), none, none, none, none]) rf_f_W_commonDivisor_4 rfl (rf_s_iconst rf_f_W_commonDivisor_6 (rf_m0 _) (rf_s_istore rf_f_W_commonDivisor_7 rfl rfl)))))) : rf_den (rf_call d) rf_m_W_commonDivisor (0, [some (.inr (.inl a1)), none, some (.inr (.inl a2)), none, none, none, none, none, none, none, none], [], h) = _)
set_option maxRecDepth 20000 in
set_option maxHeartbeats 2000000 in
theorem rf_e_W_commonDivisor_9 (d : Nat) (l4 : Int) (l6 : Int) (l8 : Int) (h : rf_H) : rf_j_W_commonDivisor_9 d l4 l6 l8 h = (if l8 < 128 then (if (rf_cmp l6 0) = 0 then some (some (.inr (.inl l4)), h) else (if l6 = 0 then none else rf_j_W_commonDivisor_9 d l6 (Int.tmod l4 l6) (rf_w (l8 + 1)) h)) else some (some (.inr (.inl l4)), h)) :=
  ((rf_s_iload rf_f_W_commonDivisor_9 rfl (rf_m0 _) (rf_s_sipush rf_f_W_commonDivisor_11 (rf_m0 _) (rf_s_icmp_ge rf_f_W_commonDivisor_14 rfl (rf_m0 _) (rf_m0 _) (rf_s_lload rf_f_W_commonDivisor_45 rfl (rf_m0 _) (rf_s_lret rf_f_W_commonDivisor_47)) (rf_s_lload rf_f_W_commonDivisor_17 rfl (rf_m0 _) (rf_s_lconst rf_f_W_commonDivisor_19 (rf_m0 _) (rf_s_lcmp rf_f_W_commonDivisor_20 (rf_m0 _) (rf_s_if_eq rf_f_W_commonDivisor_21 rfl (rf_m0 _) (rf_m0 _) (rf_s_lload rf_f_W_commonDivisor_45 rfl (rf_m0 _) (rf_s_lret rf_f_W_commonDivisor_47)) (rf_s_lload rf_f_W_commonDivisor_24 rfl (rf_m0 _) (rf_s_lload rf_f_W_commonDivisor_26 rfl (rf_m0 _) (rf_s_lremZ rf_f_W_commonDivisor_28 (rf_m0 _) (rf_s_lstore (L' := [none, none, none, none, some (.inr (.inl l4)), none, some (.inr (.inl l6)), none, some (.inl l8), some (.inr (.inl (Int.tmod l4 l6))), none]) rf_f_W_commonDivisor_29 rfl (rf_s_lload rf_f_W_commonDivisor_31 rfl (rf_m0 _) (rf_s_lstore (L' := [none, none, none, none, some (.inr (.inl l6)), none, some (.inr (.inl l6)), none, some (.inl l8), some (.inr (.inl (Int.tmod l4 l6))), none]) rf_f_W_commonDivisor_33 rfl (rf_s_lload rf_f_W_commonDivisor_35 rfl (rf_m0 _) (rf_s_lstore (L' := [none, none, none, none, some (.inr (.inl l6)), none, some (.inr (.inl (Int.tmod l4 l6))), none, some (.inl l8), some (.inr (.inl (Int.tmod l4 l6))), none]) rf_f_W_commonDivisor_37 rfl (rf_s_iinc (L' := [none, none, none, none, some (.inr (.inl l6)), none, some (.inr (.inl (Int.tmod l4 l6))), none, some (.inl (rf_w (l8 + 1))), some (.inr (.inl (Int.tmod l4 l6))), none]) rf_f_W_commonDivisor_39 rfl rfl (rf_s_goto rf_f_W_commonDivisor_42 rfl rfl rfl))))))))))))))))) : rf_den (rf_call d) rf_m_W_commonDivisor (9, [none, none, none, none, some (.inr (.inl l4)), none, some (.inr (.inl l6)), none, some (.inl l8), none, none], [], h) = _)
noncomputable def rf_j_W_weights_33 (d : Nat) (l2 : Option Nat) (l4 : Int) (l5 : Int) (h : rf_H) : Option rf_R := rf_den (rf_call d) rf_m_W_weights (33, [none, none, some (.inr (.inr l2)), none, some (.inl l4), some (.inl l5)], [], h)
theorem rf_u_W_weights : rf_mt 97 = rf_m_W_weights := rfl
theorem rf_f_W_weights_0 : rf_Fb rf_m_W_weights 0 1 (.aload_n 0) 0 0 0 0 [] [] = true := by decide +kernel
theorem rf_f_W_weights_1 : rf_Fb rf_m_W_weights 1 4 (.getfield 11) 4 0 2 0 [] [] = true := by decide +kernel
theorem rf_f_W_weights_4 : rf_Fb rf_m_W_weights 4 5 (.iload_n 1) 0 0 0 0 [] [] = true := by decide +kernel
theorem rf_f_W_weights_5 : rf_Fb rf_m_W_weights 5 8 (.invokestatic 74) 55 2 2 0 [] [] = true := by decide +kernel
theorem rf_f_W_weights_8 : rf_Fb rf_m_W_weights 8 9 (.astore_n 2) 0 0 0 0 [] [] = true := by decide +kernel
theorem rf_f_W_weights_9 : rf_Fb rf_m_W_weights 9 10 (.aload_n 2) 0 0 0 0 [] [] = true := by decide +kernel
theorem rf_f_W_weights_10 : rf_Fb rf_m_W_weights 10 13 (.ifnonnull 5) 15 0 0 0 [] [] = true := by decide +kernel
theorem rf_f_W_weights_13 : rf_Fb rf_m_W_weights 13 14 (.iconst (-1)) 0 0 0 0 [] [] = true := by decide +kernel
theorem rf_f_W_weights_14 : rf_Fb rf_m_W_weights 14 15 (.ireturn) 0 0 0 0 [] [] = true := by decide +kernel
theorem rf_f_W_weights_15 : rf_Fb rf_m_W_weights 15 16 (.aload_n 0) 0 0 0 0 [] [] = true := by decide +kernel
theorem rf_f_W_weights_16 : rf_Fb rf_m_W_weights 16 17 (.aload_n 2) 0 0 0 0 [] [] = true := by decide +kernel
theorem rf_f_W_weights_17 : rf_Fb rf_m_W_weights 17 20 (.invokevirtual 247) 98 1 0 4 [] [] = true := by decide +kernel
theorem rf_f_W_weights_20 : rf_Fb rf_m_W_weights 20 21 (.istore_n 3) 0 0 0 0 [] [] = true := by decide +kernel
theorem rf_f_W_weights_21 : rf_Fb rf_m_W_weights 21 22 (.iload_n 3) 0 0 0 0 [] [] = true := by decide +kernel
theorem rf_f_W_weights_22 : rf_Fb rf_m_W_weights 22 25 (.ifCond .eq 5) 27 0 0 0 [] [] = true := by decide +kernel
theorem rf_f_W_weights_25 : rf_Fb rf_m_W_weights 25 26 (.iload_n 3) 0 0 0 0 [] [] = true := by decide +kernel
theorem rf_f_W_weights_26 : rf_Fb rf_m_W_weights 26 27 (.ireturn) 0 0 0 0 [] [] = true := by decide +kernel
theorem rf_f_W_weights_27 : rf_Fb rf_m_W_weights 27 28 (.iconst 0) 0 0 0 0 [] [] = true := by decide +kernel
theorem rf_f_W_weights_28 : rf_Fb rf_m_W_weights 28 30 (.istore 4) 0 0 0 0 [] [] = true := by decide +kernel
theorem rf_f_W_weights_30 : rf_Fb rf_m_W_weights 30 31 (.iconst 1) 0 0 0 0 [] [] = true := by decide +kernel
theorem rf_f_W_weights_31 : rf_Fb rf_m_W_weights 31 33 (.istore 5) 0 0 0 0 [] [false, false, true, false, true, true] = true := by decide +kernel
theorem rf_f_W_weights_33 : rf_Fb rf_m_W_weights 33 35 (.iload 5) 0 0 0 0 [] [] = true := by decide +kernel
theorem rf_f_W_weights_35 : rf_Fb rf_m_W_weights 35 37 (.bipush 9) 0 0 0 0 [] [] = true := by decide +kernel
theorem rf_f_W_weights_37 : rf_Fb rf_m_W_weights 37 40 (.if_icmp .gt 27) 64 0 0 0 [] [] = true := by decide +kernel
theorem rf_f_W_weights_40 : rf_Fb rf_m_W_weights 40 41 (.aload_n 2) 0 0 0 0 [] [] = true := by decide +kernel
theorem rf_f_W_weights_41 : rf_Fb rf_m_W_weights 41 43 (.iload 5) 0 0 0 0 [] [] = true := by decide +kernel
theorem rf_f_W_weights_43 : rf_Fb rf_m_W_weights 43 46 (.invokestatic 251) 99 2 0 0 [] [] = true := by decide +kernel
theorem rf_f_W_weights_46 : rf_Fb rf_m_W_weights 46 49 (.ifCond .ne 12) 58 0 0 0 [] [] = true := by decide +kernel
theorem rf_f_W_weights_49 : rf_Fb rf_m_W_weights 49 51 (.iload 4) 0 0 0 0 [] [] = true := by decide +kernel
theorem rf_f_W_weights_51 : rf_Fb rf_m_W_weights 51 52 (.iconst 1) 0 0 0 0 [] [] = true := by decide +kernel
theorem rf_f_W_weights_52 : rf_Fb rf_m_W_weights 52 54 (.iload 5) 0 0 0 0 [] [] = true := by decide +kernel
theorem rf_f_W_weights_54 : rf_Fb rf_m_W_weights 54 55 (.ishl) 0 0 0 0 [] [] = true := by decide +kernel
theorem rf_f_W_weights_55 : rf_Fb rf_m_W_weights 55 56 (.ior) 0 0 0 0 [] [] = true := by decide +kernel
theorem rf_f_W_weights_56 : rf_Fb rf_m_W_weights 56 58 (.istore 4) 0 0 0 0 [] [] = true := by decide +kernel
theorem rf_f_W_weights_58 : rf_Fb rf_m_W_weights 58 61 (.iinc 5 1) 0 0 0 0 [] [] = true := by decide +kernel
theorem rf_f_W_weights_61 : rf_Fb rf_m_W_weights 61 64 (.goto (-28)) 33 0 0 0 [] [] = true := by decide +kernel
theorem rf_f_W_weights_64 : rf_Fb rf_m_W_weights 64 66 (.iload 4) 0 0 0 0 [] [] = true := by decide +kernel
theorem rf_f_W_weights_66 : rf_Fb rf_m_W_weights 66 67 (.ireturn) 0 0 0 0 [] [] = true := by decide +kernel
set_option maxRecDepth 20000 in
set_option maxHeartbeats 2000000 in
theorem rf_e_W_weights (d : Nat) (o : Nat) (a1 : Int) (h : rf_H) : rf_call (d + 1) 97 [.inr (.inr (some o)), .inl a1] h = ((rf_gR h 4 o 0).bind fun x1 => ((rf_call d 55 [.inr (.inr x1), .inl a1] h).bind fun q3 => rf_kR q3 fun x4 h2 => (rf_nz x4 (some (some (.inl (-1)), h2)) ((bif rf_isO h2.1 o 4 then ((rf_call d 98 [.inr (.inr (some o)), .inr (.inr x4)] h2).bind fun q6 => rf_kI q6 fun x7 h5 => (if x7 = 0 then rf_j_W_weights_33 d x4 0 1 h5 else some (some (.inl x7), h5))) else none))))) := by
  show rf_den (rf_call d) (rf_mt 97) _ = _
  rw [rf_u_W_weights]
  exact ((rf_s_aload_n rf_f_W_weights_0 rfl (rf_m0 _) (rf_s_getAS rf_f_W_weights_1 (rf_m0 _) fun x1 => (rf_s_iload_n rf_f_W_weights_4 rfl (rf_m0 _) (rf_s_invS2 rf_f_W_weights_5 rfl rfl (rf_m0 _) fun q3 x4 h2 => (rf_s_astore_n (L' := [some (.inr (.inr (some o))), some (.inl a1), some (.inr (.inr x4)), none, none, none]) rf_f_W_weights_8 rfl (rf_s_aload_n rf_f_W_weights_9 rfl (rf_m0 _) (rf_s_ifnonnull rf_f_W_weights_10 rfl (rf_m0 _) (rf_m0 _) (rf_s_aload_n rf_f_W_weights_15 rfl (rf_m0 _) (rf_s_aload_n rf_f_W_weights_16 rfl (rf_m0 _) (rf_s_invV0S rf_f_W_weights_17 rfl rfl (rf_m0 _) fun q6 x7 h5 => (rf_s_istore_n (L' := [some (.inr (.inr (some o))), some (.inl a1), some (.inr (.inr x4)), some (.inl x7), none, none]) rf_f_W_weights_20 rfl (rf_s_iload_n rf_f_W_weights_21 rfl (rf_m0 _) (rf_s_if_eq rf_f_W_weights_22 rfl (rf_m0 _) (rf_m0 _) (rf_s_iconst rf_f_W_weights_27 (rf_m0 _) (rf_s_istore (L' := [some (.inr (.inr (some o))), some (.inl a1), some (.inr (.inr x4)), some (.inl x7), some (.inl 0), none]) rf_f_W_weights_28 rfl (rf_s_iconst rf_f_W_weights_30 (rf_m0 _) (rf_s_istore rf_f_W_weights_31 rfl rfl)))) (rf_s_iload_n rf_f_W_weights_25 rfl (rf_m0 _) (rf_s_iret rf_f_W_weights_26)))))))) (rf_s_iconst rf_f_W_weights_13 (rf_m0 _) (rf_s_iret rf_f_W_weights_14))))))))) : rf_den (rf_call d) rf_m_W_weights (0, [some (.inr (.inr (some o))), some (.inl a1), none, none, none, none], [], h) = _)
set_option maxRecDepth 20000 in
set_option maxHeartbeats 2000000 in
theorem rf_e_W_weights_33 (d : Nat) (l2 : Option Nat) (l4 : Int) (l5 : Int) (h : rf_H) : rf_j_W_weights_33 d l2 l4 l5 h = (if 9 < l5 then some (some (.inl l4), h) else ((rf_call d 99 [.inr (.inr l2), .inl l5] h).bind fun q2 => rf_kI q2 fun x3 h1 => (if x3 = 0 then rf_j_W_weights_33 d l2 (rf_or l4 (rf_shl 1 l5)) (rf_w (l5 + 1)) h1 else rf_j_W_weights_33 d l2 l4 (rf_w (l5 + 1)) h1))) :=
  ((rf_s_iload rf_f_W_weights_33 rfl (rf_m0 _) (rf_s_bipush rf_f_W_weights_35 (rf_m0 _) (rf_s_icmp_gt rf_f_W_weights_37 rfl (rf_m0 _) (rf_m0 _) (rf_s_iload rf_f_W_weights_64 rfl (rf_m0 _) (rf_s_iret rf_f_W_weights_66)) (rf_s_aload_n rf_f_W_weights_40 rfl (rf_m0 _) (rf_s_iload rf_f_W_weights_41 rfl (rf_m0 _) (rf_s_invS0 rf_f_W_weights_43 rfl rfl (rf_m0 _) fun q2 x3 h1 => (rf_s_if_ne rf_f_W_weights_46 rfl (rf_m0 _) (rf_m0 _) (rf_s_iinc (L' := [none, none, some (.inr (.inr l2)), none, some (.inl l4), some (.inl (rf_w (l5 + 1)))]) rf_f_W_weights_58 rfl rfl (rf_s_goto rf_f_W_weights_61 rfl rfl rfl)) (rf_s_iload rf_f_W_weights_49 rfl (rf_m0 _) (rf_s_iconst rf_f_W_weights_51 (rf_m0 _) (rf_s_iload rf_f_W_weights_52 rfl (rf_m0 _) (rf_s_ishl rf_f_W_weights_54 (rf_m0 _) (rf_s_ior rf_f_W_weights_55 (rf_m0 _) (rf_s_istore (L' := [none, none, some (.inr (.inr l2)), none, some (.inl (rf_or l4 (rf_shl 1 l5))), some (.inl l5)]) rf_f_W_weights_56 rfl (rf_s_iinc (L' := [none, none, some (.inr (.inr l2)), none, some (.inl (rf_or l4 (rf_shl 1 l5))), some (.inl (rf_w (l5 + 1)))]) rf_f_W_weights_58 rfl rfl (rf_s_goto rf_f_W_weights_61 rfl rfl rfl))))))))))))))) : rf_den (rf_call d) rf_m_W_weights (33, [none, none, some (.inr (.inr l2)), none, some (.inl l4), some (.inl l5)], [], h) = _)
noncomputable def rf_j_W_refusedBook_30 (d : Nat) (o : Nat) (l1 : Option Nat) (l2 : Int) (h : rf_H) : Option rf_R := rf_den (rf_call d) rf_m_W_refusedBook (30, [some (.inr (.inr (some o))), some (.inr (.inr l1)), some (.inl l2), none, none], [], h)
noncomputable def rf_j_W_refusedBook_61 (d : Nat) (o : Nat) (l1 : Option Nat) (l2 : Int) (s0 : Int) (h : rf_H) : Option rf_R := rf_den (rf_call d) rf_m_W_refusedBook (61, [some (.inr (.inr (some o))), some (.inr (.inr l1)), some (.inl l2), none, none], [.inl s0], h)
theorem rf_u_W_refusedBook : rf_mt 98 = rf_m_W_refusedBook := rfl
theorem rf_f_W_refusedBook_0 : rf_Fb rf_m_W_refusedBook 0 1 (.aload_n 1) 0 0 0 0 [] [] = true := by decide +kernel
theorem rf_f_W_refusedBook_1 : rf_Fb rf_m_W_refusedBook 1 4 (.invokevirtual 97) 5 0 0 2 [] [] = true := by decide +kernel
theorem rf_f_W_refusedBook_4 : rf_Fb rf_m_W_refusedBook 4 7 (.ifCond .ne 9) 13 0 0 0 [] [] = true := by decide +kernel
theorem rf_f_W_refusedBook_7 : rf_Fb rf_m_W_refusedBook 7 8 (.aload_n 0) 0 0 0 0 [] [] = true := by decide +kernel
theorem rf_f_W_refusedBook_8 : rf_Fb rf_m_W_refusedBook 8 9 (.iconst 1) 0 0 0 0 [] [] = true := by decide +kernel
theorem rf_f_W_refusedBook_9 : rf_Fb rf_m_W_refusedBook 9 12 (.invokevirtual 101) 57 1 0 4 [] [] = true := by decide +kernel
theorem rf_f_W_refusedBook_12 : rf_Fb rf_m_W_refusedBook 12 13 (.ireturn) 0 0 0 0 [] [] = true := by decide +kernel
theorem rf_f_W_refusedBook_13 : rf_Fb rf_m_W_refusedBook 13 14 (.aload_n 1) 0 0 0 0 [] [] = true := by decide +kernel
theorem rf_f_W_refusedBook_14 : rf_Fb rf_m_W_refusedBook 14 17 (.getfield 111) 2 1 0 0 [] [] = true := by decide +kernel
theorem rf_f_W_refusedBook_17 : rf_Fb rf_m_W_refusedBook 17 18 (.iconst 3) 0 0 0 0 [] [] = true := by decide +kernel
theorem rf_f_W_refusedBook_18 : rf_Fb rf_m_W_refusedBook 18 19 (.irem) 0 0 0 0 [] [] = true := by decide +kernel
theorem rf_f_W_refusedBook_19 : rf_Fb rf_m_W_refusedBook 19 22 (.ifCond .eq 9) 28 0 0 0 [] [] = true := by decide +kernel
theorem rf_f_W_refusedBook_22 : rf_Fb rf_m_W_refusedBook 22 23 (.aload_n 0) 0 0 0 0 [] [] = true := by decide +kernel
theorem rf_f_W_refusedBook_23 : rf_Fb rf_m_W_refusedBook 23 24 (.iconst 5) 0 0 0 0 [] [] = true := by decide +kernel
theorem rf_f_W_refusedBook_24 : rf_Fb rf_m_W_refusedBook 24 27 (.invokevirtual 101) 57 1 0 4 [] [] = true := by decide +kernel
theorem rf_f_W_refusedBook_27 : rf_Fb rf_m_W_refusedBook 27 28 (.ireturn) 0 0 0 0 [] [] = true := by decide +kernel
theorem rf_f_W_refusedBook_28 : rf_Fb rf_m_W_refusedBook 28 29 (.iconst 0) 0 0 0 0 [] [] = true := by decide +kernel
theorem rf_f_W_refusedBook_29 : rf_Fb rf_m_W_refusedBook 29 30 (.istore_n 2) 0 0 0 0 [] [true, true, true, false, false] = true := by decide +kernel
theorem rf_f_W_refusedBook_30 : rf_Fb rf_m_W_refusedBook 30 31 (.iload_n 2) 0 0 0 0 [] [] = true := by decide +kernel
theorem rf_f_W_refusedBook_31 : rf_Fb rf_m_W_refusedBook 31 32 (.aload_n 1) 0 0 0 0 [] [] = true := by decide +kernel
theorem rf_f_W_refusedBook_32 : rf_Fb rf_m_W_refusedBook 32 35 (.getfield 111) 2 1 0 0 [] [] = true := by decide +kernel
theorem rf_f_W_refusedBook_35 : rf_Fb rf_m_W_refusedBook 35 38 (.if_icmp .ge 58) 93 0 0 0 [] [] = true := by decide +kernel
theorem rf_f_W_refusedBook_38 : rf_Fb rf_m_W_refusedBook 38 39 (.iload_n 2) 0 0 0 0 [] [] = true := by decide +kernel
theorem rf_f_W_refusedBook_39 : rf_Fb rf_m_W_refusedBook 39 40 (.iconst 3) 0 0 0 0 [] [] = true := by decide +kernel
theorem rf_f_W_refusedBook_40 : rf_Fb rf_m_W_refusedBook 40 41 (.irem) 0 0 0 0 [] [] = true := by decide +kernel
theorem rf_f_W_refusedBook_41 : rf_Fb rf_m_W_refusedBook 41 42 (.istore_n 3) 0 0 0 0 [] [] = true := by decide +kernel
theorem rf_f_W_refusedBook_42 : rf_Fb rf_m_W_refusedBook 42 43 (.iload_n 3) 0 0 0 0 [] [] = true := by decide +kernel
theorem rf_f_W_refusedBook_43 : rf_Fb rf_m_W_refusedBook 43 46 (.ifCond .ne 7) 50 0 0 0 [] [] = true := by decide +kernel
theorem rf_f_W_refusedBook_46 : rf_Fb rf_m_W_refusedBook 46 47 (.iconst 2) 0 0 0 0 [] [] = true := by decide +kernel
theorem rf_f_W_refusedBook_47 : rf_Fb rf_m_W_refusedBook 47 50 (.goto 14) 61 0 0 0 [] [] = true := by decide +kernel
theorem rf_f_W_refusedBook_50 : rf_Fb rf_m_W_refusedBook 50 51 (.iload_n 3) 0 0 0 0 [] [] = true := by decide +kernel
theorem rf_f_W_refusedBook_51 : rf_Fb rf_m_W_refusedBook 51 52 (.iconst 1) 0 0 0 0 [] [] = true := by decide +kernel
theorem rf_f_W_refusedBook_52 : rf_Fb rf_m_W_refusedBook 52 55 (.if_icmp .ne 8) 60 0 0 0 [] [] = true := by decide +kernel
theorem rf_f_W_refusedBook_55 : rf_Fb rf_m_W_refusedBook 55 57 (.bipush 9) 0 0 0 0 [] [] = true := by decide +kernel
theorem rf_f_W_refusedBook_57 : rf_Fb rf_m_W_refusedBook 57 60 (.goto 4) 61 0 0 0 [] [] = true := by decide +kernel
theorem rf_f_W_refusedBook_60 : rf_Fb rf_m_W_refusedBook 60 61 (.iconst 1) 0 0 0 0 [] [true, true, true, false, false] = true := by decide +kernel
theorem rf_f_W_refusedBook_61 : rf_Fb rf_m_W_refusedBook 61 63 (.istore 4) 0 0 0 0 [] [] = true := by decide +kernel
theorem rf_f_W_refusedBook_63 : rf_Fb rf_m_W_refusedBook 63 64 (.aload_n 1) 0 0 0 0 [] [] = true := by decide +kernel
theorem rf_f_W_refusedBook_64 : rf_Fb rf_m_W_refusedBook 64 65 (.iload_n 2) 0 0 0 0 [] [] = true := by decide +kernel
theorem rf_f_W_refusedBook_65 : rf_Fb rf_m_W_refusedBook 65 68 (.invokevirtual 86) 4 1 0 2 [] [] = true := by decide +kernel
theorem rf_f_W_refusedBook_68 : rf_Fb rf_m_W_refusedBook 68 71 (.ifCond .lt 13) 81 0 0 0 [] [] = true := by decide +kernel
theorem rf_f_W_refusedBook_71 : rf_Fb rf_m_W_refusedBook 71 72 (.aload_n 1) 0 0 0 0 [] [] = true := by decide +kernel
theorem rf_f_W_refusedBook_72 : rf_Fb rf_m_W_refusedBook 72 73 (.iload_n 2) 0 0 0 0 [] [] = true := by decide +kernel
theorem rf_f_W_refusedBook_73 : rf_Fb rf_m_W_refusedBook 73 76 (.invokevirtual 86) 4 1 0 2 [] [] = true := by decide +kernel
theorem rf_f_W_refusedBook_76 : rf_Fb rf_m_W_refusedBook 76 78 (.iload 4) 0 0 0 0 [] [] = true := by decide +kernel
theorem rf_f_W_refusedBook_78 : rf_Fb rf_m_W_refusedBook 78 81 (.if_icmp .le 9) 87 0 0 0 [] [] = true := by decide +kernel
theorem rf_f_W_refusedBook_81 : rf_Fb rf_m_W_refusedBook 81 82 (.aload_n 0) 0 0 0 0 [] [] = true := by decide +kernel
theorem rf_f_W_refusedBook_82 : rf_Fb rf_m_W_refusedBook 82 83 (.iconst 3) 0 0 0 0 [] [] = true := by decide +kernel
theorem rf_f_W_refusedBook_83 : rf_Fb rf_m_W_refusedBook 83 86 (.invokevirtual 101) 57 1 0 4 [] [] = true := by decide +kernel
theorem rf_f_W_refusedBook_86 : rf_Fb rf_m_W_refusedBook 86 87 (.ireturn) 0 0 0 0 [] [] = true := by decide +kernel
theorem rf_f_W_refusedBook_87 : rf_Fb rf_m_W_refusedBook 87 90 (.iinc 2 1) 0 0 0 0 [] [] = true := by decide +kernel
theorem rf_f_W_refusedBook_90 : rf_Fb rf_m_W_refusedBook 90 93 (.goto (-60)) 30 0 0 0 [] [] = true := by decide +kernel
theorem rf_f_W_refusedBook_93 : rf_Fb rf_m_W_refusedBook 93 94 (.iconst 0) 0 0 0 0 [] [] = true := by decide +kernel
theorem rf_f_W_refusedBook_94 : rf_Fb rf_m_W_refusedBook 94 95 (.ireturn) 0 0 0 0 [] [] = true := by decide +kernel
set_option maxRecDepth 20000 in
set_option maxHeartbeats 2000000 in
theorem rf_e_W_refusedBook (d : Nat) (o : Nat) (a1 : Option Nat) (h : rf_H) : rf_call (d + 1) 98 [.inr (.inr (some o)), .inr (.inr a1)] h = (rf_nn a1 fun k1 => (bif rf_isO h.1 k1 2 then ((rf_call d 5 [.inr (.inr (some k1))] h).bind fun q3 => rf_kI q3 fun x4 h2 => (if x4 = 0 then (bif rf_isO h2.1 o 4 then ((rf_call d 57 [.inr (.inr (some o)), .inl 1] h2).bind fun q11 => rf_kI q11 fun x12 h10 => some (some (.inl x12), h10)) else none) else (rf_nn a1 fun k5 => ((rf_gI h2 2 k5 1).bind fun x6 => (if (Int.tmod x6 3) = 0 then rf_j_W_refusedBook_30 d o a1 0 h2 else (bif rf_isO h2.1 o 4 then ((rf_call d 57 [.inr (.inr (some o)), .inl 5] h2).bind fun q8 => rf_kI q8 fun x9 h7 => some (some (.inl x9), h7)) else none)))))) else none)) := by
  show rf_den (rf_call d) (rf_mt 98) _ = _
  rw [rf_u_W_refusedBook]
  exact ((rf_s_aload_n rf_f_W_refusedBook_0 rfl (rf_m0 _) (rf_s_invV0R rf_f_W_refusedBook_1 rfl rfl (rf_m0 _) fun k1 q3 x4 h2 => (rf_s_if_ne rf_f_W_refusedBook_4 rfl (rf_m0 _) (rf_m0 _) (rf_s_aload_n rf_f_W_refusedBook_13 rfl (rf_m0 _) (rf_s_getIR rf_f_W_refusedBook_14 (rf_m0 _) fun k5 x6 => (rf_s_iconst rf_f_W_refusedBook_17 (rf_m0 _) (rf_s_irem rf_f_W_refusedBook_18 (by decide) (rf_m0 _) (rf_s_if_eq rf_f_W_refusedBook_19 rfl (rf_m0 _) (rf_m0 _) (rf_s_iconst rf_f_W_refusedBook_28 (rf_m0 _) (rf_s_istore_n rf_f_W_refusedBook_29 rfl rfl)) (rf_s_aload_n rf_f_W_refusedBook_22 rfl (rf_m0 _) (rf_s_iconst rf_f_W_refusedBook_23 (rf_m0 _) (rf_s_invV0S rf_f_W_refusedBook_24 rfl rfl (rf_m0 _) fun q8 x9 h7 => (rf_s_iret rf_f_W_refusedBook_27))))))))) (rf_s_aload_n rf_f_W_refusedBook_7 rfl (rf_m0 _) (rf_s_iconst rf_f_W_refusedBook_8 (rf_m0 _) (rf_s_invV0S rf_f_W_refusedBook_9 rfl rfl (rf_m0 _) fun q11 x12 h10 => (rf_s_iret rf_f_W_refusedBook_12))))))) : rf_den (rf_call d) rf_m_W_refusedBook (0, [some (.inr (.inr (some o))), some (.inr (.inr a1)), none, none, none], [], h) = _)
set_option maxRecDepth 20000 in
set_option maxHeartbeats 2000000 in
theorem rf_e_W_refusedBook_30 (d : Nat) (o : Nat) (l1 : Option Nat) (l2 : Int) (h : rf_H) : rf_j_W_refusedBook_30 d o l1 l2 h = (rf_nn l1 fun k1 => ((rf_gI h 2 k1 1).bind fun x2 => (if l2 < x2 then (if (Int.tmod l2 3) = 0 then rf_j_W_refusedBook_61 d o l1 l2 2 h else (if (Int.tmod l2 3) = 1 then rf_j_W_refusedBook_61 d o l1 l2 9 h else rf_j_W_refusedBook_61 d o l1 l2 1 h)) else some (some (.inl 0), h)))) :=
  ((rf_s_iload_n rf_f_W_refusedBook_30 rfl (rf_m0 _) (rf_s_aload_n rf_f_W_refusedBook_31 rfl (rf_m0 _) (rf_s_getIR rf_f_W_refusedBook_32 (rf_m0 _) fun k1 x2 => (rf_s_icmp_ge rf_f_W_refusedBook_35 rfl (rf_m0 _) (rf_m0 _) (rf_s_iconst rf_f_W_refusedBook_93 (rf_m0 _) (rf_s_iret rf_f_W_refusedBook_94)) (rf_s_iload_n rf_f_W_refusedBook_38 rfl (rf_m0 _) (rf_s_iconst rf_f_W_refusedBook_39 (rf_m0 _) (rf_s_irem rf_f_W_refusedBook_40 (by decide) (rf_m0 _) (rf_s_istore_n (L' := [some (.inr (.inr (some o))), some (.inr (.inr l1)), some (.inl l2), some (.inl (Int.tmod l2 3)), none]) rf_f_W_refusedBook_41 rfl (rf_s_iload_n rf_f_W_refusedBook_42 rfl (rf_m0 _) (rf_s_if_ne rf_f_W_refusedBook_43 rfl (rf_m0 _) (rf_m0 _) (rf_s_iload_n rf_f_W_refusedBook_50 rfl (rf_m0 _) (rf_s_iconst rf_f_W_refusedBook_51 (rf_m0 _) (rf_s_icmp_ne rf_f_W_refusedBook_52 rfl (rf_m0 _) (rf_m0 _) (rf_s_iconst rf_f_W_refusedBook_60 rfl rfl) (rf_s_bipush rf_f_W_refusedBook_55 (rf_m0 _) (rf_s_goto rf_f_W_refusedBook_57 rfl rfl rfl))))) (rf_s_iconst rf_f_W_refusedBook_46 (rf_m0 _) (rf_s_goto rf_f_W_refusedBook_47 rfl rfl rfl)))))))))))) : rf_den (rf_call d) rf_m_W_refusedBook (30, [some (.inr (.inr (some o))), some (.inr (.inr l1)), some (.inl l2), none, none], [], h) = _)
set_option maxRecDepth 20000 in
set_option maxHeartbeats 2000000 in
theorem rf_e_W_refusedBook_61 (d : Nat) (o : Nat) (l1 : Option Nat) (l2 : Int) (s0 : Int) (h : rf_H) : rf_j_W_refusedBook_61 d o l1 l2 s0 h = (rf_nn l1 fun k1 => (bif rf_isO h.1 k1 2 then ((rf_call d 4 [.inr (.inr (some k1)), .inl l2] h).bind fun q3 => rf_kI q3 fun x4 h2 => (if x4 < 0 then (bif rf_isO h2.1 o 4 then ((rf_call d 57 [.inr (.inr (some o)), .inl 3] h2).bind fun q6 => rf_kI q6 fun x7 h5 => some (some (.inl x7), h5)) else none) else (rf_nn l1 fun k8 => (bif rf_isO h2.1 k8 2 then ((rf_call d 4 [.inr (.inr (some k8)), .inl l2] h2).bind fun q10 => rf_kI q10 fun x11 h9 => (if s0 < x11 then (bif rf_isO h9.1 o 4 then ((rf_call d 57 [.inr (.inr (some o)), .inl 3] h9).bind fun q13 => rf_kI q13 fun x14 h12 => some (some (.inl x14), h12)) else none) else rf_j_W_refusedBook_30 d o l1 (rf_w (l2 + 1)) h9)) else none)))) else none)) :=
  ((rf_s_istore (L' := [some (.inr (.inr (some o))), some (.inr (.inr l1)), some (.inl l2), none, some (.inl s0)]) rf_f_W_refusedBook_61 rfl (rf_s_aload_n rf_f_W_refusedBook_63 rfl (rf_m0 _) (rf_s_iload_n rf_f_W_refusedBook_64 rfl (rf_m0 _) (rf_s_invV0R rf_f_W_refusedBook_65 rfl rfl (rf_m0 _) fun k1 q3 x4 h2 => (rf_s_if_lt rf_f_W_refusedBook_68 rfl (rf_m0 _) (rf_m0 _) (rf_s_aload_n rf_f_W_refusedBook_81 rfl (rf_m0 _) (rf_s_iconst rf_f_W_refusedBook_82 (rf_m0 _) (rf_s_invV0S rf_f_W_refusedBook_83 rfl rfl (rf_m0 _) fun q6 x7 h5 => (rf_s_iret rf_f_W_refusedBook_86)))) (rf_s_aload_n rf_f_W_refusedBook_71 rfl (rf_m0 _) (rf_s_iload_n rf_f_W_refusedBook_72 rfl (rf_m0 _) (rf_s_invV0R rf_f_W_refusedBook_73 rfl rfl (rf_m0 _) fun k8 q10 x11 h9 => (rf_s_iload rf_f_W_refusedBook_76 rfl (rf_m0 _) (rf_s_icmp_le rf_f_W_refusedBook_78 rfl (rf_m0 _) (rf_m0 _) (rf_s_iinc (L' := [some (.inr (.inr (some o))), some (.inr (.inr l1)), some (.inl (rf_w (l2 + 1))), none, some (.inl s0)]) rf_f_W_refusedBook_87 rfl rfl (rf_s_goto rf_f_W_refusedBook_90 rfl rfl rfl)) (rf_s_aload_n rf_f_W_refusedBook_81 rfl (rf_m0 _) (rf_s_iconst rf_f_W_refusedBook_82 (rf_m0 _) (rf_s_invV0S rf_f_W_refusedBook_83 rfl rfl (rf_m0 _) fun q13 x14 h12 => (rf_s_iret rf_f_W_refusedBook_86)))))))))))))) : rf_den (rf_call d) rf_m_W_refusedBook (61, [some (.inr (.inr (some o))), some (.inr (.inr l1)), some (.inl l2), none, none], [.inl s0], h) = _)
noncomputable def rf_j_W_countLies_4 (d : Nat) (l0 : Option Nat) (l1 : Int) (l2 : Int) (l3 : Int) (h : rf_H) : Option rf_R := rf_den (rf_call d) rf_m_W_countLies (4, [some (.inr (.inr l0)), some (.inl l1), some (.inl l2), some (.inl l3)], [], h)
theorem rf_u_W_countLies : rf_mt 99 = rf_m_W_countLies := rfl
theorem rf_f_W_countLies_0 : rf_Fb rf_m_W_countLies 0 1 (.iconst 0) 0 0 0 0 [] [] = true := by decide +kernel
theorem rf_f_W_countLies_1 : rf_Fb rf_m_W_countLies 1 2 (.istore_n 2) 0 0 0 0 [] [] = true := by decide +kernel
theorem rf_f_W_countLies_2 : rf_Fb rf_m_W_countLies 2 3 (.iconst 0) 0 0 0 0 [] [] = true := by decide +kernel
theorem rf_f_W_countLies_3 : rf_Fb rf_m_W_countLies 3 4 (.istore_n 3) 0 0 0 0 [] [true, true, true, true] = true := by decide +kernel
theorem rf_f_W_countLies_4 : rf_Fb rf_m_W_countLies 4 5 (.iload_n 3) 0 0 0 0 [] [] = true := by decide +kernel
theorem rf_f_W_countLies_5 : rf_Fb rf_m_W_countLies 5 6 (.iconst 3) 0 0 0 0 [] [] = true := by decide +kernel
theorem rf_f_W_countLies_6 : rf_Fb rf_m_W_countLies 6 7 (.imul) 0 0 0 0 [] [] = true := by decide +kernel
theorem rf_f_W_countLies_7 : rf_Fb rf_m_W_countLies 7 8 (.aload_n 0) 0 0 0 0 [] [] = true := by decide +kernel
theorem rf_f_W_countLies_8 : rf_Fb rf_m_W_countLies 8 11 (.getfield 111) 2 1 0 0 [] [] = true := by decide +kernel
theorem rf_f_W_countLies_11 : rf_Fb rf_m_W_countLies 11 14 (.if_icmp .ge 26) 37 0 0 0 [] [] = true := by decide +kernel
theorem rf_f_W_countLies_14 : rf_Fb rf_m_W_countLies 14 15 (.iload_n 2) 0 0 0 0 [] [] = true := by decide +kernel
theorem rf_f_W_countLies_15 : rf_Fb rf_m_W_countLies 15 16 (.aload_n 0) 0 0 0 0 [] [] = true := by decide +kernel
theorem rf_f_W_countLies_16 : rf_Fb rf_m_W_countLies 16 17 (.iload_n 1) 0 0 0 0 [] [] = true := by decide +kernel
theorem rf_f_W_countLies_17 : rf_Fb rf_m_W_countLies 17 18 (.iload_n 3) 0 0 0 0 [] [] = true := by decide +kernel
theorem rf_f_W_countLies_18 : rf_Fb rf_m_W_countLies 18 21 (.invokestatic 254) 100 3 0 0 [] [] = true := by decide +kernel
theorem rf_f_W_countLies_21 : rf_Fb rf_m_W_countLies 21 24 (.ifCond .eq 7) 28 0 0 0 [] [] = true := by decide +kernel
theorem rf_f_W_countLies_24 : rf_Fb rf_m_W_countLies 24 25 (.iconst 1) 0 0 0 0 [] [] = true := by decide +kernel
theorem rf_f_W_countLies_25 : rf_Fb rf_m_W_countLies 25 28 (.goto 4) 29 0 0 0 [] [] = true := by decide +kernel
theorem rf_f_W_countLies_28 : rf_Fb rf_m_W_countLies 28 29 (.iconst 0) 0 0 0 0 [] [] = true := by decide +kernel
theorem rf_f_W_countLies_29 : rf_Fb rf_m_W_countLies 29 30 (.iadd) 0 0 0 0 [] [] = true := by decide +kernel
theorem rf_f_W_countLies_30 : rf_Fb rf_m_W_countLies 30 31 (.istore_n 2) 0 0 0 0 [] [] = true := by decide +kernel
theorem rf_f_W_countLies_31 : rf_Fb rf_m_W_countLies 31 34 (.iinc 3 1) 0 0 0 0 [] [] = true := by decide +kernel
theorem rf_f_W_countLies_34 : rf_Fb rf_m_W_countLies 34 37 (.goto (-30)) 4 0 0 0 [] [] = true := by decide +kernel
theorem rf_f_W_countLies_37 : rf_Fb rf_m_W_countLies 37 38 (.iload_n 2) 0 0 0 0 [] [] = true := by decide +kernel
theorem rf_f_W_countLies_38 : rf_Fb rf_m_W_countLies 38 39 (.ireturn) 0 0 0 0 [] [] = true := by decide +kernel
set_option maxRecDepth 20000 in
set_option maxHeartbeats 2000000 in
theorem rf_e_W_countLies (d : Nat) (a1 : Option Nat) (a2 : Int) (h : rf_H) : rf_call (d + 1) 99 [.inr (.inr a1), .inl a2] h = rf_j_W_countLies_4 d a1 a2 0 0 h := by
  show rf_den (rf_call d) (rf_mt 99) _ = _
  rw [rf_u_W_countLies]
  exact ((rf_s_iconst rf_f_W_countLies_0 (rf_m0 _) (rf_s_istore_n (L' := [some (.inr (.inr a1)), some (.inl a2), some (.inl 0), none]) rf_f_W_countLies_1 rfl (rf_s_iconst rf_f_W_countLies_2 (rf_m0 _) (rf_s_istore_n rf_f_W_countLies_3 rfl rfl)))) : rf_den (rf_call d) rf_m_W_countLies (0, [some (.inr (.inr a1)), some (.inl a2), none, none], [], h) = _)
set_option maxRecDepth 20000 in
set_option maxHeartbeats 2000000 in
theorem rf_e_W_countLies_4 (d : Nat) (l0 : Option Nat) (l1 : Int) (l2 : Int) (l3 : Int) (h : rf_H) : rf_j_W_countLies_4 d l0 l1 l2 l3 h = (rf_nn l0 fun k1 => ((rf_gI h 2 k1 1).bind fun x2 => (if (rf_w (l3 * 3)) < x2 then ((rf_call d 100 [.inr (.inr l0), .inl l1, .inl l3] h).bind fun q4 => rf_kI q4 fun x5 h3 => (if x5 = 0 then rf_j_W_countLies_4 d l0 l1 (rf_w (l2 + 0)) (rf_w (l3 + 1)) h3 else rf_j_W_countLies_4 d l0 l1 (rf_w (l2 + 1)) (rf_w (l3 + 1)) h3)) else some (some (.inl l2), h)))) :=
  ((rf_s_iload_n rf_f_W_countLies_4 rfl (rf_m0 _) (rf_s_iconst rf_f_W_countLies_5 (rf_m0 _) (rf_s_imul rf_f_W_countLies_6 (rf_m0 _) (rf_s_aload_n rf_f_W_countLies_7 rfl (rf_m0 _) (rf_s_getIR rf_f_W_countLies_8 (rf_m0 _) fun k1 x2 => (rf_s_icmp_ge rf_f_W_countLies_11 rfl (rf_m0 _) (rf_m0 _) (rf_s_iload_n rf_f_W_countLies_37 rfl (rf_m0 _) (rf_s_iret rf_f_W_countLies_38)) (rf_s_iload_n rf_f_W_countLies_14 rfl (rf_m0 _) (rf_s_aload_n rf_f_W_countLies_15 rfl (rf_m0 _) (rf_s_iload_n rf_f_W_countLies_16 rfl (rf_m0 _) (rf_s_iload_n rf_f_W_countLies_17 rfl (rf_m0 _) (rf_s_invS0 rf_f_W_countLies_18 rfl rfl (rf_m0 _) fun q4 x5 h3 => (rf_s_if_eq rf_f_W_countLies_21 rfl (rf_m0 _) (rf_m0 _) (rf_s_iconst rf_f_W_countLies_28 (rf_m0 _) (rf_s_iadd rf_f_W_countLies_29 (rf_m0 _) (rf_s_istore_n (L' := [some (.inr (.inr l0)), some (.inl l1), some (.inl (rf_w (l2 + 0))), some (.inl l3)]) rf_f_W_countLies_30 rfl (rf_s_iinc (L' := [some (.inr (.inr l0)), some (.inl l1), some (.inl (rf_w (l2 + 0))), some (.inl (rf_w (l3 + 1)))]) rf_f_W_countLies_31 rfl rfl (rf_s_goto rf_f_W_countLies_34 rfl rfl rfl))))) (rf_s_iconst rf_f_W_countLies_24 (rf_m0 _) (rf_s_goto rf_f_W_countLies_25 rfl (rf_m0 _) (rf_s_iadd rf_f_W_countLies_29 (rf_m0 _) (rf_s_istore_n (L' := [some (.inr (.inr l0)), some (.inl l1), some (.inl (rf_w (l2 + 1))), some (.inl l3)]) rf_f_W_countLies_30 rfl (rf_s_iinc (L' := [some (.inr (.inr l0)), some (.inl l1), some (.inl (rf_w (l2 + 1))), some (.inl (rf_w (l3 + 1)))]) rf_f_W_countLies_31 rfl rfl (rf_s_goto rf_f_W_countLies_34 rfl rfl rfl)))))))))))))))))) : rf_den (rf_call d) rf_m_W_countLies (4, [some (.inr (.inr l0)), some (.inl l1), some (.inl l2), some (.inl l3)], [], h) = _)
noncomputable def rf_j_W_isLie_20 (d : Nat) (l0 : Option Nat) (l1 : Int) (l3 : Int) (s0 : Int) (h : rf_H) : Option rf_R := rf_den (rf_call d) rf_m_W_isLie (20, [some (.inr (.inr l0)), some (.inl l1), none, some (.inl l3), none], [.inl s0], h)
theorem rf_u_W_isLie : rf_mt 100 = rf_m_W_isLie := rfl
theorem rf_f_W_isLie_0 : rf_Fb rf_m_W_isLie 0 1 (.iload_n 2) 0 0 0 0 [] [] = true := by decide +kernel
theorem rf_f_W_isLie_1 : rf_Fb rf_m_W_isLie 1 2 (.iconst 3) 0 0 0 0 [] [] = true := by decide +kernel
theorem rf_f_W_isLie_2 : rf_Fb rf_m_W_isLie 2 3 (.imul) 0 0 0 0 [] [] = true := by decide +kernel
theorem rf_f_W_isLie_3 : rf_Fb rf_m_W_isLie 3 4 (.istore_n 3) 0 0 0 0 [] [] = true := by decide +kernel
theorem rf_f_W_isLie_4 : rf_Fb rf_m_W_isLie 4 5 (.aload_n 0) 0 0 0 0 [] [] = true := by decide +kernel
theorem rf_f_W_isLie_5 : rf_Fb rf_m_W_isLie 5 6 (.iload_n 3) 0 0 0 0 [] [] = true := by decide +kernel
theorem rf_f_W_isLie_6 : rf_Fb rf_m_W_isLie 6 7 (.iconst 2) 0 0 0 0 [] [] = true := by decide +kernel
theorem rf_f_W_isLie_7 : rf_Fb rf_m_W_isLie 7 8 (.iadd) 0 0 0 0 [] [] = true := by decide +kernel
theorem rf_f_W_isLie_8 : rf_Fb rf_m_W_isLie 8 11 (.invokevirtual 86) 4 1 0 2 [] [] = true := by decide +kernel
theorem rf_f_W_isLie_11 : rf_Fb rf_m_W_isLie 11 12 (.iconst 1) 0 0 0 0 [] [] = true := by decide +kernel
theorem rf_f_W_isLie_12 : rf_Fb rf_m_W_isLie 12 15 (.if_icmp .ne 7) 19 0 0 0 [] [] = true := by decide +kernel
theorem rf_f_W_isLie_15 : rf_Fb rf_m_W_isLie 15 16 (.iconst 1) 0 0 0 0 [] [] = true := by decide +kernel
theorem rf_f_W_isLie_16 : rf_Fb rf_m_W_isLie 16 19 (.goto 4) 20 0 0 0 [] [] = true := by decide +kernel
theorem rf_f_W_isLie_19 : rf_Fb rf_m_W_isLie 19 20 (.iconst 0) 0 0 0 0 [] [true, true, false, true, false] = true := by decide +kernel
theorem rf_f_W_isLie_20 : rf_Fb rf_m_W_isLie 20 22 (.istore 4) 0 0 0 0 [] [] = true := by decide +kernel
theorem rf_f_W_isLie_22 : rf_Fb rf_m_W_isLie 22 23 (.iload_n 1) 0 0 0 0 [] [] = true := by decide +kernel
theorem rf_f_W_isLie_23 : rf_Fb rf_m_W_isLie 23 24 (.aload_n 0) 0 0 0 0 [] [] = true := by decide +kernel
theorem rf_f_W_isLie_24 : rf_Fb rf_m_W_isLie 24 25 (.iload_n 3) 0 0 0 0 [] [] = true := by decide +kernel
theorem rf_f_W_isLie_25 : rf_Fb rf_m_W_isLie 25 28 (.invokevirtual 86) 4 1 0 2 [] [] = true := by decide +kernel
theorem rf_f_W_isLie_28 : rf_Fb rf_m_W_isLie 28 29 (.aload_n 0) 0 0 0 0 [] [] = true := by decide +kernel
theorem rf_f_W_isLie_29 : rf_Fb rf_m_W_isLie 29 30 (.iload_n 3) 0 0 0 0 [] [] = true := by decide +kernel
theorem rf_f_W_isLie_30 : rf_Fb rf_m_W_isLie 30 31 (.iconst 1) 0 0 0 0 [] [] = true := by decide +kernel
theorem rf_f_W_isLie_31 : rf_Fb rf_m_W_isLie 31 32 (.iadd) 0 0 0 0 [] [] = true := by decide +kernel
theorem rf_f_W_isLie_32 : rf_Fb rf_m_W_isLie 32 35 (.invokevirtual 86) 4 1 0 2 [] [] = true := by decide +kernel
theorem rf_f_W_isLie_35 : rf_Fb rf_m_W_isLie 35 38 (.invokestatic 263) 101 3 0 0 [] [] = true := by decide +kernel
theorem rf_f_W_isLie_38 : rf_Fb rf_m_W_isLie 38 40 (.iload 4) 0 0 0 0 [] [] = true := by decide +kernel
theorem rf_f_W_isLie_40 : rf_Fb rf_m_W_isLie 40 43 (.if_icmp .eq 7) 47 0 0 0 [] [] = true := by decide +kernel
theorem rf_f_W_isLie_43 : rf_Fb rf_m_W_isLie 43 44 (.iconst 1) 0 0 0 0 [] [] = true := by decide +kernel
theorem rf_f_W_isLie_44 : rf_Fb rf_m_W_isLie 44 47 (.goto 4) 48 0 0 0 [] [] = true := by decide +kernel
theorem rf_f_W_isLie_47 : rf_Fb rf_m_W_isLie 47 48 (.iconst 0) 0 0 0 0 [] [] = true := by decide +kernel
theorem rf_f_W_isLie_48 : rf_Fb rf_m_W_isLie 48 49 (.ireturn) 0 0 1 0 [] [] = true := by decide +kernel
set_option maxRecDepth 20000 in
set_option maxHeartbeats 2000000 in
theorem rf_e_W_isLie (d : Nat) (a1 : Option Nat) (a2 : Int) (a3 : Int) (h : rf_H) : rf_call (d + 1) 100 [.inr (.inr a1), .inl a2, .inl a3] h = (rf_nn a1 fun k1 => (bif rf_isO h.1 k1 2 then ((rf_call d 4 [.inr (.inr (some k1)), .inl (rf_w ((rf_w (a3 * 3)) + 2))] h).bind fun q3 => rf_kI q3 fun x4 h2 => (if x4 = 1 then rf_j_W_isLie_20 d a1 a2 (rf_w (a3 * 3)) 1 h2 else rf_j_W_isLie_20 d a1 a2 (rf_w (a3 * 3)) 0 h2)) else none)) := by
  show rf_den (rf_call d) (rf_mt 100) _ = _
  rw [rf_u_W_isLie]
  exact ((rf_s_iload_n rf_f_W_isLie_0 rfl (rf_m0 _) (rf_s_iconst rf_f_W_isLie_1 (rf_m0 _) (rf_s_imul rf_f_W_isLie_2 (rf_m0 _) (rf_s_istore_n (L' := [some (.inr (.inr a1)), some (.inl a2), some (.inl a3), some (.inl (rf_w (a3 * 3))), none]) rf_f_W_isLie_3 rfl (rf_s_aload_n rf_f_W_isLie_4 rfl (rf_m0 _) (rf_s_iload_n rf_f_W_isLie_5 rfl (rf_m0 _) (rf_s_iconst rf_f_W_isLie_6 (rf_m0 _) (rf_s_iadd rf_f_W_isLie_7 (rf_m0 _) (rf_s_invV0R rf_f_W_isLie_8 rfl rfl (rf_m0 _) fun k1 q3 x4 h2 => (rf_s_iconst rf_f_W_isLie_11 (rf_m0 _) (rf_s_icmp_ne rf_f_W_isLie_12 rfl (rf_m0 _) (rf_m0 _) (rf_s_iconst rf_f_W_isLie_19 rfl rfl) (rf_s_iconst rf_f_W_isLie_15 (rf_m0 _) (rf_s_goto rf_f_W_isLie_16 rfl rfl rfl))))))))))))) : rf_den (rf_call d) rf_m_W_isLie (0, [some (.inr (.inr a1)), some (.inl a2), some (.inl a3), none, none], [], h) = _)
set_option maxRecDepth 20000 in
set_option maxHeartbeats 2000000 in
theorem rf_e_W_isLie_20 (d : Nat) (l0 : Option Nat) (l1 : Int) (l3 : Int) (s0 : Int) (h : rf_H) : rf_j_W_isLie_20 d l0 l1 l3 s0 h = (rf_nn l0 fun k1 => (bif rf_isO h.1 k1 2 then ((rf_call d 4 [.inr (.inr (some k1)), .inl l3] h).bind fun q3 => rf_kI q3 fun x4 h2 => (rf_nn l0 fun k5 => (bif rf_isO h2.1 k5 2 then ((rf_call d 4 [.inr (.inr (some k5)), .inl (rf_w (l3 + 1))] h2).bind fun q7 => rf_kI q7 fun x8 h6 => ((rf_call d 101 [.inl l1, .inl x4, .inl x8] h6).bind fun q10 => rf_kI q10 fun x11 h9 => (if x11 = s0 then some (some (.inl 0), h9) else some (some (.inl 1), h9)))) else none))) else none)) :=
  ((rf_s_istore (L' := [some (.inr (.inr l0)), some (.inl l1), none, some (.inl l3), some (.inl s0)]) rf_f_W_isLie_20 rfl (rf_s_iload_n rf_f_W_isLie_22 rfl (rf_m0 _) (rf_s_aload_n rf_f_W_isLie_23 rfl (rf_m0 _) (rf_s_iload_n rf_f_W_isLie_24 rfl (rf_m0 _) (rf_s_invV0R rf_f_W_isLie_25 rfl rfl (rf_m0 _) fun k1 q3 x4 h2 => (rf_s_aload_n rf_f_W_isLie_28 rfl (rf_m0 _) (rf_s_iload_n rf_f_W_isLie_29 rfl (rf_m0 _) (rf_s_iconst rf_f_W_isLie_30 (rf_m0 _) (rf_s_iadd rf_f_W_isLie_31 (rf_m0 _) (rf_s_invV0R rf_f_W_isLie_32 rfl rfl (rf_m0 _) fun k5 q7 x8 h6 => (rf_s_invS0 rf_f_W_isLie_35 rfl rfl (rf_m0 _) fun q10 x11 h9 => (rf_s_iload rf_f_W_isLie_38 rfl (rf_m0 _) (rf_s_icmp_eq rf_f_W_isLie_40 rfl (rf_m0 _) (rf_m0 _) (rf_s_iconst rf_f_W_isLie_47 (rf_m0 _) (rf_s_zretK rf_f_W_isLie_48 (by decide))) (rf_s_iconst rf_f_W_isLie_43 (rf_m0 _) (rf_s_goto rf_f_W_isLie_44 rfl (rf_m0 _) (rf_s_zretK rf_f_W_isLie_48 (by decide))))))))))))))))) : rf_den (rf_call d) rf_m_W_isLie (20, [some (.inr (.inr l0)), some (.inl l1), none, some (.inl l3), none], [.inl s0], h) = _)
theorem rf_u_W_slips : rf_mt 101 = rf_m_W_slips := rfl
theorem rf_f_W_slips_0 : rf_Fb rf_m_W_slips 0 1 (.iconst 2) 0 0 0 0 [] [] = true := by decide +kernel
theorem rf_f_W_slips_1 : rf_Fb rf_m_W_slips 1 2 (.iload_n 2) 0 0 0 0 [] [] = true := by decide +kernel
theorem rf_f_W_slips_2 : rf_Fb rf_m_W_slips 2 3 (.imul) 0 0 0 0 [] [] = true := by decide +kernel
theorem rf_f_W_slips_3 : rf_Fb rf_m_W_slips 3 4 (.iload_n 0) 0 0 0 0 [] [] = true := by decide +kernel
theorem rf_f_W_slips_4 : rf_Fb rf_m_W_slips 4 5 (.iload_n 1) 0 0 0 0 [] [] = true := by decide +kernel
theorem rf_f_W_slips_5 : rf_Fb rf_m_W_slips 5 8 (.invokestatic 308) 70 1 0 0 [] [] = true := by decide +kernel
theorem rf_f_W_slips_8 : rf_Fb rf_m_W_slips 8 9 (.imul) 0 0 0 0 [] [] = true := by decide +kernel
theorem rf_f_W_slips_9 : rf_Fb rf_m_W_slips 9 12 (.if_icmp .le 7) 16 0 0 0 [] [] = true := by decide +kernel
theorem rf_f_W_slips_12 : rf_Fb rf_m_W_slips 12 13 (.iconst 1) 0 0 0 0 [] [] = true := by decide +kernel
theorem rf_f_W_slips_13 : rf_Fb rf_m_W_slips 13 16 (.goto 4) 17 0 0 0 [] [] = true := by decide +kernel
theorem rf_f_W_slips_16 : rf_Fb rf_m_W_slips 16 17 (.iconst 0) 0 0 0 0 [] [] = true := by decide +kernel
theorem rf_f_W_slips_17 : rf_Fb rf_m_W_slips 17 18 (.ireturn) 0 0 1 0 [] [] = true := by decide +kernel
set_option maxRecDepth 20000 in
set_option maxHeartbeats 2000000 in
theorem rf_e_W_slips (d : Nat) (a1 : Int) (a2 : Int) (a3 : Int) (h : rf_H) : rf_call (d + 1) 101 [.inl a1, .inl a2, .inl a3] h = ((rf_call d 70 [.inl a2] h).bind fun q2 => rf_kI q2 fun x3 h1 => (if (rf_w (a1 * x3)) < (rf_w (2 * a3)) then some (some (.inl 1), h1) else some (some (.inl 0), h1))) := by
  show rf_den (rf_call d) (rf_mt 101) _ = _
  rw [rf_u_W_slips]
  exact ((rf_s_iconst rf_f_W_slips_0 (rf_m0 _) (rf_s_iload_n rf_f_W_slips_1 rfl (rf_m0 _) (rf_s_imul rf_f_W_slips_2 (rf_m0 _) (rf_s_iload_n rf_f_W_slips_3 rfl (rf_m0 _) (rf_s_iload_n rf_f_W_slips_4 rfl (rf_m0 _) (rf_s_invS0 rf_f_W_slips_5 rfl rfl (rf_m0 _) fun q2 x3 h1 => (rf_s_imul rf_f_W_slips_8 (rf_m0 _) (rf_s_icmp_le rf_f_W_slips_9 rfl (rf_m0 _) (rf_m0 _) (rf_s_iconst rf_f_W_slips_16 (rf_m0 _) (rf_s_zretK rf_f_W_slips_17 (by decide))) (rf_s_iconst rf_f_W_slips_12 (rf_m0 _) (rf_s_goto rf_f_W_slips_13 rfl (rf_m0 _) (rf_s_zretK rf_f_W_slips_17 (by decide)))))))))))) : rf_den (rf_call d) rf_m_W_slips (0, [some (.inl a1), some (.inl a2), some (.inl a3)], [], h) = _)
noncomputable def rf_j_W_lies_44 (d : Nat) (o : Nat) (l2 : Int) (l3 : Option Nat) (l5 : Int) (h : rf_H) : Option rf_R := rf_den (rf_call d) rf_m_W_lies (44, [some (.inr (.inr (some o))), none, some (.inl l2), some (.inr (.inr l3)), none, some (.inl l5)], [], h)
noncomputable def rf_j_W_lies_71 (d : Nat) (o : Nat) (l2 : Int) (l3 : Option Nat) (l5 : Int) (h : rf_H) : Option rf_R := rf_den (rf_call d) rf_m_W_lies (71, [some (.inr (.inr (some o))), none, some (.inl l2), some (.inr (.inr l3)), none, some (.inl l5)], [], h)
theorem rf_u_W_lies : rf_mt 102 = rf_m_W_lies := rfl
theorem rf_f_W_lies_0 : rf_Fb rf_m_W_lies 0 1 (.aload_n 0) 0 0 0 0 [] [] = true := by decide +kernel
theorem rf_f_W_lies_1 : rf_Fb rf_m_W_lies 1 4 (.getfield 11) 4 0 2 0 [] [] = true := by decide +kernel
theorem rf_f_W_lies_4 : rf_Fb rf_m_W_lies 4 5 (.iload_n 1) 0 0 0 0 [] [] = true := by decide +kernel
theorem rf_f_W_lies_5 : rf_Fb rf_m_W_lies 5 8 (.invokestatic 74) 55 2 2 0 [] [] = true := by decide +kernel
theorem rf_f_W_lies_8 : rf_Fb rf_m_W_lies 8 9 (.astore_n 3) 0 0 0 0 [] [] = true := by decide +kernel
theorem rf_f_W_lies_9 : rf_Fb rf_m_W_lies 9 10 (.aload_n 3) 0 0 0 0 [] [] = true := by decide +kernel
theorem rf_f_W_lies_10 : rf_Fb rf_m_W_lies 10 13 (.ifnull 14) 24 0 0 0 [] [] = true := by decide +kernel
theorem rf_f_W_lies_13 : rf_Fb rf_m_W_lies 13 14 (.iload_n 2) 0 0 0 0 [] [] = true := by decide +kernel
theorem rf_f_W_lies_14 : rf_Fb rf_m_W_lies 14 15 (.iconst 1) 0 0 0 0 [] [] = true := by decide +kernel
theorem rf_f_W_lies_15 : rf_Fb rf_m_W_lies 15 18 (.if_icmp .lt 9) 24 0 0 0 [] [] = true := by decide +kernel
theorem rf_f_W_lies_18 : rf_Fb rf_m_W_lies 18 19 (.iload_n 2) 0 0 0 0 [] [] = true := by decide +kernel
theorem rf_f_W_lies_19 : rf_Fb rf_m_W_lies 19 21 (.bipush 9) 0 0 0 0 [] [] = true := by decide +kernel
theorem rf_f_W_lies_21 : rf_Fb rf_m_W_lies 21 24 (.if_icmp .le 5) 26 0 0 0 [] [] = true := by decide +kernel
theorem rf_f_W_lies_24 : rf_Fb rf_m_W_lies 24 25 (.iconst (-1)) 0 0 0 0 [] [] = true := by decide +kernel
theorem rf_f_W_lies_25 : rf_Fb rf_m_W_lies 25 26 (.ireturn) 0 0 0 0 [] [] = true := by decide +kernel
theorem rf_f_W_lies_26 : rf_Fb rf_m_W_lies 26 27 (.aload_n 0) 0 0 0 0 [] [] = true := by decide +kernel
theorem rf_f_W_lies_27 : rf_Fb rf_m_W_lies 27 28 (.aload_n 3) 0 0 0 0 [] [] = true := by decide +kernel
theorem rf_f_W_lies_28 : rf_Fb rf_m_W_lies 28 31 (.invokevirtual 247) 98 1 0 4 [] [] = true := by decide +kernel
theorem rf_f_W_lies_31 : rf_Fb rf_m_W_lies 31 33 (.istore 4) 0 0 0 0 [] [] = true := by decide +kernel
theorem rf_f_W_lies_33 : rf_Fb rf_m_W_lies 33 35 (.iload 4) 0 0 0 0 [] [] = true := by decide +kernel
theorem rf_f_W_lies_35 : rf_Fb rf_m_W_lies 35 38 (.ifCond .eq 6) 41 0 0 0 [] [] = true := by decide +kernel
theorem rf_f_W_lies_38 : rf_Fb rf_m_W_lies 38 40 (.iload 4) 0 0 0 0 [] [] = true := by decide +kernel
theorem rf_f_W_lies_40 : rf_Fb rf_m_W_lies 40 41 (.ireturn) 0 0 0 0 [] [] = true := by decide +kernel
theorem rf_f_W_lies_41 : rf_Fb rf_m_W_lies 41 42 (.iconst 0) 0 0 0 0 [] [] = true := by decide +kernel
theorem rf_f_W_lies_42 : rf_Fb rf_m_W_lies 42 44 (.istore 5) 0 0 0 0 [] [true, false, true, true, false, true] = true := by decide +kernel
theorem rf_f_W_lies_44 : rf_Fb rf_m_W_lies 44 46 (.iload 5) 0 0 0 0 [] [] = true := by decide +kernel
theorem rf_f_W_lies_46 : rf_Fb rf_m_W_lies 46 47 (.iconst 3) 0 0 0 0 [] [] = true := by decide +kernel
theorem rf_f_W_lies_47 : rf_Fb rf_m_W_lies 47 48 (.imul) 0 0 0 0 [] [] = true := by decide +kernel
theorem rf_f_W_lies_48 : rf_Fb rf_m_W_lies 48 49 (.aload_n 3) 0 0 0 0 [] [] = true := by decide +kernel
theorem rf_f_W_lies_49 : rf_Fb rf_m_W_lies 49 52 (.getfield 111) 2 1 0 0 [] [] = true := by decide +kernel
theorem rf_f_W_lies_52 : rf_Fb rf_m_W_lies 52 55 (.if_icmp .ge 19) 71 0 0 0 [] [] = true := by decide +kernel
theorem rf_f_W_lies_55 : rf_Fb rf_m_W_lies 55 56 (.aload_n 3) 0 0 0 0 [] [] = true := by decide +kernel
theorem rf_f_W_lies_56 : rf_Fb rf_m_W_lies 56 57 (.iload_n 2) 0 0 0 0 [] [] = true := by decide +kernel
theorem rf_f_W_lies_57 : rf_Fb rf_m_W_lies 57 59 (.iload 5) 0 0 0 0 [] [] = true := by decide +kernel
theorem rf_f_W_lies_59 : rf_Fb rf_m_W_lies 59 62 (.invokestatic 254) 100 3 0 0 [] [] = true := by decide +kernel
theorem rf_f_W_lies_62 : rf_Fb rf_m_W_lies 62 65 (.ifCond .ne 9) 71 0 0 0 [] [] = true := by decide +kernel
theorem rf_f_W_lies_65 : rf_Fb rf_m_W_lies 65 68 (.iinc 5 1) 0 0 0 0 [] [] = true := by decide +kernel
theorem rf_f_W_lies_68 : rf_Fb rf_m_W_lies 68 71 (.goto (-24)) 44 0 0 0 [] [true, false, true, true, false, true] = true := by decide +kernel
theorem rf_f_W_lies_71 : rf_Fb rf_m_W_lies 71 72 (.aload_n 0) 0 0 0 0 [] [] = true := by decide +kernel
theorem rf_f_W_lies_72 : rf_Fb rf_m_W_lies 72 74 (.iload 5) 0 0 0 0 [] [] = true := by decide +kernel
theorem rf_f_W_lies_74 : rf_Fb rf_m_W_lies 74 75 (.iconst 3) 0 0 0 0 [] [] = true := by decide +kernel
theorem rf_f_W_lies_75 : rf_Fb rf_m_W_lies 75 76 (.imul) 0 0 0 0 [] [] = true := by decide +kernel
theorem rf_f_W_lies_76 : rf_Fb rf_m_W_lies 76 77 (.aload_n 3) 0 0 0 0 [] [] = true := by decide +kernel
theorem rf_f_W_lies_77 : rf_Fb rf_m_W_lies 77 80 (.getfield 111) 2 1 0 0 [] [] = true := by decide +kernel
theorem rf_f_W_lies_80 : rf_Fb rf_m_W_lies 80 83 (.if_icmp .ge 8) 88 0 0 0 [] [] = true := by decide +kernel
theorem rf_f_W_lies_83 : rf_Fb rf_m_W_lies 83 85 (.iload 5) 0 0 0 0 [] [] = true := by decide +kernel
theorem rf_f_W_lies_85 : rf_Fb rf_m_W_lies 85 88 (.goto 5) 90 0 0 0 [] [] = true := by decide +kernel
theorem rf_f_W_lies_88 : rf_Fb rf_m_W_lies 88 90 (.bipush (-9)) 0 0 0 0 [] [] = true := by decide +kernel
theorem rf_f_W_lies_90 : rf_Fb rf_m_W_lies 90 91 (.aload_n 3) 0 0 0 0 [] [] = true := by decide +kernel
theorem rf_f_W_lies_91 : rf_Fb rf_m_W_lies 91 92 (.iload_n 2) 0 0 0 0 [] [] = true := by decide +kernel
theorem rf_f_W_lies_92 : rf_Fb rf_m_W_lies 92 95 (.invokestatic 251) 99 2 0 0 [] [] = true := by decide +kernel
theorem rf_f_W_lies_95 : rf_Fb rf_m_W_lies 95 98 (.invokevirtual 93) 60 2 0 4 [] [] = true := by decide +kernel
theorem rf_f_W_lies_98 : rf_Fb rf_m_W_lies 98 99 (.ireturn) 0 0 0 0 [] [] = true := by decide +kernel
set_option maxRecDepth 20000 in
set_option maxHeartbeats 2000000 in
theorem rf_e_W_lies (d : Nat) (o : Nat) (a1 : Int) (a2 : Int) (h : rf_H) : rf_call (d + 1) 102 [.inr (.inr (some o)), .inl a1, .inl a2] h = ((rf_gR h 4 o 0).bind fun x1 => ((rf_call d 55 [.inr (.inr x1), .inl a1] h).bind fun q3 => rf_kR q3 fun x4 h2 => (rf_nz x4 (some (some (.inl (-1)), h2)) ((if a2 < 1 then some (some (.inl (-1)), h2) else (if 9 < a2 then some (some (.inl (-1)), h2) else (bif rf_isO h2.1 o 4 then ((rf_call d 98 [.inr (.inr (some o)), .inr (.inr x4)] h2).bind fun q6 => rf_kI q6 fun x7 h5 => (if x7 = 0 then rf_j_W_lies_44 d o a2 x4 0 h5 else some (some (.inl x7), h5))) else none))))))) := by
  show rf_den (rf_call d) (rf_mt 102) _ = _
  rw [rf_u_W_lies]
  exact ((rf_s_aload_n rf_f_W_lies_0 rfl (rf_m0 _) (rf_s_getAS rf_f_W_lies_1 (rf_m0 _) fun x1 => (rf_s_iload_n rf_f_W_lies_4 rfl (rf_m0 _) (rf_s_invS2 rf_f_W_lies_5 rfl rfl (rf_m0 _) fun q3 x4 h2 => (rf_s_astore_n (L' := [some (.inr (.inr (some o))), some (.inl a1), some (.inl a2), some (.inr (.inr x4)), none, none]) rf_f_W_lies_8 rfl (rf_s_aload_n rf_f_W_lies_9 rfl (rf_m0 _) (rf_s_ifnull rf_f_W_lies_10 rfl (rf_m0 _) (rf_m0 _) (rf_s_iconst rf_f_W_lies_24 (rf_m0 _) (rf_s_iret rf_f_W_lies_25)) (rf_s_iload_n rf_f_W_lies_13 rfl (rf_m0 _) (rf_s_iconst rf_f_W_lies_14 (rf_m0 _) (rf_s_icmp_lt rf_f_W_lies_15 rfl (rf_m0 _) (rf_m0 _) (rf_s_iconst rf_f_W_lies_24 (rf_m0 _) (rf_s_iret rf_f_W_lies_25)) (rf_s_iload_n rf_f_W_lies_18 rfl (rf_m0 _) (rf_s_bipush rf_f_W_lies_19 (rf_m0 _) (rf_s_icmp_le rf_f_W_lies_21 rfl (rf_m0 _) (rf_m0 _) (rf_s_aload_n rf_f_W_lies_26 rfl (rf_m0 _) (rf_s_aload_n rf_f_W_lies_27 rfl (rf_m0 _) (rf_s_invV0S rf_f_W_lies_28 rfl rfl (rf_m0 _) fun q6 x7 h5 => (rf_s_istore (L' := [some (.inr (.inr (some o))), some (.inl a1), some (.inl a2), some (.inr (.inr x4)), some (.inl x7), none]) rf_f_W_lies_31 rfl (rf_s_iload rf_f_W_lies_33 rfl (rf_m0 _) (rf_s_if_eq rf_f_W_lies_35 rfl (rf_m0 _) (rf_m0 _) (rf_s_iconst rf_f_W_lies_41 (rf_m0 _) (rf_s_istore rf_f_W_lies_42 rfl rfl)) (rf_s_iload rf_f_W_lies_38 rfl (rf_m0 _) (rf_s_iret rf_f_W_lies_40)))))))) (rf_s_iconst rf_f_W_lies_24 (rf_m0 _) (rf_s_iret rf_f_W_lies_25))))))))))))))) : rf_den (rf_call d) rf_m_W_lies (0, [some (.inr (.inr (some o))), some (.inl a1), some (.inl a2), none, none, none], [], h) = _)
set_option maxRecDepth 20000 in
set_option maxHeartbeats 2000000 in
theorem rf_e_W_lies_44 (d : Nat) (o : Nat) (l2 : Int) (l3 : Option Nat) (l5 : Int) (h : rf_H) : rf_j_W_lies_44 d o l2 l3 l5 h = (rf_nn l3 fun k1 => ((rf_gI h 2 k1 1).bind fun x2 => (if (rf_w (l5 * 3)) < x2 then ((rf_call d 100 [.inr (.inr l3), .inl l2, .inl l5] h).bind fun q4 => rf_kI q4 fun x5 h3 => (if x5 = 0 then rf_j_W_lies_44 d o l2 l3 (rf_w (l5 + 1)) h3 else rf_j_W_lies_71 d o l2 l3 l5 h3)) else rf_j_W_lies_71 d o l2 l3 l5 h))) :=
  ((rf_s_iload rf_f_W_lies_44 rfl (rf_m0 _) (rf_s_iconst rf_f_W_lies_46 (rf_m0 _) (rf_s_imul rf_f_W_lies_47 (rf_m0 _) (rf_s_aload_n rf_f_W_lies_48 rfl (rf_m0 _) (rf_s_getIR rf_f_W_lies_49 (rf_m0 _) fun k1 x2 => (rf_s_icmp_ge rf_f_W_lies_52 rfl rfl (rf_m0 _) rfl (rf_s_aload_n rf_f_W_lies_55 rfl (rf_m0 _) (rf_s_iload_n rf_f_W_lies_56 rfl (rf_m0 _) (rf_s_iload rf_f_W_lies_57 rfl (rf_m0 _) (rf_s_invS0 rf_f_W_lies_59 rfl rfl (rf_m0 _) fun q4 x5 h3 => (rf_s_if_ne rf_f_W_lies_62 rfl rfl (rf_m0 _) rfl (rf_s_iinc (L' := [some (.inr (.inr (some o))), none, some (.inl l2), some (.inr (.inr l3)), none, some (.inl (rf_w (l5 + 1)))]) rf_f_W_lies_65 rfl rfl (rf_s_goto rf_f_W_lies_68 rfl rfl rfl))))))))))))) : rf_den (rf_call d) rf_m_W_lies (44, [some (.inr (.inr (some o))), none, some (.inl l2), some (.inr (.inr l3)), none, some (.inl l5)], [], h) = _)
set_option maxRecDepth 20000 in
set_option maxHeartbeats 2000000 in
theorem rf_e_W_lies_71 (d : Nat) (o : Nat) (l2 : Int) (l3 : Option Nat) (l5 : Int) (h : rf_H) : rf_j_W_lies_71 d o l2 l3 l5 h = (rf_nn l3 fun k1 => ((rf_gI h 2 k1 1).bind fun x2 => (if (rf_w (l5 * 3)) < x2 then ((rf_call d 99 [.inr (.inr l3), .inl l2] h).bind fun q10 => rf_kI q10 fun x11 h9 => (bif rf_isO h9.1 o 4 then ((rf_call d 60 [.inr (.inr (some o)), .inl l5, .inl x11] h9).bind fun q13 => rf_kI q13 fun x14 h12 => some (some (.inl x14), h12)) else none)) else ((rf_call d 99 [.inr (.inr l3), .inl l2] h).bind fun q4 => rf_kI q4 fun x5 h3 => (bif rf_isO h3.1 o 4 then ((rf_call d 60 [.inr (.inr (some o)), .inl (-9), .inl x5] h3).bind fun q7 => rf_kI q7 fun x8 h6 => some (some (.inl x8), h6)) else none))))) :=
  ((rf_s_aload_n rf_f_W_lies_71 rfl (rf_m0 _) (rf_s_iload rf_f_W_lies_72 rfl (rf_m0 _) (rf_s_iconst rf_f_W_lies_74 (rf_m0 _) (rf_s_imul rf_f_W_lies_75 (rf_m0 _) (rf_s_aload_n rf_f_W_lies_76 rfl (rf_m0 _) (rf_s_getIR rf_f_W_lies_77 (rf_m0 _) fun k1 x2 => (rf_s_icmp_ge rf_f_W_lies_80 rfl (rf_m0 _) (rf_m0 _) (rf_s_bipush rf_f_W_lies_88 (rf_m0 _) (rf_s_aload_n rf_f_W_lies_90 rfl (rf_m0 _) (rf_s_iload_n rf_f_W_lies_91 rfl (rf_m0 _) (rf_s_invS0 rf_f_W_lies_92 rfl rfl (rf_m0 _) fun q4 x5 h3 => (rf_s_invV0S rf_f_W_lies_95 rfl rfl (rf_m0 _) fun q7 x8 h6 => (rf_s_iret rf_f_W_lies_98)))))) (rf_s_iload rf_f_W_lies_83 rfl (rf_m0 _) (rf_s_goto rf_f_W_lies_85 rfl (rf_m0 _) (rf_s_aload_n rf_f_W_lies_90 rfl (rf_m0 _) (rf_s_iload_n rf_f_W_lies_91 rfl (rf_m0 _) (rf_s_invS0 rf_f_W_lies_92 rfl rfl (rf_m0 _) fun q10 x11 h9 => (rf_s_invV0S rf_f_W_lies_95 rfl rfl (rf_m0 _) fun q13 x14 h12 => (rf_s_iret rf_f_W_lies_98)))))))))))))) : rf_den (rf_call d) rf_m_W_lies (71, [some (.inr (.inr (some o))), none, some (.inl l2), some (.inr (.inr l3)), none, some (.inl l5)], [], h) = _)
noncomputable def rf_j_W_trial_37 (d : Nat) (o : Nat) (l1 : Int) (l2 : Int) (l3 : Int) (l4 : Int) (l5 : Int) (l6 : Int) (h : rf_H) : Option rf_R := rf_den (rf_call d) rf_m_W_trial (37, [some (.inr (.inr (some o))), some (.inl l1), some (.inl l2), some (.inl l3), some (.inl l4), some (.inl l5), some (.inl l6), none, none, none], [], h)
noncomputable def rf_j_W_trial_50 (d : Nat) (o : Nat) (l1 : Int) (l2 : Int) (l3 : Int) (l4 : Int) (l5 : Int) (l6 : Int) (l7 : Int) (l8 : Int) (h : rf_H) : Option rf_R := rf_den (rf_call d) rf_m_W_trial (50, [some (.inr (.inr (some o))), some (.inl l1), some (.inl l2), some (.inl l3), some (.inl l4), some (.inl l5), some (.inl l6), some (.inl l7), some (.inl l8), none], [], h)
noncomputable def rf_j_W_trial_72 (d : Nat) (o : Nat) (l1 : Int) (l2 : Int) (l3 : Int) (l4 : Int) (l5 : Int) (l6 : Int) (l7 : Int) (l8 : Int) (s0 : Int) (h : rf_H) : Option rf_R := rf_den (rf_call d) rf_m_W_trial (72, [some (.inr (.inr (some o))), some (.inl l1), some (.inl l2), some (.inl l3), some (.inl l4), some (.inl l5), some (.inl l6), some (.inl l7), some (.inl l8), none], [.inl s0], h)
theorem rf_u_W_trial : rf_mt 103 = rf_m_W_trial := rfl
theorem rf_f_W_trial_0 : rf_Fb rf_m_W_trial 0 1 (.iload_n 1) 0 0 0 0 [] [] = true := by decide +kernel
theorem rf_f_W_trial_1 : rf_Fb rf_m_W_trial 1 4 (.ifCond .eq 20) 21 0 0 0 [] [] = true := by decide +kernel
theorem rf_f_W_trial_4 : rf_Fb rf_m_W_trial 4 5 (.iload_n 1) 0 0 0 0 [] [] = true := by decide +kernel
theorem rf_f_W_trial_5 : rf_Fb rf_m_W_trial 5 8 (.sipush (-1023)) 0 0 0 0 [] [] = true := by decide +kernel
theorem rf_f_W_trial_8 : rf_Fb rf_m_W_trial 8 9 (.iand) 0 0 0 0 [] [] = true := by decide +kernel
theorem rf_f_W_trial_9 : rf_Fb rf_m_W_trial 9 12 (.ifCond .ne 12) 21 0 0 0 [] [] = true := by decide +kernel
theorem rf_f_W_trial_12 : rf_Fb rf_m_W_trial 12 13 (.iload_n 2) 0 0 0 0 [] [] = true := by decide +kernel
theorem rf_f_W_trial_13 : rf_Fb rf_m_W_trial 13 16 (.ifCond .lt 8) 21 0 0 0 [] [] = true := by decide +kernel
theorem rf_f_W_trial_16 : rf_Fb rf_m_W_trial 16 17 (.iload_n 2) 0 0 0 0 [] [] = true := by decide +kernel
theorem rf_f_W_trial_17 : rf_Fb rf_m_W_trial 17 18 (.iconst 2) 0 0 0 0 [] [] = true := by decide +kernel
theorem rf_f_W_trial_18 : rf_Fb rf_m_W_trial 18 21 (.if_icmp .le 5) 23 0 0 0 [] [] = true := by decide +kernel
theorem rf_f_W_trial_21 : rf_Fb rf_m_W_trial 21 22 (.iconst (-1)) 0 0 0 0 [] [] = true := by decide +kernel
theorem rf_f_W_trial_22 : rf_Fb rf_m_W_trial 22 23 (.ireturn) 0 0 0 0 [] [] = true := by decide +kernel
theorem rf_f_W_trial_23 : rf_Fb rf_m_W_trial 23 24 (.iload_n 1) 0 0 0 0 [] [] = true := by decide +kernel
theorem rf_f_W_trial_24 : rf_Fb rf_m_W_trial 24 27 (.invokestatic 258) 17 1 0 0 [] [] = true := by decide +kernel
theorem rf_f_W_trial_27 : rf_Fb rf_m_W_trial 27 28 (.istore_n 3) 0 0 0 0 [] [] = true := by decide +kernel
theorem rf_f_W_trial_28 : rf_Fb rf_m_W_trial 28 29 (.iconst 0) 0 0 0 0 [] [] = true := by decide +kernel
theorem rf_f_W_trial_29 : rf_Fb rf_m_W_trial 29 31 (.istore 4) 0 0 0 0 [] [] = true := by decide +kernel
theorem rf_f_W_trial_31 : rf_Fb rf_m_W_trial 31 32 (.iload_n 3) 0 0 0 0 [] [] = true := by decide +kernel
theorem rf_f_W_trial_32 : rf_Fb rf_m_W_trial 32 34 (.istore 5) 0 0 0 0 [] [] = true := by decide +kernel
theorem rf_f_W_trial_34 : rf_Fb rf_m_W_trial 34 35 (.iconst 0) 0 0 0 0 [] [] = true := by decide +kernel
theorem rf_f_W_trial_35 : rf_Fb rf_m_W_trial 35 37 (.istore 6) 0 0 0 0 [] [true, true, true, true, true, true, true, false, false, false] = true := by decide +kernel
theorem rf_f_W_trial_37 : rf_Fb rf_m_W_trial 37 39 (.iload 6) 0 0 0 0 [] [] = true := by decide +kernel
theorem rf_f_W_trial_39 : rf_Fb rf_m_W_trial 39 41 (.bipush 9) 0 0 0 0 [] [] = true := by decide +kernel
theorem rf_f_W_trial_41 : rf_Fb rf_m_W_trial 41 44 (.if_icmp .gt 97) 138 0 0 0 [] [] = true := by decide +kernel
theorem rf_f_W_trial_44 : rf_Fb rf_m_W_trial 44 45 (.iconst 0) 0 0 0 0 [] [] = true := by decide +kernel
theorem rf_f_W_trial_45 : rf_Fb rf_m_W_trial 45 47 (.istore 7) 0 0 0 0 [] [] = true := by decide +kernel
theorem rf_f_W_trial_47 : rf_Fb rf_m_W_trial 47 48 (.iconst 1) 0 0 0 0 [] [] = true := by decide +kernel
theorem rf_f_W_trial_48 : rf_Fb rf_m_W_trial 48 50 (.istore 8) 0 0 0 0 [] [true, true, true, true, true, true, true, true, true, false] = true := by decide +kernel
theorem rf_f_W_trial_50 : rf_Fb rf_m_W_trial 50 52 (.iload 8) 0 0 0 0 [] [] = true := by decide +kernel
theorem rf_f_W_trial_52 : rf_Fb rf_m_W_trial 52 54 (.bipush 9) 0 0 0 0 [] [] = true := by decide +kernel
theorem rf_f_W_trial_54 : rf_Fb rf_m_W_trial 54 57 (.if_icmp .gt 52) 106 0 0 0 [] [] = true := by decide +kernel
theorem rf_f_W_trial_57 : rf_Fb rf_m_W_trial 57 58 (.iload_n 1) 0 0 0 0 [] [] = true := by decide +kernel
theorem rf_f_W_trial_58 : rf_Fb rf_m_W_trial 58 60 (.iload 8) 0 0 0 0 [] [] = true := by decide +kernel
theorem rf_f_W_trial_60 : rf_Fb rf_m_W_trial 60 61 (.ishr) 0 0 0 0 [] [] = true := by decide +kernel
theorem rf_f_W_trial_61 : rf_Fb rf_m_W_trial 61 62 (.iconst 1) 0 0 0 0 [] [] = true := by decide +kernel
theorem rf_f_W_trial_62 : rf_Fb rf_m_W_trial 62 63 (.iand) 0 0 0 0 [] [] = true := by decide +kernel
theorem rf_f_W_trial_63 : rf_Fb rf_m_W_trial 63 64 (.iconst 1) 0 0 0 0 [] [] = true := by decide +kernel
theorem rf_f_W_trial_64 : rf_Fb rf_m_W_trial 64 67 (.if_icmp .ne 7) 71 0 0 0 [] [] = true := by decide +kernel
theorem rf_f_W_trial_67 : rf_Fb rf_m_W_trial 67 68 (.iconst 1) 0 0 0 0 [] [] = true := by decide +kernel
theorem rf_f_W_trial_68 : rf_Fb rf_m_W_trial 68 71 (.goto 4) 72 0 0 0 [] [] = true := by decide +kernel
theorem rf_f_W_trial_71 : rf_Fb rf_m_W_trial 71 72 (.iconst 0) 0 0 0 0 [] [true, true, true, true, true, true, true, true, true, false] = true := by decide +kernel
theorem rf_f_W_trial_72 : rf_Fb rf_m_W_trial 72 74 (.istore 9) 0 0 0 0 [] [] = true := by decide +kernel
theorem rf_f_W_trial_74 : rf_Fb rf_m_W_trial 74 76 (.iload 7) 0 0 0 0 [] [] = true := by decide +kernel
theorem rf_f_W_trial_76 : rf_Fb rf_m_W_trial 76 78 (.iload 9) 0 0 0 0 [] [] = true := by decide +kernel
theorem rf_f_W_trial_78 : rf_Fb rf_m_W_trial 78 81 (.ifCond .eq 18) 96 0 0 0 [] [] = true := by decide +kernel
theorem rf_f_W_trial_81 : rf_Fb rf_m_W_trial 81 83 (.iload 8) 0 0 0 0 [] [] = true := by decide +kernel
theorem rf_f_W_trial_83 : rf_Fb rf_m_W_trial 83 84 (.iload_n 2) 0 0 0 0 [] [] = true := by decide +kernel
theorem rf_f_W_trial_84 : rf_Fb rf_m_W_trial 84 86 (.iload 6) 0 0 0 0 [] [] = true := by decide +kernel
theorem rf_f_W_trial_86 : rf_Fb rf_m_W_trial 86 89 (.invokestatic 263) 101 3 0 0 [] [] = true := by decide +kernel
theorem rf_f_W_trial_89 : rf_Fb rf_m_W_trial 89 92 (.ifCond .eq 7) 96 0 0 0 [] [] = true := by decide +kernel
theorem rf_f_W_trial_92 : rf_Fb rf_m_W_trial 92 93 (.iconst 1) 0 0 0 0 [] [] = true := by decide +kernel
theorem rf_f_W_trial_93 : rf_Fb rf_m_W_trial 93 96 (.goto 4) 97 0 0 0 [] [] = true := by decide +kernel
theorem rf_f_W_trial_96 : rf_Fb rf_m_W_trial 96 97 (.iconst 0) 0 0 0 0 [] [] = true := by decide +kernel
theorem rf_f_W_trial_97 : rf_Fb rf_m_W_trial 97 98 (.iadd) 0 0 0 0 [] [] = true := by decide +kernel
theorem rf_f_W_trial_98 : rf_Fb rf_m_W_trial 98 100 (.istore 7) 0 0 0 0 [] [] = true := by decide +kernel
theorem rf_f_W_trial_100 : rf_Fb rf_m_W_trial 100 103 (.iinc 8 1) 0 0 0 0 [] [] = true := by decide +kernel
theorem rf_f_W_trial_103 : rf_Fb rf_m_W_trial 103 106 (.goto (-53)) 50 0 0 0 [] [] = true := by decide +kernel
theorem rf_f_W_trial_106 : rf_Fb rf_m_W_trial 106 108 (.iload 7) 0 0 0 0 [] [] = true := by decide +kernel
theorem rf_f_W_trial_108 : rf_Fb rf_m_W_trial 108 109 (.iload_n 3) 0 0 0 0 [] [] = true := by decide +kernel
theorem rf_f_W_trial_109 : rf_Fb rf_m_W_trial 109 111 (.iload 7) 0 0 0 0 [] [] = true := by decide +kernel
theorem rf_f_W_trial_111 : rf_Fb rf_m_W_trial 111 112 (.isub) 0 0 0 0 [] [] = true := by decide +kernel
theorem rf_f_W_trial_112 : rf_Fb rf_m_W_trial 112 115 (.invokestatic 267) 13 2 0 0 [] [] = true := by decide +kernel
theorem rf_f_W_trial_115 : rf_Fb rf_m_W_trial 115 117 (.istore 8) 0 0 0 0 [] [] = true := by decide +kernel
theorem rf_f_W_trial_117 : rf_Fb rf_m_W_trial 117 119 (.iload 8) 0 0 0 0 [] [] = true := by decide +kernel
theorem rf_f_W_trial_119 : rf_Fb rf_m_W_trial 119 121 (.iload 5) 0 0 0 0 [] [] = true := by decide +kernel
theorem rf_f_W_trial_121 : rf_Fb rf_m_W_trial 121 124 (.if_icmp .ge 11) 132 0 0 0 [] [] = true := by decide +kernel
theorem rf_f_W_trial_124 : rf_Fb rf_m_W_trial 124 126 (.iload 6) 0 0 0 0 [] [] = true := by decide +kernel
theorem rf_f_W_trial_126 : rf_Fb rf_m_W_trial 126 128 (.istore 4) 0 0 0 0 [] [] = true := by decide +kernel
theorem rf_f_W_trial_128 : rf_Fb rf_m_W_trial 128 130 (.iload 8) 0 0 0 0 [] [] = true := by decide +kernel
theorem rf_f_W_trial_130 : rf_Fb rf_m_W_trial 130 132 (.istore 5) 0 0 0 0 [] [] = true := by decide +kernel
theorem rf_f_W_trial_132 : rf_Fb rf_m_W_trial 132 135 (.iinc 6 1) 0 0 0 0 [] [] = true := by decide +kernel
theorem rf_f_W_trial_135 : rf_Fb rf_m_W_trial 135 138 (.goto (-98)) 37 0 0 0 [] [] = true := by decide +kernel
theorem rf_f_W_trial_138 : rf_Fb rf_m_W_trial 138 139 (.aload_n 0) 0 0 0 0 [] [] = true := by decide +kernel
theorem rf_f_W_trial_139 : rf_Fb rf_m_W_trial 139 141 (.iload 5) 0 0 0 0 [] [] = true := by decide +kernel
theorem rf_f_W_trial_141 : rf_Fb rf_m_W_trial 141 143 (.iload 4) 0 0 0 0 [] [] = true := by decide +kernel
theorem rf_f_W_trial_143 : rf_Fb rf_m_W_trial 143 146 (.invokevirtual 93) 60 2 0 4 [] [] = true := by decide +kernel
theorem rf_f_W_trial_146 : rf_Fb rf_m_W_trial 146 147 (.ireturn) 0 0 0 0 [] [] = true := by decide +kernel
set_option maxRecDepth 20000 in
set_option maxHeartbeats 2000000 in
theorem rf_e_W_trial (d : Nat) (o : Nat) (a1 : Int) (a2 : Int) (h : rf_H) : rf_call (d + 1) 103 [.inr (.inr (some o)), .inl a1, .inl a2] h = (if a1 = 0 then some (some (.inl (-1)), h) else (if (rf_and a1 (-1023)) = 0 then (if a2 < 0 then some (some (.inl (-1)), h) else (if 2 < a2 then some (some (.inl (-1)), h) else ((rf_call d 17 [.inl a1] h).bind fun q2 => rf_kI q2 fun x3 h1 => rf_j_W_trial_37 d o a1 a2 x3 0 x3 0 h1))) else some (some (.inl (-1)), h))) := by
  show rf_den (rf_call d) (rf_mt 103) _ = _
  rw [rf_u_W_trial]
  exact ((rf_s_iload_n rf_f_W_trial_0 rfl (rf_m0 _) (rf_s_if_eq rf_f_W_trial_1 rfl (rf_m0 _) (rf_m0 _) (rf_s_iconst rf_f_W_trial_21 (rf_m0 _) (rf_s_iret rf_f_W_trial_22)) (rf_s_iload_n rf_f_W_trial_4 rfl (rf_m0 _) (rf_s_sipush rf_f_W_trial_5 (rf_m0 _) (rf_s_iand rf_f_W_trial_8 (rf_m0 _) (rf_s_if_ne rf_f_W_trial_9 rfl (rf_m0 _) (rf_m0 _) (rf_s_iconst rf_f_W_trial_21 (rf_m0 _) (rf_s_iret rf_f_W_trial_22)) (rf_s_iload_n rf_f_W_trial_12 rfl (rf_m0 _) (rf_s_if_lt rf_f_W_trial_13 rfl (rf_m0 _) (rf_m0 _) (rf_s_iconst rf_f_W_trial_21 (rf_m0 _) (rf_s_iret rf_f_W_trial_22)) (rf_s_iload_n rf_f_W_trial_16 rfl (rf_m0 _) (rf_s_iconst rf_f_W_trial_17 (rf_m0 _) (rf_s_icmp_le rf_f_W_trial_18 rfl (rf_m0 _) (rf_m0 _) (rf_s_iload_n rf_f_W_trial_23 rfl (rf_m0 _) (rf_s_invS0 rf_f_W_trial_24 rfl rfl (rf_m0 _) fun q2 x3 h1 => (rf_s_istore_n (L' := [some (.inr (.inr (some o))), some (.inl a1), some (.inl a2), some (.inl x3), none, none, none, none, none, none]) rf_f_W_trial_27 rfl (rf_s_iconst rf_f_W_trial_28 (rf_m0 _) (rf_s_istore (L' := [some (.inr (.inr (some o))), some (.inl a1), some (.inl a2), some (.inl x3), some (.inl 0), none, none, none, none, none]) rf_f_W_trial_29 rfl (rf_s_iload_n rf_f_W_trial_31 rfl (rf_m0 _) (rf_s_istore (L' := [some (.inr (.inr (some o))), some (.inl a1), some (.inl a2), some (.inl x3), some (.inl 0), some (.inl x3), none, none, none, none]) rf_f_W_trial_32 rfl (rf_s_iconst rf_f_W_trial_34 (rf_m0 _) (rf_s_istore rf_f_W_trial_35 rfl rfl))))))))) (rf_s_iconst rf_f_W_trial_21 (rf_m0 _) (rf_s_iret rf_f_W_trial_22))))))))))))) : rf_den (rf_call d) rf_m_W_trial (0, [some (.inr (.inr (some o))), some (.inl a1), some (.inl a2), none, none, none, none, none, none, none], [], h) = _)
set_option maxRecDepth 20000 in
set_option maxHeartbeats 2000000 in
theorem rf_e_W_trial_37 (d : Nat) (o : Nat) (l1 : Int) (l2 : Int) (l3 : Int) (l4 : Int) (l5 : Int) (l6 : Int) (h : rf_H) : rf_j_W_trial_37 d o l1 l2 l3 l4 l5 l6 h = (if 9 < l6 then (bif rf_isO h.1 o 4 then ((rf_call d 60 [.inr (.inr (some o)), .inl l5, .inl l4] h).bind fun q2 => rf_kI q2 fun x3 h1 => some (some (.inl x3), h1)) else none) else rf_j_W_trial_50 d o l1 l2 l3 l4 l5 l6 0 1 h) :=
  ((rf_s_iload rf_f_W_trial_37 rfl (rf_m0 _) (rf_s_bipush rf_f_W_trial_39 (rf_m0 _) (rf_s_icmp_gt rf_f_W_trial_41 rfl (rf_m0 _) (rf_m0 _) (rf_s_aload_n rf_f_W_trial_138 rfl (rf_m0 _) (rf_s_iload rf_f_W_trial_139 rfl (rf_m0 _) (rf_s_iload rf_f_W_trial_141 rfl (rf_m0 _) (rf_s_invV0S rf_f_W_trial_143 rfl rfl (rf_m0 _) fun q2 x3 h1 => (rf_s_iret rf_f_W_trial_146))))) (rf_s_iconst rf_f_W_trial_44 (rf_m0 _) (rf_s_istore (L' := [some (.inr (.inr (some o))), some (.inl l1), some (.inl l2), some (.inl l3), some (.inl l4), some (.inl l5), some (.inl l6), some (.inl 0), none, none]) rf_f_W_trial_45 rfl (rf_s_iconst rf_f_W_trial_47 (rf_m0 _) (rf_s_istore rf_f_W_trial_48 rfl rfl))))))) : rf_den (rf_call d) rf_m_W_trial (37, [some (.inr (.inr (some o))), some (.inl l1), some (.inl l2), some (.inl l3), some (.inl l4), some (.inl l5), some (.inl l6), none, none, none], [], h) = _)
set_option maxRecDepth 20000 in
set_option maxHeartbeats 2000000 in
theorem rf_e_W_trial_50 (d : Nat) (o : Nat) (l1 : Int) (l2 : Int) (l3 : Int) (l4 : Int) (l5 : Int) (l6 : Int) (l7 : Int) (l8 : Int) (h : rf_H) : rf_j_W_trial_50 d o l1 l2 l3 l4 l5 l6 l7 l8 h = (if 9 < l8 then ((rf_call d 13 [.inl l7, .inl (rf_w (l3 - l7))] h).bind fun q2 => rf_kI q2 fun x3 h1 => (if x3 < l5 then rf_j_W_trial_37 d o l1 l2 l3 l6 x3 (rf_w (l6 + 1)) h1 else rf_j_W_trial_37 d o l1 l2 l3 l4 l5 (rf_w (l6 + 1)) h1)) else (if (rf_and (rf_shr l1 l8) 1) = 1 then rf_j_W_trial_72 d o l1 l2 l3 l4 l5 l6 l7 l8 1 h else rf_j_W_trial_72 d o l1 l2 l3 l4 l5 l6 l7 l8 0 h)) :=
  ((rf_s_iload rf_f_W_trial_50 rfl (rf_m0 _) (rf_s_bipush rf_f_W_trial_52 (rf_m0 _) (rf_s_icmp_gt rf_f_W_trial_54 rfl (rf_m0 _) (rf_m0 _) (rf_s_iload rf_f_W_trial_106 rfl (rf_m0 _) (rf_s_iload_n rf_f_W_trial_108 rfl (rf_m0 _) (rf_s_iload rf_f_W_trial_109 rfl (rf_m0 _) (rf_s_isub rf_f_W_trial_111 (rf_m0 _) (rf_s_invS0 rf_f_W_trial_112 rfl rfl (rf_m0 _) fun q2 x3 h1 => (rf_s_istore (L' := [some (.inr (.inr (some o))), some (.inl l1), some (.inl l2), some (.inl l3), some (.inl l4), some (.inl l5), some (.inl l6), some (.inl l7), some (.inl x3), none]) rf_f_W_trial_115 rfl (rf_s_iload rf_f_W_trial_117 rfl (rf_m0 _) (rf_s_iload rf_f_W_trial_119 rfl (rf_m0 _) (rf_s_icmp_ge rf_f_W_trial_121 rfl (rf_m0 _) (rf_m0 _) (rf_s_iinc (L' := [some (.inr (.inr (some o))), some (.inl l1), some (.inl l2), some (.inl l3), some (.inl l4), some (.inl l5), some (.inl (rf_w (l6 + 1))), some (.inl l7), some (.inl x3), none]) rf_f_W_trial_132 rfl rfl (rf_s_goto rf_f_W_trial_135 rfl rfl rfl)) (rf_s_iload rf_f_W_trial_124 rfl (rf_m0 _) (rf_s_istore (L' := [some (.inr (.inr (some o))), some (.inl l1), some (.inl l2), some (.inl l3), some (.inl l6), some (.inl l5), some (.inl l6), some (.inl l7), some (.inl x3), none]) rf_f_W_trial_126 rfl (rf_s_iload rf_f_W_trial_128 rfl (rf_m0 _) (rf_s_istore (L' := [some (.inr (.inr (some o))), some (.inl l1), some (.inl l2), some (.inl l3), some (.inl l6), some (.inl x3), some (.inl l6), some (.inl l7), some (.inl x3), none]) rf_f_W_trial_130 rfl (rf_s_iinc (L' := [some (.inr (.inr (some o))), some (.inl l1), some (.inl l2), some (.inl l3), some (.inl l6), some (.inl x3), some (.inl (rf_w (l6 + 1))), some (.inl l7), some (.inl x3), none]) rf_f_W_trial_132 rfl rfl (rf_s_goto rf_f_W_trial_135 rfl rfl rfl))))))))))))))) (rf_s_iload_n rf_f_W_trial_57 rfl (rf_m0 _) (rf_s_iload rf_f_W_trial_58 rfl (rf_m0 _) (rf_s_ishr rf_f_W_trial_60 (rf_m0 _) (rf_s_iconst rf_f_W_trial_61 (rf_m0 _) (rf_s_iand rf_f_W_trial_62 (rf_m0 _) (rf_s_iconst rf_f_W_trial_63 (rf_m0 _) (rf_s_icmp_ne rf_f_W_trial_64 rfl (rf_m0 _) (rf_m0 _) (rf_s_iconst rf_f_W_trial_71 rfl rfl) (rf_s_iconst rf_f_W_trial_67 (rf_m0 _) (rf_s_goto rf_f_W_trial_68 rfl rfl rfl)))))))))))) : rf_den (rf_call d) rf_m_W_trial (50, [some (.inr (.inr (some o))), some (.inl l1), some (.inl l2), some (.inl l3), some (.inl l4), some (.inl l5), some (.inl l6), some (.inl l7), some (.inl l8), none], [], h) = _)
set_option maxRecDepth 20000 in
set_option maxHeartbeats 2000000 in
theorem rf_e_W_trial_72 (d : Nat) (o : Nat) (l1 : Int) (l2 : Int) (l3 : Int) (l4 : Int) (l5 : Int) (l6 : Int) (l7 : Int) (l8 : Int) (s0 : Int) (h : rf_H) : rf_j_W_trial_72 d o l1 l2 l3 l4 l5 l6 l7 l8 s0 h = (if s0 = 0 then rf_j_W_trial_50 d o l1 l2 l3 l4 l5 l6 (rf_w (l7 + 0)) (rf_w (l8 + 1)) h else ((rf_call d 101 [.inl l8, .inl l2, .inl l6] h).bind fun q2 => rf_kI q2 fun x3 h1 => (if x3 = 0 then rf_j_W_trial_50 d o l1 l2 l3 l4 l5 l6 (rf_w (l7 + 0)) (rf_w (l8 + 1)) h1 else rf_j_W_trial_50 d o l1 l2 l3 l4 l5 l6 (rf_w (l7 + 1)) (rf_w (l8 + 1)) h1))) :=
  ((rf_s_istore (L' := [some (.inr (.inr (some o))), some (.inl l1), some (.inl l2), some (.inl l3), some (.inl l4), some (.inl l5), some (.inl l6), some (.inl l7), some (.inl l8), some (.inl s0)]) rf_f_W_trial_72 rfl (rf_s_iload rf_f_W_trial_74 rfl (rf_m0 _) (rf_s_iload rf_f_W_trial_76 rfl (rf_m0 _) (rf_s_if_eq rf_f_W_trial_78 rfl (rf_m0 _) (rf_m0 _) (rf_s_iconst rf_f_W_trial_96 (rf_m0 _) (rf_s_iadd rf_f_W_trial_97 (rf_m0 _) (rf_s_istore (L' := [some (.inr (.inr (some o))), some (.inl l1), some (.inl l2), some (.inl l3), some (.inl l4), some (.inl l5), some (.inl l6), some (.inl (rf_w (l7 + 0))), some (.inl l8), some (.inl s0)]) rf_f_W_trial_98 rfl (rf_s_iinc (L' := [some (.inr (.inr (some o))), some (.inl l1), some (.inl l2), some (.inl l3), some (.inl l4), some (.inl l5), some (.inl l6), some (.inl (rf_w (l7 + 0))), some (.inl (rf_w (l8 + 1))), some (.inl s0)]) rf_f_W_trial_100 rfl rfl (rf_s_goto rf_f_W_trial_103 rfl rfl rfl))))) (rf_s_iload rf_f_W_trial_81 rfl (rf_m0 _) (rf_s_iload_n rf_f_W_trial_83 rfl (rf_m0 _) (rf_s_iload rf_f_W_trial_84 rfl (rf_m0 _) (rf_s_invS0 rf_f_W_trial_86 rfl rfl (rf_m0 _) fun q2 x3 h1 => (rf_s_if_eq rf_f_W_trial_89 rfl (rf_m0 _) (rf_m0 _) (rf_s_iconst rf_f_W_trial_96 (rf_m0 _) (rf_s_iadd rf_f_W_trial_97 (rf_m0 _) (rf_s_istore (L' := [some (.inr (.inr (some o))), some (.inl l1), some (.inl l2), some (.inl l3), some (.inl l4), some (.inl l5), some (.inl l6), some (.inl (rf_w (l7 + 0))), some (.inl l8), some (.inl s0)]) rf_f_W_trial_98 rfl (rf_s_iinc (L' := [some (.inr (.inr (some o))), some (.inl l1), some (.inl l2), some (.inl l3), some (.inl l4), some (.inl l5), some (.inl l6), some (.inl (rf_w (l7 + 0))), some (.inl (rf_w (l8 + 1))), some (.inl s0)]) rf_f_W_trial_100 rfl rfl (rf_s_goto rf_f_W_trial_103 rfl rfl rfl))))) (rf_s_iconst rf_f_W_trial_92 (rf_m0 _) (rf_s_goto rf_f_W_trial_93 rfl (rf_m0 _) (rf_s_iadd rf_f_W_trial_97 (rf_m0 _) (rf_s_istore (L' := [some (.inr (.inr (some o))), some (.inl l1), some (.inl l2), some (.inl l3), some (.inl l4), some (.inl l5), some (.inl l6), some (.inl (rf_w (l7 + 1))), some (.inl l8), some (.inl s0)]) rf_f_W_trial_98 rfl (rf_s_iinc (L' := [some (.inr (.inr (some o))), some (.inl l1), some (.inl l2), some (.inl l3), some (.inl l4), some (.inl l5), some (.inl l6), some (.inl (rf_w (l7 + 1))), some (.inl (rf_w (l8 + 1))), some (.inl s0)]) rf_f_W_trial_100 rfl rfl (rf_s_goto rf_f_W_trial_103 rfl rfl rfl))))))))))))))) : rf_den (rf_call d) rf_m_W_trial (72, [some (.inr (.inr (some o))), some (.inl l1), some (.inl l2), some (.inl l3), some (.inl l4), some (.inl l5), some (.inl l6), some (.inl l7), some (.inl l8), none], [.inl s0], h) = _)
noncomputable def rf_j_W_lots_67 (d : Nat) (o : Nat) (l1 : Int) (l3 : Int) (l4 : Int) (l6 : Int) (h : rf_H) : Option rf_R := rf_den (rf_call d) rf_m_W_lots (67, [some (.inr (.inr (some o))), some (.inl l1), none, some (.inl l3), some (.inr (.inl l4)), none, some (.inl l6), none], [], h)
theorem rf_u_W_lots : rf_mt 104 = rf_m_W_lots := rfl
theorem rf_f_W_lots_0 : rf_Fb rf_m_W_lots 0 1 (.iload_n 1) 0 0 0 0 [] [] = true := by decide +kernel
theorem rf_f_W_lots_1 : rf_Fb rf_m_W_lots 1 2 (.iconst 1) 0 0 0 0 [] [] = true := by decide +kernel
theorem rf_f_W_lots_2 : rf_Fb rf_m_W_lots 2 5 (.if_icmp .lt 21) 23 0 0 0 [] [] = true := by decide +kernel
theorem rf_f_W_lots_5 : rf_Fb rf_m_W_lots 5 6 (.iload_n 1) 0 0 0 0 [] [] = true := by decide +kernel
theorem rf_f_W_lots_6 : rf_Fb rf_m_W_lots 6 8 (.bipush 20) 0 0 0 0 [] [] = true := by decide +kernel
theorem rf_f_W_lots_8 : rf_Fb rf_m_W_lots 8 11 (.if_icmp .gt 15) 23 0 0 0 [] [] = true := by decide +kernel
theorem rf_f_W_lots_11 : rf_Fb rf_m_W_lots 11 12 (.iload_n 2) 0 0 0 0 [] [] = true := by decide +kernel
theorem rf_f_W_lots_12 : rf_Fb rf_m_W_lots 12 13 (.iconst 1) 0 0 0 0 [] [] = true := by decide +kernel
theorem rf_f_W_lots_13 : rf_Fb rf_m_W_lots 13 16 (.if_icmp .lt 10) 23 0 0 0 [] [] = true := by decide +kernel
theorem rf_f_W_lots_16 : rf_Fb rf_m_W_lots 16 17 (.iload_n 2) 0 0 0 0 [] [] = true := by decide +kernel
theorem rf_f_W_lots_17 : rf_Fb rf_m_W_lots 17 20 (.ldc_w 270) 0 0 0 2147483647 [] [] = true := by decide +kernel
theorem rf_f_W_lots_20 : rf_Fb rf_m_W_lots 20 23 (.if_icmp .lt 5) 25 0 0 0 [] [] = true := by decide +kernel
theorem rf_f_W_lots_23 : rf_Fb rf_m_W_lots 23 24 (.iconst (-1)) 0 0 0 0 [] [] = true := by decide +kernel
theorem rf_f_W_lots_24 : rf_Fb rf_m_W_lots 24 25 (.ireturn) 0 0 0 0 [] [] = true := by decide +kernel
theorem rf_f_W_lots_25 : rf_Fb rf_m_W_lots 25 26 (.aload_n 0) 0 0 0 0 [] [] = true := by decide +kernel
theorem rf_f_W_lots_26 : rf_Fb rf_m_W_lots 26 29 (.getfield 123) 4 12 0 0 [] [] = true := by decide +kernel
theorem rf_f_W_lots_29 : rf_Fb rf_m_W_lots 29 32 (.ifCond .ne 6) 35 0 0 0 [] [] = true := by decide +kernel
theorem rf_f_W_lots_32 : rf_Fb rf_m_W_lots 32 34 (.bipush (-4)) 0 0 0 0 [] [] = true := by decide +kernel
theorem rf_f_W_lots_34 : rf_Fb rf_m_W_lots 34 35 (.ireturn) 0 0 0 0 [] [] = true := by decide +kernel
theorem rf_f_W_lots_35 : rf_Fb rf_m_W_lots 35 36 (.aload_n 0) 0 0 0 0 [] [] = true := by decide +kernel
theorem rf_f_W_lots_36 : rf_Fb rf_m_W_lots 36 39 (.getfield 24) 4 3 2 0 [] [] = true := by decide +kernel
theorem rf_f_W_lots_39 : rf_Fb rf_m_W_lots 39 42 (.getfield 111) 2 1 0 0 [] [] = true := by decide +kernel
theorem rf_f_W_lots_42 : rf_Fb rf_m_W_lots 42 43 (.iload_n 1) 0 0 0 0 [] [] = true := by decide +kernel
theorem rf_f_W_lots_43 : rf_Fb rf_m_W_lots 43 44 (.iadd) 0 0 0 0 [] [] = true := by decide +kernel
theorem rf_f_W_lots_44 : rf_Fb rf_m_W_lots 44 46 (.bipush 60) 0 0 0 0 [] [] = true := by decide +kernel
theorem rf_f_W_lots_46 : rf_Fb rf_m_W_lots 46 49 (.if_icmp .le 6) 52 0 0 0 [] [] = true := by decide +kernel
theorem rf_f_W_lots_49 : rf_Fb rf_m_W_lots 49 51 (.bipush (-2)) 0 0 0 0 [] [] = true := by decide +kernel
theorem rf_f_W_lots_51 : rf_Fb rf_m_W_lots 51 52 (.ireturn) 0 0 0 0 [] [] = true := by decide +kernel
theorem rf_f_W_lots_52 : rf_Fb rf_m_W_lots 52 53 (.aload_n 0) 0 0 0 0 [] [] = true := by decide +kernel
theorem rf_f_W_lots_53 : rf_Fb rf_m_W_lots 53 56 (.getfield 59) 4 10 2 0 [] [] = true := by decide +kernel
theorem rf_f_W_lots_56 : rf_Fb rf_m_W_lots 56 59 (.getfield 215) 3 7 0 0 [] [] = true := by decide +kernel
theorem rf_f_W_lots_59 : rf_Fb rf_m_W_lots 59 60 (.istore_n 3) 0 0 0 0 [] [] = true := by decide +kernel
theorem rf_f_W_lots_60 : rf_Fb rf_m_W_lots 60 61 (.iload_n 2) 0 0 0 0 [] [] = true := by decide +kernel
theorem rf_f_W_lots_61 : rf_Fb rf_m_W_lots 61 62 (.i2l) 0 0 0 0 [] [] = true := by decide +kernel
theorem rf_f_W_lots_62 : rf_Fb rf_m_W_lots 62 64 (.lstore 4) 0 0 0 0 [] [] = true := by decide +kernel
theorem rf_f_W_lots_64 : rf_Fb rf_m_W_lots 64 65 (.iconst 0) 0 0 0 0 [] [] = true := by decide +kernel
theorem rf_f_W_lots_65 : rf_Fb rf_m_W_lots 65 67 (.istore 6) 0 0 0 0 [] [true, true, false, true, true, false, true, false] = true := by decide +kernel
theorem rf_f_W_lots_67 : rf_Fb rf_m_W_lots 67 69 (.iload 6) 0 0 0 0 [] [] = true := by decide +kernel
theorem rf_f_W_lots_69 : rf_Fb rf_m_W_lots 69 70 (.iload_n 1) 0 0 0 0 [] [] = true := by decide +kernel
theorem rf_f_W_lots_70 : rf_Fb rf_m_W_lots 70 73 (.if_icmp .ge 58) 128 0 0 0 [] [] = true := by decide +kernel
theorem rf_f_W_lots_73 : rf_Fb rf_m_W_lots 73 75 (.lload 4) 0 0 0 0 [] [] = true := by decide +kernel
theorem rf_f_W_lots_75 : rf_Fb rf_m_W_lots 75 78 (.ldc2_w 271) 0 0 0 48271 [] [] = true := by decide +kernel
theorem rf_f_W_lots_78 : rf_Fb rf_m_W_lots 78 79 (.lmul) 0 0 0 0 [] [] = true := by decide +kernel
theorem rf_f_W_lots_79 : rf_Fb rf_m_W_lots 79 82 (.ldc2_w 273) 0 0 0 2147483647 [] [] = true := by decide +kernel
theorem rf_f_W_lots_82 : rf_Fb rf_m_W_lots 82 83 (.lrem) 0 0 0 0 [] [] = true := by decide +kernel
theorem rf_f_W_lots_83 : rf_Fb rf_m_W_lots 83 85 (.lstore 4) 0 0 0 0 [] [] = true := by decide +kernel
theorem rf_f_W_lots_85 : rf_Fb rf_m_W_lots 85 87 (.lload 4) 0 0 0 0 [] [] = true := by decide +kernel
theorem rf_f_W_lots_87 : rf_Fb rf_m_W_lots 87 90 (.ldc2_w 275) 0 0 0 16 [] [] = true := by decide +kernel
theorem rf_f_W_lots_90 : rf_Fb rf_m_W_lots 90 91 (.ldiv) 0 0 0 0 [] [] = true := by decide +kernel
theorem rf_f_W_lots_91 : rf_Fb rf_m_W_lots 91 94 (.ldc2_w 277) 0 0 0 15 [] [] = true := by decide +kernel
theorem rf_f_W_lots_94 : rf_Fb rf_m_W_lots 94 95 (.lrem) 0 0 0 0 [] [] = true := by decide +kernel
theorem rf_f_W_lots_95 : rf_Fb rf_m_W_lots 95 96 (.l2i) 0 0 0 0 [] [] = true := by decide +kernel
theorem rf_f_W_lots_96 : rf_Fb rf_m_W_lots 96 98 (.istore 7) 0 0 0 0 [] [] = true := by decide +kernel
theorem rf_f_W_lots_98 : rf_Fb rf_m_W_lots 98 99 (.aload_n 0) 0 0 0 0 [] [] = true := by decide +kernel
theorem rf_f_W_lots_99 : rf_Fb rf_m_W_lots 99 100 (.aload_n 0) 0 0 0 0 [] [] = true := by decide +kernel
theorem rf_f_W_lots_100 : rf_Fb rf_m_W_lots 100 103 (.getfield 59) 4 10 2 0 [] [] = true := by decide +kernel
theorem rf_f_W_lots_103 : rf_Fb rf_m_W_lots 103 105 (.iload 7) 0 0 0 0 [] [] = true := by decide +kernel
theorem rf_f_W_lots_105 : rf_Fb rf_m_W_lots 105 108 (.invokevirtual 165) 47 1 0 3 [] [] = true := by decide +kernel
theorem rf_f_W_lots_108 : rf_Fb rf_m_W_lots 108 111 (.ifCond .eq 8) 116 0 0 0 [] [] = true := by decide +kernel
theorem rf_f_W_lots_111 : rf_Fb rf_m_W_lots 111 113 (.iload 7) 0 0 0 0 [] [] = true := by decide +kernel
theorem rf_f_W_lots_113 : rf_Fb rf_m_W_lots 113 116 (.goto 5) 118 0 0 0 [] [] = true := by decide +kernel
theorem rf_f_W_lots_116 : rf_Fb rf_m_W_lots 116 118 (.bipush 11) 0 0 0 0 [] [] = true := by decide +kernel
theorem rf_f_W_lots_118 : rf_Fb rf_m_W_lots 118 121 (.invokevirtual 169) 78 1 0 4 [] [] = true := by decide +kernel
theorem rf_f_W_lots_121 : rf_Fb rf_m_W_lots 121 122 (.pop) 0 0 0 0 [] [] = true := by decide +kernel
theorem rf_f_W_lots_122 : rf_Fb rf_m_W_lots 122 125 (.iinc 6 1) 0 0 0 0 [] [] = true := by decide +kernel
theorem rf_f_W_lots_125 : rf_Fb rf_m_W_lots 125 128 (.goto (-58)) 67 0 0 0 [] [] = true := by decide +kernel
theorem rf_f_W_lots_128 : rf_Fb rf_m_W_lots 128 129 (.aload_n 0) 0 0 0 0 [] [] = true := by decide +kernel
theorem rf_f_W_lots_129 : rf_Fb rf_m_W_lots 129 132 (.getfield 59) 4 10 2 0 [] [] = true := by decide +kernel
theorem rf_f_W_lots_132 : rf_Fb rf_m_W_lots 132 135 (.getfield 215) 3 7 0 0 [] [] = true := by decide +kernel
theorem rf_f_W_lots_135 : rf_Fb rf_m_W_lots 135 136 (.iload_n 3) 0 0 0 0 [] [] = true := by decide +kernel
theorem rf_f_W_lots_136 : rf_Fb rf_m_W_lots 136 137 (.isub) 0 0 0 0 [] [] = true := by decide +kernel
theorem rf_f_W_lots_137 : rf_Fb rf_m_W_lots 137 138 (.ireturn) 0 0 0 0 [] [] = true := by decide +kernel
set_option maxRecDepth 20000 in
set_option maxHeartbeats 2000000 in
theorem rf_e_W_lots (d : Nat) (o : Nat) (a1 : Int) (a2 : Int) (h : rf_H) : rf_call (d + 1) 104 [.inr (.inr (some o)), .inl a1, .inl a2] h = (if a1 < 1 then some (some (.inl (-1)), h) else (if 20 < a1 then some (some (.inl (-1)), h) else (if a2 < 1 then some (some (.inl (-1)), h) else (if a2 < 2147483647 then ((rf_gI h 4 o 12).bind fun x1 => (if x1 = 0 then some (some (.inl (-4)), h) else ((rf_gR h 4 o 3).bind fun x2 => (rf_nn x2 fun k3 => ((rf_gI h 2 k3 1).bind fun x4 => (if 60 < (rf_w (x4 + a1)) then some (some (.inl (-2)), h) else ((rf_gR h 4 o 10).bind fun x5 => (rf_nn x5 fun k6 => ((rf_gI h 3 k6 7).bind fun x7 => rf_j_W_lots_67 d o a1 x7 a2 0 h))))))))) else some (some (.inl (-1)), h))))) := by
  show rf_den (rf_call d) (rf_mt 104) _ = _
  rw [rf_u_W_lots]
  exact ((rf_s_iload_n rf_f_W_lots_0 rfl (rf_m0 _) (rf_s_iconst rf_f_W_lots_1 (rf_m0 _) (rf_s_icmp_lt rf_f_W_lots_2 rfl (rf_m0 _) (rf_m0 _) (rf_s_iconst rf_f_W_lots_23 (rf_m0 _) (rf_s_iret rf_f_W_lots_24)) (rf_s_iload_n rf_f_W_lots_5 rfl (rf_m0 _) (rf_s_bipush rf_f_W_lots_6 (rf_m0 _) (rf_s_icmp_gt rf_f_W_lots_8 rfl (rf_m0 _) (rf_m0 _) (rf_s_iconst rf_f_W_lots_23 (rf_m0 _) (rf_s_iret rf_f_W_lots_24)) (rf_s_iload_n rf_f_W_lots_11 rfl (rf_m0 _) (rf_s_iconst rf_f_W_lots_12 (rf_m0 _) (rf_s_icmp_lt rf_f_W_lots_13 rfl (rf_m0 _) (rf_m0 _) (rf_s_iconst rf_f_W_lots_23 (rf_m0 _) (rf_s_iret rf_f_W_lots_24)) (rf_s_iload_n rf_f_W_lots_16 rfl (rf_m0 _) (rf_s_ldc_w rf_f_W_lots_17 (rf_m0 _) (rf_s_icmp_lt rf_f_W_lots_20 rfl (rf_m0 _) (rf_m0 _) (rf_s_aload_n rf_f_W_lots_25 rfl (rf_m0 _) (rf_s_getIS rf_f_W_lots_26 (rf_m0 _) fun x1 => (rf_s_if_ne rf_f_W_lots_29 rfl (rf_m0 _) (rf_m0 _) (rf_s_aload_n rf_f_W_lots_35 rfl (rf_m0 _) (rf_s_getAS rf_f_W_lots_36 (rf_m0 _) fun x2 => (rf_s_getIR rf_f_W_lots_39 (rf_m0 _) fun k3 x4 => (rf_s_iload_n rf_f_W_lots_42 rfl (rf_m0 _) (rf_s_iadd rf_f_W_lots_43 (rf_m0 _) (rf_s_bipush rf_f_W_lots_44 (rf_m0 _) (rf_s_icmp_le rf_f_W_lots_46 rfl (rf_m0 _) (rf_m0 _) (rf_s_aload_n rf_f_W_lots_52 rfl (rf_m0 _) (rf_s_getAS rf_f_W_lots_53 (rf_m0 _) fun x5 => (rf_s_getIR rf_f_W_lots_56 (rf_m0 _) fun k6 x7 => (rf_s_istore_n (L' := [some (.inr (.inr (some o))), some (.inl a1), some (.inl a2), some (.inl x7), none, none, none, none]) rf_f_W_lots_59 rfl (rf_s_iload_n rf_f_W_lots_60 rfl (rf_m0 _) (rf_s_i2l rf_f_W_lots_61 (rf_m0 _) (rf_s_lstore (L' := [some (.inr (.inr (some o))), some (.inl a1), some (.inl a2), some (.inl x7), some (.inr (.inl a2)), none, none, none]) rf_f_W_lots_62 rfl (rf_s_iconst rf_f_W_lots_64 (rf_m0 _) (rf_s_istore rf_f_W_lots_65 rfl rfl))))))))) (rf_s_bipush rf_f_W_lots_49 (rf_m0 _) (rf_s_iret rf_f_W_lots_51))))))))) (rf_s_bipush rf_f_W_lots_32 (rf_m0 _) (rf_s_iret rf_f_W_lots_34))))) (rf_s_iconst rf_f_W_lots_23 (rf_m0 _) (rf_s_iret rf_f_W_lots_24)))))))))))))) : rf_den (rf_call d) rf_m_W_lots (0, [some (.inr (.inr (some o))), some (.inl a1), some (.inl a2), none, none, none, none, none], [], h) = _)
set_option maxRecDepth 20000 in
set_option maxHeartbeats 2000000 in
theorem rf_e_W_lots_67 (d : Nat) (o : Nat) (l1 : Int) (l3 : Int) (l4 : Int) (l6 : Int) (h : rf_H) : rf_j_W_lots_67 d o l1 l3 l4 l6 h = (if l6 < l1 then ((rf_gR h 4 o 10).bind fun x4 => (rf_nn x4 fun k5 => (bif rf_isO h.1 k5 3 then ((rf_call d 47 [.inr (.inr (some k5)), .inl (rf_w (Int.tmod (rf_wl (Int.tdiv (Int.tmod (rf_wl (l4 * 48271)) 2147483647) 16)) 15))] h).bind fun q7 => rf_kI q7 fun x8 h6 => (if x8 = 0 then (bif rf_isO h6.1 o 4 then ((rf_call d 78 [.inr (.inr (some o)), .inl 11] h6).bind fun q10 => rf_kI q10 fun x11 h9 => rf_j_W_lots_67 d o l1 l3 (Int.tmod (rf_wl (l4 * 48271)) 2147483647) (rf_w (l6 + 1)) h9) else none) else (bif rf_isO h6.1 o 4 then ((rf_call d 78 [.inr (.inr (some o)), .inl (rf_w (Int.tmod (rf_wl (Int.tdiv (Int.tmod (rf_wl (l4 * 48271)) 2147483647) 16)) 15))] h6).bind fun q13 => rf_kI q13 fun x14 h12 => rf_j_W_lots_67 d o l1 l3 (Int.tmod (rf_wl (l4 * 48271)) 2147483647) (rf_w (l6 + 1)) h12) else none))) else none))) else ((rf_gR h 4 o 10).bind fun x1 => (rf_nn x1 fun k2 => ((rf_gI h 3 k2 7).bind fun x3 => some (some (.inl (rf_w (x3 - l3))), h))))) :=
  ((rf_s_iload rf_f_W_lots_67 rfl (rf_m0 _) (rf_s_iload_n rf_f_W_lots_69 rfl (rf_m0 _) (rf_s_icmp_ge rf_f_W_lots_70 rfl (rf_m0 _) (rf_m0 _) (rf_s_aload_n rf_f_W_lots_128 rfl (rf_m0 _) (rf_s_getAS rf_f_W_lots_129 (rf_m0 _) fun x1 => (rf_s_getIR rf_f_W_lots_132 (rf_m0 _) fun k2 x3 => (rf_s_iload_n rf_f_W_lots_135 rfl (rf_m0 _) (rf_s_isub rf_f_W_lots_136 (rf_m0 _) (rf_s_iret rf_f_W_lots_137)))))) (rf_s_lload rf_f_W_lots_73 rfl (rf_m0 _) (rf_s_ldc2_w rf_f_W_lots_75 (rf_m0 _) (rf_s_lmul rf_f_W_lots_78 (rf_m0 _) (rf_s_ldc2_w rf_f_W_lots_79 (rf_m0 _) (rf_s_lrem rf_f_W_lots_82 (by decide) (rf_m0 _) (rf_s_lstore (L' := [some (.inr (.inr (some o))), some (.inl l1), none, some (.inl l3), some (.inr (.inl (Int.tmod (rf_wl (l4 * 48271)) 2147483647))), none, some (.inl l6), none]) rf_f_W_lots_83 rfl (rf_s_lload rf_f_W_lots_85 rfl (rf_m0 _) (rf_s_ldc2_w rf_f_W_lots_87 (rf_m0 _) (rf_s_ldiv rf_f_W_lots_90 (by decide) (rf_m0 _) (rf_s_ldc2_w rf_f_W_lots_91 (rf_m0 _) (rf_s_lrem rf_f_W_lots_94 (by decide) (rf_m0 _) (rf_s_l2i rf_f_W_lots_95 (rf_m0 _) (rf_s_istore (L' := [some (.inr (.inr (some o))), some (.inl l1), none, some (.inl l3), some (.inr (.inl (Int.tmod (rf_wl (l4 * 48271)) 2147483647))), none, some (.inl l6), some (.inl (rf_w (Int.tmod (rf_wl (Int.tdiv (Int.tmod (rf_wl (l4 * 48271)) 2147483647) 16)) 15)))]) rf_f_W_lots_96 rfl (rf_s_aload_n rf_f_W_lots_98 rfl (rf_m0 _) (rf_s_aload_n rf_f_W_lots_99 rfl (rf_m0 _) (rf_s_getAS rf_f_W_lots_100 (rf_m0 _) fun x4 => (rf_s_iload rf_f_W_lots_103 rfl (rf_m0 _) (rf_s_invV0R rf_f_W_lots_105 rfl rfl (rf_m0 _) fun k5 q7 x8 h6 => (rf_s_if_eq rf_f_W_lots_108 rfl (rf_m0 _) (rf_m0 _) (rf_s_bipush rf_f_W_lots_116 (rf_m0 _) (rf_s_invV0S rf_f_W_lots_118 rfl rfl (rf_m0 _) fun q10 x11 h9 => (rf_s_popI rf_f_W_lots_121 (rf_m0 _) (rf_s_iinc (L' := [some (.inr (.inr (some o))), some (.inl l1), none, some (.inl l3), some (.inr (.inl (Int.tmod (rf_wl (l4 * 48271)) 2147483647))), none, some (.inl (rf_w (l6 + 1))), some (.inl (rf_w (Int.tmod (rf_wl (Int.tdiv (Int.tmod (rf_wl (l4 * 48271)) 2147483647) 16)) 15)))]) rf_f_W_lots_122 rfl rfl (rf_s_goto rf_f_W_lots_125 rfl rfl rfl))))) (rf_s_iload rf_f_W_lots_111 rfl (rf_m0 _) (rf_s_goto rf_f_W_lots_113 rfl (rf_m0 _) (rf_s_invV0S rf_f_W_lots_118 rfl rfl (rf_m0 _) fun q13 x14 h12 => (rf_s_popI rf_f_W_lots_121 (rf_m0 _) (rf_s_iinc (L' := [some (.inr (.inr (some o))), some (.inl l1), none, some (.inl l3), some (.inr (.inl (Int.tmod (rf_wl (l4 * 48271)) 2147483647))), none, some (.inl (rf_w (l6 + 1))), some (.inl (rf_w (Int.tmod (rf_wl (Int.tdiv (Int.tmod (rf_wl (l4 * 48271)) 2147483647) 16)) 15)))]) rf_f_W_lots_122 rfl rfl (rf_s_goto rf_f_W_lots_125 rfl rfl rfl)))))))))))))))))))))))))))) : rf_den (rf_call d) rf_m_W_lots (67, [some (.inr (.inr (some o))), some (.inl l1), none, some (.inl l3), some (.inr (.inl l4)), none, some (.inl l6), none], [], h) = _)
theorem rf_u_W_asked : rf_mt 105 = rf_m_W_asked := rfl
theorem rf_f_W_asked_0 : rf_Fb rf_m_W_asked 0 1 (.aload_n 0) 0 0 0 0 [] [] = true := by decide +kernel
theorem rf_f_W_asked_1 : rf_Fb rf_m_W_asked 1 4 (.getfield 279) 4 13 0 0 [] [] = true := by decide +kernel
theorem rf_f_W_asked_4 : rf_Fb rf_m_W_asked 4 5 (.ireturn) 0 0 0 0 [] [] = true := by decide +kernel
set_option maxRecDepth 20000 in
set_option maxHeartbeats 2000000 in
theorem rf_e_W_asked (d : Nat) (o : Nat) (h : rf_H) : rf_call (d + 1) 105 [.inr (.inr (some o))] h = ((rf_gI h 4 o 13).bind fun x1 => some (some (.inl x1), h)) := by
  show rf_den (rf_call d) (rf_mt 105) _ = _
  rw [rf_u_W_asked]
  exact ((rf_s_aload_n rf_f_W_asked_0 rfl (rf_m0 _) (rf_s_getIS rf_f_W_asked_1 (rf_m0 _) fun x1 => (rf_s_iret rf_f_W_asked_4))) : rf_den (rf_call d) rf_m_W_asked (0, [some (.inr (.inr (some o)))], [], h) = _)
theorem rf_u_W_upper : rf_mt 106 = rf_m_W_upper := rfl
theorem rf_f_W_upper_0 : rf_Fb rf_m_W_upper 0 1 (.aload_n 0) 0 0 0 0 [] [] = true := by decide +kernel
theorem rf_f_W_upper_1 : rf_Fb rf_m_W_upper 1 4 (.getfield 282) 4 14 1 0 [] [] = true := by decide +kernel
theorem rf_f_W_upper_4 : rf_Fb rf_m_W_upper 4 5 (.lreturn) 0 0 0 0 [] [] = true := by decide +kernel
set_option maxRecDepth 20000 in
set_option maxHeartbeats 2000000 in
theorem rf_e_W_upper (d : Nat) (o : Nat) (h : rf_H) : rf_call (d + 1) 106 [.inr (.inr (some o))] h = ((rf_gI h 4 o 14).bind fun x1 => some (some (.inr (.inl x1)), h)) := by
  show rf_den (rf_call d) (rf_mt 106) _ = _
  rw [rf_u_W_upper]
  exact ((rf_s_aload_n rf_f_W_upper_0 rfl (rf_m0 _) (rf_s_getLS rf_f_W_upper_1 (rf_m0 _) fun x1 => (rf_s_lret rf_f_W_upper_4))) : rf_den (rf_call d) rf_m_W_upper (0, [some (.inr (.inr (some o)))], [], h) = _)
theorem rf_u_W_lower : rf_mt 107 = rf_m_W_lower := rfl
theorem rf_f_W_lower_0 : rf_Fb rf_m_W_lower 0 1 (.aload_n 0) 0 0 0 0 [] [] = true := by decide +kernel
theorem rf_f_W_lower_1 : rf_Fb rf_m_W_lower 1 4 (.getfield 63) 4 15 1 0 [] [] = true := by decide +kernel
theorem rf_f_W_lower_4 : rf_Fb rf_m_W_lower 4 5 (.lreturn) 0 0 0 0 [] [] = true := by decide +kernel
set_option maxRecDepth 20000 in
set_option maxHeartbeats 2000000 in
theorem rf_e_W_lower (d : Nat) (o : Nat) (h : rf_H) : rf_call (d + 1) 107 [.inr (.inr (some o))] h = ((rf_gI h 4 o 15).bind fun x1 => some (some (.inr (.inl x1)), h)) := by
  show rf_den (rf_call d) (rf_mt 107) _ = _
  rw [rf_u_W_lower]
  exact ((rf_s_aload_n rf_f_W_lower_0 rfl (rf_m0 _) (rf_s_getLS rf_f_W_lower_1 (rf_m0 _) fun x1 => (rf_s_lret rf_f_W_lower_4))) : rf_den (rf_call d) rf_m_W_lower (0, [some (.inr (.inr (some o)))], [], h) = _)
theorem rf_u_W_count : rf_mt 108 = rf_m_W_count := rfl
theorem rf_f_W_count_0 : rf_Fb rf_m_W_count 0 1 (.iload_n 1) 0 0 0 0 [] [] = true := by decide +kernel
theorem rf_f_W_count_1 : rf_Fb rf_m_W_count 1 4 (.ifCond .lt 9) 10 0 0 0 [] [] = true := by decide +kernel
theorem rf_f_W_count_4 : rf_Fb rf_m_W_count 4 5 (.iload_n 1) 0 0 0 0 [] [] = true := by decide +kernel
theorem rf_f_W_count_5 : rf_Fb rf_m_W_count 5 7 (.bipush 8) 0 0 0 0 [] [] = true := by decide +kernel
theorem rf_f_W_count_7 : rf_Fb rf_m_W_count 7 10 (.if_icmp .lt 7) 14 0 0 0 [] [] = true := by decide +kernel
theorem rf_f_W_count_10 : rf_Fb rf_m_W_count 10 11 (.iconst (-1)) 0 0 0 0 [] [] = true := by decide +kernel
theorem rf_f_W_count_11 : rf_Fb rf_m_W_count 11 14 (.goto 8) 19 0 0 0 [] [] = true := by decide +kernel
theorem rf_f_W_count_14 : rf_Fb rf_m_W_count 14 15 (.aload_n 0) 0 0 0 0 [] [] = true := by decide +kernel
theorem rf_f_W_count_15 : rf_Fb rf_m_W_count 15 16 (.iload_n 1) 0 0 0 0 [] [] = true := by decide +kernel
theorem rf_f_W_count_16 : rf_Fb rf_m_W_count 16 19 (.invokevirtual 285) 109 1 0 4 [] [] = true := by decide +kernel
theorem rf_f_W_count_19 : rf_Fb rf_m_W_count 19 20 (.ireturn) 0 0 0 0 [] [] = true := by decide +kernel
set_option maxRecDepth 20000 in
set_option maxHeartbeats 2000000 in
theorem rf_e_W_count (d : Nat) (o : Nat) (a1 : Int) (h : rf_H) : rf_call (d + 1) 108 [.inr (.inr (some o)), .inl a1] h = (if a1 < 0 then some (some (.inl (-1)), h) else (if a1 < 8 then (bif rf_isO h.1 o 4 then ((rf_call d 109 [.inr (.inr (some o)), .inl a1] h).bind fun q2 => rf_kI q2 fun x3 h1 => some (some (.inl x3), h1)) else none) else some (some (.inl (-1)), h))) := by
  show rf_den (rf_call d) (rf_mt 108) _ = _
  rw [rf_u_W_count]
  exact ((rf_s_iload_n rf_f_W_count_0 rfl (rf_m0 _) (rf_s_if_lt rf_f_W_count_1 rfl (rf_m0 _) (rf_m0 _) (rf_s_iconst rf_f_W_count_10 (rf_m0 _) (rf_s_goto rf_f_W_count_11 rfl (rf_m0 _) (rf_s_iret rf_f_W_count_19))) (rf_s_iload_n rf_f_W_count_4 rfl (rf_m0 _) (rf_s_bipush rf_f_W_count_5 (rf_m0 _) (rf_s_icmp_lt rf_f_W_count_7 rfl (rf_m0 _) (rf_m0 _) (rf_s_aload_n rf_f_W_count_14 rfl (rf_m0 _) (rf_s_iload_n rf_f_W_count_15 rfl (rf_m0 _) (rf_s_invV0S rf_f_W_count_16 rfl rfl (rf_m0 _) fun q2 x3 h1 => (rf_s_iret rf_f_W_count_19)))) (rf_s_iconst rf_f_W_count_10 (rf_m0 _) (rf_s_goto rf_f_W_count_11 rfl (rf_m0 _) (rf_s_iret rf_f_W_count_19)))))))) : rf_den (rf_call d) rf_m_W_count (0, [some (.inr (.inr (some o))), some (.inl a1)], [], h) = _)
theorem rf_u_W_countFact : rf_mt 109 = rf_m_W_countFact := rfl
theorem rf_f_W_countFact_0 : rf_Fb rf_m_W_countFact 0 1 (.iload_n 1) 0 0 0 0 [] [] = true := by decide +kernel
theorem rf_f_W_countFact_1 : rf_Fb rf_m_W_countFact 1 44 (.tableswitch 117 0 6 #[43, 51, 62, 70, 85, 101, 109]) 118 0 0 0 [44, 52, 63, 71, 86, 102, 110] [] = true := by decide +kernel
theorem rf_f_W_countFact_44 : rf_Fb rf_m_W_countFact 44 45 (.aload_n 0) 0 0 0 0 [] [] = true := by decide +kernel
theorem rf_f_W_countFact_45 : rf_Fb rf_m_W_countFact 45 48 (.getfield 59) 4 10 2 0 [] [] = true := by decide +kernel
theorem rf_f_W_countFact_48 : rf_Fb rf_m_W_countFact 48 51 (.getfield 130) 3 6 0 0 [] [] = true := by decide +kernel
theorem rf_f_W_countFact_51 : rf_Fb rf_m_W_countFact 51 52 (.ireturn) 0 0 0 0 [] [] = true := by decide +kernel
theorem rf_f_W_countFact_52 : rf_Fb rf_m_W_countFact 52 53 (.aload_n 0) 0 0 0 0 [] [] = true := by decide +kernel
theorem rf_f_W_countFact_53 : rf_Fb rf_m_W_countFact 53 56 (.getfield 51) 4 9 2 0 [] [] = true := by decide +kernel
theorem rf_f_W_countFact_56 : rf_Fb rf_m_W_countFact 56 59 (.getfield 231) 0 0 2 0 [] [] = true := by decide +kernel
theorem rf_f_W_countFact_59 : rf_Fb rf_m_W_countFact 59 62 (.getfield 111) 2 1 0 0 [] [] = true := by decide +kernel
theorem rf_f_W_countFact_62 : rf_Fb rf_m_W_countFact 62 63 (.ireturn) 0 0 0 0 [] [] = true := by decide +kernel
theorem rf_f_W_countFact_63 : rf_Fb rf_m_W_countFact 63 64 (.aload_n 0) 0 0 0 0 [] [] = true := by decide +kernel
theorem rf_f_W_countFact_64 : rf_Fb rf_m_W_countFact 64 67 (.getfield 24) 4 3 2 0 [] [] = true := by decide +kernel
theorem rf_f_W_countFact_67 : rf_Fb rf_m_W_countFact 67 70 (.getfield 111) 2 1 0 0 [] [] = true := by decide +kernel
theorem rf_f_W_countFact_70 : rf_Fb rf_m_W_countFact 70 71 (.ireturn) 0 0 0 0 [] [] = true := by decide +kernel
theorem rf_f_W_countFact_71 : rf_Fb rf_m_W_countFact 71 72 (.aload_n 0) 0 0 0 0 [] [] = true := by decide +kernel
theorem rf_f_W_countFact_72 : rf_Fb rf_m_W_countFact 72 75 (.getfield 59) 4 10 2 0 [] [] = true := by decide +kernel
theorem rf_f_W_countFact_75 : rf_Fb rf_m_W_countFact 75 76 (.aload_n 0) 0 0 0 0 [] [] = true := by decide +kernel
theorem rf_f_W_countFact_76 : rf_Fb rf_m_W_countFact 76 79 (.getfield 59) 4 10 2 0 [] [] = true := by decide +kernel
theorem rf_f_W_countFact_79 : rf_Fb rf_m_W_countFact 79 82 (.getfield 130) 3 6 0 0 [] [] = true := by decide +kernel
theorem rf_f_W_countFact_82 : rf_Fb rf_m_W_countFact 82 85 (.invokevirtual 189) 43 1 0 3 [] [] = true := by decide +kernel
theorem rf_f_W_countFact_85 : rf_Fb rf_m_W_countFact 85 86 (.ireturn) 0 0 0 0 [] [] = true := by decide +kernel
theorem rf_f_W_countFact_86 : rf_Fb rf_m_W_countFact 86 87 (.aload_n 0) 0 0 0 0 [] [] = true := by decide +kernel
theorem rf_f_W_countFact_87 : rf_Fb rf_m_W_countFact 87 90 (.getfield 51) 4 9 2 0 [] [] = true := by decide +kernel
theorem rf_f_W_countFact_90 : rf_Fb rf_m_W_countFact 90 91 (.iconst 1) 0 0 0 0 [] [] = true := by decide +kernel
theorem rf_f_W_countFact_91 : rf_Fb rf_m_W_countFact 91 92 (.aload_n 0) 0 0 0 0 [] [] = true := by decide +kernel
theorem rf_f_W_countFact_92 : rf_Fb rf_m_W_countFact 92 95 (.getfield 59) 4 10 2 0 [] [] = true := by decide +kernel
theorem rf_f_W_countFact_95 : rf_Fb rf_m_W_countFact 95 98 (.getfield 130) 3 6 0 0 [] [] = true := by decide +kernel
theorem rf_f_W_countFact_98 : rf_Fb rf_m_W_countFact 98 101 (.invokevirtual 143) 26 2 0 0 [] [] = true := by decide +kernel
theorem rf_f_W_countFact_101 : rf_Fb rf_m_W_countFact 101 102 (.ireturn) 0 0 0 0 [] [] = true := by decide +kernel
theorem rf_f_W_countFact_102 : rf_Fb rf_m_W_countFact 102 103 (.aload_n 0) 0 0 0 0 [] [] = true := by decide +kernel
theorem rf_f_W_countFact_103 : rf_Fb rf_m_W_countFact 103 106 (.getfield 11) 4 0 2 0 [] [] = true := by decide +kernel
theorem rf_f_W_countFact_106 : rf_Fb rf_m_W_countFact 106 109 (.invokestatic 341) 110 1 0 0 [] [] = true := by decide +kernel
theorem rf_f_W_countFact_109 : rf_Fb rf_m_W_countFact 109 110 (.ireturn) 0 0 0 0 [] [] = true := by decide +kernel
theorem rf_f_W_countFact_110 : rf_Fb rf_m_W_countFact 110 111 (.aload_n 0) 0 0 0 0 [] [] = true := by decide +kernel
theorem rf_f_W_countFact_111 : rf_Fb rf_m_W_countFact 111 114 (.getfield 15) 4 1 2 0 [] [] = true := by decide +kernel
theorem rf_f_W_countFact_114 : rf_Fb rf_m_W_countFact 114 117 (.invokestatic 341) 110 1 0 0 [] [] = true := by decide +kernel
theorem rf_f_W_countFact_117 : rf_Fb rf_m_W_countFact 117 118 (.ireturn) 0 0 0 0 [] [] = true := by decide +kernel
theorem rf_f_W_countFact_118 : rf_Fb rf_m_W_countFact 118 119 (.aload_n 0) 0 0 0 0 [] [] = true := by decide +kernel
theorem rf_f_W_countFact_119 : rf_Fb rf_m_W_countFact 119 122 (.getfield 18) 4 2 2 0 [] [] = true := by decide +kernel
theorem rf_f_W_countFact_122 : rf_Fb rf_m_W_countFact 122 125 (.invokestatic 341) 110 1 0 0 [] [] = true := by decide +kernel
theorem rf_f_W_countFact_125 : rf_Fb rf_m_W_countFact 125 126 (.ireturn) 0 0 0 0 [] [] = true := by decide +kernel
set_option maxRecDepth 20000 in
set_option maxHeartbeats 2000000 in
theorem rf_e_W_countFact (d : Nat) (o : Nat) (a1 : Int) (h : rf_H) : rf_call (d + 1) 109 [.inr (.inr (some o)), .inl a1] h = (if a1 = 0 then ((rf_gR h 4 o 10).bind fun x37 => (rf_nn x37 fun k38 => ((rf_gI h 3 k38 6).bind fun x39 => some (some (.inl x39), h)))) else (if a1 = (0 + 1) then ((rf_gR h 4 o 9).bind fun x32 => (rf_nn x32 fun k33 => ((rf_gR h 0 k33 0).bind fun x34 => (rf_nn x34 fun k35 => ((rf_gI h 2 k35 1).bind fun x36 => some (some (.inl x36), h)))))) else (if a1 = ((0 + 1) + 1) then ((rf_gR h 4 o 3).bind fun x29 => (rf_nn x29 fun k30 => ((rf_gI h 2 k30 1).bind fun x31 => some (some (.inl x31), h)))) else (if a1 = (((0 + 1) + 1) + 1) then ((rf_gR h 4 o 10).bind fun x21 => ((rf_gR h 4 o 10).bind fun x22 => (rf_nn x22 fun k23 => ((rf_gI h 3 k23 6).bind fun x24 => (rf_nn x21 fun k25 => (bif rf_isO h.1 k25 3 then ((rf_call d 43 [.inr (.inr (some k25)), .inl x24] h).bind fun q27 => rf_kI q27 fun x28 h26 => some (some (.inl x28), h26)) else none)))))) else (if a1 = ((((0 + 1) + 1) + 1) + 1) then ((rf_gR h 4 o 9).bind fun x13 => ((rf_gR h 4 o 10).bind fun x14 => (rf_nn x14 fun k15 => ((rf_gI h 3 k15 6).bind fun x16 => (rf_nn x13 fun k17 => (bif rf_isO h.1 k17 0 then ((rf_call d 26 [.inr (.inr (some k17)), .inl 1, .inl x16] h).bind fun q19 => rf_kI q19 fun x20 h18 => some (some (.inl x20), h18)) else none)))))) else (if a1 = (((((0 + 1) + 1) + 1) + 1) + 1) then ((rf_gR h 4 o 0).bind fun x9 => ((rf_call d 110 [.inr (.inr x9)] h).bind fun q11 => rf_kI q11 fun x12 h10 => some (some (.inl x12), h10))) else (if a1 = ((((((0 + 1) + 1) + 1) + 1) + 1) + 1) then ((rf_gR h 4 o 1).bind fun x5 => ((rf_call d 110 [.inr (.inr x5)] h).bind fun q7 => rf_kI q7 fun x8 h6 => some (some (.inl x8), h6))) else ((rf_gR h 4 o 2).bind fun x1 => ((rf_call d 110 [.inr (.inr x1)] h).bind fun q3 => rf_kI q3 fun x4 h2 => some (some (.inl x4), h2)))))))))) := by
  show rf_den (rf_call d) (rf_mt 109) _ = _
  rw [rf_u_W_countFact]
  exact ((rf_s_iload_n rf_f_W_countFact_0 rfl (rf_m0 _) (rf_s_tsw rf_f_W_countFact_1 (rf_tsw_c (rf_tsw_g rfl (rf_m0 _) (rf_s_aload_n rf_f_W_countFact_44 rfl (rf_m0 _) (rf_s_getAS rf_f_W_countFact_45 (rf_m0 _) fun x37 => (rf_s_getIR rf_f_W_countFact_48 (rf_m0 _) fun k38 x39 => (rf_s_iret rf_f_W_countFact_51))))) (rf_tsw_c (rf_tsw_g rfl (rf_m0 _) (rf_s_aload_n rf_f_W_countFact_52 rfl (rf_m0 _) (rf_s_getAS rf_f_W_countFact_53 (rf_m0 _) fun x32 => (rf_s_getAR rf_f_W_countFact_56 (rf_m0 _) fun k33 x34 => (rf_s_getIR rf_f_W_countFact_59 (rf_m0 _) fun k35 x36 => (rf_s_iret rf_f_W_countFact_62)))))) (rf_tsw_c (rf_tsw_g rfl (rf_m0 _) (rf_s_aload_n rf_f_W_countFact_63 rfl (rf_m0 _) (rf_s_getAS rf_f_W_countFact_64 (rf_m0 _) fun x29 => (rf_s_getIR rf_f_W_countFact_67 (rf_m0 _) fun k30 x31 => (rf_s_iret rf_f_W_countFact_70))))) (rf_tsw_c (rf_tsw_g rfl (rf_m0 _) (rf_s_aload_n rf_f_W_countFact_71 rfl (rf_m0 _) (rf_s_getAS rf_f_W_countFact_72 (rf_m0 _) fun x21 => (rf_s_aload_n rf_f_W_countFact_75 rfl (rf_m0 _) (rf_s_getAS rf_f_W_countFact_76 (rf_m0 _) fun x22 => (rf_s_getIR rf_f_W_countFact_79 (rf_m0 _) fun k23 x24 => (rf_s_invV0R rf_f_W_countFact_82 rfl rfl (rf_m0 _) fun k25 q27 x28 h26 => (rf_s_iret rf_f_W_countFact_85)))))))) (rf_tsw_c (rf_tsw_g rfl (rf_m0 _) (rf_s_aload_n rf_f_W_countFact_86 rfl (rf_m0 _) (rf_s_getAS rf_f_W_countFact_87 (rf_m0 _) fun x13 => (rf_s_iconst rf_f_W_countFact_90 (rf_m0 _) (rf_s_aload_n rf_f_W_countFact_91 rfl (rf_m0 _) (rf_s_getAS rf_f_W_countFact_92 (rf_m0 _) fun x14 => (rf_s_getIR rf_f_W_countFact_95 (rf_m0 _) fun k15 x16 => (rf_s_invV0R rf_f_W_countFact_98 rfl rfl (rf_m0 _) fun k17 q19 x20 h18 => (rf_s_iret rf_f_W_countFact_101))))))))) (rf_tsw_c (rf_tsw_g rfl (rf_m0 _) (rf_s_aload_n rf_f_W_countFact_102 rfl (rf_m0 _) (rf_s_getAS rf_f_W_countFact_103 (rf_m0 _) fun x9 => (rf_s_invS0 rf_f_W_countFact_106 rfl rfl (rf_m0 _) fun q11 x12 h10 => (rf_s_iret rf_f_W_countFact_109))))) (rf_tsw_c (rf_tsw_g rfl (rf_m0 _) (rf_s_aload_n rf_f_W_countFact_110 rfl (rf_m0 _) (rf_s_getAS rf_f_W_countFact_111 (rf_m0 _) fun x5 => (rf_s_invS0 rf_f_W_countFact_114 rfl rfl (rf_m0 _) fun q7 x8 h6 => (rf_s_iret rf_f_W_countFact_117))))) (rf_tsw_n (rf_tsw_g rfl (rf_m0 _) (rf_s_aload_n rf_f_W_countFact_118 rfl (rf_m0 _) (rf_s_getAS rf_f_W_countFact_119 (rf_m0 _) fun x1 => (rf_s_invS0 rf_f_W_countFact_122 rfl rfl (rf_m0 _) fun q3 x4 h2 => (rf_s_iret rf_f_W_countFact_125))))))))))))))) : rf_den (rf_call d) rf_m_W_countFact (0, [some (.inr (.inr (some o))), some (.inl a1)], [], h) = _)
noncomputable def rf_j_W_countThere_10 (d : Nat) (l1 : Int) (l2 : Option Nat) (l3 : Int) (l4 : Int) (h : rf_H) : Option rf_R := rf_den (rf_call d) rf_m_W_countThere (10, [none, some (.inl l1), some (.inr (.inr l2)), some (.inl l3), some (.inl l4), none], [], h)
theorem rf_u_W_countThere : rf_mt 110 = rf_m_W_countThere := rfl
theorem rf_f_W_countThere_0 : rf_Fb rf_m_W_countThere 0 1 (.iconst 0) 0 0 0 0 [] [] = true := by decide +kernel
theorem rf_f_W_countThere_1 : rf_Fb rf_m_W_countThere 1 2 (.istore_n 1) 0 0 0 0 [] [] = true := by decide +kernel
theorem rf_f_W_countThere_2 : rf_Fb rf_m_W_countThere 2 3 (.aload_n 0) 0 0 0 0 [] [] = true := by decide +kernel
theorem rf_f_W_countThere_3 : rf_Fb rf_m_W_countThere 3 4 (.astore_n 2) 0 0 0 0 [] [] = true := by decide +kernel
theorem rf_f_W_countThere_4 : rf_Fb rf_m_W_countThere 4 5 (.aload_n 2) 0 0 0 0 [] [] = true := by decide +kernel
theorem rf_f_W_countThere_5 : rf_Fb rf_m_W_countThere 5 6 (.arraylength) 0 0 0 0 [] [] = true := by decide +kernel
theorem rf_f_W_countThere_6 : rf_Fb rf_m_W_countThere 6 7 (.istore_n 3) 0 0 0 0 [] [] = true := by decide +kernel
theorem rf_f_W_countThere_7 : rf_Fb rf_m_W_countThere 7 8 (.iconst 0) 0 0 0 0 [] [] = true := by decide +kernel
theorem rf_f_W_countThere_8 : rf_Fb rf_m_W_countThere 8 10 (.istore 4) 0 0 0 0 [] [false, true, true, true, true, false] = true := by decide +kernel
theorem rf_f_W_countThere_10 : rf_Fb rf_m_W_countThere 10 12 (.iload 4) 0 0 0 0 [] [] = true := by decide +kernel
theorem rf_f_W_countThere_12 : rf_Fb rf_m_W_countThere 12 13 (.iload_n 3) 0 0 0 0 [] [] = true := by decide +kernel
theorem rf_f_W_countThere_13 : rf_Fb rf_m_W_countThere 13 16 (.if_icmp .ge 36) 49 0 0 0 [] [] = true := by decide +kernel
theorem rf_f_W_countThere_16 : rf_Fb rf_m_W_countThere 16 17 (.aload_n 2) 0 0 0 0 [] [] = true := by decide +kernel
theorem rf_f_W_countThere_17 : rf_Fb rf_m_W_countThere 17 19 (.iload 4) 0 0 0 0 [] [] = true := by decide +kernel
theorem rf_f_W_countThere_19 : rf_Fb rf_m_W_countThere 19 20 (.aaload) 0 0 0 0 [] [] = true := by decide +kernel
theorem rf_f_W_countThere_20 : rf_Fb rf_m_W_countThere 20 22 (.astore 5) 0 0 0 0 [] [] = true := by decide +kernel
theorem rf_f_W_countThere_22 : rf_Fb rf_m_W_countThere 22 23 (.iload_n 1) 0 0 0 0 [] [] = true := by decide +kernel
theorem rf_f_W_countThere_23 : rf_Fb rf_m_W_countThere 23 25 (.aload 5) 0 0 0 0 [] [] = true := by decide +kernel
theorem rf_f_W_countThere_25 : rf_Fb rf_m_W_countThere 25 28 (.ifnull 15) 40 0 0 0 [] [] = true := by decide +kernel
theorem rf_f_W_countThere_28 : rf_Fb rf_m_W_countThere 28 30 (.aload 5) 0 0 0 0 [] [] = true := by decide +kernel
theorem rf_f_W_countThere_30 : rf_Fb rf_m_W_countThere 30 33 (.invokevirtual 97) 5 0 0 2 [] [] = true := by decide +kernel
theorem rf_f_W_countThere_33 : rf_Fb rf_m_W_countThere 33 36 (.ifCond .eq 7) 40 0 0 0 [] [] = true := by decide +kernel
theorem rf_f_W_countThere_36 : rf_Fb rf_m_W_countThere 36 37 (.iconst 1) 0 0 0 0 [] [] = true := by decide +kernel
theorem rf_f_W_countThere_37 : rf_Fb rf_m_W_countThere 37 40 (.goto 4) 41 0 0 0 [] [] = true := by decide +kernel
theorem rf_f_W_countThere_40 : rf_Fb rf_m_W_countThere 40 41 (.iconst 0) 0 0 0 0 [] [] = true := by decide +kernel
theorem rf_f_W_countThere_41 : rf_Fb rf_m_W_countThere 41 42 (.iadd) 0 0 0 0 [] [] = true := by decide +kernel
theorem rf_f_W_countThere_42 : rf_Fb rf_m_W_countThere 42 43 (.istore_n 1) 0 0 0 0 [] [] = true := by decide +kernel
theorem rf_f_W_countThere_43 : rf_Fb rf_m_W_countThere 43 46 (.iinc 4 1) 0 0 0 0 [] [] = true := by decide +kernel
theorem rf_f_W_countThere_46 : rf_Fb rf_m_W_countThere 46 49 (.goto (-36)) 10 0 0 0 [] [] = true := by decide +kernel
theorem rf_f_W_countThere_49 : rf_Fb rf_m_W_countThere 49 50 (.iload_n 1) 0 0 0 0 [] [] = true := by decide +kernel
theorem rf_f_W_countThere_50 : rf_Fb rf_m_W_countThere 50 51 (.ireturn) 0 0 0 0 [] [] = true := by decide +kernel
set_option maxRecDepth 20000 in
set_option maxHeartbeats 2000000 in
theorem rf_e_W_countThere (d : Nat) (a1 : Option Nat) (h : rf_H) : rf_call (d + 1) 110 [.inr (.inr a1)] h = (rf_nn a1 fun k1 => ((rf_aL h k1).bind fun x2 => rf_j_W_countThere_10 d 0 a1 x2 0 h)) := by
  show rf_den (rf_call d) (rf_mt 110) _ = _
  rw [rf_u_W_countThere]
  exact ((rf_s_iconst rf_f_W_countThere_0 (rf_m0 _) (rf_s_istore_n (L' := [some (.inr (.inr a1)), some (.inl 0), none, none, none, none]) rf_f_W_countThere_1 rfl (rf_s_aload_n rf_f_W_countThere_2 rfl (rf_m0 _) (rf_s_astore_n (L' := [some (.inr (.inr a1)), some (.inl 0), some (.inr (.inr a1)), none, none, none]) rf_f_W_countThere_3 rfl (rf_s_aload_n rf_f_W_countThere_4 rfl (rf_m0 _) (rf_s_alenR rf_f_W_countThere_5 (rf_m0 _) fun k1 x2 => (rf_s_istore_n (L' := [some (.inr (.inr a1)), some (.inl 0), some (.inr (.inr a1)), some (.inl x2), none, none]) rf_f_W_countThere_6 rfl (rf_s_iconst rf_f_W_countThere_7 (rf_m0 _) (rf_s_istore rf_f_W_countThere_8 rfl rfl))))))))) : rf_den (rf_call d) rf_m_W_countThere (0, [some (.inr (.inr a1)), none, none, none, none, none], [], h) = _)
set_option maxRecDepth 20000 in
set_option maxHeartbeats 2000000 in
theorem rf_e_W_countThere_10 (d : Nat) (l1 : Int) (l2 : Option Nat) (l3 : Int) (l4 : Int) (h : rf_H) : rf_j_W_countThere_10 d l1 l2 l3 l4 h = (if l4 < l3 then (rf_nn l2 fun k1 => ((rf_aR h k1 l4).bind fun x2 => (rf_nz x2 (rf_j_W_countThere_10 d (rf_w (l1 + 0)) l2 l3 (rf_w (l4 + 1)) h) ((rf_nn x2 fun k3 => (bif rf_isO h.1 k3 2 then ((rf_call d 5 [.inr (.inr (some k3))] h).bind fun q5 => rf_kI q5 fun x6 h4 => (if x6 = 0 then rf_j_W_countThere_10 d (rf_w (l1 + 0)) l2 l3 (rf_w (l4 + 1)) h4 else rf_j_W_countThere_10 d (rf_w (l1 + 1)) l2 l3 (rf_w (l4 + 1)) h4)) else none)))))) else some (some (.inl l1), h)) :=
  ((rf_s_iload rf_f_W_countThere_10 rfl (rf_m0 _) (rf_s_iload_n rf_f_W_countThere_12 rfl (rf_m0 _) (rf_s_icmp_ge rf_f_W_countThere_13 rfl (rf_m0 _) (rf_m0 _) (rf_s_iload_n rf_f_W_countThere_49 rfl (rf_m0 _) (rf_s_iret rf_f_W_countThere_50)) (rf_s_aload_n rf_f_W_countThere_16 rfl (rf_m0 _) (rf_s_iload rf_f_W_countThere_17 rfl (rf_m0 _) (rf_s_aaldR rf_f_W_countThere_19 (rf_m0 _) fun k1 x2 => (rf_s_astore (L' := [none, some (.inl l1), some (.inr (.inr l2)), some (.inl l3), some (.inl l4), some (.inr (.inr x2))]) rf_f_W_countThere_20 rfl (rf_s_iload_n rf_f_W_countThere_22 rfl (rf_m0 _) (rf_s_aload rf_f_W_countThere_23 rfl (rf_m0 _) (rf_s_ifnull rf_f_W_countThere_25 rfl (rf_m0 _) (rf_m0 _) (rf_s_iconst rf_f_W_countThere_40 (rf_m0 _) (rf_s_iadd rf_f_W_countThere_41 (rf_m0 _) (rf_s_istore_n (L' := [none, some (.inl (rf_w (l1 + 0))), some (.inr (.inr l2)), some (.inl l3), some (.inl l4), some (.inr (.inr x2))]) rf_f_W_countThere_42 rfl (rf_s_iinc (L' := [none, some (.inl (rf_w (l1 + 0))), some (.inr (.inr l2)), some (.inl l3), some (.inl (rf_w (l4 + 1))), some (.inr (.inr x2))]) rf_f_W_countThere_43 rfl rfl (rf_s_goto rf_f_W_countThere_46 rfl rfl rfl))))) (rf_s_aload rf_f_W_countThere_28 rfl (rf_m0 _) (rf_s_invV0R rf_f_W_countThere_30 rfl rfl (rf_m0 _) fun k3 q5 x6 h4 => (rf_s_if_eq rf_f_W_countThere_33 rfl (rf_m0 _) (rf_m0 _) (rf_s_iconst rf_f_W_countThere_40 (rf_m0 _) (rf_s_iadd rf_f_W_countThere_41 (rf_m0 _) (rf_s_istore_n (L' := [none, some (.inl (rf_w (l1 + 0))), some (.inr (.inr l2)), some (.inl l3), some (.inl l4), some (.inr (.inr x2))]) rf_f_W_countThere_42 rfl (rf_s_iinc (L' := [none, some (.inl (rf_w (l1 + 0))), some (.inr (.inr l2)), some (.inl l3), some (.inl (rf_w (l4 + 1))), some (.inr (.inr x2))]) rf_f_W_countThere_43 rfl rfl (rf_s_goto rf_f_W_countThere_46 rfl rfl rfl))))) (rf_s_iconst rf_f_W_countThere_36 (rf_m0 _) (rf_s_goto rf_f_W_countThere_37 rfl (rf_m0 _) (rf_s_iadd rf_f_W_countThere_41 (rf_m0 _) (rf_s_istore_n (L' := [none, some (.inl (rf_w (l1 + 1))), some (.inr (.inr l2)), some (.inl l3), some (.inl l4), some (.inr (.inr x2))]) rf_f_W_countThere_42 rfl (rf_s_iinc (L' := [none, some (.inl (rf_w (l1 + 1))), some (.inr (.inr l2)), some (.inl l3), some (.inl (rf_w (l4 + 1))), some (.inr (.inr x2))]) rf_f_W_countThere_43 rfl rfl (rf_s_goto rf_f_W_countThere_46 rfl rfl rfl))))))))))))))))))) : rf_den (rf_call d) rf_m_W_countThere (10, [none, some (.inl l1), some (.inr (.inr l2)), some (.inl l3), some (.inl l4), none], [], h) = _)
theorem rf_u_W_finding : rf_mt 111 = rf_m_W_finding := rfl
theorem rf_f_W_finding_0 : rf_Fb rf_m_W_finding 0 1 (.aload_n 0) 0 0 0 0 [] [] = true := by decide +kernel
theorem rf_f_W_finding_1 : rf_Fb rf_m_W_finding 1 4 (.getfield 288) 4 16 0 0 [] [] = true := by decide +kernel
theorem rf_f_W_finding_4 : rf_Fb rf_m_W_finding 4 5 (.ireturn) 0 0 0 0 [] [] = true := by decide +kernel
set_option maxRecDepth 20000 in
set_option maxHeartbeats 2000000 in
theorem rf_e_W_finding (d : Nat) (o : Nat) (h : rf_H) : rf_call (d + 1) 111 [.inr (.inr (some o))] h = ((rf_gI h 4 o 16).bind fun x1 => some (some (.inl x1), h)) := by
  show rf_den (rf_call d) (rf_mt 111) _ = _
  rw [rf_u_W_finding]
  exact ((rf_s_aload_n rf_f_W_finding_0 rfl (rf_m0 _) (rf_s_getIS rf_f_W_finding_1 (rf_m0 _) fun x1 => (rf_s_iret rf_f_W_finding_4))) : rf_den (rf_call d) rf_m_W_finding (0, [some (.inr (.inr (some o)))], [], h) = _)
theorem rf_u_W_findings : rf_mt 112 = rf_m_W_findings := rfl
theorem rf_f_W_findings_0 : rf_Fb rf_m_W_findings 0 1 (.iload_n 1) 0 0 0 0 [] [] = true := by decide +kernel
theorem rf_f_W_findings_1 : rf_Fb rf_m_W_findings 1 2 (.iconst 1) 0 0 0 0 [] [] = true := by decide +kernel
theorem rf_f_W_findings_2 : rf_Fb rf_m_W_findings 2 5 (.if_icmp .lt 8) 10 0 0 0 [] [] = true := by decide +kernel
theorem rf_f_W_findings_5 : rf_Fb rf_m_W_findings 5 6 (.iload_n 1) 0 0 0 0 [] [] = true := by decide +kernel
theorem rf_f_W_findings_6 : rf_Fb rf_m_W_findings 6 7 (.iconst 5) 0 0 0 0 [] [] = true := by decide +kernel
theorem rf_f_W_findings_7 : rf_Fb rf_m_W_findings 7 10 (.if_icmp .le 7) 14 0 0 0 [] [] = true := by decide +kernel
theorem rf_f_W_findings_10 : rf_Fb rf_m_W_findings 10 11 (.iconst (-1)) 0 0 0 0 [] [] = true := by decide +kernel
theorem rf_f_W_findings_11 : rf_Fb rf_m_W_findings 11 14 (.goto 11) 22 0 0 0 [] [] = true := by decide +kernel
theorem rf_f_W_findings_14 : rf_Fb rf_m_W_findings 14 15 (.aload_n 0) 0 0 0 0 [] [] = true := by decide +kernel
theorem rf_f_W_findings_15 : rf_Fb rf_m_W_findings 15 18 (.getfield 28) 4 4 2 0 [] [] = true := by decide +kernel
theorem rf_f_W_findings_18 : rf_Fb rf_m_W_findings 18 19 (.iload_n 1) 0 0 0 0 [] [] = true := by decide +kernel
theorem rf_f_W_findings_19 : rf_Fb rf_m_W_findings 19 22 (.invokevirtual 86) 4 1 0 2 [] [] = true := by decide +kernel
theorem rf_f_W_findings_22 : rf_Fb rf_m_W_findings 22 23 (.ireturn) 0 0 0 0 [] [] = true := by decide +kernel
set_option maxRecDepth 20000 in
set_option maxHeartbeats 2000000 in
theorem rf_e_W_findings (d : Nat) (o : Nat) (a1 : Int) (h : rf_H) : rf_call (d + 1) 112 [.inr (.inr (some o)), .inl a1] h = (if a1 < 1 then some (some (.inl (-1)), h) else (if 5 < a1 then some (some (.inl (-1)), h) else ((rf_gR h 4 o 4).bind fun x1 => (rf_nn x1 fun k2 => (bif rf_isO h.1 k2 2 then ((rf_call d 4 [.inr (.inr (some k2)), .inl a1] h).bind fun q4 => rf_kI q4 fun x5 h3 => some (some (.inl x5), h3)) else none))))) := by
  show rf_den (rf_call d) (rf_mt 112) _ = _
  rw [rf_u_W_findings]
  exact ((rf_s_iload_n rf_f_W_findings_0 rfl (rf_m0 _) (rf_s_iconst rf_f_W_findings_1 (rf_m0 _) (rf_s_icmp_lt rf_f_W_findings_2 rfl (rf_m0 _) (rf_m0 _) (rf_s_iconst rf_f_W_findings_10 (rf_m0 _) (rf_s_goto rf_f_W_findings_11 rfl (rf_m0 _) (rf_s_iret rf_f_W_findings_22))) (rf_s_iload_n rf_f_W_findings_5 rfl (rf_m0 _) (rf_s_iconst rf_f_W_findings_6 (rf_m0 _) (rf_s_icmp_le rf_f_W_findings_7 rfl (rf_m0 _) (rf_m0 _) (rf_s_aload_n rf_f_W_findings_14 rfl (rf_m0 _) (rf_s_getAS rf_f_W_findings_15 (rf_m0 _) fun x1 => (rf_s_iload_n rf_f_W_findings_18 rfl (rf_m0 _) (rf_s_invV0R rf_f_W_findings_19 rfl rfl (rf_m0 _) fun k2 q4 x5 h3 => (rf_s_iret rf_f_W_findings_22))))) (rf_s_iconst rf_f_W_findings_10 (rf_m0 _) (rf_s_goto rf_f_W_findings_11 rfl (rf_m0 _) (rf_s_iret rf_f_W_findings_22))))))))) : rf_den (rf_call d) rf_m_W_findings (0, [some (.inr (.inr (some o))), some (.inl a1)], [], h) = _)
noncomputable def rf_j_W_digest_6 (d : Nat) (o : Nat) (l1 : Int) (l3 : Int) (h : rf_H) : Option rf_R := rf_den (rf_call d) rf_m_W_digest (6, [some (.inr (.inr (some o))), some (.inr (.inl l1)), none, some (.inl l3), none], [], h)
noncomputable def rf_j_W_digest_33 (d : Nat) (o : Nat) (l1 : Int) (l3 : Int) (h : rf_H) : Option rf_R := rf_den (rf_call d) rf_m_W_digest (33, [some (.inr (.inr (some o))), some (.inr (.inl l1)), none, some (.inl l3), none], [], h)
noncomputable def rf_j_W_digest_67 (d : Nat) (o : Nat) (l1 : Int) (l3 : Int) (h : rf_H) : Option rf_R := rf_den (rf_call d) rf_m_W_digest (67, [some (.inr (.inr (some o))), some (.inr (.inl l1)), none, some (.inl l3), none], [], h)
noncomputable def rf_j_W_digest_81 (d : Nat) (o : Nat) (l1 : Int) (l3 : Int) (l4 : Int) (h : rf_H) : Option rf_R := rf_den (rf_call d) rf_m_W_digest (81, [some (.inr (.inr (some o))), some (.inr (.inl l1)), none, some (.inl l3), some (.inl l4)], [], h)
noncomputable def rf_j_W_digest_117 (d : Nat) (o : Nat) (l1 : Int) (l3 : Int) (h : rf_H) : Option rf_R := rf_den (rf_call d) rf_m_W_digest (117, [some (.inr (.inr (some o))), some (.inr (.inl l1)), none, some (.inl l3), none], [], h)
theorem rf_u_W_digest : rf_mt 113 = rf_m_W_digest := rfl
theorem rf_f_W_digest_0 : rf_Fb rf_m_W_digest 0 3 (.ldc2_w 291) 0 0 0 17 [] [] = true := by decide +kernel
theorem rf_f_W_digest_3 : rf_Fb rf_m_W_digest 3 4 (.lstore_n 1) 0 0 0 0 [] [] = true := by decide +kernel
theorem rf_f_W_digest_4 : rf_Fb rf_m_W_digest 4 5 (.iconst 0) 0 0 0 0 [] [] = true := by decide +kernel
theorem rf_f_W_digest_5 : rf_Fb rf_m_W_digest 5 6 (.istore_n 3) 0 0 0 0 [] [true, true, false, true, false] = true := by decide +kernel
theorem rf_f_W_digest_6 : rf_Fb rf_m_W_digest 6 7 (.iload_n 3) 0 0 0 0 [] [] = true := by decide +kernel
theorem rf_f_W_digest_7 : rf_Fb rf_m_W_digest 7 9 (.bipush 8) 0 0 0 0 [] [] = true := by decide +kernel
theorem rf_f_W_digest_9 : rf_Fb rf_m_W_digest 9 12 (.if_icmp .ge 22) 31 0 0 0 [] [] = true := by decide +kernel
theorem rf_f_W_digest_12 : rf_Fb rf_m_W_digest 12 15 (.ldc2_w 293) 0 0 0 31 [] [] = true := by decide +kernel
theorem rf_f_W_digest_15 : rf_Fb rf_m_W_digest 15 16 (.lload_n 1) 0 0 0 0 [] [] = true := by decide +kernel
theorem rf_f_W_digest_16 : rf_Fb rf_m_W_digest 16 17 (.lmul) 0 0 0 0 [] [] = true := by decide +kernel
theorem rf_f_W_digest_17 : rf_Fb rf_m_W_digest 17 18 (.aload_n 0) 0 0 0 0 [] [] = true := by decide +kernel
theorem rf_f_W_digest_18 : rf_Fb rf_m_W_digest 18 19 (.iload_n 3) 0 0 0 0 [] [] = true := by decide +kernel
theorem rf_f_W_digest_19 : rf_Fb rf_m_W_digest 19 22 (.invokevirtual 285) 109 1 0 4 [] [] = true := by decide +kernel
theorem rf_f_W_digest_22 : rf_Fb rf_m_W_digest 22 23 (.i2l) 0 0 0 0 [] [] = true := by decide +kernel
theorem rf_f_W_digest_23 : rf_Fb rf_m_W_digest 23 24 (.ladd) 0 0 0 0 [] [] = true := by decide +kernel
theorem rf_f_W_digest_24 : rf_Fb rf_m_W_digest 24 25 (.lstore_n 1) 0 0 0 0 [] [] = true := by decide +kernel
theorem rf_f_W_digest_25 : rf_Fb rf_m_W_digest 25 28 (.iinc 3 1) 0 0 0 0 [] [] = true := by decide +kernel
theorem rf_f_W_digest_28 : rf_Fb rf_m_W_digest 28 31 (.goto (-22)) 6 0 0 0 [] [] = true := by decide +kernel
theorem rf_f_W_digest_31 : rf_Fb rf_m_W_digest 31 32 (.iconst 0) 0 0 0 0 [] [] = true := by decide +kernel
theorem rf_f_W_digest_32 : rf_Fb rf_m_W_digest 32 33 (.istore_n 3) 0 0 0 0 [] [true, true, false, true, false] = true := by decide +kernel
theorem rf_f_W_digest_33 : rf_Fb rf_m_W_digest 33 34 (.aload_n 0) 0 0 0 0 [] [] = true := by decide +kernel
theorem rf_f_W_digest_34 : rf_Fb rf_m_W_digest 34 37 (.getfield 123) 4 12 0 0 [] [] = true := by decide +kernel
theorem rf_f_W_digest_37 : rf_Fb rf_m_W_digest 37 40 (.ifCond .eq 28) 65 0 0 0 [] [] = true := by decide +kernel
theorem rf_f_W_digest_40 : rf_Fb rf_m_W_digest 40 41 (.iload_n 3) 0 0 0 0 [] [] = true := by decide +kernel
theorem rf_f_W_digest_41 : rf_Fb rf_m_W_digest 41 43 (.bipush 10) 0 0 0 0 [] [] = true := by decide +kernel
theorem rf_f_W_digest_43 : rf_Fb rf_m_W_digest 43 46 (.if_icmp .ge 22) 65 0 0 0 [] [] = true := by decide +kernel
theorem rf_f_W_digest_46 : rf_Fb rf_m_W_digest 46 49 (.ldc2_w 293) 0 0 0 31 [] [] = true := by decide +kernel
theorem rf_f_W_digest_49 : rf_Fb rf_m_W_digest 49 50 (.lload_n 1) 0 0 0 0 [] [] = true := by decide +kernel
theorem rf_f_W_digest_50 : rf_Fb rf_m_W_digest 50 51 (.lmul) 0 0 0 0 [] [] = true := by decide +kernel
theorem rf_f_W_digest_51 : rf_Fb rf_m_W_digest 51 52 (.aload_n 0) 0 0 0 0 [] [] = true := by decide +kernel
theorem rf_f_W_digest_52 : rf_Fb rf_m_W_digest 52 53 (.iload_n 3) 0 0 0 0 [] [] = true := by decide +kernel
theorem rf_f_W_digest_53 : rf_Fb rf_m_W_digest 53 56 (.invokevirtual 162) 76 1 0 4 [] [] = true := by decide +kernel
theorem rf_f_W_digest_56 : rf_Fb rf_m_W_digest 56 57 (.i2l) 0 0 0 0 [] [] = true := by decide +kernel
theorem rf_f_W_digest_57 : rf_Fb rf_m_W_digest 57 58 (.ladd) 0 0 0 0 [] [] = true := by decide +kernel
theorem rf_f_W_digest_58 : rf_Fb rf_m_W_digest 58 59 (.lstore_n 1) 0 0 0 0 [] [] = true := by decide +kernel
theorem rf_f_W_digest_59 : rf_Fb rf_m_W_digest 59 62 (.iinc 3 1) 0 0 0 0 [] [] = true := by decide +kernel
theorem rf_f_W_digest_62 : rf_Fb rf_m_W_digest 62 65 (.goto (-29)) 33 0 0 0 [] [] = true := by decide +kernel
theorem rf_f_W_digest_65 : rf_Fb rf_m_W_digest 65 66 (.iconst 0) 0 0 0 0 [] [] = true := by decide +kernel
theorem rf_f_W_digest_66 : rf_Fb rf_m_W_digest 66 67 (.istore_n 3) 0 0 0 0 [] [true, true, false, true, false] = true := by decide +kernel
theorem rf_f_W_digest_67 : rf_Fb rf_m_W_digest 67 68 (.iload_n 3) 0 0 0 0 [] [] = true := by decide +kernel
theorem rf_f_W_digest_68 : rf_Fb rf_m_W_digest 68 69 (.aload_n 0) 0 0 0 0 [] [] = true := by decide +kernel
theorem rf_f_W_digest_69 : rf_Fb rf_m_W_digest 69 72 (.getfield 59) 4 10 2 0 [] [] = true := by decide +kernel
theorem rf_f_W_digest_72 : rf_Fb rf_m_W_digest 72 75 (.getfield 130) 3 6 0 0 [] [] = true := by decide +kernel
theorem rf_f_W_digest_75 : rf_Fb rf_m_W_digest 75 78 (.if_icmp .ge 40) 115 0 0 0 [] [] = true := by decide +kernel
theorem rf_f_W_digest_78 : rf_Fb rf_m_W_digest 78 79 (.iconst 0) 0 0 0 0 [] [] = true := by decide +kernel
theorem rf_f_W_digest_79 : rf_Fb rf_m_W_digest 79 81 (.istore 4) 0 0 0 0 [] [true, true, false, true, true] = true := by decide +kernel
theorem rf_f_W_digest_81 : rf_Fb rf_m_W_digest 81 83 (.iload 4) 0 0 0 0 [] [] = true := by decide +kernel
theorem rf_f_W_digest_83 : rf_Fb rf_m_W_digest 83 85 (.bipush 6) 0 0 0 0 [] [] = true := by decide +kernel
theorem rf_f_W_digest_85 : rf_Fb rf_m_W_digest 85 88 (.if_icmp .ge 24) 109 0 0 0 [] [] = true := by decide +kernel
theorem rf_f_W_digest_88 : rf_Fb rf_m_W_digest 88 91 (.ldc2_w 293) 0 0 0 31 [] [] = true := by decide +kernel
theorem rf_f_W_digest_91 : rf_Fb rf_m_W_digest 91 92 (.lload_n 1) 0 0 0 0 [] [] = true := by decide +kernel
theorem rf_f_W_digest_92 : rf_Fb rf_m_W_digest 92 93 (.lmul) 0 0 0 0 [] [] = true := by decide +kernel
theorem rf_f_W_digest_93 : rf_Fb rf_m_W_digest 93 94 (.aload_n 0) 0 0 0 0 [] [] = true := by decide +kernel
theorem rf_f_W_digest_94 : rf_Fb rf_m_W_digest 94 95 (.iload_n 3) 0 0 0 0 [] [] = true := by decide +kernel
theorem rf_f_W_digest_95 : rf_Fb rf_m_W_digest 95 97 (.iload 4) 0 0 0 0 [] [] = true := by decide +kernel
theorem rf_f_W_digest_97 : rf_Fb rf_m_W_digest 97 100 (.invokevirtual 133) 72 2 0 4 [] [] = true := by decide +kernel
theorem rf_f_W_digest_100 : rf_Fb rf_m_W_digest 100 101 (.i2l) 0 0 0 0 [] [] = true := by decide +kernel
theorem rf_f_W_digest_101 : rf_Fb rf_m_W_digest 101 102 (.ladd) 0 0 0 0 [] [] = true := by decide +kernel
theorem rf_f_W_digest_102 : rf_Fb rf_m_W_digest 102 103 (.lstore_n 1) 0 0 0 0 [] [] = true := by decide +kernel
theorem rf_f_W_digest_103 : rf_Fb rf_m_W_digest 103 106 (.iinc 4 1) 0 0 0 0 [] [] = true := by decide +kernel
theorem rf_f_W_digest_106 : rf_Fb rf_m_W_digest 106 109 (.goto (-25)) 81 0 0 0 [] [] = true := by decide +kernel
theorem rf_f_W_digest_109 : rf_Fb rf_m_W_digest 109 112 (.iinc 3 1) 0 0 0 0 [] [] = true := by decide +kernel
theorem rf_f_W_digest_112 : rf_Fb rf_m_W_digest 112 115 (.goto (-45)) 67 0 0 0 [] [] = true := by decide +kernel
theorem rf_f_W_digest_115 : rf_Fb rf_m_W_digest 115 116 (.iconst 0) 0 0 0 0 [] [] = true := by decide +kernel
theorem rf_f_W_digest_116 : rf_Fb rf_m_W_digest 116 117 (.istore_n 3) 0 0 0 0 [] [true, true, false, true, false] = true := by decide +kernel
theorem rf_f_W_digest_117 : rf_Fb rf_m_W_digest 117 118 (.iload_n 3) 0 0 0 0 [] [] = true := by decide +kernel
theorem rf_f_W_digest_118 : rf_Fb rf_m_W_digest 118 119 (.iconst 3) 0 0 0 0 [] [] = true := by decide +kernel
theorem rf_f_W_digest_119 : rf_Fb rf_m_W_digest 119 122 (.if_icmp .ge 41) 160 0 0 0 [] [] = true := by decide +kernel
theorem rf_f_W_digest_122 : rf_Fb rf_m_W_digest 122 123 (.aload_n 0) 0 0 0 0 [] [] = true := by decide +kernel
theorem rf_f_W_digest_123 : rf_Fb rf_m_W_digest 123 126 (.getfield 18) 4 2 2 0 [] [] = true := by decide +kernel
theorem rf_f_W_digest_126 : rf_Fb rf_m_W_digest 126 127 (.iload_n 3) 0 0 0 0 [] [] = true := by decide +kernel
theorem rf_f_W_digest_127 : rf_Fb rf_m_W_digest 127 130 (.invokestatic 74) 55 2 2 0 [] [] = true := by decide +kernel
theorem rf_f_W_digest_130 : rf_Fb rf_m_W_digest 130 132 (.astore 4) 0 0 0 0 [] [] = true := by decide +kernel
theorem rf_f_W_digest_132 : rf_Fb rf_m_W_digest 132 135 (.ldc2_w 293) 0 0 0 31 [] [] = true := by decide +kernel
theorem rf_f_W_digest_135 : rf_Fb rf_m_W_digest 135 136 (.lload_n 1) 0 0 0 0 [] [] = true := by decide +kernel
theorem rf_f_W_digest_136 : rf_Fb rf_m_W_digest 136 137 (.lmul) 0 0 0 0 [] [] = true := by decide +kernel
theorem rf_f_W_digest_137 : rf_Fb rf_m_W_digest 137 139 (.aload 4) 0 0 0 0 [] [] = true := by decide +kernel
theorem rf_f_W_digest_139 : rf_Fb rf_m_W_digest 139 142 (.ifnonnull 7) 146 0 0 0 [] [] = true := by decide +kernel
theorem rf_f_W_digest_142 : rf_Fb rf_m_W_digest 142 143 (.iconst (-1)) 0 0 0 0 [] [] = true := by decide +kernel
theorem rf_f_W_digest_143 : rf_Fb rf_m_W_digest 143 146 (.goto 8) 151 0 0 0 [] [] = true := by decide +kernel
theorem rf_f_W_digest_146 : rf_Fb rf_m_W_digest 146 148 (.aload 4) 0 0 0 0 [] [] = true := by decide +kernel
theorem rf_f_W_digest_148 : rf_Fb rf_m_W_digest 148 151 (.getfield 111) 2 1 0 0 [] [] = true := by decide +kernel
theorem rf_f_W_digest_151 : rf_Fb rf_m_W_digest 151 152 (.i2l) 0 0 0 0 [] [] = true := by decide +kernel
theorem rf_f_W_digest_152 : rf_Fb rf_m_W_digest 152 153 (.ladd) 0 0 0 0 [] [] = true := by decide +kernel
theorem rf_f_W_digest_153 : rf_Fb rf_m_W_digest 153 154 (.lstore_n 1) 0 0 0 0 [] [] = true := by decide +kernel
theorem rf_f_W_digest_154 : rf_Fb rf_m_W_digest 154 157 (.iinc 3 1) 0 0 0 0 [] [] = true := by decide +kernel
theorem rf_f_W_digest_157 : rf_Fb rf_m_W_digest 157 160 (.goto (-40)) 117 0 0 0 [] [] = true := by decide +kernel
theorem rf_f_W_digest_160 : rf_Fb rf_m_W_digest 160 161 (.aload_n 0) 0 0 0 0 [] [] = true := by decide +kernel
theorem rf_f_W_digest_161 : rf_Fb rf_m_W_digest 161 164 (.getfield 15) 4 1 2 0 [] [] = true := by decide +kernel
theorem rf_f_W_digest_164 : rf_Fb rf_m_W_digest 164 165 (.aload_n 0) 0 0 0 0 [] [] = true := by decide +kernel
theorem rf_f_W_digest_165 : rf_Fb rf_m_W_digest 165 168 (.getfield 11) 4 0 2 0 [] [] = true := by decide +kernel
theorem rf_f_W_digest_168 : rf_Fb rf_m_W_digest 168 169 (.lload_n 1) 0 0 0 0 [] [] = true := by decide +kernel
theorem rf_f_W_digest_169 : rf_Fb rf_m_W_digest 169 172 (.invokestatic 295) 114 2 1 0 [] [] = true := by decide +kernel
theorem rf_f_W_digest_172 : rf_Fb rf_m_W_digest 172 175 (.invokestatic 295) 114 2 1 0 [] [] = true := by decide +kernel
theorem rf_f_W_digest_175 : rf_Fb rf_m_W_digest 175 176 (.lreturn) 0 0 0 0 [] [] = true := by decide +kernel
set_option maxRecDepth 20000 in
set_option maxHeartbeats 2000000 in
theorem rf_e_W_digest (d : Nat) (o : Nat) (h : rf_H) : rf_call (d + 1) 113 [.inr (.inr (some o))] h = rf_j_W_digest_6 d o 17 0 h := by
  show rf_den (rf_call d) (rf_mt 113) _ = _
  rw [rf_u_W_digest]
  exact ((rf_s_ldc2_w rf_f_W_digest_0 (rf_m0 _) (rf_s_lstore_n (L' := [some (.inr (.inr (some o))), some (.inr (.inl 17)), none, none, none]) rf_f_W_digest_3 rfl (rf_s_iconst rf_f_W_digest_4 (rf_m0 _) (rf_s_istore_n rf_f_W_digest_5 rfl rfl)))) : rf_den (rf_call d) rf_m_W_digest (0, [some (.inr (.inr (some o))), none, none, none, none], [], h) = _)
set_option maxRecDepth 20000 in
set_option maxHeartbeats 2000000 in
theorem rf_e_W_digest_6 (d : Nat) (o : Nat) (l1 : Int) (l3 : Int) (h : rf_H) : rf_j_W_digest_6 d o l1 l3 h = (if l3 < 8 then (bif rf_isO h.1 o 4 then ((rf_call d 109 [.inr (.inr (some o)), .inl l3] h).bind fun q2 => rf_kI q2 fun x3 h1 => rf_j_W_digest_6 d o (rf_wl ((rf_wl (31 * l1)) + x3)) (rf_w (l3 + 1)) h1) else none) else rf_j_W_digest_33 d o l1 0 h) :=
  ((rf_s_iload_n rf_f_W_digest_6 rfl (rf_m0 _) (rf_s_bipush rf_f_W_digest_7 (rf_m0 _) (rf_s_icmp_ge rf_f_W_digest_9 rfl (rf_m0 _) (rf_m0 _) (rf_s_iconst rf_f_W_digest_31 (rf_m0 _) (rf_s_istore_n rf_f_W_digest_32 rfl rfl)) (rf_s_ldc2_w rf_f_W_digest_12 (rf_m0 _) (rf_s_lload_n rf_f_W_digest_15 rfl (rf_m0 _) (rf_s_lmul rf_f_W_digest_16 (rf_m0 _) (rf_s_aload_n rf_f_W_digest_17 rfl (rf_m0 _) (rf_s_iload_n rf_f_W_digest_18 rfl (rf_m0 _) (rf_s_invV0S rf_f_W_digest_19 rfl rfl (rf_m0 _) fun q2 x3 h1 => (rf_s_i2l rf_f_W_digest_22 (rf_m0 _) (rf_s_ladd rf_f_W_digest_23 (rf_m0 _) (rf_s_lstore_n (L' := [some (.inr (.inr (some o))), some (.inr (.inl (rf_wl ((rf_wl (31 * l1)) + x3)))), none, some (.inl l3), none]) rf_f_W_digest_24 rfl (rf_s_iinc (L' := [some (.inr (.inr (some o))), some (.inr (.inl (rf_wl ((rf_wl (31 * l1)) + x3)))), none, some (.inl (rf_w (l3 + 1))), none]) rf_f_W_digest_25 rfl rfl (rf_s_goto rf_f_W_digest_28 rfl rfl rfl)))))))))))))) : rf_den (rf_call d) rf_m_W_digest (6, [some (.inr (.inr (some o))), some (.inr (.inl l1)), none, some (.inl l3), none], [], h) = _)
set_option maxRecDepth 20000 in
set_option maxHeartbeats 2000000 in
theorem rf_e_W_digest_33 (d : Nat) (o : Nat) (l1 : Int) (l3 : Int) (h : rf_H) : rf_j_W_digest_33 d o l1 l3 h = ((rf_gI h 4 o 12).bind fun x1 => (if x1 = 0 then rf_j_W_digest_67 d o l1 0 h else (if l3 < 10 then (bif rf_isO h.1 o 4 then ((rf_call d 76 [.inr (.inr (some o)), .inl l3] h).bind fun q3 => rf_kI q3 fun x4 h2 => rf_j_W_digest_33 d o (rf_wl ((rf_wl (31 * l1)) + x4)) (rf_w (l3 + 1)) h2) else none) else rf_j_W_digest_67 d o l1 0 h))) :=
  ((rf_s_aload_n rf_f_W_digest_33 rfl (rf_m0 _) (rf_s_getIS rf_f_W_digest_34 (rf_m0 _) fun x1 => (rf_s_if_eq rf_f_W_digest_37 rfl (rf_m0 _) (rf_m0 _) (rf_s_iconst rf_f_W_digest_65 (rf_m0 _) (rf_s_istore_n rf_f_W_digest_66 rfl rfl)) (rf_s_iload_n rf_f_W_digest_40 rfl (rf_m0 _) (rf_s_bipush rf_f_W_digest_41 (rf_m0 _) (rf_s_icmp_ge rf_f_W_digest_43 rfl (rf_m0 _) (rf_m0 _) (rf_s_iconst rf_f_W_digest_65 (rf_m0 _) (rf_s_istore_n rf_f_W_digest_66 rfl rfl)) (rf_s_ldc2_w rf_f_W_digest_46 (rf_m0 _) (rf_s_lload_n rf_f_W_digest_49 rfl (rf_m0 _) (rf_s_lmul rf_f_W_digest_50 (rf_m0 _) (rf_s_aload_n rf_f_W_digest_51 rfl (rf_m0 _) (rf_s_iload_n rf_f_W_digest_52 rfl (rf_m0 _) (rf_s_invV0S rf_f_W_digest_53 rfl rfl (rf_m0 _) fun q3 x4 h2 => (rf_s_i2l rf_f_W_digest_56 (rf_m0 _) (rf_s_ladd rf_f_W_digest_57 (rf_m0 _) (rf_s_lstore_n (L' := [some (.inr (.inr (some o))), some (.inr (.inl (rf_wl ((rf_wl (31 * l1)) + x4)))), none, some (.inl l3), none]) rf_f_W_digest_58 rfl (rf_s_iinc (L' := [some (.inr (.inr (some o))), some (.inr (.inl (rf_wl ((rf_wl (31 * l1)) + x4)))), none, some (.inl (rf_w (l3 + 1))), none]) rf_f_W_digest_59 rfl rfl (rf_s_goto rf_f_W_digest_62 rfl rfl rfl))))))))))))))))) : rf_den (rf_call d) rf_m_W_digest (33, [some (.inr (.inr (some o))), some (.inr (.inl l1)), none, some (.inl l3), none], [], h) = _)
set_option maxRecDepth 20000 in
set_option maxHeartbeats 2000000 in
theorem rf_e_W_digest_67 (d : Nat) (o : Nat) (l1 : Int) (l3 : Int) (h : rf_H) : rf_j_W_digest_67 d o l1 l3 h = ((rf_gR h 4 o 10).bind fun x1 => (rf_nn x1 fun k2 => ((rf_gI h 3 k2 6).bind fun x3 => (if l3 < x3 then rf_j_W_digest_81 d o l1 l3 0 h else rf_j_W_digest_117 d o l1 0 h)))) :=
  ((rf_s_iload_n rf_f_W_digest_67 rfl (rf_m0 _) (rf_s_aload_n rf_f_W_digest_68 rfl (rf_m0 _) (rf_s_getAS rf_f_W_digest_69 (rf_m0 _) fun x1 => (rf_s_getIR rf_f_W_digest_72 (rf_m0 _) fun k2 x3 => (rf_s_icmp_ge rf_f_W_digest_75 rfl (rf_m0 _) (rf_m0 _) (rf_s_iconst rf_f_W_digest_115 (rf_m0 _) (rf_s_istore_n rf_f_W_digest_116 rfl rfl)) (rf_s_iconst rf_f_W_digest_78 (rf_m0 _) (rf_s_istore rf_f_W_digest_79 rfl rfl))))))) : rf_den (rf_call d) rf_m_W_digest (67, [some (.inr (.inr (some o))), some (.inr (.inl l1)), none, some (.inl l3), none], [], h) = _)
set_option maxRecDepth 20000 in
set_option maxHeartbeats 2000000 in
theorem rf_e_W_digest_81 (d : Nat) (o : Nat) (l1 : Int) (l3 : Int) (l4 : Int) (h : rf_H) : rf_j_W_digest_81 d o l1 l3 l4 h = (if l4 < 6 then (bif rf_isO h.1 o 4 then ((rf_call d 72 [.inr (.inr (some o)), .inl l3, .inl l4] h).bind fun q2 => rf_kI q2 fun x3 h1 => rf_j_W_digest_81 d o (rf_wl ((rf_wl (31 * l1)) + x3)) l3 (rf_w (l4 + 1)) h1) else none) else rf_j_W_digest_67 d o l1 (rf_w (l3 + 1)) h) :=
  ((rf_s_iload rf_f_W_digest_81 rfl (rf_m0 _) (rf_s_bipush rf_f_W_digest_83 (rf_m0 _) (rf_s_icmp_ge rf_f_W_digest_85 rfl (rf_m0 _) (rf_m0 _) (rf_s_iinc (L' := [some (.inr (.inr (some o))), some (.inr (.inl l1)), none, some (.inl (rf_w (l3 + 1))), some (.inl l4)]) rf_f_W_digest_109 rfl rfl (rf_s_goto rf_f_W_digest_112 rfl rfl rfl)) (rf_s_ldc2_w rf_f_W_digest_88 (rf_m0 _) (rf_s_lload_n rf_f_W_digest_91 rfl (rf_m0 _) (rf_s_lmul rf_f_W_digest_92 (rf_m0 _) (rf_s_aload_n rf_f_W_digest_93 rfl (rf_m0 _) (rf_s_iload_n rf_f_W_digest_94 rfl (rf_m0 _) (rf_s_iload rf_f_W_digest_95 rfl (rf_m0 _) (rf_s_invV0S rf_f_W_digest_97 rfl rfl (rf_m0 _) fun q2 x3 h1 => (rf_s_i2l rf_f_W_digest_100 (rf_m0 _) (rf_s_ladd rf_f_W_digest_101 (rf_m0 _) (rf_s_lstore_n (L' := [some (.inr (.inr (some o))), some (.inr (.inl (rf_wl ((rf_wl (31 * l1)) + x3)))), none, some (.inl l3), some (.inl l4)]) rf_f_W_digest_102 rfl (rf_s_iinc (L' := [some (.inr (.inr (some o))), some (.inr (.inl (rf_wl ((rf_wl (31 * l1)) + x3)))), none, some (.inl l3), some (.inl (rf_w (l4 + 1)))]) rf_f_W_digest_103 rfl rfl (rf_s_goto rf_f_W_digest_106 rfl rfl rfl))))))))))))))) : rf_den (rf_call d) rf_m_W_digest (81, [some (.inr (.inr (some o))), some (.inr (.inl l1)), none, some (.inl l3), some (.inl l4)], [], h) = _)
set_option maxRecDepth 20000 in
set_option maxHeartbeats 2000000 in
theorem rf_e_W_digest_117 (d : Nat) (o : Nat) (l1 : Int) (l3 : Int) (h : rf_H) : rf_j_W_digest_117 d o l1 l3 h = (if l3 < 3 then ((rf_gR h 4 o 2).bind fun x9 => ((rf_call d 55 [.inr (.inr x9), .inl l3] h).bind fun q11 => rf_kR q11 fun x12 h10 => (rf_nz x12 (rf_j_W_digest_117 d o (rf_wl ((rf_wl (31 * l1)) + (-1))) (rf_w (l3 + 1)) h10) ((rf_nn x12 fun k13 => ((rf_gI h10 2 k13 1).bind fun x14 => rf_j_W_digest_117 d o (rf_wl ((rf_wl (31 * l1)) + x14)) (rf_w (l3 + 1)) h10)))))) else ((rf_gR h 4 o 1).bind fun x1 => ((rf_gR h 4 o 0).bind fun x2 => ((rf_call d 114 [.inr (.inr x2), .inr (.inl l1)] h).bind fun q4 => rf_kL q4 fun x5 h3 => ((rf_call d 114 [.inr (.inr x1), .inr (.inl x5)] h3).bind fun q7 => rf_kL q7 fun x8 h6 => some (some (.inr (.inl x8)), h6)))))) :=
  ((rf_s_iload_n rf_f_W_digest_117 rfl (rf_m0 _) (rf_s_iconst rf_f_W_digest_118 (rf_m0 _) (rf_s_icmp_ge rf_f_W_digest_119 rfl (rf_m0 _) (rf_m0 _) (rf_s_aload_n rf_f_W_digest_160 rfl (rf_m0 _) (rf_s_getAS rf_f_W_digest_161 (rf_m0 _) fun x1 => (rf_s_aload_n rf_f_W_digest_164 rfl (rf_m0 _) (rf_s_getAS rf_f_W_digest_165 (rf_m0 _) fun x2 => (rf_s_lload_n rf_f_W_digest_168 rfl (rf_m0 _) (rf_s_invS1 rf_f_W_digest_169 rfl rfl (rf_m0 _) fun q4 x5 h3 => (rf_s_invS1 rf_f_W_digest_172 rfl rfl (rf_m0 _) fun q7 x8 h6 => (rf_s_lret rf_f_W_digest_175)))))))) (rf_s_aload_n rf_f_W_digest_122 rfl (rf_m0 _) (rf_s_getAS rf_f_W_digest_123 (rf_m0 _) fun x9 => (rf_s_iload_n rf_f_W_digest_126 rfl (rf_m0 _) (rf_s_invS2 rf_f_W_digest_127 rfl rfl (rf_m0 _) fun q11 x12 h10 => (rf_s_astore (L' := [some (.inr (.inr (some o))), some (.inr (.inl l1)), none, some (.inl l3), some (.inr (.inr x12))]) rf_f_W_digest_130 rfl (rf_s_ldc2_w rf_f_W_digest_132 (rf_m0 _) (rf_s_lload_n rf_f_W_digest_135 rfl (rf_m0 _) (rf_s_lmul rf_f_W_digest_136 (rf_m0 _) (rf_s_aload rf_f_W_digest_137 rfl (rf_m0 _) (rf_s_ifnonnull rf_f_W_digest_139 rfl (rf_m0 _) (rf_m0 _) (rf_s_aload rf_f_W_digest_146 rfl (rf_m0 _) (rf_s_getIR rf_f_W_digest_148 (rf_m0 _) fun k13 x14 => (rf_s_i2l rf_f_W_digest_151 (rf_m0 _) (rf_s_ladd rf_f_W_digest_152 (rf_m0 _) (rf_s_lstore_n (L' := [some (.inr (.inr (some o))), some (.inr (.inl (rf_wl ((rf_wl (31 * l1)) + x14)))), none, some (.inl l3), some (.inr (.inr x12))]) rf_f_W_digest_153 rfl (rf_s_iinc (L' := [some (.inr (.inr (some o))), some (.inr (.inl (rf_wl ((rf_wl (31 * l1)) + x14)))), none, some (.inl (rf_w (l3 + 1))), some (.inr (.inr x12))]) rf_f_W_digest_154 rfl rfl (rf_s_goto rf_f_W_digest_157 rfl rfl rfl))))))) (rf_s_iconst rf_f_W_digest_142 (rf_m0 _) (rf_s_goto rf_f_W_digest_143 rfl (rf_m0 _) (rf_s_i2l rf_f_W_digest_151 (rf_m0 _) (rf_s_ladd rf_f_W_digest_152 (rf_m0 _) (rf_s_lstore_n (L' := [some (.inr (.inr (some o))), some (.inr (.inl (rf_wl ((rf_wl (31 * l1)) + (-1))))), none, some (.inl l3), some (.inr (.inr x12))]) rf_f_W_digest_153 rfl (rf_s_iinc (L' := [some (.inr (.inr (some o))), some (.inr (.inl (rf_wl ((rf_wl (31 * l1)) + (-1))))), none, some (.inl (rf_w (l3 + 1))), some (.inr (.inr x12))]) rf_f_W_digest_154 rfl rfl (rf_s_goto rf_f_W_digest_157 rfl rfl rfl)))))))))))))))))))) : rf_den (rf_call d) rf_m_W_digest (117, [some (.inr (.inr (some o))), some (.inr (.inl l1)), none, some (.inl l3), none], [], h) = _)
noncomputable def rf_j_W_digestOf_13 (d : Nat) (l3 : Int) (l5 : Option Nat) (l6 : Int) (l7 : Int) (h : rf_H) : Option rf_R := rf_den (rf_call d) rf_m_W_digestOf (13, [none, none, none, some (.inr (.inl l3)), none, some (.inr (.inr l5)), some (.inl l6), some (.inl l7), none, none], [], h)
noncomputable def rf_j_W_digestOf_48 (d : Nat) (l3 : Int) (l5 : Option Nat) (l6 : Int) (l7 : Int) (l8 : Option Nat) (l9 : Int) (h : rf_H) : Option rf_R := rf_den (rf_call d) rf_m_W_digestOf (48, [none, none, none, some (.inr (.inl l3)), none, some (.inr (.inr l5)), some (.inl l6), some (.inl l7), some (.inr (.inr l8)), some (.inl l9)], [], h)
theorem rf_u_W_digestOf : rf_mt 114 = rf_m_W_digestOf := rfl
theorem rf_f_W_digestOf_0 : rf_Fb rf_m_W_digestOf 0 1 (.lload_n 1) 0 0 0 0 [] [] = true := by decide +kernel
theorem rf_f_W_digestOf_1 : rf_Fb rf_m_W_digestOf 1 2 (.lstore_n 3) 0 0 0 0 [] [] = true := by decide +kernel
theorem rf_f_W_digestOf_2 : rf_Fb rf_m_W_digestOf 2 3 (.aload_n 0) 0 0 0 0 [] [] = true := by decide +kernel
theorem rf_f_W_digestOf_3 : rf_Fb rf_m_W_digestOf 3 5 (.astore 5) 0 0 0 0 [] [] = true := by decide +kernel
theorem rf_f_W_digestOf_5 : rf_Fb rf_m_W_digestOf 5 7 (.aload 5) 0 0 0 0 [] [] = true := by decide +kernel
theorem rf_f_W_digestOf_7 : rf_Fb rf_m_W_digestOf 7 8 (.arraylength) 0 0 0 0 [] [] = true := by decide +kernel
theorem rf_f_W_digestOf_8 : rf_Fb rf_m_W_digestOf 8 10 (.istore 6) 0 0 0 0 [] [] = true := by decide +kernel
theorem rf_f_W_digestOf_10 : rf_Fb rf_m_W_digestOf 10 11 (.iconst 0) 0 0 0 0 [] [] = true := by decide +kernel
theorem rf_f_W_digestOf_11 : rf_Fb rf_m_W_digestOf 11 13 (.istore 7) 0 0 0 0 [] [false, false, false, true, false, true, true, true, false, false] = true := by decide +kernel
theorem rf_f_W_digestOf_13 : rf_Fb rf_m_W_digestOf 13 15 (.iload 7) 0 0 0 0 [] [] = true := by decide +kernel
theorem rf_f_W_digestOf_15 : rf_Fb rf_m_W_digestOf 15 17 (.iload 6) 0 0 0 0 [] [] = true := by decide +kernel
theorem rf_f_W_digestOf_17 : rf_Fb rf_m_W_digestOf 17 20 (.if_icmp .ge 68) 85 0 0 0 [] [] = true := by decide +kernel
theorem rf_f_W_digestOf_20 : rf_Fb rf_m_W_digestOf 20 22 (.aload 5) 0 0 0 0 [] [] = true := by decide +kernel
theorem rf_f_W_digestOf_22 : rf_Fb rf_m_W_digestOf 22 24 (.iload 7) 0 0 0 0 [] [] = true := by decide +kernel
theorem rf_f_W_digestOf_24 : rf_Fb rf_m_W_digestOf 24 25 (.aaload) 0 0 0 0 [] [] = true := by decide +kernel
theorem rf_f_W_digestOf_25 : rf_Fb rf_m_W_digestOf 25 27 (.astore 8) 0 0 0 0 [] [] = true := by decide +kernel
theorem rf_f_W_digestOf_27 : rf_Fb rf_m_W_digestOf 27 29 (.aload 8) 0 0 0 0 [] [] = true := by decide +kernel
theorem rf_f_W_digestOf_29 : rf_Fb rf_m_W_digestOf 29 32 (.ifnull 50) 79 0 0 0 [] [] = true := by decide +kernel
theorem rf_f_W_digestOf_32 : rf_Fb rf_m_W_digestOf 32 35 (.ldc2_w 293) 0 0 0 31 [] [] = true := by decide +kernel
theorem rf_f_W_digestOf_35 : rf_Fb rf_m_W_digestOf 35 36 (.lload_n 3) 0 0 0 0 [] [] = true := by decide +kernel
theorem rf_f_W_digestOf_36 : rf_Fb rf_m_W_digestOf 36 37 (.lmul) 0 0 0 0 [] [] = true := by decide +kernel
theorem rf_f_W_digestOf_37 : rf_Fb rf_m_W_digestOf 37 39 (.aload 8) 0 0 0 0 [] [] = true := by decide +kernel
theorem rf_f_W_digestOf_39 : rf_Fb rf_m_W_digestOf 39 42 (.getfield 111) 2 1 0 0 [] [] = true := by decide +kernel
theorem rf_f_W_digestOf_42 : rf_Fb rf_m_W_digestOf 42 43 (.i2l) 0 0 0 0 [] [] = true := by decide +kernel
theorem rf_f_W_digestOf_43 : rf_Fb rf_m_W_digestOf 43 44 (.ladd) 0 0 0 0 [] [] = true := by decide +kernel
theorem rf_f_W_digestOf_44 : rf_Fb rf_m_W_digestOf 44 45 (.lstore_n 3) 0 0 0 0 [] [] = true := by decide +kernel
theorem rf_f_W_digestOf_45 : rf_Fb rf_m_W_digestOf 45 46 (.iconst 0) 0 0 0 0 [] [] = true := by decide +kernel
theorem rf_f_W_digestOf_46 : rf_Fb rf_m_W_digestOf 46 48 (.istore 9) 0 0 0 0 [] [false, false, false, true, false, true, true, true, true, true] = true := by decide +kernel
theorem rf_f_W_digestOf_48 : rf_Fb rf_m_W_digestOf 48 50 (.iload 9) 0 0 0 0 [] [] = true := by decide +kernel
theorem rf_f_W_digestOf_50 : rf_Fb rf_m_W_digestOf 50 52 (.aload 8) 0 0 0 0 [] [] = true := by decide +kernel
theorem rf_f_W_digestOf_52 : rf_Fb rf_m_W_digestOf 52 55 (.getfield 111) 2 1 0 0 [] [] = true := by decide +kernel
theorem rf_f_W_digestOf_55 : rf_Fb rf_m_W_digestOf 55 58 (.if_icmp .ge 24) 79 0 0 0 [] [] = true := by decide +kernel
theorem rf_f_W_digestOf_58 : rf_Fb rf_m_W_digestOf 58 61 (.ldc2_w 293) 0 0 0 31 [] [] = true := by decide +kernel
theorem rf_f_W_digestOf_61 : rf_Fb rf_m_W_digestOf 61 62 (.lload_n 3) 0 0 0 0 [] [] = true := by decide +kernel
theorem rf_f_W_digestOf_62 : rf_Fb rf_m_W_digestOf 62 63 (.lmul) 0 0 0 0 [] [] = true := by decide +kernel
theorem rf_f_W_digestOf_63 : rf_Fb rf_m_W_digestOf 63 65 (.aload 8) 0 0 0 0 [] [] = true := by decide +kernel
theorem rf_f_W_digestOf_65 : rf_Fb rf_m_W_digestOf 65 67 (.iload 9) 0 0 0 0 [] [] = true := by decide +kernel
theorem rf_f_W_digestOf_67 : rf_Fb rf_m_W_digestOf 67 70 (.invokevirtual 86) 4 1 0 2 [] [] = true := by decide +kernel
theorem rf_f_W_digestOf_70 : rf_Fb rf_m_W_digestOf 70 71 (.i2l) 0 0 0 0 [] [] = true := by decide +kernel
theorem rf_f_W_digestOf_71 : rf_Fb rf_m_W_digestOf 71 72 (.ladd) 0 0 0 0 [] [] = true := by decide +kernel
theorem rf_f_W_digestOf_72 : rf_Fb rf_m_W_digestOf 72 73 (.lstore_n 3) 0 0 0 0 [] [] = true := by decide +kernel
theorem rf_f_W_digestOf_73 : rf_Fb rf_m_W_digestOf 73 76 (.iinc 9 1) 0 0 0 0 [] [] = true := by decide +kernel
theorem rf_f_W_digestOf_76 : rf_Fb rf_m_W_digestOf 76 79 (.goto (-28)) 48 0 0 0 [] [] = true := by decide +kernel
theorem rf_f_W_digestOf_79 : rf_Fb rf_m_W_digestOf 79 82 (.iinc 7 1) 0 0 0 0 [] [] = true := by decide +kernel
theorem rf_f_W_digestOf_82 : rf_Fb rf_m_W_digestOf 82 85 (.goto (-69)) 13 0 0 0 [] [] = true := by decide +kernel
theorem rf_f_W_digestOf_85 : rf_Fb rf_m_W_digestOf 85 86 (.lload_n 3) 0 0 0 0 [] [] = true := by decide +kernel
theorem rf_f_W_digestOf_86 : rf_Fb rf_m_W_digestOf 86 87 (.lreturn) 0 0 0 0 [] [] = true := by decide +kernel
set_option maxRecDepth 20000 in
set_option maxHeartbeats 2000000 in
theorem rf_e_W_digestOf (d : Nat) (a1 : Option Nat) (a2 : Int) (h : rf_H) : rf_call (d + 1) 114 [.inr (.inr a1), .inr (.inl a2)] h = (rf_nn a1 fun k1 => ((rf_aL h k1).bind fun x2 => rf_j_W_digestOf_13 d a2 a1 x2 0 h)) := by
  show rf_den (rf_call d) (rf_mt 114) _ = _
  rw [rf_u_W_digestOf]
  exact ((rf_s_lload_n rf_f_W_digestOf_0 rfl (rf_m0 _) (rf_s_lstore_n (L' := [some (.inr (.inr a1)), some (.inr (.inl a2)), none, some (.inr (.inl a2)), none, none, none, none, none, none]) rf_f_W_digestOf_1 rfl (rf_s_aload_n rf_f_W_digestOf_2 rfl (rf_m0 _) (rf_s_astore (L' := [some (.inr (.inr a1)), some (.inr (.inl a2)), none, some (.inr (.inl a2)), none, some (.inr (.inr a1)), none, none, none, none]) rf_f_W_digestOf_3 rfl (rf_s_aload rf_f_W_digestOf_5 rfl (rf_m0 _) (rf_s_alenR rf_f_W_digestOf_7 (rf_m0 _) fun k1 x2 => (rf_s_istore (L' := [some (.inr (.inr a1)), some (.inr (.inl a2)), none, some (.inr (.inl a2)), none, some (.inr (.inr a1)), some (.inl x2), none, none, none]) rf_f_W_digestOf_8 rfl (rf_s_iconst rf_f_W_digestOf_10 (rf_m0 _) (rf_s_istore rf_f_W_digestOf_11 rfl rfl))))))))) : rf_den (rf_call d) rf_m_W_digestOf (0, [some (.inr (.inr a1)), some (.inr (.inl a2)), none, none, none, none, none, none, none, none], [], h) = _)
set_option maxRecDepth 20000 in
set_option maxHeartbeats 2000000 in
theorem rf_e_W_digestOf_13 (d : Nat) (l3 : Int) (l5 : Option Nat) (l6 : Int) (l7 : Int) (h : rf_H) : rf_j_W_digestOf_13 d l3 l5 l6 l7 h = (if l7 < l6 then (rf_nn l5 fun k1 => ((rf_aR h k1 l7).bind fun x2 => (rf_nz x2 (rf_j_W_digestOf_13 d l3 l5 l6 (rf_w (l7 + 1)) h) ((rf_nn x2 fun k3 => ((rf_gI h 2 k3 1).bind fun x4 => rf_j_W_digestOf_48 d (rf_wl ((rf_wl (31 * l3)) + x4)) l5 l6 l7 x2 0 h)))))) else some (some (.inr (.inl l3)), h)) :=
  ((rf_s_iload rf_f_W_digestOf_13 rfl (rf_m0 _) (rf_s_iload rf_f_W_digestOf_15 rfl (rf_m0 _) (rf_s_icmp_ge rf_f_W_digestOf_17 rfl (rf_m0 _) (rf_m0 _) (rf_s_lload_n rf_f_W_digestOf_85 rfl (rf_m0 _) (rf_s_lret rf_f_W_digestOf_86)) (rf_s_aload rf_f_W_digestOf_20 rfl (rf_m0 _) (rf_s_iload rf_f_W_digestOf_22 rfl (rf_m0 _) (rf_s_aaldR rf_f_W_digestOf_24 (rf_m0 _) fun k1 x2 => (rf_s_astore (L' := [none, none, none, some (.inr (.inl l3)), none, some (.inr (.inr l5)), some (.inl l6), some (.inl l7), some (.inr (.inr x2)), none]) rf_f_W_digestOf_25 rfl (rf_s_aload rf_f_W_digestOf_27 rfl (rf_m0 _) (rf_s_ifnull rf_f_W_digestOf_29 rfl (rf_m0 _) (rf_m0 _) (rf_s_iinc (L' := [none, none, none, some (.inr (.inl l3)), none, some (.inr (.inr l5)), some (.inl l6), some (.inl (rf_w (l7 + 1))), some (.inr (.inr x2)), none]) rf_f_W_digestOf_79 rfl rfl (rf_s_goto rf_f_W_digestOf_82 rfl rfl rfl)) (rf_s_ldc2_w rf_f_W_digestOf_32 (rf_m0 _) (rf_s_lload_n rf_f_W_digestOf_35 rfl (rf_m0 _) (rf_s_lmul rf_f_W_digestOf_36 (rf_m0 _) (rf_s_aload rf_f_W_digestOf_37 rfl (rf_m0 _) (rf_s_getIR rf_f_W_digestOf_39 (rf_m0 _) fun k3 x4 => (rf_s_i2l rf_f_W_digestOf_42 (rf_m0 _) (rf_s_ladd rf_f_W_digestOf_43 (rf_m0 _) (rf_s_lstore_n (L' := [none, none, none, some (.inr (.inl (rf_wl ((rf_wl (31 * l3)) + x4)))), none, some (.inr (.inr l5)), some (.inl l6), some (.inl l7), some (.inr (.inr x2)), none]) rf_f_W_digestOf_44 rfl (rf_s_iconst rf_f_W_digestOf_45 (rf_m0 _) (rf_s_istore rf_f_W_digestOf_46 rfl rfl))))))))))))))))))) : rf_den (rf_call d) rf_m_W_digestOf (13, [none, none, none, some (.inr (.inl l3)), none, some (.inr (.inr l5)), some (.inl l6), some (.inl l7), none, none], [], h) = _)
set_option maxRecDepth 20000 in
set_option maxHeartbeats 2000000 in
theorem rf_e_W_digestOf_48 (d : Nat) (l3 : Int) (l5 : Option Nat) (l6 : Int) (l7 : Int) (l8 : Option Nat) (l9 : Int) (h : rf_H) : rf_j_W_digestOf_48 d l3 l5 l6 l7 l8 l9 h = (rf_nn l8 fun k1 => ((rf_gI h 2 k1 1).bind fun x2 => (if l9 < x2 then (rf_nn l8 fun k3 => (bif rf_isO h.1 k3 2 then ((rf_call d 4 [.inr (.inr (some k3)), .inl l9] h).bind fun q5 => rf_kI q5 fun x6 h4 => rf_j_W_digestOf_48 d (rf_wl ((rf_wl (31 * l3)) + x6)) l5 l6 l7 l8 (rf_w (l9 + 1)) h4) else none)) else rf_j_W_digestOf_13 d l3 l5 l6 (rf_w (l7 + 1)) h))) :=
  ((rf_s_iload rf_f_W_digestOf_48 rfl (rf_m0 _) (rf_s_aload rf_f_W_digestOf_50 rfl (rf_m0 _) (rf_s_getIR rf_f_W_digestOf_52 (rf_m0 _) fun k1 x2 => (rf_s_icmp_ge rf_f_W_digestOf_55 rfl (rf_m0 _) (rf_m0 _) (rf_s_iinc (L' := [none, none, none, some (.inr (.inl l3)), none, some (.inr (.inr l5)), some (.inl l6), some (.inl (rf_w (l7 + 1))), some (.inr (.inr l8)), some (.inl l9)]) rf_f_W_digestOf_79 rfl rfl (rf_s_goto rf_f_W_digestOf_82 rfl rfl rfl)) (rf_s_ldc2_w rf_f_W_digestOf_58 (rf_m0 _) (rf_s_lload_n rf_f_W_digestOf_61 rfl (rf_m0 _) (rf_s_lmul rf_f_W_digestOf_62 (rf_m0 _) (rf_s_aload rf_f_W_digestOf_63 rfl (rf_m0 _) (rf_s_iload rf_f_W_digestOf_65 rfl (rf_m0 _) (rf_s_invV0R rf_f_W_digestOf_67 rfl rfl (rf_m0 _) fun k3 q5 x6 h4 => (rf_s_i2l rf_f_W_digestOf_70 (rf_m0 _) (rf_s_ladd rf_f_W_digestOf_71 (rf_m0 _) (rf_s_lstore_n (L' := [none, none, none, some (.inr (.inl (rf_wl ((rf_wl (31 * l3)) + x6)))), none, some (.inr (.inr l5)), some (.inl l6), some (.inl l7), some (.inr (.inr l8)), some (.inl l9)]) rf_f_W_digestOf_72 rfl (rf_s_iinc (L' := [none, none, none, some (.inr (.inl (rf_wl ((rf_wl (31 * l3)) + x6)))), none, some (.inr (.inr l5)), some (.inl l6), some (.inl l7), some (.inr (.inr l8)), some (.inl (rf_w (l9 + 1)))]) rf_f_W_digestOf_73 rfl rfl (rf_s_goto rf_f_W_digestOf_76 rfl rfl rfl))))))))))))))) : rf_den (rf_call d) rf_m_W_digestOf (48, [none, none, none, some (.inr (.inl l3)), none, some (.inr (.inr l5)), some (.inl l6), some (.inl l7), some (.inr (.inr l8)), some (.inl l9)], [], h) = _)
