noncomputable def rf_j_M_row_34 (d : Nat) (o : Nat) (l1 : Int) (l2 : Int) (l3 : Int) (h : rf_H) : Option rf_R := rf_den (rf_call d) rf_m_M_row (34, [some (.inr (.inr (some o))), some (.inl l1), some (.inl l2), some (.inl l3)], [], h)
theorem rf_u_M_row : rf_mt 116 = rf_m_M_row := rfl
theorem rf_f_M_row_0 : rf_Fb rf_m_M_row 0 1 (.iload_n 1) 0 0 0 0 [] [] = true := by decide +kernel
theorem rf_f_M_row_1 : rf_Fb rf_m_M_row 1 4 (.invokestatic 69) 117 1 0 0 [] [] = true := by decide +kernel
theorem rf_f_M_row_4 : rf_Fb rf_m_M_row 4 7 (.ifCond .eq 9) 13 0 0 0 [] [] = true := by decide +kernel
theorem rf_f_M_row_7 : rf_Fb rf_m_M_row 7 8 (.iload_n 2) 0 0 0 0 [] [] = true := by decide +kernel
theorem rf_f_M_row_8 : rf_Fb rf_m_M_row 8 10 (.bipush 40) 0 0 0 0 [] [] = true := by decide +kernel
theorem rf_f_M_row_10 : rf_Fb rf_m_M_row 10 13 (.if_icmp .le 5) 15 0 0 0 [] [] = true := by decide +kernel
theorem rf_f_M_row_13 : rf_Fb rf_m_M_row 13 14 (.iconst (-1)) 0 0 0 0 [] [] = true := by decide +kernel
theorem rf_f_M_row_14 : rf_Fb rf_m_M_row 14 15 (.ireturn) 0 0 0 0 [] [] = true := by decide +kernel
theorem rf_f_M_row_15 : rf_Fb rf_m_M_row 15 16 (.iload_n 2) 0 0 0 0 [] [] = true := by decide +kernel
theorem rf_f_M_row_16 : rf_Fb rf_m_M_row 16 19 (.ifCond .ge 9) 25 0 0 0 [] [] = true := by decide +kernel
theorem rf_f_M_row_19 : rf_Fb rf_m_M_row 19 20 (.aload_n 0) 0 0 0 0 [] [] = true := by decide +kernel
theorem rf_f_M_row_20 : rf_Fb rf_m_M_row 20 21 (.iconst 5) 0 0 0 0 [] [] = true := by decide +kernel
theorem rf_f_M_row_21 : rf_Fb rf_m_M_row 21 24 (.invokevirtual 73) 119 1 0 5 [] [] = true := by decide +kernel
theorem rf_f_M_row_24 : rf_Fb rf_m_M_row 24 25 (.ireturn) 0 0 0 0 [] [] = true := by decide +kernel
theorem rf_f_M_row_25 : rf_Fb rf_m_M_row 25 26 (.aload_n 0) 0 0 0 0 [] [] = true := by decide +kernel
theorem rf_f_M_row_26 : rf_Fb rf_m_M_row 26 29 (.getfield 7) 5 0 2 0 [] [] = true := by decide +kernel
theorem rf_f_M_row_29 : rf_Fb rf_m_M_row 29 30 (.iload_n 1) 0 0 0 0 [] [] = true := by decide +kernel
theorem rf_f_M_row_30 : rf_Fb rf_m_M_row 30 31 (.iload_n 2) 0 0 0 0 [] [] = true := by decide +kernel
theorem rf_f_M_row_31 : rf_Fb rf_m_M_row 31 32 (.iastore) 0 0 0 0 [] [] = true := by decide +kernel
theorem rf_f_M_row_32 : rf_Fb rf_m_M_row 32 33 (.iconst 0) 0 0 0 0 [] [] = true := by decide +kernel
theorem rf_f_M_row_33 : rf_Fb rf_m_M_row 33 34 (.istore_n 3) 0 0 0 0 [] [true, true, true, true] = true := by decide +kernel
theorem rf_f_M_row_34 : rf_Fb rf_m_M_row 34 35 (.iload_n 3) 0 0 0 0 [] [] = true := by decide +kernel
theorem rf_f_M_row_35 : rf_Fb rf_m_M_row 35 36 (.iload_n 2) 0 0 0 0 [] [] = true := by decide +kernel
theorem rf_f_M_row_36 : rf_Fb rf_m_M_row 36 39 (.if_icmp .ge 21) 57 0 0 0 [] [] = true := by decide +kernel
theorem rf_f_M_row_39 : rf_Fb rf_m_M_row 39 40 (.aload_n 0) 0 0 0 0 [] [] = true := by decide +kernel
theorem rf_f_M_row_40 : rf_Fb rf_m_M_row 40 43 (.getfield 13) 5 1 2 0 [] [] = true := by decide +kernel
theorem rf_f_M_row_43 : rf_Fb rf_m_M_row 43 45 (.bipush 40) 0 0 0 0 [] [] = true := by decide +kernel
theorem rf_f_M_row_45 : rf_Fb rf_m_M_row 45 46 (.iload_n 1) 0 0 0 0 [] [] = true := by decide +kernel
theorem rf_f_M_row_46 : rf_Fb rf_m_M_row 46 47 (.imul) 0 0 0 0 [] [] = true := by decide +kernel
theorem rf_f_M_row_47 : rf_Fb rf_m_M_row 47 48 (.iload_n 3) 0 0 0 0 [] [] = true := by decide +kernel
theorem rf_f_M_row_48 : rf_Fb rf_m_M_row 48 49 (.iadd) 0 0 0 0 [] [] = true := by decide +kernel
theorem rf_f_M_row_49 : rf_Fb rf_m_M_row 49 50 (.iconst 0) 0 0 0 0 [] [] = true := by decide +kernel
theorem rf_f_M_row_50 : rf_Fb rf_m_M_row 50 51 (.iastore) 0 0 0 0 [] [] = true := by decide +kernel
theorem rf_f_M_row_51 : rf_Fb rf_m_M_row 51 54 (.iinc 3 1) 0 0 0 0 [] [] = true := by decide +kernel
theorem rf_f_M_row_54 : rf_Fb rf_m_M_row 54 57 (.goto (-20)) 34 0 0 0 [] [] = true := by decide +kernel
theorem rf_f_M_row_57 : rf_Fb rf_m_M_row 57 58 (.iload_n 2) 0 0 0 0 [] [] = true := by decide +kernel
theorem rf_f_M_row_58 : rf_Fb rf_m_M_row 58 59 (.ireturn) 0 0 0 0 [] [] = true := by decide +kernel
set_option maxRecDepth 20000 in
set_option maxHeartbeats 2000000 in
theorem rf_e_M_row (d : Nat) (o : Nat) (a1 : Int) (a2 : Int) (h : rf_H) : rf_call (d + 1) 116 [.inr (.inr (some o)), .inl a1, .inl a2] h = ((rf_call d 117 [.inl a1] h).bind fun q2 => rf_kI q2 fun x3 h1 => (if x3 = 0 then some (some (.inl (-1)), h1) else (if 40 < a2 then some (some (.inl (-1)), h1) else (if a2 < 0 then (bif rf_isO h1.1 o 5 then ((rf_call d 119 [.inr (.inr (some o)), .inl 5] h1).bind fun q8 => rf_kI q8 fun x9 h7 => some (some (.inl x9), h7)) else none) else ((rf_gR h1 5 o 0).bind fun x4 => (rf_nn x4 fun k5 => ((rf_sI h1 k5 a1 a2).bind fun h6 => rf_j_M_row_34 d o a1 a2 0 h6))))))) := by
  show rf_den (rf_call d) (rf_mt 116) _ = _
  rw [rf_u_M_row]
  exact ((rf_s_iload_n rf_f_M_row_0 rfl (rf_m0 _) (rf_s_invS0 rf_f_M_row_1 rfl rfl (rf_m0 _) fun q2 x3 h1 => (rf_s_if_eq rf_f_M_row_4 rfl (rf_m0 _) (rf_m0 _) (rf_s_iconst rf_f_M_row_13 (rf_m0 _) (rf_s_iret rf_f_M_row_14)) (rf_s_iload_n rf_f_M_row_7 rfl (rf_m0 _) (rf_s_bipush rf_f_M_row_8 (rf_m0 _) (rf_s_icmp_le rf_f_M_row_10 rfl (rf_m0 _) (rf_m0 _) (rf_s_iload_n rf_f_M_row_15 rfl (rf_m0 _) (rf_s_if_ge rf_f_M_row_16 rfl (rf_m0 _) (rf_m0 _) (rf_s_aload_n rf_f_M_row_25 rfl (rf_m0 _) (rf_s_getAS rf_f_M_row_26 (rf_m0 _) fun x4 => (rf_s_iload_n rf_f_M_row_29 rfl (rf_m0 _) (rf_s_iload_n rf_f_M_row_30 rfl (rf_m0 _) (rf_s_iastR rf_f_M_row_31 (rf_m0 _) fun k5 h6 => (rf_s_iconst rf_f_M_row_32 (rf_m0 _) (rf_s_istore_n rf_f_M_row_33 rfl rfl))))))) (rf_s_aload_n rf_f_M_row_19 rfl (rf_m0 _) (rf_s_iconst rf_f_M_row_20 (rf_m0 _) (rf_s_invV0S rf_f_M_row_21 rfl rfl (rf_m0 _) fun q8 x9 h7 => (rf_s_iret rf_f_M_row_24)))))) (rf_s_iconst rf_f_M_row_13 (rf_m0 _) (rf_s_iret rf_f_M_row_14)))))))) : rf_den (rf_call d) rf_m_M_row (0, [some (.inr (.inr (some o))), some (.inl a1), some (.inl a2), none], [], h) = _)
set_option maxRecDepth 20000 in
set_option maxHeartbeats 2000000 in
theorem rf_e_M_row_34 (d : Nat) (o : Nat) (l1 : Int) (l2 : Int) (l3 : Int) (h : rf_H) : rf_j_M_row_34 d o l1 l2 l3 h = (if l3 < l2 then ((rf_gR h 5 o 1).bind fun x1 => (rf_nn x1 fun k2 => ((rf_sI h k2 (rf_w ((rf_w (40 * l1)) + l3)) 0).bind fun h3 => rf_j_M_row_34 d o l1 l2 (rf_w (l3 + 1)) h3))) else some (some (.inl l2), h)) :=
  ((rf_s_iload_n rf_f_M_row_34 rfl (rf_m0 _) (rf_s_iload_n rf_f_M_row_35 rfl (rf_m0 _) (rf_s_icmp_ge rf_f_M_row_36 rfl (rf_m0 _) (rf_m0 _) (rf_s_iload_n rf_f_M_row_57 rfl (rf_m0 _) (rf_s_iret rf_f_M_row_58)) (rf_s_aload_n rf_f_M_row_39 rfl (rf_m0 _) (rf_s_getAS rf_f_M_row_40 (rf_m0 _) fun x1 => (rf_s_bipush rf_f_M_row_43 (rf_m0 _) (rf_s_iload_n rf_f_M_row_45 rfl (rf_m0 _) (rf_s_imul rf_f_M_row_46 (rf_m0 _) (rf_s_iload_n rf_f_M_row_47 rfl (rf_m0 _) (rf_s_iadd rf_f_M_row_48 (rf_m0 _) (rf_s_iconst rf_f_M_row_49 (rf_m0 _) (rf_s_iastR rf_f_M_row_50 (rf_m0 _) fun k2 h3 => (rf_s_iinc (L' := [some (.inr (.inr (some o))), some (.inl l1), some (.inl l2), some (.inl (rf_w (l3 + 1)))]) rf_f_M_row_51 rfl rfl (rf_s_goto rf_f_M_row_54 rfl rfl rfl)))))))))))))) : rf_den (rf_call d) rf_m_M_row (34, [some (.inr (.inr (some o))), some (.inl l1), some (.inl l2), some (.inl l3)], [], h) = _)
theorem rf_u_M_isRow : rf_mt 117 = rf_m_M_isRow := rfl
theorem rf_f_M_isRow_0 : rf_Fb rf_m_M_isRow 0 1 (.iload_n 0) 0 0 0 0 [] [] = true := by decide +kernel
theorem rf_f_M_isRow_1 : rf_Fb rf_m_M_isRow 1 2 (.i2l) 0 0 0 0 [] [] = true := by decide +kernel
theorem rf_f_M_isRow_2 : rf_Fb rf_m_M_isRow 2 3 (.lconst 0) 0 0 0 0 [] [] = true := by decide +kernel
theorem rf_f_M_isRow_3 : rf_Fb rf_m_M_isRow 3 6 (.ldc2_w 61) 0 0 0 5 [] [] = true := by decide +kernel
theorem rf_f_M_isRow_6 : rf_Fb rf_m_M_isRow 6 9 (.invokestatic 63) 118 3 0 0 [] [] = true := by decide +kernel
theorem rf_f_M_isRow_9 : rf_Fb rf_m_M_isRow 9 10 (.ireturn) 0 0 1 0 [] [] = true := by decide +kernel
set_option maxRecDepth 20000 in
set_option maxHeartbeats 2000000 in
theorem rf_e_M_isRow (d : Nat) (a1 : Int) (h : rf_H) : rf_call (d + 1) 117 [.inl a1] h = ((rf_call d 118 [.inr (.inl a1), .inr (.inl 0), .inr (.inl 5)] h).bind fun q2 => rf_kI q2 fun x3 h1 => (if x3 = 0 ∨ x3 = 1 then some (some (.inl x3), h1) else none)) := by
  show rf_den (rf_call d) (rf_mt 117) _ = _
  rw [rf_u_M_isRow]
  exact ((rf_s_iload_n rf_f_M_isRow_0 rfl (rf_m0 _) (rf_s_i2l rf_f_M_isRow_1 (rf_m0 _) (rf_s_lconst rf_f_M_isRow_2 (rf_m0 _) (rf_s_ldc2_w rf_f_M_isRow_3 (rf_m0 _) (rf_s_invS0 rf_f_M_isRow_6 rfl rfl (rf_m0 _) fun q2 x3 h1 => (rf_s_zret rf_f_M_isRow_9)))))) : rf_den (rf_call d) rf_m_M_isRow (0, [some (.inl a1)], [], h) = _)
theorem rf_u_M_in : rf_mt 118 = rf_m_M_in := rfl
theorem rf_f_M_in_0 : rf_Fb rf_m_M_in 0 1 (.lload_n 0) 0 0 0 0 [] [] = true := by decide +kernel
theorem rf_f_M_in_1 : rf_Fb rf_m_M_in 1 2 (.lload_n 2) 0 0 0 0 [] [] = true := by decide +kernel
theorem rf_f_M_in_2 : rf_Fb rf_m_M_in 2 3 (.lcmp) 0 0 0 0 [] [] = true := by decide +kernel
theorem rf_f_M_in_3 : rf_Fb rf_m_M_in 3 6 (.ifCond .lt 14) 17 0 0 0 [] [] = true := by decide +kernel
theorem rf_f_M_in_6 : rf_Fb rf_m_M_in 6 7 (.lload_n 0) 0 0 0 0 [] [] = true := by decide +kernel
theorem rf_f_M_in_7 : rf_Fb rf_m_M_in 7 9 (.lload 4) 0 0 0 0 [] [] = true := by decide +kernel
theorem rf_f_M_in_9 : rf_Fb rf_m_M_in 9 10 (.lcmp) 0 0 0 0 [] [] = true := by decide +kernel
theorem rf_f_M_in_10 : rf_Fb rf_m_M_in 10 13 (.ifCond .gt 7) 17 0 0 0 [] [] = true := by decide +kernel
theorem rf_f_M_in_13 : rf_Fb rf_m_M_in 13 14 (.iconst 1) 0 0 0 0 [] [] = true := by decide +kernel
theorem rf_f_M_in_14 : rf_Fb rf_m_M_in 14 17 (.goto 4) 18 0 0 0 [] [] = true := by decide +kernel
theorem rf_f_M_in_17 : rf_Fb rf_m_M_in 17 18 (.iconst 0) 0 0 0 0 [] [] = true := by decide +kernel
theorem rf_f_M_in_18 : rf_Fb rf_m_M_in 18 19 (.ireturn) 0 0 1 0 [] [] = true := by decide +kernel
set_option maxRecDepth 20000 in
set_option maxHeartbeats 2000000 in
theorem rf_e_M_in (d : Nat) (a1 : Int) (a2 : Int) (a3 : Int) (h : rf_H) : rf_call (d + 1) 118 [.inr (.inl a1), .inr (.inl a2), .inr (.inl a3)] h = (if (rf_cmp a1 a2) < 0 then some (some (.inl 0), h) else (if 0 < (rf_cmp a1 a3) then some (some (.inl 0), h) else some (some (.inl 1), h))) := by
  show rf_den (rf_call d) (rf_mt 118) _ = _
  rw [rf_u_M_in]
  exact ((rf_s_lload_n rf_f_M_in_0 rfl (rf_m0 _) (rf_s_lload_n rf_f_M_in_1 rfl (rf_m0 _) (rf_s_lcmp rf_f_M_in_2 (rf_m0 _) (rf_s_if_lt rf_f_M_in_3 rfl (rf_m0 _) (rf_m0 _) (rf_s_iconst rf_f_M_in_17 (rf_m0 _) (rf_s_zretK rf_f_M_in_18 (by decide))) (rf_s_lload_n rf_f_M_in_6 rfl (rf_m0 _) (rf_s_lload rf_f_M_in_7 rfl (rf_m0 _) (rf_s_lcmp rf_f_M_in_9 (rf_m0 _) (rf_s_if_gt rf_f_M_in_10 rfl (rf_m0 _) (rf_m0 _) (rf_s_iconst rf_f_M_in_17 (rf_m0 _) (rf_s_zretK rf_f_M_in_18 (by decide))) (rf_s_iconst rf_f_M_in_13 (rf_m0 _) (rf_s_goto rf_f_M_in_14 rfl (rf_m0 _) (rf_s_zretK rf_f_M_in_18 (by decide)))))))))))) : rf_den (rf_call d) rf_m_M_in (0, [some (.inr (.inl a1)), none, some (.inr (.inl a2)), none, some (.inr (.inl a3)), none], [], h) = _)
theorem rf_u_M_finds : rf_mt 119 = rf_m_M_finds := rfl
theorem rf_f_M_finds_0 : rf_Fb rf_m_M_finds 0 1 (.aload_n 0) 0 0 0 0 [] [] = true := by decide +kernel
theorem rf_f_M_finds_1 : rf_Fb rf_m_M_finds 1 2 (.iload_n 1) 0 0 0 0 [] [] = true := by decide +kernel
theorem rf_f_M_finds_2 : rf_Fb rf_m_M_finds 2 5 (.putfield 54) 5 8 0 0 [] [] = true := by decide +kernel
theorem rf_f_M_finds_5 : rf_Fb rf_m_M_finds 5 6 (.aload_n 0) 0 0 0 0 [] [] = true := by decide +kernel
theorem rf_f_M_finds_6 : rf_Fb rf_m_M_finds 6 9 (.getfield 32) 5 7 2 0 [] [] = true := by decide +kernel
theorem rf_f_M_finds_9 : rf_Fb rf_m_M_finds 9 10 (.iload_n 1) 0 0 0 0 [] [] = true := by decide +kernel
theorem rf_f_M_finds_10 : rf_Fb rf_m_M_finds 10 11 (.dup2) 0 0 0 0 [] [] = true := by decide +kernel
theorem rf_f_M_finds_11 : rf_Fb rf_m_M_finds 11 12 (.iaload) 0 0 0 0 [] [] = true := by decide +kernel
theorem rf_f_M_finds_12 : rf_Fb rf_m_M_finds 12 13 (.iconst 1) 0 0 0 0 [] [] = true := by decide +kernel
theorem rf_f_M_finds_13 : rf_Fb rf_m_M_finds 13 14 (.iadd) 0 0 0 0 [] [] = true := by decide +kernel
theorem rf_f_M_finds_14 : rf_Fb rf_m_M_finds 14 15 (.iastore) 0 0 0 0 [] [] = true := by decide +kernel
theorem rf_f_M_finds_15 : rf_Fb rf_m_M_finds 15 17 (.bipush (-3)) 0 0 0 0 [] [] = true := by decide +kernel
theorem rf_f_M_finds_17 : rf_Fb rf_m_M_finds 17 18 (.ireturn) 0 0 0 0 [] [] = true := by decide +kernel
set_option maxRecDepth 20000 in
set_option maxHeartbeats 2000000 in
theorem rf_e_M_finds (d : Nat) (o : Nat) (a1 : Int) (h : rf_H) : rf_call (d + 1) 119 [.inr (.inr (some o)), .inl a1] h = ((rf_pI h 5 o 8 a1).bind fun h1 => ((rf_gR h1 5 o 7).bind fun x2 => (rf_nn x2 fun k3 => ((rf_aI h1 k3 a1).bind fun x4 => (rf_nn x2 fun k5 => ((rf_sI h1 k5 a1 (rf_w (x4 + 1))).bind fun h6 => some (some (.inl (-3)), h6))))))) := by
  show rf_den (rf_call d) (rf_mt 119) _ = _
  rw [rf_u_M_finds]
  exact ((rf_s_aload_n rf_f_M_finds_0 rfl (rf_m0 _) (rf_s_iload_n rf_f_M_finds_1 rfl (rf_m0 _) (rf_s_putIS rf_f_M_finds_2 (rf_m0 _) fun h1 => (rf_s_aload_n rf_f_M_finds_5 rfl (rf_m0 _) (rf_s_getAS rf_f_M_finds_6 (rf_m0 _) fun x2 => (rf_s_iload_n rf_f_M_finds_9 rfl (rf_m0 _) (rf_s_dup2 rf_f_M_finds_10 (rf_m0 _) (rf_s_ialdR rf_f_M_finds_11 (rf_m0 _) fun k3 x4 => (rf_s_iconst rf_f_M_finds_12 (rf_m0 _) (rf_s_iadd rf_f_M_finds_13 (rf_m0 _) (rf_s_iastR rf_f_M_finds_14 (rf_m0 _) fun k5 h6 => (rf_s_bipush rf_f_M_finds_15 (rf_m0 _) (rf_s_iret rf_f_M_finds_17))))))))))))) : rf_den (rf_call d) rf_m_M_finds (0, [some (.inr (.inr (some o))), some (.inl a1)], [], h) = _)
theorem rf_u_M_lay : rf_mt 120 = rf_m_M_lay := rfl
theorem rf_f_M_lay_0 : rf_Fb rf_m_M_lay 0 1 (.iload_n 1) 0 0 0 0 [] [] = true := by decide +kernel
theorem rf_f_M_lay_1 : rf_Fb rf_m_M_lay 1 4 (.invokestatic 69) 117 1 0 0 [] [] = true := by decide +kernel
theorem rf_f_M_lay_4 : rf_Fb rf_m_M_lay 4 7 (.ifCond .ne 5) 9 0 0 0 [] [] = true := by decide +kernel
theorem rf_f_M_lay_7 : rf_Fb rf_m_M_lay 7 8 (.iconst (-1)) 0 0 0 0 [] [] = true := by decide +kernel
theorem rf_f_M_lay_8 : rf_Fb rf_m_M_lay 8 9 (.ireturn) 0 0 0 0 [] [] = true := by decide +kernel
theorem rf_f_M_lay_9 : rf_Fb rf_m_M_lay 9 10 (.aload_n 0) 0 0 0 0 [] [] = true := by decide +kernel
theorem rf_f_M_lay_10 : rf_Fb rf_m_M_lay 10 13 (.getfield 7) 5 0 2 0 [] [] = true := by decide +kernel
theorem rf_f_M_lay_13 : rf_Fb rf_m_M_lay 13 14 (.iload_n 1) 0 0 0 0 [] [] = true := by decide +kernel
theorem rf_f_M_lay_14 : rf_Fb rf_m_M_lay 14 15 (.iaload) 0 0 0 0 [] [] = true := by decide +kernel
theorem rf_f_M_lay_15 : rf_Fb rf_m_M_lay 15 18 (.ifCond .ge 9) 24 0 0 0 [] [] = true := by decide +kernel
theorem rf_f_M_lay_18 : rf_Fb rf_m_M_lay 18 19 (.aload_n 0) 0 0 0 0 [] [] = true := by decide +kernel
theorem rf_f_M_lay_19 : rf_Fb rf_m_M_lay 19 20 (.iconst 1) 0 0 0 0 [] [] = true := by decide +kernel
theorem rf_f_M_lay_20 : rf_Fb rf_m_M_lay 20 23 (.invokevirtual 73) 119 1 0 5 [] [] = true := by decide +kernel
theorem rf_f_M_lay_23 : rf_Fb rf_m_M_lay 23 24 (.ireturn) 0 0 0 0 [] [] = true := by decide +kernel
theorem rf_f_M_lay_24 : rf_Fb rf_m_M_lay 24 25 (.iload_n 2) 0 0 0 0 [] [] = true := by decide +kernel
theorem rf_f_M_lay_25 : rf_Fb rf_m_M_lay 25 26 (.i2l) 0 0 0 0 [] [] = true := by decide +kernel
theorem rf_f_M_lay_26 : rf_Fb rf_m_M_lay 26 27 (.lconst 0) 0 0 0 0 [] [] = true := by decide +kernel
theorem rf_f_M_lay_27 : rf_Fb rf_m_M_lay 27 28 (.aload_n 0) 0 0 0 0 [] [] = true := by decide +kernel
theorem rf_f_M_lay_28 : rf_Fb rf_m_M_lay 28 31 (.getfield 7) 5 0 2 0 [] [] = true := by decide +kernel
theorem rf_f_M_lay_31 : rf_Fb rf_m_M_lay 31 32 (.iload_n 1) 0 0 0 0 [] [] = true := by decide +kernel
theorem rf_f_M_lay_32 : rf_Fb rf_m_M_lay 32 33 (.iaload) 0 0 0 0 [] [] = true := by decide +kernel
theorem rf_f_M_lay_33 : rf_Fb rf_m_M_lay 33 34 (.iconst 1) 0 0 0 0 [] [] = true := by decide +kernel
theorem rf_f_M_lay_34 : rf_Fb rf_m_M_lay 34 35 (.isub) 0 0 0 0 [] [] = true := by decide +kernel
theorem rf_f_M_lay_35 : rf_Fb rf_m_M_lay 35 36 (.i2l) 0 0 0 0 [] [] = true := by decide +kernel
theorem rf_f_M_lay_36 : rf_Fb rf_m_M_lay 36 39 (.invokestatic 63) 118 3 0 0 [] [] = true := by decide +kernel
theorem rf_f_M_lay_39 : rf_Fb rf_m_M_lay 39 42 (.ifCond .ne 9) 48 0 0 0 [] [] = true := by decide +kernel
theorem rf_f_M_lay_42 : rf_Fb rf_m_M_lay 42 43 (.aload_n 0) 0 0 0 0 [] [] = true := by decide +kernel
theorem rf_f_M_lay_43 : rf_Fb rf_m_M_lay 43 44 (.iconst 2) 0 0 0 0 [] [] = true := by decide +kernel
theorem rf_f_M_lay_44 : rf_Fb rf_m_M_lay 44 47 (.invokevirtual 73) 119 1 0 5 [] [] = true := by decide +kernel
theorem rf_f_M_lay_47 : rf_Fb rf_m_M_lay 47 48 (.ireturn) 0 0 0 0 [] [] = true := by decide +kernel
theorem rf_f_M_lay_48 : rf_Fb rf_m_M_lay 48 49 (.aload_n 0) 0 0 0 0 [] [] = true := by decide +kernel
theorem rf_f_M_lay_49 : rf_Fb rf_m_M_lay 49 52 (.getfield 13) 5 1 2 0 [] [] = true := by decide +kernel
theorem rf_f_M_lay_52 : rf_Fb rf_m_M_lay 52 54 (.bipush 40) 0 0 0 0 [] [] = true := by decide +kernel
theorem rf_f_M_lay_54 : rf_Fb rf_m_M_lay 54 55 (.iload_n 1) 0 0 0 0 [] [] = true := by decide +kernel
theorem rf_f_M_lay_55 : rf_Fb rf_m_M_lay 55 56 (.imul) 0 0 0 0 [] [] = true := by decide +kernel
theorem rf_f_M_lay_56 : rf_Fb rf_m_M_lay 56 57 (.iload_n 2) 0 0 0 0 [] [] = true := by decide +kernel
theorem rf_f_M_lay_57 : rf_Fb rf_m_M_lay 57 58 (.iadd) 0 0 0 0 [] [] = true := by decide +kernel
theorem rf_f_M_lay_58 : rf_Fb rf_m_M_lay 58 59 (.iaload) 0 0 0 0 [] [] = true := by decide +kernel
theorem rf_f_M_lay_59 : rf_Fb rf_m_M_lay 59 61 (.istore 4) 0 0 0 0 [] [] = true := by decide +kernel
theorem rf_f_M_lay_61 : rf_Fb rf_m_M_lay 61 62 (.aload_n 0) 0 0 0 0 [] [] = true := by decide +kernel
theorem rf_f_M_lay_62 : rf_Fb rf_m_M_lay 62 65 (.getfield 13) 5 1 2 0 [] [] = true := by decide +kernel
theorem rf_f_M_lay_65 : rf_Fb rf_m_M_lay 65 67 (.bipush 40) 0 0 0 0 [] [] = true := by decide +kernel
theorem rf_f_M_lay_67 : rf_Fb rf_m_M_lay 67 68 (.iload_n 1) 0 0 0 0 [] [] = true := by decide +kernel
theorem rf_f_M_lay_68 : rf_Fb rf_m_M_lay 68 69 (.imul) 0 0 0 0 [] [] = true := by decide +kernel
theorem rf_f_M_lay_69 : rf_Fb rf_m_M_lay 69 70 (.iload_n 2) 0 0 0 0 [] [] = true := by decide +kernel
theorem rf_f_M_lay_70 : rf_Fb rf_m_M_lay 70 71 (.iadd) 0 0 0 0 [] [] = true := by decide +kernel
theorem rf_f_M_lay_71 : rf_Fb rf_m_M_lay 71 72 (.iload_n 3) 0 0 0 0 [] [] = true := by decide +kernel
theorem rf_f_M_lay_72 : rf_Fb rf_m_M_lay 72 73 (.iastore) 0 0 0 0 [] [] = true := by decide +kernel
theorem rf_f_M_lay_73 : rf_Fb rf_m_M_lay 73 74 (.aload_n 0) 0 0 0 0 [] [] = true := by decide +kernel
theorem rf_f_M_lay_74 : rf_Fb rf_m_M_lay 74 76 (.iload 4) 0 0 0 0 [] [] = true := by decide +kernel
theorem rf_f_M_lay_76 : rf_Fb rf_m_M_lay 76 79 (.invokevirtual 77) 121 1 0 5 [] [] = true := by decide +kernel
theorem rf_f_M_lay_79 : rf_Fb rf_m_M_lay 79 80 (.ireturn) 0 0 0 0 [] [] = true := by decide +kernel
set_option maxRecDepth 20000 in
set_option maxHeartbeats 2000000 in
theorem rf_e_M_lay (d : Nat) (o : Nat) (a1 : Int) (a2 : Int) (a3 : Int) (h : rf_H) : rf_call (d + 1) 120 [.inr (.inr (some o)), .inl a1, .inl a2, .inl a3] h = ((rf_call d 117 [.inl a1] h).bind fun q2 => rf_kI q2 fun x3 h1 => (if x3 = 0 then some (some (.inl (-1)), h1) else ((rf_gR h1 5 o 0).bind fun x4 => (rf_nn x4 fun k5 => ((rf_aI h1 k5 a1).bind fun x6 => (if x6 < 0 then (bif rf_isO h1.1 o 5 then ((rf_call d 119 [.inr (.inr (some o)), .inl 1] h1).bind fun q26 => rf_kI q26 fun x27 h25 => some (some (.inl x27), h25)) else none) else ((rf_gR h1 5 o 0).bind fun x7 => (rf_nn x7 fun k8 => ((rf_aI h1 k8 a1).bind fun x9 => ((rf_call d 118 [.inr (.inl a2), .inr (.inl 0), .inr (.inl (rf_w (x9 - 1)))] h1).bind fun q11 => rf_kI q11 fun x12 h10 => (if x12 = 0 then (bif rf_isO h10.1 o 5 then ((rf_call d 119 [.inr (.inr (some o)), .inl 2] h10).bind fun q23 => rf_kI q23 fun x24 h22 => some (some (.inl x24), h22)) else none) else ((rf_gR h10 5 o 1).bind fun x13 => (rf_nn x13 fun k14 => ((rf_aI h10 k14 (rf_w ((rf_w (40 * a1)) + a2))).bind fun x15 => ((rf_gR h10 5 o 1).bind fun x16 => (rf_nn x16 fun k17 => ((rf_sI h10 k17 (rf_w ((rf_w (40 * a1)) + a2)) a3).bind fun h18 => (bif rf_isO h18.1 o 5 then ((rf_call d 121 [.inr (.inr (some o)), .inl x15] h18).bind fun q20 => rf_kI q20 fun x21 h19 => some (some (.inl x21), h19)) else none)))))))))))))))))) := by
  show rf_den (rf_call d) (rf_mt 120) _ = _
  rw [rf_u_M_lay]
  exact ((rf_s_iload_n rf_f_M_lay_0 rfl (rf_m0 _) (rf_s_invS0 rf_f_M_lay_1 rfl rfl (rf_m0 _) fun q2 x3 h1 => (rf_s_if_ne rf_f_M_lay_4 rfl (rf_m0 _) (rf_m0 _) (rf_s_aload_n rf_f_M_lay_9 rfl (rf_m0 _) (rf_s_getAS rf_f_M_lay_10 (rf_m0 _) fun x4 => (rf_s_iload_n rf_f_M_lay_13 rfl (rf_m0 _) (rf_s_ialdR rf_f_M_lay_14 (rf_m0 _) fun k5 x6 => (rf_s_if_ge rf_f_M_lay_15 rfl (rf_m0 _) (rf_m0 _) (rf_s_iload_n rf_f_M_lay_24 rfl (rf_m0 _) (rf_s_i2l rf_f_M_lay_25 (rf_m0 _) (rf_s_lconst rf_f_M_lay_26 (rf_m0 _) (rf_s_aload_n rf_f_M_lay_27 rfl (rf_m0 _) (rf_s_getAS rf_f_M_lay_28 (rf_m0 _) fun x7 => (rf_s_iload_n rf_f_M_lay_31 rfl (rf_m0 _) (rf_s_ialdR rf_f_M_lay_32 (rf_m0 _) fun k8 x9 => (rf_s_iconst rf_f_M_lay_33 (rf_m0 _) (rf_s_isub rf_f_M_lay_34 (rf_m0 _) (rf_s_i2l rf_f_M_lay_35 (rf_m0 _) (rf_s_invS0 rf_f_M_lay_36 rfl rfl (rf_m0 _) fun q11 x12 h10 => (rf_s_if_ne rf_f_M_lay_39 rfl (rf_m0 _) (rf_m0 _) (rf_s_aload_n rf_f_M_lay_48 rfl (rf_m0 _) (rf_s_getAS rf_f_M_lay_49 (rf_m0 _) fun x13 => (rf_s_bipush rf_f_M_lay_52 (rf_m0 _) (rf_s_iload_n rf_f_M_lay_54 rfl (rf_m0 _) (rf_s_imul rf_f_M_lay_55 (rf_m0 _) (rf_s_iload_n rf_f_M_lay_56 rfl (rf_m0 _) (rf_s_iadd rf_f_M_lay_57 (rf_m0 _) (rf_s_ialdR rf_f_M_lay_58 (rf_m0 _) fun k14 x15 => (rf_s_istore (L' := [some (.inr (.inr (some o))), some (.inl a1), some (.inl a2), some (.inl a3), some (.inl x15)]) rf_f_M_lay_59 rfl (rf_s_aload_n rf_f_M_lay_61 rfl (rf_m0 _) (rf_s_getAS rf_f_M_lay_62 (rf_m0 _) fun x16 => (rf_s_bipush rf_f_M_lay_65 (rf_m0 _) (rf_s_iload_n rf_f_M_lay_67 rfl (rf_m0 _) (rf_s_imul rf_f_M_lay_68 (rf_m0 _) (rf_s_iload_n rf_f_M_lay_69 rfl (rf_m0 _) (rf_s_iadd rf_f_M_lay_70 (rf_m0 _) (rf_s_iload_n rf_f_M_lay_71 rfl (rf_m0 _) (rf_s_iastR rf_f_M_lay_72 (rf_m0 _) fun k17 h18 => (rf_s_aload_n rf_f_M_lay_73 rfl (rf_m0 _) (rf_s_iload rf_f_M_lay_74 rfl (rf_m0 _) (rf_s_invV0S rf_f_M_lay_76 rfl rfl (rf_m0 _) fun q20 x21 h19 => (rf_s_iret rf_f_M_lay_79)))))))))))))))))))))) (rf_s_aload_n rf_f_M_lay_42 rfl (rf_m0 _) (rf_s_iconst rf_f_M_lay_43 (rf_m0 _) (rf_s_invV0S rf_f_M_lay_44 rfl rfl (rf_m0 _) fun q23 x24 h22 => (rf_s_iret rf_f_M_lay_47)))))))))))))))) (rf_s_aload_n rf_f_M_lay_18 rfl (rf_m0 _) (rf_s_iconst rf_f_M_lay_19 (rf_m0 _) (rf_s_invV0S rf_f_M_lay_20 rfl rfl (rf_m0 _) fun q26 x27 h25 => (rf_s_iret rf_f_M_lay_23))))))))) (rf_s_iconst rf_f_M_lay_7 (rf_m0 _) (rf_s_iret rf_f_M_lay_8))))) : rf_den (rf_call d) rf_m_M_lay (0, [some (.inr (.inr (some o))), some (.inl a1), some (.inl a2), some (.inl a3), none], [], h) = _)
theorem rf_u_M_tells : rf_mt 121 = rf_m_M_tells := rfl
theorem rf_f_M_tells_0 : rf_Fb rf_m_M_tells 0 1 (.aload_n 0) 0 0 0 0 [] [] = true := by decide +kernel
theorem rf_f_M_tells_1 : rf_Fb rf_m_M_tells 1 2 (.iload_n 1) 0 0 0 0 [] [] = true := by decide +kernel
theorem rf_f_M_tells_2 : rf_Fb rf_m_M_tells 2 5 (.putfield 58) 5 9 0 0 [] [] = true := by decide +kernel
theorem rf_f_M_tells_5 : rf_Fb rf_m_M_tells 5 6 (.iconst 1) 0 0 0 0 [] [] = true := by decide +kernel
theorem rf_f_M_tells_6 : rf_Fb rf_m_M_tells 6 7 (.ireturn) 0 0 0 0 [] [] = true := by decide +kernel
set_option maxRecDepth 20000 in
set_option maxHeartbeats 2000000 in
theorem rf_e_M_tells (d : Nat) (o : Nat) (a1 : Int) (h : rf_H) : rf_call (d + 1) 121 [.inr (.inr (some o)), .inl a1] h = ((rf_pI h 5 o 9 a1).bind fun h1 => some (some (.inl 1), h1)) := by
  show rf_den (rf_call d) (rf_mt 121) _ = _
  rw [rf_u_M_tells]
  exact ((rf_s_aload_n rf_f_M_tells_0 rfl (rf_m0 _) (rf_s_iload_n rf_f_M_tells_1 rfl (rf_m0 _) (rf_s_putIS rf_f_M_tells_2 (rf_m0 _) fun h1 => (rf_s_iconst rf_f_M_tells_5 (rf_m0 _) (rf_s_iret rf_f_M_tells_6))))) : rf_den (rf_call d) rf_m_M_tells (0, [some (.inr (.inr (some o))), some (.inl a1)], [], h) = _)
theorem rf_u_M_at : rf_mt 122 = rf_m_M_at := rfl
theorem rf_f_M_at_0 : rf_Fb rf_m_M_at 0 1 (.iload_n 1) 0 0 0 0 [] [] = true := by decide +kernel
theorem rf_f_M_at_1 : rf_Fb rf_m_M_at 1 4 (.invokestatic 69) 117 1 0 0 [] [] = true := by decide +kernel
theorem rf_f_M_at_4 : rf_Fb rf_m_M_at 4 7 (.ifCond .ne 5) 9 0 0 0 [] [] = true := by decide +kernel
theorem rf_f_M_at_7 : rf_Fb rf_m_M_at 7 8 (.iconst (-1)) 0 0 0 0 [] [] = true := by decide +kernel
theorem rf_f_M_at_8 : rf_Fb rf_m_M_at 8 9 (.ireturn) 0 0 0 0 [] [] = true := by decide +kernel
theorem rf_f_M_at_9 : rf_Fb rf_m_M_at 9 10 (.aload_n 0) 0 0 0 0 [] [] = true := by decide +kernel
theorem rf_f_M_at_10 : rf_Fb rf_m_M_at 10 13 (.getfield 7) 5 0 2 0 [] [] = true := by decide +kernel
theorem rf_f_M_at_13 : rf_Fb rf_m_M_at 13 14 (.iload_n 1) 0 0 0 0 [] [] = true := by decide +kernel
theorem rf_f_M_at_14 : rf_Fb rf_m_M_at 14 15 (.iaload) 0 0 0 0 [] [] = true := by decide +kernel
theorem rf_f_M_at_15 : rf_Fb rf_m_M_at 15 18 (.ifCond .ge 9) 24 0 0 0 [] [] = true := by decide +kernel
theorem rf_f_M_at_18 : rf_Fb rf_m_M_at 18 19 (.aload_n 0) 0 0 0 0 [] [] = true := by decide +kernel
theorem rf_f_M_at_19 : rf_Fb rf_m_M_at 19 20 (.iconst 1) 0 0 0 0 [] [] = true := by decide +kernel
theorem rf_f_M_at_20 : rf_Fb rf_m_M_at 20 23 (.invokevirtual 73) 119 1 0 5 [] [] = true := by decide +kernel
theorem rf_f_M_at_23 : rf_Fb rf_m_M_at 23 24 (.ireturn) 0 0 0 0 [] [] = true := by decide +kernel
theorem rf_f_M_at_24 : rf_Fb rf_m_M_at 24 25 (.iload_n 2) 0 0 0 0 [] [] = true := by decide +kernel
theorem rf_f_M_at_25 : rf_Fb rf_m_M_at 25 26 (.i2l) 0 0 0 0 [] [] = true := by decide +kernel
theorem rf_f_M_at_26 : rf_Fb rf_m_M_at 26 27 (.lconst 0) 0 0 0 0 [] [] = true := by decide +kernel
theorem rf_f_M_at_27 : rf_Fb rf_m_M_at 27 28 (.aload_n 0) 0 0 0 0 [] [] = true := by decide +kernel
theorem rf_f_M_at_28 : rf_Fb rf_m_M_at 28 31 (.getfield 7) 5 0 2 0 [] [] = true := by decide +kernel
theorem rf_f_M_at_31 : rf_Fb rf_m_M_at 31 32 (.iload_n 1) 0 0 0 0 [] [] = true := by decide +kernel
theorem rf_f_M_at_32 : rf_Fb rf_m_M_at 32 33 (.iaload) 0 0 0 0 [] [] = true := by decide +kernel
theorem rf_f_M_at_33 : rf_Fb rf_m_M_at 33 34 (.iconst 1) 0 0 0 0 [] [] = true := by decide +kernel
theorem rf_f_M_at_34 : rf_Fb rf_m_M_at 34 35 (.isub) 0 0 0 0 [] [] = true := by decide +kernel
theorem rf_f_M_at_35 : rf_Fb rf_m_M_at 35 36 (.i2l) 0 0 0 0 [] [] = true := by decide +kernel
theorem rf_f_M_at_36 : rf_Fb rf_m_M_at 36 39 (.invokestatic 63) 118 3 0 0 [] [] = true := by decide +kernel
theorem rf_f_M_at_39 : rf_Fb rf_m_M_at 39 42 (.ifCond .eq 21) 60 0 0 0 [] [] = true := by decide +kernel
theorem rf_f_M_at_42 : rf_Fb rf_m_M_at 42 43 (.aload_n 0) 0 0 0 0 [] [] = true := by decide +kernel
theorem rf_f_M_at_43 : rf_Fb rf_m_M_at 43 44 (.aload_n 0) 0 0 0 0 [] [] = true := by decide +kernel
theorem rf_f_M_at_44 : rf_Fb rf_m_M_at 44 47 (.getfield 13) 5 1 2 0 [] [] = true := by decide +kernel
theorem rf_f_M_at_47 : rf_Fb rf_m_M_at 47 49 (.bipush 40) 0 0 0 0 [] [] = true := by decide +kernel
theorem rf_f_M_at_49 : rf_Fb rf_m_M_at 49 50 (.iload_n 1) 0 0 0 0 [] [] = true := by decide +kernel
theorem rf_f_M_at_50 : rf_Fb rf_m_M_at 50 51 (.imul) 0 0 0 0 [] [] = true := by decide +kernel
theorem rf_f_M_at_51 : rf_Fb rf_m_M_at 51 52 (.iload_n 2) 0 0 0 0 [] [] = true := by decide +kernel
theorem rf_f_M_at_52 : rf_Fb rf_m_M_at 52 53 (.iadd) 0 0 0 0 [] [] = true := by decide +kernel
theorem rf_f_M_at_53 : rf_Fb rf_m_M_at 53 54 (.iaload) 0 0 0 0 [] [] = true := by decide +kernel
theorem rf_f_M_at_54 : rf_Fb rf_m_M_at 54 57 (.invokevirtual 77) 121 1 0 5 [] [] = true := by decide +kernel
theorem rf_f_M_at_57 : rf_Fb rf_m_M_at 57 60 (.goto 8) 65 0 0 0 [] [] = true := by decide +kernel
theorem rf_f_M_at_60 : rf_Fb rf_m_M_at 60 61 (.aload_n 0) 0 0 0 0 [] [] = true := by decide +kernel
theorem rf_f_M_at_61 : rf_Fb rf_m_M_at 61 62 (.iconst 2) 0 0 0 0 [] [] = true := by decide +kernel
theorem rf_f_M_at_62 : rf_Fb rf_m_M_at 62 65 (.invokevirtual 73) 119 1 0 5 [] [] = true := by decide +kernel
theorem rf_f_M_at_65 : rf_Fb rf_m_M_at 65 66 (.ireturn) 0 0 0 0 [] [] = true := by decide +kernel
set_option maxRecDepth 20000 in
set_option maxHeartbeats 2000000 in
theorem rf_e_M_at (d : Nat) (o : Nat) (a1 : Int) (a2 : Int) (h : rf_H) : rf_call (d + 1) 122 [.inr (.inr (some o)), .inl a1, .inl a2] h = ((rf_call d 117 [.inl a1] h).bind fun q2 => rf_kI q2 fun x3 h1 => (if x3 = 0 then some (some (.inl (-1)), h1) else ((rf_gR h1 5 o 0).bind fun x4 => (rf_nn x4 fun k5 => ((rf_aI h1 k5 a1).bind fun x6 => (if x6 < 0 then (bif rf_isO h1.1 o 5 then ((rf_call d 119 [.inr (.inr (some o)), .inl 1] h1).bind fun q23 => rf_kI q23 fun x24 h22 => some (some (.inl x24), h22)) else none) else ((rf_gR h1 5 o 0).bind fun x7 => (rf_nn x7 fun k8 => ((rf_aI h1 k8 a1).bind fun x9 => ((rf_call d 118 [.inr (.inl a2), .inr (.inl 0), .inr (.inl (rf_w (x9 - 1)))] h1).bind fun q11 => rf_kI q11 fun x12 h10 => (if x12 = 0 then (bif rf_isO h10.1 o 5 then ((rf_call d 119 [.inr (.inr (some o)), .inl 2] h10).bind fun q14 => rf_kI q14 fun x15 h13 => some (some (.inl x15), h13)) else none) else ((rf_gR h10 5 o 1).bind fun x16 => (rf_nn x16 fun k17 => ((rf_aI h10 k17 (rf_w ((rf_w (40 * a1)) + a2))).bind fun x18 => (bif rf_isO h10.1 o 5 then ((rf_call d 121 [.inr (.inr (some o)), .inl x18] h10).bind fun q20 => rf_kI q20 fun x21 h19 => some (some (.inl x21), h19)) else none))))))))))))))) := by
  show rf_den (rf_call d) (rf_mt 122) _ = _
  rw [rf_u_M_at]
  exact ((rf_s_iload_n rf_f_M_at_0 rfl (rf_m0 _) (rf_s_invS0 rf_f_M_at_1 rfl rfl (rf_m0 _) fun q2 x3 h1 => (rf_s_if_ne rf_f_M_at_4 rfl (rf_m0 _) (rf_m0 _) (rf_s_aload_n rf_f_M_at_9 rfl (rf_m0 _) (rf_s_getAS rf_f_M_at_10 (rf_m0 _) fun x4 => (rf_s_iload_n rf_f_M_at_13 rfl (rf_m0 _) (rf_s_ialdR rf_f_M_at_14 (rf_m0 _) fun k5 x6 => (rf_s_if_ge rf_f_M_at_15 rfl (rf_m0 _) (rf_m0 _) (rf_s_iload_n rf_f_M_at_24 rfl (rf_m0 _) (rf_s_i2l rf_f_M_at_25 (rf_m0 _) (rf_s_lconst rf_f_M_at_26 (rf_m0 _) (rf_s_aload_n rf_f_M_at_27 rfl (rf_m0 _) (rf_s_getAS rf_f_M_at_28 (rf_m0 _) fun x7 => (rf_s_iload_n rf_f_M_at_31 rfl (rf_m0 _) (rf_s_ialdR rf_f_M_at_32 (rf_m0 _) fun k8 x9 => (rf_s_iconst rf_f_M_at_33 (rf_m0 _) (rf_s_isub rf_f_M_at_34 (rf_m0 _) (rf_s_i2l rf_f_M_at_35 (rf_m0 _) (rf_s_invS0 rf_f_M_at_36 rfl rfl (rf_m0 _) fun q11 x12 h10 => (rf_s_if_eq rf_f_M_at_39 rfl (rf_m0 _) (rf_m0 _) (rf_s_aload_n rf_f_M_at_60 rfl (rf_m0 _) (rf_s_iconst rf_f_M_at_61 (rf_m0 _) (rf_s_invV0S rf_f_M_at_62 rfl rfl (rf_m0 _) fun q14 x15 h13 => (rf_s_iret rf_f_M_at_65)))) (rf_s_aload_n rf_f_M_at_42 rfl (rf_m0 _) (rf_s_aload_n rf_f_M_at_43 rfl (rf_m0 _) (rf_s_getAS rf_f_M_at_44 (rf_m0 _) fun x16 => (rf_s_bipush rf_f_M_at_47 (rf_m0 _) (rf_s_iload_n rf_f_M_at_49 rfl (rf_m0 _) (rf_s_imul rf_f_M_at_50 (rf_m0 _) (rf_s_iload_n rf_f_M_at_51 rfl (rf_m0 _) (rf_s_iadd rf_f_M_at_52 (rf_m0 _) (rf_s_ialdR rf_f_M_at_53 (rf_m0 _) fun k17 x18 => (rf_s_invV0S rf_f_M_at_54 rfl rfl (rf_m0 _) fun q20 x21 h19 => (rf_s_goto rf_f_M_at_57 rfl (rf_m0 _) (rf_s_iret rf_f_M_at_65)))))))))))))))))))))))) (rf_s_aload_n rf_f_M_at_18 rfl (rf_m0 _) (rf_s_iconst rf_f_M_at_19 (rf_m0 _) (rf_s_invV0S rf_f_M_at_20 rfl rfl (rf_m0 _) fun q23 x24 h22 => (rf_s_iret rf_f_M_at_23))))))))) (rf_s_iconst rf_f_M_at_7 (rf_m0 _) (rf_s_iret rf_f_M_at_8))))) : rf_den (rf_call d) rf_m_M_at (0, [some (.inr (.inr (some o))), some (.inl a1), some (.inl a2)], [], h) = _)
theorem rf_u_M_tear : rf_mt 123 = rf_m_M_tear := rfl
theorem rf_f_M_tear_0 : rf_Fb rf_m_M_tear 0 1 (.iload_n 1) 0 0 0 0 [] [] = true := by decide +kernel
theorem rf_f_M_tear_1 : rf_Fb rf_m_M_tear 1 4 (.invokestatic 69) 117 1 0 0 [] [] = true := by decide +kernel
theorem rf_f_M_tear_4 : rf_Fb rf_m_M_tear 4 7 (.ifCond .ne 5) 9 0 0 0 [] [] = true := by decide +kernel
theorem rf_f_M_tear_7 : rf_Fb rf_m_M_tear 7 8 (.iconst (-1)) 0 0 0 0 [] [] = true := by decide +kernel
theorem rf_f_M_tear_8 : rf_Fb rf_m_M_tear 8 9 (.ireturn) 0 0 0 0 [] [] = true := by decide +kernel
theorem rf_f_M_tear_9 : rf_Fb rf_m_M_tear 9 10 (.aload_n 0) 0 0 0 0 [] [] = true := by decide +kernel
theorem rf_f_M_tear_10 : rf_Fb rf_m_M_tear 10 13 (.getfield 7) 5 0 2 0 [] [] = true := by decide +kernel
theorem rf_f_M_tear_13 : rf_Fb rf_m_M_tear 13 14 (.iload_n 1) 0 0 0 0 [] [] = true := by decide +kernel
theorem rf_f_M_tear_14 : rf_Fb rf_m_M_tear 14 15 (.iaload) 0 0 0 0 [] [] = true := by decide +kernel
theorem rf_f_M_tear_15 : rf_Fb rf_m_M_tear 15 18 (.ifCond .ge 9) 24 0 0 0 [] [] = true := by decide +kernel
theorem rf_f_M_tear_18 : rf_Fb rf_m_M_tear 18 19 (.aload_n 0) 0 0 0 0 [] [] = true := by decide +kernel
theorem rf_f_M_tear_19 : rf_Fb rf_m_M_tear 19 20 (.iconst 1) 0 0 0 0 [] [] = true := by decide +kernel
theorem rf_f_M_tear_20 : rf_Fb rf_m_M_tear 20 23 (.invokevirtual 73) 119 1 0 5 [] [] = true := by decide +kernel
theorem rf_f_M_tear_23 : rf_Fb rf_m_M_tear 23 24 (.ireturn) 0 0 0 0 [] [] = true := by decide +kernel
theorem rf_f_M_tear_24 : rf_Fb rf_m_M_tear 24 25 (.aload_n 0) 0 0 0 0 [] [] = true := by decide +kernel
theorem rf_f_M_tear_25 : rf_Fb rf_m_M_tear 25 28 (.getfield 7) 5 0 2 0 [] [] = true := by decide +kernel
theorem rf_f_M_tear_28 : rf_Fb rf_m_M_tear 28 29 (.iload_n 1) 0 0 0 0 [] [] = true := by decide +kernel
theorem rf_f_M_tear_29 : rf_Fb rf_m_M_tear 29 30 (.iconst (-1)) 0 0 0 0 [] [] = true := by decide +kernel
theorem rf_f_M_tear_30 : rf_Fb rf_m_M_tear 30 31 (.iastore) 0 0 0 0 [] [] = true := by decide +kernel
theorem rf_f_M_tear_31 : rf_Fb rf_m_M_tear 31 32 (.iconst 1) 0 0 0 0 [] [] = true := by decide +kernel
theorem rf_f_M_tear_32 : rf_Fb rf_m_M_tear 32 33 (.ireturn) 0 0 0 0 [] [] = true := by decide +kernel
set_option maxRecDepth 20000 in
set_option maxHeartbeats 2000000 in
theorem rf_e_M_tear (d : Nat) (o : Nat) (a1 : Int) (h : rf_H) : rf_call (d + 1) 123 [.inr (.inr (some o)), .inl a1] h = ((rf_call d 117 [.inl a1] h).bind fun q2 => rf_kI q2 fun x3 h1 => (if x3 = 0 then some (some (.inl (-1)), h1) else ((rf_gR h1 5 o 0).bind fun x4 => (rf_nn x4 fun k5 => ((rf_aI h1 k5 a1).bind fun x6 => (if x6 < 0 then (bif rf_isO h1.1 o 5 then ((rf_call d 119 [.inr (.inr (some o)), .inl 1] h1).bind fun q11 => rf_kI q11 fun x12 h10 => some (some (.inl x12), h10)) else none) else ((rf_gR h1 5 o 0).bind fun x7 => (rf_nn x7 fun k8 => ((rf_sI h1 k8 a1 (-1)).bind fun h9 => some (some (.inl 1), h9)))))))))) := by
  show rf_den (rf_call d) (rf_mt 123) _ = _
  rw [rf_u_M_tear]
  exact ((rf_s_iload_n rf_f_M_tear_0 rfl (rf_m0 _) (rf_s_invS0 rf_f_M_tear_1 rfl rfl (rf_m0 _) fun q2 x3 h1 => (rf_s_if_ne rf_f_M_tear_4 rfl (rf_m0 _) (rf_m0 _) (rf_s_aload_n rf_f_M_tear_9 rfl (rf_m0 _) (rf_s_getAS rf_f_M_tear_10 (rf_m0 _) fun x4 => (rf_s_iload_n rf_f_M_tear_13 rfl (rf_m0 _) (rf_s_ialdR rf_f_M_tear_14 (rf_m0 _) fun k5 x6 => (rf_s_if_ge rf_f_M_tear_15 rfl (rf_m0 _) (rf_m0 _) (rf_s_aload_n rf_f_M_tear_24 rfl (rf_m0 _) (rf_s_getAS rf_f_M_tear_25 (rf_m0 _) fun x7 => (rf_s_iload_n rf_f_M_tear_28 rfl (rf_m0 _) (rf_s_iconst rf_f_M_tear_29 (rf_m0 _) (rf_s_iastR rf_f_M_tear_30 (rf_m0 _) fun k8 h9 => (rf_s_iconst rf_f_M_tear_31 (rf_m0 _) (rf_s_iret rf_f_M_tear_32))))))) (rf_s_aload_n rf_f_M_tear_18 rfl (rf_m0 _) (rf_s_iconst rf_f_M_tear_19 (rf_m0 _) (rf_s_invV0S rf_f_M_tear_20 rfl rfl (rf_m0 _) fun q11 x12 h10 => (rf_s_iret rf_f_M_tear_23))))))))) (rf_s_iconst rf_f_M_tear_7 (rf_m0 _) (rf_s_iret rf_f_M_tear_8))))) : rf_den (rf_call d) rf_m_M_tear (0, [some (.inr (.inr (some o))), some (.inl a1)], [], h) = _)
noncomputable def rf_j_M_copy_95 (d : Nat) (o : Nat) (h : rf_H) : Option rf_R := rf_den (rf_call d) rf_m_M_copy (95, [some (.inr (.inr (some o))), none, none, none, none, none, none], [], h)
noncomputable def rf_j_M_copy_104 (d : Nat) (o : Nat) (l1 : Int) (l2 : Int) (l3 : Int) (l4 : Int) (l5 : Int) (l6 : Int) (h : rf_H) : Option rf_R := rf_den (rf_call d) rf_m_M_copy (104, [some (.inr (.inr (some o))), some (.inl l1), some (.inl l2), some (.inl l3), some (.inl l4), some (.inl l5), some (.inl l6)], [], h)
noncomputable def rf_j_M_copy_141 (d : Nat) (o : Nat) (l3 : Int) (l4 : Int) (l5 : Int) (l6 : Int) (h : rf_H) : Option rf_R := rf_den (rf_call d) rf_m_M_copy (141, [some (.inr (.inr (some o))), none, none, some (.inl l3), some (.inl l4), some (.inl l5), some (.inl l6)], [], h)
theorem rf_u_M_copy : rf_mt 124 = rf_m_M_copy := rfl
theorem rf_f_M_copy_0 : rf_Fb rf_m_M_copy 0 1 (.iload_n 1) 0 0 0 0 [] [] = true := by decide +kernel
theorem rf_f_M_copy_1 : rf_Fb rf_m_M_copy 1 4 (.invokestatic 69) 117 1 0 0 [] [] = true := by decide +kernel
theorem rf_f_M_copy_4 : rf_Fb rf_m_M_copy 4 7 (.ifCond .eq 10) 14 0 0 0 [] [] = true := by decide +kernel
theorem rf_f_M_copy_7 : rf_Fb rf_m_M_copy 7 8 (.iload_n 3) 0 0 0 0 [] [] = true := by decide +kernel
theorem rf_f_M_copy_8 : rf_Fb rf_m_M_copy 8 11 (.invokestatic 69) 117 1 0 0 [] [] = true := by decide +kernel
theorem rf_f_M_copy_11 : rf_Fb rf_m_M_copy 11 14 (.ifCond .ne 5) 16 0 0 0 [] [] = true := by decide +kernel
theorem rf_f_M_copy_14 : rf_Fb rf_m_M_copy 14 15 (.iconst (-1)) 0 0 0 0 [] [] = true := by decide +kernel
theorem rf_f_M_copy_15 : rf_Fb rf_m_M_copy 15 16 (.ireturn) 0 0 0 0 [] [] = true := by decide +kernel
theorem rf_f_M_copy_16 : rf_Fb rf_m_M_copy 16 18 (.iload 5) 0 0 0 0 [] [] = true := by decide +kernel
theorem rf_f_M_copy_18 : rf_Fb rf_m_M_copy 18 21 (.ifCond .ge 9) 27 0 0 0 [] [] = true := by decide +kernel
theorem rf_f_M_copy_21 : rf_Fb rf_m_M_copy 21 22 (.aload_n 0) 0 0 0 0 [] [] = true := by decide +kernel
theorem rf_f_M_copy_22 : rf_Fb rf_m_M_copy 22 23 (.iconst 5) 0 0 0 0 [] [] = true := by decide +kernel
theorem rf_f_M_copy_23 : rf_Fb rf_m_M_copy 23 26 (.invokevirtual 73) 119 1 0 5 [] [] = true := by decide +kernel
theorem rf_f_M_copy_26 : rf_Fb rf_m_M_copy 26 27 (.ireturn) 0 0 0 0 [] [] = true := by decide +kernel
theorem rf_f_M_copy_27 : rf_Fb rf_m_M_copy 27 28 (.aload_n 0) 0 0 0 0 [] [] = true := by decide +kernel
theorem rf_f_M_copy_28 : rf_Fb rf_m_M_copy 28 31 (.getfield 7) 5 0 2 0 [] [] = true := by decide +kernel
theorem rf_f_M_copy_31 : rf_Fb rf_m_M_copy 31 32 (.iload_n 1) 0 0 0 0 [] [] = true := by decide +kernel
theorem rf_f_M_copy_32 : rf_Fb rf_m_M_copy 32 33 (.iaload) 0 0 0 0 [] [] = true := by decide +kernel
theorem rf_f_M_copy_33 : rf_Fb rf_m_M_copy 33 36 (.ifCond .lt 12) 45 0 0 0 [] [] = true := by decide +kernel
theorem rf_f_M_copy_36 : rf_Fb rf_m_M_copy 36 37 (.aload_n 0) 0 0 0 0 [] [] = true := by decide +kernel
theorem rf_f_M_copy_37 : rf_Fb rf_m_M_copy 37 40 (.getfield 7) 5 0 2 0 [] [] = true := by decide +kernel
theorem rf_f_M_copy_40 : rf_Fb rf_m_M_copy 40 41 (.iload_n 3) 0 0 0 0 [] [] = true := by decide +kernel
theorem rf_f_M_copy_41 : rf_Fb rf_m_M_copy 41 42 (.iaload) 0 0 0 0 [] [] = true := by decide +kernel
theorem rf_f_M_copy_42 : rf_Fb rf_m_M_copy 42 45 (.ifCond .ge 9) 51 0 0 0 [] [] = true := by decide +kernel
theorem rf_f_M_copy_45 : rf_Fb rf_m_M_copy 45 46 (.aload_n 0) 0 0 0 0 [] [] = true := by decide +kernel
theorem rf_f_M_copy_46 : rf_Fb rf_m_M_copy 46 47 (.iconst 1) 0 0 0 0 [] [] = true := by decide +kernel
theorem rf_f_M_copy_47 : rf_Fb rf_m_M_copy 47 50 (.invokevirtual 73) 119 1 0 5 [] [] = true := by decide +kernel
theorem rf_f_M_copy_50 : rf_Fb rf_m_M_copy 50 51 (.ireturn) 0 0 0 0 [] [] = true := by decide +kernel
theorem rf_f_M_copy_51 : rf_Fb rf_m_M_copy 51 52 (.iload_n 2) 0 0 0 0 [] [] = true := by decide +kernel
theorem rf_f_M_copy_52 : rf_Fb rf_m_M_copy 52 55 (.ifCond .lt 43) 95 0 0 0 [] [] = true := by decide +kernel
theorem rf_f_M_copy_55 : rf_Fb rf_m_M_copy 55 57 (.iload 4) 0 0 0 0 [] [] = true := by decide +kernel
theorem rf_f_M_copy_57 : rf_Fb rf_m_M_copy 57 60 (.ifCond .lt 38) 95 0 0 0 [] [] = true := by decide +kernel
theorem rf_f_M_copy_60 : rf_Fb rf_m_M_copy 60 61 (.iload_n 2) 0 0 0 0 [] [] = true := by decide +kernel
theorem rf_f_M_copy_61 : rf_Fb rf_m_M_copy 61 62 (.i2l) 0 0 0 0 [] [] = true := by decide +kernel
theorem rf_f_M_copy_62 : rf_Fb rf_m_M_copy 62 64 (.iload 5) 0 0 0 0 [] [] = true := by decide +kernel
theorem rf_f_M_copy_64 : rf_Fb rf_m_M_copy 64 65 (.i2l) 0 0 0 0 [] [] = true := by decide +kernel
theorem rf_f_M_copy_65 : rf_Fb rf_m_M_copy 65 66 (.ladd) 0 0 0 0 [] [] = true := by decide +kernel
theorem rf_f_M_copy_66 : rf_Fb rf_m_M_copy 66 67 (.aload_n 0) 0 0 0 0 [] [] = true := by decide +kernel
theorem rf_f_M_copy_67 : rf_Fb rf_m_M_copy 67 70 (.getfield 7) 5 0 2 0 [] [] = true := by decide +kernel
theorem rf_f_M_copy_70 : rf_Fb rf_m_M_copy 70 71 (.iload_n 1) 0 0 0 0 [] [] = true := by decide +kernel
theorem rf_f_M_copy_71 : rf_Fb rf_m_M_copy 71 72 (.iaload) 0 0 0 0 [] [] = true := by decide +kernel
theorem rf_f_M_copy_72 : rf_Fb rf_m_M_copy 72 73 (.i2l) 0 0 0 0 [] [] = true := by decide +kernel
theorem rf_f_M_copy_73 : rf_Fb rf_m_M_copy 73 74 (.lcmp) 0 0 0 0 [] [] = true := by decide +kernel
theorem rf_f_M_copy_74 : rf_Fb rf_m_M_copy 74 77 (.ifCond .gt 21) 95 0 0 0 [] [] = true := by decide +kernel
theorem rf_f_M_copy_77 : rf_Fb rf_m_M_copy 77 79 (.iload 4) 0 0 0 0 [] [] = true := by decide +kernel
theorem rf_f_M_copy_79 : rf_Fb rf_m_M_copy 79 80 (.i2l) 0 0 0 0 [] [] = true := by decide +kernel
theorem rf_f_M_copy_80 : rf_Fb rf_m_M_copy 80 82 (.iload 5) 0 0 0 0 [] [] = true := by decide +kernel
theorem rf_f_M_copy_82 : rf_Fb rf_m_M_copy 82 83 (.i2l) 0 0 0 0 [] [] = true := by decide +kernel
theorem rf_f_M_copy_83 : rf_Fb rf_m_M_copy 83 84 (.ladd) 0 0 0 0 [] [] = true := by decide +kernel
theorem rf_f_M_copy_84 : rf_Fb rf_m_M_copy 84 85 (.aload_n 0) 0 0 0 0 [] [] = true := by decide +kernel
theorem rf_f_M_copy_85 : rf_Fb rf_m_M_copy 85 88 (.getfield 7) 5 0 2 0 [] [] = true := by decide +kernel
theorem rf_f_M_copy_88 : rf_Fb rf_m_M_copy 88 89 (.iload_n 3) 0 0 0 0 [] [] = true := by decide +kernel
theorem rf_f_M_copy_89 : rf_Fb rf_m_M_copy 89 90 (.iaload) 0 0 0 0 [] [] = true := by decide +kernel
theorem rf_f_M_copy_90 : rf_Fb rf_m_M_copy 90 91 (.i2l) 0 0 0 0 [] [] = true := by decide +kernel
theorem rf_f_M_copy_91 : rf_Fb rf_m_M_copy 91 92 (.lcmp) 0 0 0 0 [] [] = true := by decide +kernel
theorem rf_f_M_copy_92 : rf_Fb rf_m_M_copy 92 95 (.ifCond .le 9) 101 0 0 0 [] [true, false, false, false, false, false, false] = true := by decide +kernel
theorem rf_f_M_copy_95 : rf_Fb rf_m_M_copy 95 96 (.aload_n 0) 0 0 0 0 [] [] = true := by decide +kernel
theorem rf_f_M_copy_96 : rf_Fb rf_m_M_copy 96 97 (.iconst 2) 0 0 0 0 [] [] = true := by decide +kernel
theorem rf_f_M_copy_97 : rf_Fb rf_m_M_copy 97 100 (.invokevirtual 73) 119 1 0 5 [] [] = true := by decide +kernel
theorem rf_f_M_copy_100 : rf_Fb rf_m_M_copy 100 101 (.ireturn) 0 0 0 0 [] [] = true := by decide +kernel
theorem rf_f_M_copy_101 : rf_Fb rf_m_M_copy 101 102 (.iconst 0) 0 0 0 0 [] [] = true := by decide +kernel
theorem rf_f_M_copy_102 : rf_Fb rf_m_M_copy 102 104 (.istore 6) 0 0 0 0 [] [true, true, true, true, true, true, true] = true := by decide +kernel
theorem rf_f_M_copy_104 : rf_Fb rf_m_M_copy 104 106 (.iload 6) 0 0 0 0 [] [] = true := by decide +kernel
theorem rf_f_M_copy_106 : rf_Fb rf_m_M_copy 106 108 (.iload 5) 0 0 0 0 [] [] = true := by decide +kernel
theorem rf_f_M_copy_108 : rf_Fb rf_m_M_copy 108 111 (.if_icmp .ge 30) 138 0 0 0 [] [] = true := by decide +kernel
theorem rf_f_M_copy_111 : rf_Fb rf_m_M_copy 111 112 (.aload_n 0) 0 0 0 0 [] [] = true := by decide +kernel
theorem rf_f_M_copy_112 : rf_Fb rf_m_M_copy 112 115 (.getfield 35) 5 12 2 0 [] [] = true := by decide +kernel
theorem rf_f_M_copy_115 : rf_Fb rf_m_M_copy 115 117 (.iload 6) 0 0 0 0 [] [] = true := by decide +kernel
theorem rf_f_M_copy_117 : rf_Fb rf_m_M_copy 117 118 (.aload_n 0) 0 0 0 0 [] [] = true := by decide +kernel
theorem rf_f_M_copy_118 : rf_Fb rf_m_M_copy 118 121 (.getfield 13) 5 1 2 0 [] [] = true := by decide +kernel
theorem rf_f_M_copy_121 : rf_Fb rf_m_M_copy 121 123 (.bipush 40) 0 0 0 0 [] [] = true := by decide +kernel
theorem rf_f_M_copy_123 : rf_Fb rf_m_M_copy 123 124 (.iload_n 1) 0 0 0 0 [] [] = true := by decide +kernel
theorem rf_f_M_copy_124 : rf_Fb rf_m_M_copy 124 125 (.imul) 0 0 0 0 [] [] = true := by decide +kernel
theorem rf_f_M_copy_125 : rf_Fb rf_m_M_copy 125 126 (.iload_n 2) 0 0 0 0 [] [] = true := by decide +kernel
theorem rf_f_M_copy_126 : rf_Fb rf_m_M_copy 126 127 (.iadd) 0 0 0 0 [] [] = true := by decide +kernel
theorem rf_f_M_copy_127 : rf_Fb rf_m_M_copy 127 129 (.iload 6) 0 0 0 0 [] [] = true := by decide +kernel
theorem rf_f_M_copy_129 : rf_Fb rf_m_M_copy 129 130 (.iadd) 0 0 0 0 [] [] = true := by decide +kernel
theorem rf_f_M_copy_130 : rf_Fb rf_m_M_copy 130 131 (.iaload) 0 0 0 0 [] [] = true := by decide +kernel
theorem rf_f_M_copy_131 : rf_Fb rf_m_M_copy 131 132 (.iastore) 0 0 0 0 [] [] = true := by decide +kernel
theorem rf_f_M_copy_132 : rf_Fb rf_m_M_copy 132 135 (.iinc 6 1) 0 0 0 0 [] [] = true := by decide +kernel
theorem rf_f_M_copy_135 : rf_Fb rf_m_M_copy 135 138 (.goto (-31)) 104 0 0 0 [] [] = true := by decide +kernel
theorem rf_f_M_copy_138 : rf_Fb rf_m_M_copy 138 139 (.iconst 0) 0 0 0 0 [] [] = true := by decide +kernel
theorem rf_f_M_copy_139 : rf_Fb rf_m_M_copy 139 141 (.istore 6) 0 0 0 0 [] [true, false, false, true, true, true, true] = true := by decide +kernel
theorem rf_f_M_copy_141 : rf_Fb rf_m_M_copy 141 143 (.iload 6) 0 0 0 0 [] [] = true := by decide +kernel
theorem rf_f_M_copy_143 : rf_Fb rf_m_M_copy 143 145 (.iload 5) 0 0 0 0 [] [] = true := by decide +kernel
theorem rf_f_M_copy_145 : rf_Fb rf_m_M_copy 145 148 (.if_icmp .ge 31) 176 0 0 0 [] [] = true := by decide +kernel
theorem rf_f_M_copy_148 : rf_Fb rf_m_M_copy 148 149 (.aload_n 0) 0 0 0 0 [] [] = true := by decide +kernel
theorem rf_f_M_copy_149 : rf_Fb rf_m_M_copy 149 152 (.getfield 13) 5 1 2 0 [] [] = true := by decide +kernel
theorem rf_f_M_copy_152 : rf_Fb rf_m_M_copy 152 154 (.bipush 40) 0 0 0 0 [] [] = true := by decide +kernel
theorem rf_f_M_copy_154 : rf_Fb rf_m_M_copy 154 155 (.iload_n 3) 0 0 0 0 [] [] = true := by decide +kernel
theorem rf_f_M_copy_155 : rf_Fb rf_m_M_copy 155 156 (.imul) 0 0 0 0 [] [] = true := by decide +kernel
theorem rf_f_M_copy_156 : rf_Fb rf_m_M_copy 156 158 (.iload 4) 0 0 0 0 [] [] = true := by decide +kernel
theorem rf_f_M_copy_158 : rf_Fb rf_m_M_copy 158 159 (.iadd) 0 0 0 0 [] [] = true := by decide +kernel
theorem rf_f_M_copy_159 : rf_Fb rf_m_M_copy 159 161 (.iload 6) 0 0 0 0 [] [] = true := by decide +kernel
theorem rf_f_M_copy_161 : rf_Fb rf_m_M_copy 161 162 (.iadd) 0 0 0 0 [] [] = true := by decide +kernel
theorem rf_f_M_copy_162 : rf_Fb rf_m_M_copy 162 163 (.aload_n 0) 0 0 0 0 [] [] = true := by decide +kernel
theorem rf_f_M_copy_163 : rf_Fb rf_m_M_copy 163 166 (.getfield 35) 5 12 2 0 [] [] = true := by decide +kernel
theorem rf_f_M_copy_166 : rf_Fb rf_m_M_copy 166 168 (.iload 6) 0 0 0 0 [] [] = true := by decide +kernel
theorem rf_f_M_copy_168 : rf_Fb rf_m_M_copy 168 169 (.iaload) 0 0 0 0 [] [] = true := by decide +kernel
theorem rf_f_M_copy_169 : rf_Fb rf_m_M_copy 169 170 (.iastore) 0 0 0 0 [] [] = true := by decide +kernel
theorem rf_f_M_copy_170 : rf_Fb rf_m_M_copy 170 173 (.iinc 6 1) 0 0 0 0 [] [] = true := by decide +kernel
theorem rf_f_M_copy_173 : rf_Fb rf_m_M_copy 173 176 (.goto (-32)) 141 0 0 0 [] [] = true := by decide +kernel
theorem rf_f_M_copy_176 : rf_Fb rf_m_M_copy 176 177 (.iconst 1) 0 0 0 0 [] [] = true := by decide +kernel
theorem rf_f_M_copy_177 : rf_Fb rf_m_M_copy 177 178 (.ireturn) 0 0 0 0 [] [] = true := by decide +kernel
set_option maxRecDepth 20000 in
set_option maxHeartbeats 2000000 in
theorem rf_e_M_copy (d : Nat) (o : Nat) (a1 : Int) (a2 : Int) (a3 : Int) (a4 : Int) (a5 : Int) (h : rf_H) : rf_call (d + 1) 124 [.inr (.inr (some o)), .inl a1, .inl a2, .inl a3, .inl a4, .inl a5] h = ((rf_call d 117 [.inl a1] h).bind fun q2 => rf_kI q2 fun x3 h1 => (if x3 = 0 then some (some (.inl (-1)), h1) else ((rf_call d 117 [.inl a3] h1).bind fun q5 => rf_kI q5 fun x6 h4 => (if x6 = 0 then some (some (.inl (-1)), h4) else (if a5 < 0 then (bif rf_isO h4.1 o 5 then ((rf_call d 119 [.inr (.inr (some o)), .inl 5] h4).bind fun q26 => rf_kI q26 fun x27 h25 => some (some (.inl x27), h25)) else none) else ((rf_gR h4 5 o 0).bind fun x7 => (rf_nn x7 fun k8 => ((rf_aI h4 k8 a1).bind fun x9 => (if x9 < 0 then (bif rf_isO h4.1 o 5 then ((rf_call d 119 [.inr (.inr (some o)), .inl 1] h4).bind fun q11 => rf_kI q11 fun x12 h10 => some (some (.inl x12), h10)) else none) else ((rf_gR h4 5 o 0).bind fun x13 => (rf_nn x13 fun k14 => ((rf_aI h4 k14 a3).bind fun x15 => (if x15 < 0 then (bif rf_isO h4.1 o 5 then ((rf_call d 119 [.inr (.inr (some o)), .inl 1] h4).bind fun q23 => rf_kI q23 fun x24 h22 => some (some (.inl x24), h22)) else none) else (if a2 < 0 then rf_j_M_copy_95 d o h4 else (if a4 < 0 then rf_j_M_copy_95 d o h4 else ((rf_gR h4 5 o 0).bind fun x16 => (rf_nn x16 fun k17 => ((rf_aI h4 k17 a1).bind fun x18 => (if 0 < (rf_cmp (rf_wl (a2 + a5)) x18) then rf_j_M_copy_95 d o h4 else ((rf_gR h4 5 o 0).bind fun x19 => (rf_nn x19 fun k20 => ((rf_aI h4 k20 a3).bind fun x21 => (if 0 < (rf_cmp (rf_wl (a4 + a5)) x21) then rf_j_M_copy_95 d o h4 else rf_j_M_copy_104 d o a1 a2 a3 a4 a5 0 h4))))))))))))))))))))))) := by
  show rf_den (rf_call d) (rf_mt 124) _ = _
  rw [rf_u_M_copy]
  exact ((rf_s_iload_n rf_f_M_copy_0 rfl (rf_m0 _) (rf_s_invS0 rf_f_M_copy_1 rfl rfl (rf_m0 _) fun q2 x3 h1 => (rf_s_if_eq rf_f_M_copy_4 rfl (rf_m0 _) (rf_m0 _) (rf_s_iconst rf_f_M_copy_14 (rf_m0 _) (rf_s_iret rf_f_M_copy_15)) (rf_s_iload_n rf_f_M_copy_7 rfl (rf_m0 _) (rf_s_invS0 rf_f_M_copy_8 rfl rfl (rf_m0 _) fun q5 x6 h4 => (rf_s_if_ne rf_f_M_copy_11 rfl (rf_m0 _) (rf_m0 _) (rf_s_iload rf_f_M_copy_16 rfl (rf_m0 _) (rf_s_if_ge rf_f_M_copy_18 rfl (rf_m0 _) (rf_m0 _) (rf_s_aload_n rf_f_M_copy_27 rfl (rf_m0 _) (rf_s_getAS rf_f_M_copy_28 (rf_m0 _) fun x7 => (rf_s_iload_n rf_f_M_copy_31 rfl (rf_m0 _) (rf_s_ialdR rf_f_M_copy_32 (rf_m0 _) fun k8 x9 => (rf_s_if_lt rf_f_M_copy_33 rfl (rf_m0 _) (rf_m0 _) (rf_s_aload_n rf_f_M_copy_45 rfl (rf_m0 _) (rf_s_iconst rf_f_M_copy_46 (rf_m0 _) (rf_s_invV0S rf_f_M_copy_47 rfl rfl (rf_m0 _) fun q11 x12 h10 => (rf_s_iret rf_f_M_copy_50)))) (rf_s_aload_n rf_f_M_copy_36 rfl (rf_m0 _) (rf_s_getAS rf_f_M_copy_37 (rf_m0 _) fun x13 => (rf_s_iload_n rf_f_M_copy_40 rfl (rf_m0 _) (rf_s_ialdR rf_f_M_copy_41 (rf_m0 _) fun k14 x15 => (rf_s_if_ge rf_f_M_copy_42 rfl (rf_m0 _) (rf_m0 _) (rf_s_iload_n rf_f_M_copy_51 rfl (rf_m0 _) (rf_s_if_lt rf_f_M_copy_52 rfl rfl (rf_m0 _) rfl (rf_s_iload rf_f_M_copy_55 rfl (rf_m0 _) (rf_s_if_lt rf_f_M_copy_57 rfl rfl (rf_m0 _) rfl (rf_s_iload_n rf_f_M_copy_60 rfl (rf_m0 _) (rf_s_i2l rf_f_M_copy_61 (rf_m0 _) (rf_s_iload rf_f_M_copy_62 rfl (rf_m0 _) (rf_s_i2l rf_f_M_copy_64 (rf_m0 _) (rf_s_ladd rf_f_M_copy_65 (rf_m0 _) (rf_s_aload_n rf_f_M_copy_66 rfl (rf_m0 _) (rf_s_getAS rf_f_M_copy_67 (rf_m0 _) fun x16 => (rf_s_iload_n rf_f_M_copy_70 rfl (rf_m0 _) (rf_s_ialdR rf_f_M_copy_71 (rf_m0 _) fun k17 x18 => (rf_s_i2l rf_f_M_copy_72 (rf_m0 _) (rf_s_lcmp rf_f_M_copy_73 (rf_m0 _) (rf_s_if_gt rf_f_M_copy_74 rfl rfl (rf_m0 _) rfl (rf_s_iload rf_f_M_copy_77 rfl (rf_m0 _) (rf_s_i2l rf_f_M_copy_79 (rf_m0 _) (rf_s_iload rf_f_M_copy_80 rfl (rf_m0 _) (rf_s_i2l rf_f_M_copy_82 (rf_m0 _) (rf_s_ladd rf_f_M_copy_83 (rf_m0 _) (rf_s_aload_n rf_f_M_copy_84 rfl (rf_m0 _) (rf_s_getAS rf_f_M_copy_85 (rf_m0 _) fun x19 => (rf_s_iload_n rf_f_M_copy_88 rfl (rf_m0 _) (rf_s_ialdR rf_f_M_copy_89 (rf_m0 _) fun k20 x21 => (rf_s_i2l rf_f_M_copy_90 (rf_m0 _) (rf_s_lcmp rf_f_M_copy_91 (rf_m0 _) (rf_s_if_le rf_f_M_copy_92 rfl (rf_m0 _) rfl (rf_s_iconst rf_f_M_copy_101 (rf_m0 _) (rf_s_istore rf_f_M_copy_102 rfl rfl)) rfl)))))))))))))))))))))))))))) (rf_s_aload_n rf_f_M_copy_45 rfl (rf_m0 _) (rf_s_iconst rf_f_M_copy_46 (rf_m0 _) (rf_s_invV0S rf_f_M_copy_47 rfl rfl (rf_m0 _) fun q23 x24 h22 => (rf_s_iret rf_f_M_copy_50)))))))))))))) (rf_s_aload_n rf_f_M_copy_21 rfl (rf_m0 _) (rf_s_iconst rf_f_M_copy_22 (rf_m0 _) (rf_s_invV0S rf_f_M_copy_23 rfl rfl (rf_m0 _) fun q26 x27 h25 => (rf_s_iret rf_f_M_copy_26)))))) (rf_s_iconst rf_f_M_copy_14 (rf_m0 _) (rf_s_iret rf_f_M_copy_15)))))))) : rf_den (rf_call d) rf_m_M_copy (0, [some (.inr (.inr (some o))), some (.inl a1), some (.inl a2), some (.inl a3), some (.inl a4), some (.inl a5), none], [], h) = _)
set_option maxRecDepth 20000 in
set_option maxHeartbeats 2000000 in
theorem rf_e_M_copy_95 (d : Nat) (o : Nat) (h : rf_H) : rf_j_M_copy_95 d o h = (bif rf_isO h.1 o 5 then ((rf_call d 119 [.inr (.inr (some o)), .inl 2] h).bind fun q2 => rf_kI q2 fun x3 h1 => some (some (.inl x3), h1)) else none) :=
  ((rf_s_aload_n rf_f_M_copy_95 rfl (rf_m0 _) (rf_s_iconst rf_f_M_copy_96 (rf_m0 _) (rf_s_invV0S rf_f_M_copy_97 rfl rfl (rf_m0 _) fun q2 x3 h1 => (rf_s_iret rf_f_M_copy_100)))) : rf_den (rf_call d) rf_m_M_copy (95, [some (.inr (.inr (some o))), none, none, none, none, none, none], [], h) = _)
set_option maxRecDepth 20000 in
set_option maxHeartbeats 2000000 in
theorem rf_e_M_copy_104 (d : Nat) (o : Nat) (l1 : Int) (l2 : Int) (l3 : Int) (l4 : Int) (l5 : Int) (l6 : Int) (h : rf_H) : rf_j_M_copy_104 d o l1 l2 l3 l4 l5 l6 h = (if l6 < l5 then ((rf_gR h 5 o 12).bind fun x1 => ((rf_gR h 5 o 1).bind fun x2 => (rf_nn x2 fun k3 => ((rf_aI h k3 (rf_w ((rf_w ((rf_w (40 * l1)) + l2)) + l6))).bind fun x4 => (rf_nn x1 fun k5 => ((rf_sI h k5 l6 x4).bind fun h6 => rf_j_M_copy_104 d o l1 l2 l3 l4 l5 (rf_w (l6 + 1)) h6)))))) else rf_j_M_copy_141 d o l3 l4 l5 0 h) :=
  ((rf_s_iload rf_f_M_copy_104 rfl (rf_m0 _) (rf_s_iload rf_f_M_copy_106 rfl (rf_m0 _) (rf_s_icmp_ge rf_f_M_copy_108 rfl (rf_m0 _) (rf_m0 _) (rf_s_iconst rf_f_M_copy_138 (rf_m0 _) (rf_s_istore rf_f_M_copy_139 rfl rfl)) (rf_s_aload_n rf_f_M_copy_111 rfl (rf_m0 _) (rf_s_getAS rf_f_M_copy_112 (rf_m0 _) fun x1 => (rf_s_iload rf_f_M_copy_115 rfl (rf_m0 _) (rf_s_aload_n rf_f_M_copy_117 rfl (rf_m0 _) (rf_s_getAS rf_f_M_copy_118 (rf_m0 _) fun x2 => (rf_s_bipush rf_f_M_copy_121 (rf_m0 _) (rf_s_iload_n rf_f_M_copy_123 rfl (rf_m0 _) (rf_s_imul rf_f_M_copy_124 (rf_m0 _) (rf_s_iload_n rf_f_M_copy_125 rfl (rf_m0 _) (rf_s_iadd rf_f_M_copy_126 (rf_m0 _) (rf_s_iload rf_f_M_copy_127 rfl (rf_m0 _) (rf_s_iadd rf_f_M_copy_129 (rf_m0 _) (rf_s_ialdR rf_f_M_copy_130 (rf_m0 _) fun k3 x4 => (rf_s_iastR rf_f_M_copy_131 (rf_m0 _) fun k5 h6 => (rf_s_iinc (L' := [some (.inr (.inr (some o))), some (.inl l1), some (.inl l2), some (.inl l3), some (.inl l4), some (.inl l5), some (.inl (rf_w (l6 + 1)))]) rf_f_M_copy_132 rfl rfl (rf_s_goto rf_f_M_copy_135 rfl rfl rfl))))))))))))))))))) : rf_den (rf_call d) rf_m_M_copy (104, [some (.inr (.inr (some o))), some (.inl l1), some (.inl l2), some (.inl l3), some (.inl l4), some (.inl l5), some (.inl l6)], [], h) = _)
set_option maxRecDepth 20000 in
set_option maxHeartbeats 2000000 in
theorem rf_e_M_copy_141 (d : Nat) (o : Nat) (l3 : Int) (l4 : Int) (l5 : Int) (l6 : Int) (h : rf_H) : rf_j_M_copy_141 d o l3 l4 l5 l6 h = (if l6 < l5 then ((rf_gR h 5 o 1).bind fun x1 => ((rf_gR h 5 o 12).bind fun x2 => (rf_nn x2 fun k3 => ((rf_aI h k3 l6).bind fun x4 => (rf_nn x1 fun k5 => ((rf_sI h k5 (rf_w ((rf_w ((rf_w (40 * l3)) + l4)) + l6)) x4).bind fun h6 => rf_j_M_copy_141 d o l3 l4 l5 (rf_w (l6 + 1)) h6)))))) else some (some (.inl 1), h)) :=
  ((rf_s_iload rf_f_M_copy_141 rfl (rf_m0 _) (rf_s_iload rf_f_M_copy_143 rfl (rf_m0 _) (rf_s_icmp_ge rf_f_M_copy_145 rfl (rf_m0 _) (rf_m0 _) (rf_s_iconst rf_f_M_copy_176 (rf_m0 _) (rf_s_iret rf_f_M_copy_177)) (rf_s_aload_n rf_f_M_copy_148 rfl (rf_m0 _) (rf_s_getAS rf_f_M_copy_149 (rf_m0 _) fun x1 => (rf_s_bipush rf_f_M_copy_152 (rf_m0 _) (rf_s_iload_n rf_f_M_copy_154 rfl (rf_m0 _) (rf_s_imul rf_f_M_copy_155 (rf_m0 _) (rf_s_iload rf_f_M_copy_156 rfl (rf_m0 _) (rf_s_iadd rf_f_M_copy_158 (rf_m0 _) (rf_s_iload rf_f_M_copy_159 rfl (rf_m0 _) (rf_s_iadd rf_f_M_copy_161 (rf_m0 _) (rf_s_aload_n rf_f_M_copy_162 rfl (rf_m0 _) (rf_s_getAS rf_f_M_copy_163 (rf_m0 _) fun x2 => (rf_s_iload rf_f_M_copy_166 rfl (rf_m0 _) (rf_s_ialdR rf_f_M_copy_168 (rf_m0 _) fun k3 x4 => (rf_s_iastR rf_f_M_copy_169 (rf_m0 _) fun k5 h6 => (rf_s_iinc (L' := [some (.inr (.inr (some o))), none, none, some (.inl l3), some (.inl l4), some (.inl l5), some (.inl (rf_w (l6 + 1)))]) rf_f_M_copy_170 rfl rfl (rf_s_goto rf_f_M_copy_173 rfl rfl rfl))))))))))))))))))) : rf_den (rf_call d) rf_m_M_copy (141, [some (.inr (.inr (some o))), none, none, some (.inl l3), some (.inl l4), some (.inl l5), some (.inl l6)], [], h) = _)
noncomputable def rf_j_M_mean_44 (d : Nat) (o : Nat) (l1 : Int) (l2 : Int) (l4 : Int) (h : rf_H) : Option rf_R := rf_den (rf_call d) rf_m_M_mean (44, [some (.inr (.inr (some o))), some (.inl l1), some (.inr (.inl l2)), none, some (.inl l4)], [], h)
theorem rf_u_M_mean : rf_mt 125 = rf_m_M_mean := rfl
theorem rf_f_M_mean_0 : rf_Fb rf_m_M_mean 0 1 (.iload_n 1) 0 0 0 0 [] [] = true := by decide +kernel
theorem rf_f_M_mean_1 : rf_Fb rf_m_M_mean 1 4 (.invokestatic 69) 117 1 0 0 [] [] = true := by decide +kernel
theorem rf_f_M_mean_4 : rf_Fb rf_m_M_mean 4 7 (.ifCond .ne 5) 9 0 0 0 [] [] = true := by decide +kernel
theorem rf_f_M_mean_7 : rf_Fb rf_m_M_mean 7 8 (.iconst (-1)) 0 0 0 0 [] [] = true := by decide +kernel
theorem rf_f_M_mean_8 : rf_Fb rf_m_M_mean 8 9 (.ireturn) 0 0 0 0 [] [] = true := by decide +kernel
theorem rf_f_M_mean_9 : rf_Fb rf_m_M_mean 9 10 (.aload_n 0) 0 0 0 0 [] [] = true := by decide +kernel
theorem rf_f_M_mean_10 : rf_Fb rf_m_M_mean 10 13 (.getfield 7) 5 0 2 0 [] [] = true := by decide +kernel
theorem rf_f_M_mean_13 : rf_Fb rf_m_M_mean 13 14 (.iload_n 1) 0 0 0 0 [] [] = true := by decide +kernel
theorem rf_f_M_mean_14 : rf_Fb rf_m_M_mean 14 15 (.iaload) 0 0 0 0 [] [] = true := by decide +kernel
theorem rf_f_M_mean_15 : rf_Fb rf_m_M_mean 15 18 (.ifCond .ge 9) 24 0 0 0 [] [] = true := by decide +kernel
theorem rf_f_M_mean_18 : rf_Fb rf_m_M_mean 18 19 (.aload_n 0) 0 0 0 0 [] [] = true := by decide +kernel
theorem rf_f_M_mean_19 : rf_Fb rf_m_M_mean 19 20 (.iconst 1) 0 0 0 0 [] [] = true := by decide +kernel
theorem rf_f_M_mean_20 : rf_Fb rf_m_M_mean 20 23 (.invokevirtual 73) 119 1 0 5 [] [] = true := by decide +kernel
theorem rf_f_M_mean_23 : rf_Fb rf_m_M_mean 23 24 (.ireturn) 0 0 0 0 [] [] = true := by decide +kernel
theorem rf_f_M_mean_24 : rf_Fb rf_m_M_mean 24 25 (.aload_n 0) 0 0 0 0 [] [] = true := by decide +kernel
theorem rf_f_M_mean_25 : rf_Fb rf_m_M_mean 25 28 (.getfield 7) 5 0 2 0 [] [] = true := by decide +kernel
theorem rf_f_M_mean_28 : rf_Fb rf_m_M_mean 28 29 (.iload_n 1) 0 0 0 0 [] [] = true := by decide +kernel
theorem rf_f_M_mean_29 : rf_Fb rf_m_M_mean 29 30 (.iaload) 0 0 0 0 [] [] = true := by decide +kernel
theorem rf_f_M_mean_30 : rf_Fb rf_m_M_mean 30 33 (.ifCond .ne 9) 39 0 0 0 [] [] = true := by decide +kernel
theorem rf_f_M_mean_33 : rf_Fb rf_m_M_mean 33 34 (.aload_n 0) 0 0 0 0 [] [] = true := by decide +kernel
theorem rf_f_M_mean_34 : rf_Fb rf_m_M_mean 34 35 (.iconst 4) 0 0 0 0 [] [] = true := by decide +kernel
theorem rf_f_M_mean_35 : rf_Fb rf_m_M_mean 35 38 (.invokevirtual 73) 119 1 0 5 [] [] = true := by decide +kernel
theorem rf_f_M_mean_38 : rf_Fb rf_m_M_mean 38 39 (.ireturn) 0 0 0 0 [] [] = true := by decide +kernel
theorem rf_f_M_mean_39 : rf_Fb rf_m_M_mean 39 40 (.lconst 0) 0 0 0 0 [] [] = true := by decide +kernel
theorem rf_f_M_mean_40 : rf_Fb rf_m_M_mean 40 41 (.lstore_n 2) 0 0 0 0 [] [] = true := by decide +kernel
theorem rf_f_M_mean_41 : rf_Fb rf_m_M_mean 41 42 (.iconst 0) 0 0 0 0 [] [] = true := by decide +kernel
theorem rf_f_M_mean_42 : rf_Fb rf_m_M_mean 42 44 (.istore 4) 0 0 0 0 [] [true, true, true, false, true] = true := by decide +kernel
theorem rf_f_M_mean_44 : rf_Fb rf_m_M_mean 44 46 (.iload 4) 0 0 0 0 [] [] = true := by decide +kernel
theorem rf_f_M_mean_46 : rf_Fb rf_m_M_mean 46 47 (.aload_n 0) 0 0 0 0 [] [] = true := by decide +kernel
theorem rf_f_M_mean_47 : rf_Fb rf_m_M_mean 47 50 (.getfield 7) 5 0 2 0 [] [] = true := by decide +kernel
theorem rf_f_M_mean_50 : rf_Fb rf_m_M_mean 50 51 (.iload_n 1) 0 0 0 0 [] [] = true := by decide +kernel
theorem rf_f_M_mean_51 : rf_Fb rf_m_M_mean 51 52 (.iaload) 0 0 0 0 [] [] = true := by decide +kernel
theorem rf_f_M_mean_52 : rf_Fb rf_m_M_mean 52 55 (.if_icmp .ge 25) 77 0 0 0 [] [] = true := by decide +kernel
theorem rf_f_M_mean_55 : rf_Fb rf_m_M_mean 55 56 (.lload_n 2) 0 0 0 0 [] [] = true := by decide +kernel
theorem rf_f_M_mean_56 : rf_Fb rf_m_M_mean 56 57 (.aload_n 0) 0 0 0 0 [] [] = true := by decide +kernel
theorem rf_f_M_mean_57 : rf_Fb rf_m_M_mean 57 60 (.getfield 13) 5 1 2 0 [] [] = true := by decide +kernel
theorem rf_f_M_mean_60 : rf_Fb rf_m_M_mean 60 62 (.bipush 40) 0 0 0 0 [] [] = true := by decide +kernel
theorem rf_f_M_mean_62 : rf_Fb rf_m_M_mean 62 63 (.iload_n 1) 0 0 0 0 [] [] = true := by decide +kernel
theorem rf_f_M_mean_63 : rf_Fb rf_m_M_mean 63 64 (.imul) 0 0 0 0 [] [] = true := by decide +kernel
theorem rf_f_M_mean_64 : rf_Fb rf_m_M_mean 64 66 (.iload 4) 0 0 0 0 [] [] = true := by decide +kernel
theorem rf_f_M_mean_66 : rf_Fb rf_m_M_mean 66 67 (.iadd) 0 0 0 0 [] [] = true := by decide +kernel
theorem rf_f_M_mean_67 : rf_Fb rf_m_M_mean 67 68 (.iaload) 0 0 0 0 [] [] = true := by decide +kernel
theorem rf_f_M_mean_68 : rf_Fb rf_m_M_mean 68 69 (.i2l) 0 0 0 0 [] [] = true := by decide +kernel
theorem rf_f_M_mean_69 : rf_Fb rf_m_M_mean 69 70 (.ladd) 0 0 0 0 [] [] = true := by decide +kernel
theorem rf_f_M_mean_70 : rf_Fb rf_m_M_mean 70 71 (.lstore_n 2) 0 0 0 0 [] [] = true := by decide +kernel
theorem rf_f_M_mean_71 : rf_Fb rf_m_M_mean 71 74 (.iinc 4 1) 0 0 0 0 [] [] = true := by decide +kernel
theorem rf_f_M_mean_74 : rf_Fb rf_m_M_mean 74 77 (.goto (-30)) 44 0 0 0 [] [] = true := by decide +kernel
theorem rf_f_M_mean_77 : rf_Fb rf_m_M_mean 77 78 (.aload_n 0) 0 0 0 0 [] [] = true := by decide +kernel
theorem rf_f_M_mean_78 : rf_Fb rf_m_M_mean 78 79 (.lload_n 2) 0 0 0 0 [] [] = true := by decide +kernel
theorem rf_f_M_mean_79 : rf_Fb rf_m_M_mean 79 80 (.aload_n 0) 0 0 0 0 [] [] = true := by decide +kernel
theorem rf_f_M_mean_80 : rf_Fb rf_m_M_mean 80 83 (.getfield 7) 5 0 2 0 [] [] = true := by decide +kernel
theorem rf_f_M_mean_83 : rf_Fb rf_m_M_mean 83 84 (.iload_n 1) 0 0 0 0 [] [] = true := by decide +kernel
theorem rf_f_M_mean_84 : rf_Fb rf_m_M_mean 84 85 (.iaload) 0 0 0 0 [] [] = true := by decide +kernel
theorem rf_f_M_mean_85 : rf_Fb rf_m_M_mean 85 86 (.i2l) 0 0 0 0 [] [] = true := by decide +kernel
theorem rf_f_M_mean_86 : rf_Fb rf_m_M_mean 86 87 (.ldiv) 0 0 0 0 [] [] = true := by decide +kernel
theorem rf_f_M_mean_87 : rf_Fb rf_m_M_mean 87 88 (.l2i) 0 0 0 0 [] [] = true := by decide +kernel
theorem rf_f_M_mean_88 : rf_Fb rf_m_M_mean 88 91 (.invokevirtual 77) 121 1 0 5 [] [] = true := by decide +kernel
theorem rf_f_M_mean_91 : rf_Fb rf_m_M_mean 91 92 (.ireturn) 0 0 0 0 [] [] = true := by decide +kernel
set_option maxRecDepth 20000 in
set_option maxHeartbeats 2000000 in
theorem rf_e_M_mean (d : Nat) (o : Nat) (a1 : Int) (h : rf_H) : rf_call (d + 1) 125 [.inr (.inr (some o)), .inl a1] h = ((rf_call d 117 [.inl a1] h).bind fun q2 => rf_kI q2 fun x3 h1 => (if x3 = 0 then some (some (.inl (-1)), h1) else ((rf_gR h1 5 o 0).bind fun x4 => (rf_nn x4 fun k5 => ((rf_aI h1 k5 a1).bind fun x6 => (if x6 < 0 then (bif rf_isO h1.1 o 5 then ((rf_call d 119 [.inr (.inr (some o)), .inl 1] h1).bind fun q14 => rf_kI q14 fun x15 h13 => some (some (.inl x15), h13)) else none) else ((rf_gR h1 5 o 0).bind fun x7 => (rf_nn x7 fun k8 => ((rf_aI h1 k8 a1).bind fun x9 => (if x9 = 0 then (bif rf_isO h1.1 o 5 then ((rf_call d 119 [.inr (.inr (some o)), .inl 4] h1).bind fun q11 => rf_kI q11 fun x12 h10 => some (some (.inl x12), h10)) else none) else rf_j_M_mean_44 d o a1 0 0 h1)))))))))) := by
  show rf_den (rf_call d) (rf_mt 125) _ = _
  rw [rf_u_M_mean]
  exact ((rf_s_iload_n rf_f_M_mean_0 rfl (rf_m0 _) (rf_s_invS0 rf_f_M_mean_1 rfl rfl (rf_m0 _) fun q2 x3 h1 => (rf_s_if_ne rf_f_M_mean_4 rfl (rf_m0 _) (rf_m0 _) (rf_s_aload_n rf_f_M_mean_9 rfl (rf_m0 _) (rf_s_getAS rf_f_M_mean_10 (rf_m0 _) fun x4 => (rf_s_iload_n rf_f_M_mean_13 rfl (rf_m0 _) (rf_s_ialdR rf_f_M_mean_14 (rf_m0 _) fun k5 x6 => (rf_s_if_ge rf_f_M_mean_15 rfl (rf_m0 _) (rf_m0 _) (rf_s_aload_n rf_f_M_mean_24 rfl (rf_m0 _) (rf_s_getAS rf_f_M_mean_25 (rf_m0 _) fun x7 => (rf_s_iload_n rf_f_M_mean_28 rfl (rf_m0 _) (rf_s_ialdR rf_f_M_mean_29 (rf_m0 _) fun k8 x9 => (rf_s_if_ne rf_f_M_mean_30 rfl (rf_m0 _) (rf_m0 _) (rf_s_lconst rf_f_M_mean_39 (rf_m0 _) (rf_s_lstore_n (L' := [some (.inr (.inr (some o))), some (.inl a1), some (.inr (.inl 0)), none, none]) rf_f_M_mean_40 rfl (rf_s_iconst rf_f_M_mean_41 (rf_m0 _) (rf_s_istore rf_f_M_mean_42 rfl rfl)))) (rf_s_aload_n rf_f_M_mean_33 rfl (rf_m0 _) (rf_s_iconst rf_f_M_mean_34 (rf_m0 _) (rf_s_invV0S rf_f_M_mean_35 rfl rfl (rf_m0 _) fun q11 x12 h10 => (rf_s_iret rf_f_M_mean_38))))))))) (rf_s_aload_n rf_f_M_mean_18 rfl (rf_m0 _) (rf_s_iconst rf_f_M_mean_19 (rf_m0 _) (rf_s_invV0S rf_f_M_mean_20 rfl rfl (rf_m0 _) fun q14 x15 h13 => (rf_s_iret rf_f_M_mean_23))))))))) (rf_s_iconst rf_f_M_mean_7 (rf_m0 _) (rf_s_iret rf_f_M_mean_8))))) : rf_den (rf_call d) rf_m_M_mean (0, [some (.inr (.inr (some o))), some (.inl a1), none, none, none], [], h) = _)
set_option maxRecDepth 20000 in
set_option maxHeartbeats 2000000 in
theorem rf_e_M_mean_44 (d : Nat) (o : Nat) (l1 : Int) (l2 : Int) (l4 : Int) (h : rf_H) : rf_j_M_mean_44 d o l1 l2 l4 h = ((rf_gR h 5 o 0).bind fun x1 => (rf_nn x1 fun k2 => ((rf_aI h k2 l1).bind fun x3 => (if l4 < x3 then ((rf_gR h 5 o 1).bind fun x10 => (rf_nn x10 fun k11 => ((rf_aI h k11 (rf_w ((rf_w (40 * l1)) + l4))).bind fun x12 => rf_j_M_mean_44 d o l1 (rf_wl (l2 + x12)) (rf_w (l4 + 1)) h))) else ((rf_gR h 5 o 0).bind fun x4 => (rf_nn x4 fun k5 => ((rf_aI h k5 l1).bind fun x6 => (if x6 = 0 then none else (bif rf_isO h.1 o 5 then ((rf_call d 121 [.inr (.inr (some o)), .inl (rf_w (rf_wl (Int.tdiv l2 x6)))] h).bind fun q8 => rf_kI q8 fun x9 h7 => some (some (.inl x9), h7)) else none))))))))) :=
  ((rf_s_iload rf_f_M_mean_44 rfl (rf_m0 _) (rf_s_aload_n rf_f_M_mean_46 rfl (rf_m0 _) (rf_s_getAS rf_f_M_mean_47 (rf_m0 _) fun x1 => (rf_s_iload_n rf_f_M_mean_50 rfl (rf_m0 _) (rf_s_ialdR rf_f_M_mean_51 (rf_m0 _) fun k2 x3 => (rf_s_icmp_ge rf_f_M_mean_52 rfl (rf_m0 _) (rf_m0 _) (rf_s_aload_n rf_f_M_mean_77 rfl (rf_m0 _) (rf_s_lload_n rf_f_M_mean_78 rfl (rf_m0 _) (rf_s_aload_n rf_f_M_mean_79 rfl (rf_m0 _) (rf_s_getAS rf_f_M_mean_80 (rf_m0 _) fun x4 => (rf_s_iload_n rf_f_M_mean_83 rfl (rf_m0 _) (rf_s_ialdR rf_f_M_mean_84 (rf_m0 _) fun k5 x6 => (rf_s_i2l rf_f_M_mean_85 (rf_m0 _) (rf_s_ldivZ rf_f_M_mean_86 (rf_m0 _) (rf_s_l2i rf_f_M_mean_87 (rf_m0 _) (rf_s_invV0S rf_f_M_mean_88 rfl rfl (rf_m0 _) fun q8 x9 h7 => (rf_s_iret rf_f_M_mean_91))))))))))) (rf_s_lload_n rf_f_M_mean_55 rfl (rf_m0 _) (rf_s_aload_n rf_f_M_mean_56 rfl (rf_m0 _) (rf_s_getAS rf_f_M_mean_57 (rf_m0 _) fun x10 => (rf_s_bipush rf_f_M_mean_60 (rf_m0 _) (rf_s_iload_n rf_f_M_mean_62 rfl (rf_m0 _) (rf_s_imul rf_f_M_mean_63 (rf_m0 _) (rf_s_iload rf_f_M_mean_64 rfl (rf_m0 _) (rf_s_iadd rf_f_M_mean_66 (rf_m0 _) (rf_s_ialdR rf_f_M_mean_67 (rf_m0 _) fun k11 x12 => (rf_s_i2l rf_f_M_mean_68 (rf_m0 _) (rf_s_ladd rf_f_M_mean_69 (rf_m0 _) (rf_s_lstore_n (L' := [some (.inr (.inr (some o))), some (.inl l1), some (.inr (.inl (rf_wl (l2 + x12)))), none, some (.inl l4)]) rf_f_M_mean_70 rfl (rf_s_iinc (L' := [some (.inr (.inr (some o))), some (.inl l1), some (.inr (.inl (rf_wl (l2 + x12)))), none, some (.inl (rf_w (l4 + 1)))]) rf_f_M_mean_71 rfl rfl (rf_s_goto rf_f_M_mean_74 rfl rfl rfl)))))))))))))))))))) : rf_den (rf_call d) rf_m_M_mean (44, [some (.inr (.inr (some o))), some (.inl l1), some (.inr (.inl l2)), none, some (.inl l4)], [], h) = _)
noncomputable def rf_j_M_text_34 (d : Nat) (o : Nat) (l1 : Int) (l2 : Int) (l3 : Int) (h : rf_H) : Option rf_R := rf_den (rf_call d) rf_m_M_text (34, [some (.inr (.inr (some o))), some (.inl l1), some (.inl l2), some (.inl l3)], [], h)
theorem rf_u_M_text : rf_mt 126 = rf_m_M_text := rfl
theorem rf_f_M_text_0 : rf_Fb rf_m_M_text 0 1 (.iload_n 1) 0 0 0 0 [] [] = true := by decide +kernel
theorem rf_f_M_text_1 : rf_Fb rf_m_M_text 1 4 (.invokestatic 80) 127 1 0 0 [] [] = true := by decide +kernel
theorem rf_f_M_text_4 : rf_Fb rf_m_M_text 4 7 (.ifCond .eq 9) 13 0 0 0 [] [] = true := by decide +kernel
theorem rf_f_M_text_7 : rf_Fb rf_m_M_text 7 8 (.iload_n 2) 0 0 0 0 [] [] = true := by decide +kernel
theorem rf_f_M_text_8 : rf_Fb rf_m_M_text 8 10 (.bipush 60) 0 0 0 0 [] [] = true := by decide +kernel
theorem rf_f_M_text_10 : rf_Fb rf_m_M_text 10 13 (.if_icmp .le 5) 15 0 0 0 [] [] = true := by decide +kernel
theorem rf_f_M_text_13 : rf_Fb rf_m_M_text 13 14 (.iconst (-1)) 0 0 0 0 [] [] = true := by decide +kernel
theorem rf_f_M_text_14 : rf_Fb rf_m_M_text 14 15 (.ireturn) 0 0 0 0 [] [] = true := by decide +kernel
theorem rf_f_M_text_15 : rf_Fb rf_m_M_text 15 16 (.iload_n 2) 0 0 0 0 [] [] = true := by decide +kernel
theorem rf_f_M_text_16 : rf_Fb rf_m_M_text 16 19 (.ifCond .ge 9) 25 0 0 0 [] [] = true := by decide +kernel
theorem rf_f_M_text_19 : rf_Fb rf_m_M_text 19 20 (.aload_n 0) 0 0 0 0 [] [] = true := by decide +kernel
theorem rf_f_M_text_20 : rf_Fb rf_m_M_text 20 21 (.iconst 5) 0 0 0 0 [] [] = true := by decide +kernel
theorem rf_f_M_text_21 : rf_Fb rf_m_M_text 21 24 (.invokevirtual 73) 119 1 0 5 [] [] = true := by decide +kernel
theorem rf_f_M_text_24 : rf_Fb rf_m_M_text 24 25 (.ireturn) 0 0 0 0 [] [] = true := by decide +kernel
theorem rf_f_M_text_25 : rf_Fb rf_m_M_text 25 26 (.aload_n 0) 0 0 0 0 [] [] = true := by decide +kernel
theorem rf_f_M_text_26 : rf_Fb rf_m_M_text 26 29 (.getfield 16) 5 2 2 0 [] [] = true := by decide +kernel
theorem rf_f_M_text_29 : rf_Fb rf_m_M_text 29 30 (.iload_n 1) 0 0 0 0 [] [] = true := by decide +kernel
theorem rf_f_M_text_30 : rf_Fb rf_m_M_text 30 31 (.iload_n 2) 0 0 0 0 [] [] = true := by decide +kernel
theorem rf_f_M_text_31 : rf_Fb rf_m_M_text 31 32 (.iastore) 0 0 0 0 [] [] = true := by decide +kernel
theorem rf_f_M_text_32 : rf_Fb rf_m_M_text 32 33 (.iconst 0) 0 0 0 0 [] [] = true := by decide +kernel
theorem rf_f_M_text_33 : rf_Fb rf_m_M_text 33 34 (.istore_n 3) 0 0 0 0 [] [true, true, true, true] = true := by decide +kernel
theorem rf_f_M_text_34 : rf_Fb rf_m_M_text 34 35 (.iload_n 3) 0 0 0 0 [] [] = true := by decide +kernel
theorem rf_f_M_text_35 : rf_Fb rf_m_M_text 35 36 (.iload_n 2) 0 0 0 0 [] [] = true := by decide +kernel
theorem rf_f_M_text_36 : rf_Fb rf_m_M_text 36 39 (.if_icmp .ge 22) 58 0 0 0 [] [] = true := by decide +kernel
theorem rf_f_M_text_39 : rf_Fb rf_m_M_text 39 40 (.aload_n 0) 0 0 0 0 [] [] = true := by decide +kernel
theorem rf_f_M_text_40 : rf_Fb rf_m_M_text 40 43 (.getfield 19) 5 3 2 0 [] [] = true := by decide +kernel
theorem rf_f_M_text_43 : rf_Fb rf_m_M_text 43 45 (.bipush 60) 0 0 0 0 [] [] = true := by decide +kernel
theorem rf_f_M_text_45 : rf_Fb rf_m_M_text 45 46 (.iload_n 1) 0 0 0 0 [] [] = true := by decide +kernel
theorem rf_f_M_text_46 : rf_Fb rf_m_M_text 46 47 (.imul) 0 0 0 0 [] [] = true := by decide +kernel
theorem rf_f_M_text_47 : rf_Fb rf_m_M_text 47 48 (.iload_n 3) 0 0 0 0 [] [] = true := by decide +kernel
theorem rf_f_M_text_48 : rf_Fb rf_m_M_text 48 49 (.iadd) 0 0 0 0 [] [] = true := by decide +kernel
theorem rf_f_M_text_49 : rf_Fb rf_m_M_text 49 51 (.bipush 32) 0 0 0 0 [] [] = true := by decide +kernel
theorem rf_f_M_text_51 : rf_Fb rf_m_M_text 51 52 (.iastore) 0 0 0 0 [] [] = true := by decide +kernel
theorem rf_f_M_text_52 : rf_Fb rf_m_M_text 52 55 (.iinc 3 1) 0 0 0 0 [] [] = true := by decide +kernel
theorem rf_f_M_text_55 : rf_Fb rf_m_M_text 55 58 (.goto (-21)) 34 0 0 0 [] [] = true := by decide +kernel
theorem rf_f_M_text_58 : rf_Fb rf_m_M_text 58 59 (.iload_n 2) 0 0 0 0 [] [] = true := by decide +kernel
theorem rf_f_M_text_59 : rf_Fb rf_m_M_text 59 60 (.ireturn) 0 0 0 0 [] [] = true := by decide +kernel
set_option maxRecDepth 20000 in
set_option maxHeartbeats 2000000 in
theorem rf_e_M_text (d : Nat) (o : Nat) (a1 : Int) (a2 : Int) (h : rf_H) : rf_call (d + 1) 126 [.inr (.inr (some o)), .inl a1, .inl a2] h = ((rf_call d 127 [.inl a1] h).bind fun q2 => rf_kI q2 fun x3 h1 => (if x3 = 0 then some (some (.inl (-1)), h1) else (if 60 < a2 then some (some (.inl (-1)), h1) else (if a2 < 0 then (bif rf_isO h1.1 o 5 then ((rf_call d 119 [.inr (.inr (some o)), .inl 5] h1).bind fun q8 => rf_kI q8 fun x9 h7 => some (some (.inl x9), h7)) else none) else ((rf_gR h1 5 o 2).bind fun x4 => (rf_nn x4 fun k5 => ((rf_sI h1 k5 a1 a2).bind fun h6 => rf_j_M_text_34 d o a1 a2 0 h6))))))) := by
  show rf_den (rf_call d) (rf_mt 126) _ = _
  rw [rf_u_M_text]
  exact ((rf_s_iload_n rf_f_M_text_0 rfl (rf_m0 _) (rf_s_invS0 rf_f_M_text_1 rfl rfl (rf_m0 _) fun q2 x3 h1 => (rf_s_if_eq rf_f_M_text_4 rfl (rf_m0 _) (rf_m0 _) (rf_s_iconst rf_f_M_text_13 (rf_m0 _) (rf_s_iret rf_f_M_text_14)) (rf_s_iload_n rf_f_M_text_7 rfl (rf_m0 _) (rf_s_bipush rf_f_M_text_8 (rf_m0 _) (rf_s_icmp_le rf_f_M_text_10 rfl (rf_m0 _) (rf_m0 _) (rf_s_iload_n rf_f_M_text_15 rfl (rf_m0 _) (rf_s_if_ge rf_f_M_text_16 rfl (rf_m0 _) (rf_m0 _) (rf_s_aload_n rf_f_M_text_25 rfl (rf_m0 _) (rf_s_getAS rf_f_M_text_26 (rf_m0 _) fun x4 => (rf_s_iload_n rf_f_M_text_29 rfl (rf_m0 _) (rf_s_iload_n rf_f_M_text_30 rfl (rf_m0 _) (rf_s_iastR rf_f_M_text_31 (rf_m0 _) fun k5 h6 => (rf_s_iconst rf_f_M_text_32 (rf_m0 _) (rf_s_istore_n rf_f_M_text_33 rfl rfl))))))) (rf_s_aload_n rf_f_M_text_19 rfl (rf_m0 _) (rf_s_iconst rf_f_M_text_20 (rf_m0 _) (rf_s_invV0S rf_f_M_text_21 rfl rfl (rf_m0 _) fun q8 x9 h7 => (rf_s_iret rf_f_M_text_24)))))) (rf_s_iconst rf_f_M_text_13 (rf_m0 _) (rf_s_iret rf_f_M_text_14)))))))) : rf_den (rf_call d) rf_m_M_text (0, [some (.inr (.inr (some o))), some (.inl a1), some (.inl a2), none], [], h) = _)
set_option maxRecDepth 20000 in
set_option maxHeartbeats 2000000 in
theorem rf_e_M_text_34 (d : Nat) (o : Nat) (l1 : Int) (l2 : Int) (l3 : Int) (h : rf_H) : rf_j_M_text_34 d o l1 l2 l3 h = (if l3 < l2 then ((rf_gR h 5 o 3).bind fun x1 => (rf_nn x1 fun k2 => ((rf_sI h k2 (rf_w ((rf_w (60 * l1)) + l3)) 32).bind fun h3 => rf_j_M_text_34 d o l1 l2 (rf_w (l3 + 1)) h3))) else some (some (.inl l2), h)) :=
  ((rf_s_iload_n rf_f_M_text_34 rfl (rf_m0 _) (rf_s_iload_n rf_f_M_text_35 rfl (rf_m0 _) (rf_s_icmp_ge rf_f_M_text_36 rfl (rf_m0 _) (rf_m0 _) (rf_s_iload_n rf_f_M_text_58 rfl (rf_m0 _) (rf_s_iret rf_f_M_text_59)) (rf_s_aload_n rf_f_M_text_39 rfl (rf_m0 _) (rf_s_getAS rf_f_M_text_40 (rf_m0 _) fun x1 => (rf_s_bipush rf_f_M_text_43 (rf_m0 _) (rf_s_iload_n rf_f_M_text_45 rfl (rf_m0 _) (rf_s_imul rf_f_M_text_46 (rf_m0 _) (rf_s_iload_n rf_f_M_text_47 rfl (rf_m0 _) (rf_s_iadd rf_f_M_text_48 (rf_m0 _) (rf_s_bipush rf_f_M_text_49 (rf_m0 _) (rf_s_iastR rf_f_M_text_51 (rf_m0 _) fun k2 h3 => (rf_s_iinc (L' := [some (.inr (.inr (some o))), some (.inl l1), some (.inl l2), some (.inl (rf_w (l3 + 1)))]) rf_f_M_text_52 rfl rfl (rf_s_goto rf_f_M_text_55 rfl rfl rfl)))))))))))))) : rf_den (rf_call d) rf_m_M_text (34, [some (.inr (.inr (some o))), some (.inl l1), some (.inl l2), some (.inl l3)], [], h) = _)
theorem rf_u_M_isText : rf_mt 127 = rf_m_M_isText := rfl
theorem rf_f_M_isText_0 : rf_Fb rf_m_M_isText 0 1 (.iload_n 0) 0 0 0 0 [] [] = true := by decide +kernel
theorem rf_f_M_isText_1 : rf_Fb rf_m_M_isText 1 2 (.i2l) 0 0 0 0 [] [] = true := by decide +kernel
theorem rf_f_M_isText_2 : rf_Fb rf_m_M_isText 2 3 (.lconst 0) 0 0 0 0 [] [] = true := by decide +kernel
theorem rf_f_M_isText_3 : rf_Fb rf_m_M_isText 3 6 (.ldc2_w 67) 0 0 0 3 [] [] = true := by decide +kernel
theorem rf_f_M_isText_6 : rf_Fb rf_m_M_isText 6 9 (.invokestatic 63) 118 3 0 0 [] [] = true := by decide +kernel
theorem rf_f_M_isText_9 : rf_Fb rf_m_M_isText 9 10 (.ireturn) 0 0 1 0 [] [] = true := by decide +kernel
set_option maxRecDepth 20000 in
set_option maxHeartbeats 2000000 in
theorem rf_e_M_isText (d : Nat) (a1 : Int) (h : rf_H) : rf_call (d + 1) 127 [.inl a1] h = ((rf_call d 118 [.inr (.inl a1), .inr (.inl 0), .inr (.inl 3)] h).bind fun q2 => rf_kI q2 fun x3 h1 => (if x3 = 0 ∨ x3 = 1 then some (some (.inl x3), h1) else none)) := by
  show rf_den (rf_call d) (rf_mt 127) _ = _
  rw [rf_u_M_isText]
  exact ((rf_s_iload_n rf_f_M_isText_0 rfl (rf_m0 _) (rf_s_i2l rf_f_M_isText_1 (rf_m0 _) (rf_s_lconst rf_f_M_isText_2 (rf_m0 _) (rf_s_ldc2_w rf_f_M_isText_3 (rf_m0 _) (rf_s_invS0 rf_f_M_isText_6 rfl rfl (rf_m0 _) fun q2 x3 h1 => (rf_s_zret rf_f_M_isText_9)))))) : rf_den (rf_call d) rf_m_M_isText (0, [some (.inl a1)], [], h) = _)
theorem rf_u_M_put : rf_mt 128 = rf_m_M_put := rfl
theorem rf_f_M_put_0 : rf_Fb rf_m_M_put 0 1 (.iload_n 1) 0 0 0 0 [] [] = true := by decide +kernel
theorem rf_f_M_put_1 : rf_Fb rf_m_M_put 1 4 (.invokestatic 80) 127 1 0 0 [] [] = true := by decide +kernel
theorem rf_f_M_put_4 : rf_Fb rf_m_M_put 4 7 (.ifCond .ne 5) 9 0 0 0 [] [] = true := by decide +kernel
theorem rf_f_M_put_7 : rf_Fb rf_m_M_put 7 8 (.iconst (-1)) 0 0 0 0 [] [] = true := by decide +kernel
theorem rf_f_M_put_8 : rf_Fb rf_m_M_put 8 9 (.ireturn) 0 0 0 0 [] [] = true := by decide +kernel
theorem rf_f_M_put_9 : rf_Fb rf_m_M_put 9 10 (.aload_n 0) 0 0 0 0 [] [] = true := by decide +kernel
theorem rf_f_M_put_10 : rf_Fb rf_m_M_put 10 13 (.getfield 16) 5 2 2 0 [] [] = true := by decide +kernel
theorem rf_f_M_put_13 : rf_Fb rf_m_M_put 13 14 (.iload_n 1) 0 0 0 0 [] [] = true := by decide +kernel
theorem rf_f_M_put_14 : rf_Fb rf_m_M_put 14 15 (.iaload) 0 0 0 0 [] [] = true := by decide +kernel
theorem rf_f_M_put_15 : rf_Fb rf_m_M_put 15 18 (.ifCond .ge 9) 24 0 0 0 [] [] = true := by decide +kernel
theorem rf_f_M_put_18 : rf_Fb rf_m_M_put 18 19 (.aload_n 0) 0 0 0 0 [] [] = true := by decide +kernel
theorem rf_f_M_put_19 : rf_Fb rf_m_M_put 19 20 (.iconst 1) 0 0 0 0 [] [] = true := by decide +kernel
theorem rf_f_M_put_20 : rf_Fb rf_m_M_put 20 23 (.invokevirtual 73) 119 1 0 5 [] [] = true := by decide +kernel
theorem rf_f_M_put_23 : rf_Fb rf_m_M_put 23 24 (.ireturn) 0 0 0 0 [] [] = true := by decide +kernel
theorem rf_f_M_put_24 : rf_Fb rf_m_M_put 24 25 (.iload_n 2) 0 0 0 0 [] [] = true := by decide +kernel
theorem rf_f_M_put_25 : rf_Fb rf_m_M_put 25 26 (.i2l) 0 0 0 0 [] [] = true := by decide +kernel
theorem rf_f_M_put_26 : rf_Fb rf_m_M_put 26 27 (.lconst 0) 0 0 0 0 [] [] = true := by decide +kernel
theorem rf_f_M_put_27 : rf_Fb rf_m_M_put 27 28 (.aload_n 0) 0 0 0 0 [] [] = true := by decide +kernel
theorem rf_f_M_put_28 : rf_Fb rf_m_M_put 28 31 (.getfield 16) 5 2 2 0 [] [] = true := by decide +kernel
theorem rf_f_M_put_31 : rf_Fb rf_m_M_put 31 32 (.iload_n 1) 0 0 0 0 [] [] = true := by decide +kernel
theorem rf_f_M_put_32 : rf_Fb rf_m_M_put 32 33 (.iaload) 0 0 0 0 [] [] = true := by decide +kernel
theorem rf_f_M_put_33 : rf_Fb rf_m_M_put 33 34 (.iconst 1) 0 0 0 0 [] [] = true := by decide +kernel
theorem rf_f_M_put_34 : rf_Fb rf_m_M_put 34 35 (.isub) 0 0 0 0 [] [] = true := by decide +kernel
theorem rf_f_M_put_35 : rf_Fb rf_m_M_put 35 36 (.i2l) 0 0 0 0 [] [] = true := by decide +kernel
theorem rf_f_M_put_36 : rf_Fb rf_m_M_put 36 39 (.invokestatic 63) 118 3 0 0 [] [] = true := by decide +kernel
theorem rf_f_M_put_39 : rf_Fb rf_m_M_put 39 42 (.ifCond .ne 9) 48 0 0 0 [] [] = true := by decide +kernel
theorem rf_f_M_put_42 : rf_Fb rf_m_M_put 42 43 (.aload_n 0) 0 0 0 0 [] [] = true := by decide +kernel
theorem rf_f_M_put_43 : rf_Fb rf_m_M_put 43 44 (.iconst 2) 0 0 0 0 [] [] = true := by decide +kernel
theorem rf_f_M_put_44 : rf_Fb rf_m_M_put 44 47 (.invokevirtual 73) 119 1 0 5 [] [] = true := by decide +kernel
theorem rf_f_M_put_47 : rf_Fb rf_m_M_put 47 48 (.ireturn) 0 0 0 0 [] [] = true := by decide +kernel
theorem rf_f_M_put_48 : rf_Fb rf_m_M_put 48 49 (.aload_n 0) 0 0 0 0 [] [] = true := by decide +kernel
theorem rf_f_M_put_49 : rf_Fb rf_m_M_put 49 52 (.getfield 19) 5 3 2 0 [] [] = true := by decide +kernel
theorem rf_f_M_put_52 : rf_Fb rf_m_M_put 52 54 (.bipush 60) 0 0 0 0 [] [] = true := by decide +kernel
theorem rf_f_M_put_54 : rf_Fb rf_m_M_put 54 55 (.iload_n 1) 0 0 0 0 [] [] = true := by decide +kernel
theorem rf_f_M_put_55 : rf_Fb rf_m_M_put 55 56 (.imul) 0 0 0 0 [] [] = true := by decide +kernel
theorem rf_f_M_put_56 : rf_Fb rf_m_M_put 56 57 (.iload_n 2) 0 0 0 0 [] [] = true := by decide +kernel
theorem rf_f_M_put_57 : rf_Fb rf_m_M_put 57 58 (.iadd) 0 0 0 0 [] [] = true := by decide +kernel
theorem rf_f_M_put_58 : rf_Fb rf_m_M_put 58 59 (.iaload) 0 0 0 0 [] [] = true := by decide +kernel
theorem rf_f_M_put_59 : rf_Fb rf_m_M_put 59 61 (.istore 4) 0 0 0 0 [] [] = true := by decide +kernel
theorem rf_f_M_put_61 : rf_Fb rf_m_M_put 61 62 (.aload_n 0) 0 0 0 0 [] [] = true := by decide +kernel
theorem rf_f_M_put_62 : rf_Fb rf_m_M_put 62 65 (.getfield 19) 5 3 2 0 [] [] = true := by decide +kernel
theorem rf_f_M_put_65 : rf_Fb rf_m_M_put 65 67 (.bipush 60) 0 0 0 0 [] [] = true := by decide +kernel
theorem rf_f_M_put_67 : rf_Fb rf_m_M_put 67 68 (.iload_n 1) 0 0 0 0 [] [] = true := by decide +kernel
theorem rf_f_M_put_68 : rf_Fb rf_m_M_put 68 69 (.imul) 0 0 0 0 [] [] = true := by decide +kernel
theorem rf_f_M_put_69 : rf_Fb rf_m_M_put 69 70 (.iload_n 2) 0 0 0 0 [] [] = true := by decide +kernel
theorem rf_f_M_put_70 : rf_Fb rf_m_M_put 70 71 (.iadd) 0 0 0 0 [] [] = true := by decide +kernel
theorem rf_f_M_put_71 : rf_Fb rf_m_M_put 71 72 (.iload_n 3) 0 0 0 0 [] [] = true := by decide +kernel
theorem rf_f_M_put_72 : rf_Fb rf_m_M_put 72 73 (.i2b) 0 0 0 0 [] [] = true := by decide +kernel
theorem rf_f_M_put_73 : rf_Fb rf_m_M_put 73 74 (.iastore) 0 0 0 0 [] [] = true := by decide +kernel
theorem rf_f_M_put_74 : rf_Fb rf_m_M_put 74 76 (.iload 4) 0 0 0 0 [] [] = true := by decide +kernel
theorem rf_f_M_put_76 : rf_Fb rf_m_M_put 76 79 (.sipush 1000) 0 0 0 0 [] [] = true := by decide +kernel
theorem rf_f_M_put_79 : rf_Fb rf_m_M_put 79 80 (.iadd) 0 0 0 0 [] [] = true := by decide +kernel
theorem rf_f_M_put_80 : rf_Fb rf_m_M_put 80 81 (.ireturn) 0 0 0 0 [] [] = true := by decide +kernel
set_option maxRecDepth 20000 in
set_option maxHeartbeats 2000000 in
theorem rf_e_M_put (d : Nat) (o : Nat) (a1 : Int) (a2 : Int) (a3 : Int) (h : rf_H) : rf_call (d + 1) 128 [.inr (.inr (some o)), .inl a1, .inl a2, .inl a3] h = ((rf_call d 127 [.inl a1] h).bind fun q2 => rf_kI q2 fun x3 h1 => (if x3 = 0 then some (some (.inl (-1)), h1) else ((rf_gR h1 5 o 2).bind fun x4 => (rf_nn x4 fun k5 => ((rf_aI h1 k5 a1).bind fun x6 => (if x6 < 0 then (bif rf_isO h1.1 o 5 then ((rf_call d 119 [.inr (.inr (some o)), .inl 1] h1).bind fun q23 => rf_kI q23 fun x24 h22 => some (some (.inl x24), h22)) else none) else ((rf_gR h1 5 o 2).bind fun x7 => (rf_nn x7 fun k8 => ((rf_aI h1 k8 a1).bind fun x9 => ((rf_call d 118 [.inr (.inl a2), .inr (.inl 0), .inr (.inl (rf_w (x9 - 1)))] h1).bind fun q11 => rf_kI q11 fun x12 h10 => (if x12 = 0 then (bif rf_isO h10.1 o 5 then ((rf_call d 119 [.inr (.inr (some o)), .inl 2] h10).bind fun q20 => rf_kI q20 fun x21 h19 => some (some (.inl x21), h19)) else none) else ((rf_gR h10 5 o 3).bind fun x13 => (rf_nn x13 fun k14 => ((rf_aI h10 k14 (rf_w ((rf_w (60 * a1)) + a2))).bind fun x15 => ((rf_gR h10 5 o 3).bind fun x16 => (rf_nn x16 fun k17 => ((rf_sI h10 k17 (rf_w ((rf_w (60 * a1)) + a2)) (rf_w8 a3)).bind fun h18 => some (some (.inl (rf_w (x15 + 1000))), h18)))))))))))))))))) := by
  show rf_den (rf_call d) (rf_mt 128) _ = _
  rw [rf_u_M_put]
  exact ((rf_s_iload_n rf_f_M_put_0 rfl (rf_m0 _) (rf_s_invS0 rf_f_M_put_1 rfl rfl (rf_m0 _) fun q2 x3 h1 => (rf_s_if_ne rf_f_M_put_4 rfl (rf_m0 _) (rf_m0 _) (rf_s_aload_n rf_f_M_put_9 rfl (rf_m0 _) (rf_s_getAS rf_f_M_put_10 (rf_m0 _) fun x4 => (rf_s_iload_n rf_f_M_put_13 rfl (rf_m0 _) (rf_s_ialdR rf_f_M_put_14 (rf_m0 _) fun k5 x6 => (rf_s_if_ge rf_f_M_put_15 rfl (rf_m0 _) (rf_m0 _) (rf_s_iload_n rf_f_M_put_24 rfl (rf_m0 _) (rf_s_i2l rf_f_M_put_25 (rf_m0 _) (rf_s_lconst rf_f_M_put_26 (rf_m0 _) (rf_s_aload_n rf_f_M_put_27 rfl (rf_m0 _) (rf_s_getAS rf_f_M_put_28 (rf_m0 _) fun x7 => (rf_s_iload_n rf_f_M_put_31 rfl (rf_m0 _) (rf_s_ialdR rf_f_M_put_32 (rf_m0 _) fun k8 x9 => (rf_s_iconst rf_f_M_put_33 (rf_m0 _) (rf_s_isub rf_f_M_put_34 (rf_m0 _) (rf_s_i2l rf_f_M_put_35 (rf_m0 _) (rf_s_invS0 rf_f_M_put_36 rfl rfl (rf_m0 _) fun q11 x12 h10 => (rf_s_if_ne rf_f_M_put_39 rfl (rf_m0 _) (rf_m0 _) (rf_s_aload_n rf_f_M_put_48 rfl (rf_m0 _) (rf_s_getAS rf_f_M_put_49 (rf_m0 _) fun x13 => (rf_s_bipush rf_f_M_put_52 (rf_m0 _) (rf_s_iload_n rf_f_M_put_54 rfl (rf_m0 _) (rf_s_imul rf_f_M_put_55 (rf_m0 _) (rf_s_iload_n rf_f_M_put_56 rfl (rf_m0 _) (rf_s_iadd rf_f_M_put_57 (rf_m0 _) (rf_s_ialdR rf_f_M_put_58 (rf_m0 _) fun k14 x15 => (rf_s_istore (L' := [some (.inr (.inr (some o))), some (.inl a1), some (.inl a2), some (.inl a3), some (.inl x15)]) rf_f_M_put_59 rfl (rf_s_aload_n rf_f_M_put_61 rfl (rf_m0 _) (rf_s_getAS rf_f_M_put_62 (rf_m0 _) fun x16 => (rf_s_bipush rf_f_M_put_65 (rf_m0 _) (rf_s_iload_n rf_f_M_put_67 rfl (rf_m0 _) (rf_s_imul rf_f_M_put_68 (rf_m0 _) (rf_s_iload_n rf_f_M_put_69 rfl (rf_m0 _) (rf_s_iadd rf_f_M_put_70 (rf_m0 _) (rf_s_iload_n rf_f_M_put_71 rfl (rf_m0 _) (rf_s_i2b rf_f_M_put_72 (rf_m0 _) (rf_s_iastR rf_f_M_put_73 (rf_m0 _) fun k17 h18 => (rf_s_iload rf_f_M_put_74 rfl (rf_m0 _) (rf_s_sipush rf_f_M_put_76 (rf_m0 _) (rf_s_iadd rf_f_M_put_79 (rf_m0 _) (rf_s_iret rf_f_M_put_80))))))))))))))))))))))) (rf_s_aload_n rf_f_M_put_42 rfl (rf_m0 _) (rf_s_iconst rf_f_M_put_43 (rf_m0 _) (rf_s_invV0S rf_f_M_put_44 rfl rfl (rf_m0 _) fun q20 x21 h19 => (rf_s_iret rf_f_M_put_47)))))))))))))))) (rf_s_aload_n rf_f_M_put_18 rfl (rf_m0 _) (rf_s_iconst rf_f_M_put_19 (rf_m0 _) (rf_s_invV0S rf_f_M_put_20 rfl rfl (rf_m0 _) fun q23 x24 h22 => (rf_s_iret rf_f_M_put_23))))))))) (rf_s_iconst rf_f_M_put_7 (rf_m0 _) (rf_s_iret rf_f_M_put_8))))) : rf_den (rf_call d) rf_m_M_put (0, [some (.inr (.inr (some o))), some (.inl a1), some (.inl a2), some (.inl a3), none], [], h) = _)
theorem rf_u_M_fault : rf_mt 129 = rf_m_M_fault := rfl
theorem rf_f_M_fault_0 : rf_Fb rf_m_M_fault 0 1 (.iload_n 1) 0 0 0 0 [] [] = true := by decide +kernel
theorem rf_f_M_fault_1 : rf_Fb rf_m_M_fault 1 4 (.invokestatic 80) 127 1 0 0 [] [] = true := by decide +kernel
theorem rf_f_M_fault_4 : rf_Fb rf_m_M_fault 4 7 (.ifCond .ne 7) 11 0 0 0 [] [] = true := by decide +kernel
theorem rf_f_M_fault_7 : rf_Fb rf_m_M_fault 7 8 (.iconst (-1)) 0 0 0 0 [] [] = true := by decide +kernel
theorem rf_f_M_fault_8 : rf_Fb rf_m_M_fault 8 11 (.goto 25) 33 0 0 0 [] [] = true := by decide +kernel
theorem rf_f_M_fault_11 : rf_Fb rf_m_M_fault 11 12 (.aload_n 0) 0 0 0 0 [] [] = true := by decide +kernel
theorem rf_f_M_fault_12 : rf_Fb rf_m_M_fault 12 15 (.getfield 16) 5 2 2 0 [] [] = true := by decide +kernel
theorem rf_f_M_fault_15 : rf_Fb rf_m_M_fault 15 16 (.iload_n 1) 0 0 0 0 [] [] = true := by decide +kernel
theorem rf_f_M_fault_16 : rf_Fb rf_m_M_fault 16 17 (.iaload) 0 0 0 0 [] [] = true := by decide +kernel
theorem rf_f_M_fault_17 : rf_Fb rf_m_M_fault 17 20 (.ifCond .ge 11) 28 0 0 0 [] [] = true := by decide +kernel
theorem rf_f_M_fault_20 : rf_Fb rf_m_M_fault 20 21 (.aload_n 0) 0 0 0 0 [] [] = true := by decide +kernel
theorem rf_f_M_fault_21 : rf_Fb rf_m_M_fault 21 22 (.iconst 1) 0 0 0 0 [] [] = true := by decide +kernel
theorem rf_f_M_fault_22 : rf_Fb rf_m_M_fault 22 25 (.invokevirtual 73) 119 1 0 5 [] [] = true := by decide +kernel
theorem rf_f_M_fault_25 : rf_Fb rf_m_M_fault 25 28 (.goto 8) 33 0 0 0 [] [] = true := by decide +kernel
theorem rf_f_M_fault_28 : rf_Fb rf_m_M_fault 28 29 (.aload_n 0) 0 0 0 0 [] [] = true := by decide +kernel
theorem rf_f_M_fault_29 : rf_Fb rf_m_M_fault 29 30 (.iload_n 1) 0 0 0 0 [] [] = true := by decide +kernel
theorem rf_f_M_fault_30 : rf_Fb rf_m_M_fault 30 33 (.invokevirtual 122) 130 1 0 5 [] [] = true := by decide +kernel
theorem rf_f_M_fault_33 : rf_Fb rf_m_M_fault 33 34 (.ireturn) 0 0 0 0 [] [] = true := by decide +kernel
set_option maxRecDepth 20000 in
set_option maxHeartbeats 2000000 in
theorem rf_e_M_fault (d : Nat) (o : Nat) (a1 : Int) (h : rf_H) : rf_call (d + 1) 129 [.inr (.inr (some o)), .inl a1] h = ((rf_call d 127 [.inl a1] h).bind fun q2 => rf_kI q2 fun x3 h1 => (if x3 = 0 then some (some (.inl (-1)), h1) else ((rf_gR h1 5 o 2).bind fun x4 => (rf_nn x4 fun k5 => ((rf_aI h1 k5 a1).bind fun x6 => (if x6 < 0 then (bif rf_isO h1.1 o 5 then ((rf_call d 119 [.inr (.inr (some o)), .inl 1] h1).bind fun q11 => rf_kI q11 fun x12 h10 => some (some (.inl x12), h10)) else none) else (bif rf_isO h1.1 o 5 then ((rf_call d 130 [.inr (.inr (some o)), .inl a1] h1).bind fun q8 => rf_kI q8 fun x9 h7 => some (some (.inl x9), h7)) else none))))))) := by
  show rf_den (rf_call d) (rf_mt 129) _ = _
  rw [rf_u_M_fault]
  exact ((rf_s_iload_n rf_f_M_fault_0 rfl (rf_m0 _) (rf_s_invS0 rf_f_M_fault_1 rfl rfl (rf_m0 _) fun q2 x3 h1 => (rf_s_if_ne rf_f_M_fault_4 rfl (rf_m0 _) (rf_m0 _) (rf_s_aload_n rf_f_M_fault_11 rfl (rf_m0 _) (rf_s_getAS rf_f_M_fault_12 (rf_m0 _) fun x4 => (rf_s_iload_n rf_f_M_fault_15 rfl (rf_m0 _) (rf_s_ialdR rf_f_M_fault_16 (rf_m0 _) fun k5 x6 => (rf_s_if_ge rf_f_M_fault_17 rfl (rf_m0 _) (rf_m0 _) (rf_s_aload_n rf_f_M_fault_28 rfl (rf_m0 _) (rf_s_iload_n rf_f_M_fault_29 rfl (rf_m0 _) (rf_s_invV0S rf_f_M_fault_30 rfl rfl (rf_m0 _) fun q8 x9 h7 => (rf_s_iret rf_f_M_fault_33)))) (rf_s_aload_n rf_f_M_fault_20 rfl (rf_m0 _) (rf_s_iconst rf_f_M_fault_21 (rf_m0 _) (rf_s_invV0S rf_f_M_fault_22 rfl rfl (rf_m0 _) fun q11 x12 h10 => (rf_s_goto rf_f_M_fault_25 rfl (rf_m0 _) (rf_s_iret rf_f_M_fault_33)))))))))) (rf_s_iconst rf_f_M_fault_7 (rf_m0 _) (rf_s_goto rf_f_M_fault_8 rfl (rf_m0 _) (rf_s_iret rf_f_M_fault_33)))))) : rf_den (rf_call d) rf_m_M_fault (0, [some (.inr (.inr (some o))), some (.inl a1)], [], h) = _)
theorem rf_u_M_faultOf : rf_mt 130 = rf_m_M_faultOf := rfl
theorem rf_f_M_faultOf_0 : rf_Fb rf_m_M_faultOf 0 1 (.aload_n 0) 0 0 0 0 [] [] = true := by decide +kernel
theorem rf_f_M_faultOf_1 : rf_Fb rf_m_M_faultOf 1 3 (.bipush 60) 0 0 0 0 [] [] = true := by decide +kernel
theorem rf_f_M_faultOf_3 : rf_Fb rf_m_M_faultOf 3 4 (.iload_n 1) 0 0 0 0 [] [] = true := by decide +kernel
theorem rf_f_M_faultOf_4 : rf_Fb rf_m_M_faultOf 4 5 (.imul) 0 0 0 0 [] [] = true := by decide +kernel
theorem rf_f_M_faultOf_5 : rf_Fb rf_m_M_faultOf 5 8 (.putfield 89) 5 13 0 0 [] [] = true := by decide +kernel
theorem rf_f_M_faultOf_8 : rf_Fb rf_m_M_faultOf 8 9 (.aload_n 0) 0 0 0 0 [] [] = true := by decide +kernel
theorem rf_f_M_faultOf_9 : rf_Fb rf_m_M_faultOf 9 10 (.aload_n 0) 0 0 0 0 [] [] = true := by decide +kernel
theorem rf_f_M_faultOf_10 : rf_Fb rf_m_M_faultOf 10 13 (.getfield 16) 5 2 2 0 [] [] = true := by decide +kernel
theorem rf_f_M_faultOf_13 : rf_Fb rf_m_M_faultOf 13 14 (.iload_n 1) 0 0 0 0 [] [] = true := by decide +kernel
theorem rf_f_M_faultOf_14 : rf_Fb rf_m_M_faultOf 14 15 (.iaload) 0 0 0 0 [] [] = true := by decide +kernel
theorem rf_f_M_faultOf_15 : rf_Fb rf_m_M_faultOf 15 18 (.putfield 86) 5 14 0 0 [] [] = true := by decide +kernel
theorem rf_f_M_faultOf_18 : rf_Fb rf_m_M_faultOf 18 19 (.aload_n 0) 0 0 0 0 [] [] = true := by decide +kernel
theorem rf_f_M_faultOf_19 : rf_Fb rf_m_M_faultOf 19 20 (.iconst 0) 0 0 0 0 [] [] = true := by decide +kernel
theorem rf_f_M_faultOf_20 : rf_Fb rf_m_M_faultOf 20 23 (.putfield 83) 5 15 0 0 [] [] = true := by decide +kernel
theorem rf_f_M_faultOf_23 : rf_Fb rf_m_M_faultOf 23 24 (.aload_n 0) 0 0 0 0 [] [] = true := by decide +kernel
theorem rf_f_M_faultOf_24 : rf_Fb rf_m_M_faultOf 24 27 (.invokevirtual 119) 131 0 0 5 [] [] = true := by decide +kernel
theorem rf_f_M_faultOf_27 : rf_Fb rf_m_M_faultOf 27 30 (.ifCond .eq 8) 35 0 0 0 [] [] = true := by decide +kernel
theorem rf_f_M_faultOf_30 : rf_Fb rf_m_M_faultOf 30 32 (.bipush (-9)) 0 0 0 0 [] [] = true := by decide +kernel
theorem rf_f_M_faultOf_32 : rf_Fb rf_m_M_faultOf 32 35 (.goto 7) 39 0 0 0 [] [] = true := by decide +kernel
theorem rf_f_M_faultOf_35 : rf_Fb rf_m_M_faultOf 35 36 (.aload_n 0) 0 0 0 0 [] [] = true := by decide +kernel
theorem rf_f_M_faultOf_36 : rf_Fb rf_m_M_faultOf 36 39 (.getfield 83) 5 15 0 0 [] [] = true := by decide +kernel
theorem rf_f_M_faultOf_39 : rf_Fb rf_m_M_faultOf 39 40 (.ireturn) 0 0 0 0 [] [] = true := by decide +kernel
set_option maxRecDepth 20000 in
set_option maxHeartbeats 2000000 in
theorem rf_e_M_faultOf (d : Nat) (o : Nat) (a1 : Int) (h : rf_H) : rf_call (d + 1) 130 [.inr (.inr (some o)), .inl a1] h = ((rf_pI h 5 o 13 (rf_w (60 * a1))).bind fun h1 => ((rf_gR h1 5 o 2).bind fun x2 => (rf_nn x2 fun k3 => ((rf_aI h1 k3 a1).bind fun x4 => ((rf_pI h1 5 o 14 x4).bind fun h5 => ((rf_pI h5 5 o 15 0).bind fun h6 => (bif rf_isO h6.1 o 5 then ((rf_call d 131 [.inr (.inr (some o))] h6).bind fun q8 => rf_kI q8 fun x9 h7 => (if x9 = 0 then ((rf_gI h7 5 o 15).bind fun x10 => some (some (.inl x10), h7)) else some (some (.inl (-9)), h7))) else none))))))) := by
  show rf_den (rf_call d) (rf_mt 130) _ = _
  rw [rf_u_M_faultOf]
  exact ((rf_s_aload_n rf_f_M_faultOf_0 rfl (rf_m0 _) (rf_s_bipush rf_f_M_faultOf_1 (rf_m0 _) (rf_s_iload_n rf_f_M_faultOf_3 rfl (rf_m0 _) (rf_s_imul rf_f_M_faultOf_4 (rf_m0 _) (rf_s_putIS rf_f_M_faultOf_5 (rf_m0 _) fun h1 => (rf_s_aload_n rf_f_M_faultOf_8 rfl (rf_m0 _) (rf_s_aload_n rf_f_M_faultOf_9 rfl (rf_m0 _) (rf_s_getAS rf_f_M_faultOf_10 (rf_m0 _) fun x2 => (rf_s_iload_n rf_f_M_faultOf_13 rfl (rf_m0 _) (rf_s_ialdR rf_f_M_faultOf_14 (rf_m0 _) fun k3 x4 => (rf_s_putIS rf_f_M_faultOf_15 (rf_m0 _) fun h5 => (rf_s_aload_n rf_f_M_faultOf_18 rfl (rf_m0 _) (rf_s_iconst rf_f_M_faultOf_19 (rf_m0 _) (rf_s_putIS rf_f_M_faultOf_20 (rf_m0 _) fun h6 => (rf_s_aload_n rf_f_M_faultOf_23 rfl (rf_m0 _) (rf_s_invV0S rf_f_M_faultOf_24 rfl rfl (rf_m0 _) fun q8 x9 h7 => (rf_s_if_eq rf_f_M_faultOf_27 rfl (rf_m0 _) (rf_m0 _) (rf_s_aload_n rf_f_M_faultOf_35 rfl (rf_m0 _) (rf_s_getIS rf_f_M_faultOf_36 (rf_m0 _) fun x10 => (rf_s_iret rf_f_M_faultOf_39))) (rf_s_bipush rf_f_M_faultOf_30 (rf_m0 _) (rf_s_goto rf_f_M_faultOf_32 rfl (rf_m0 _) (rf_s_iret rf_f_M_faultOf_39)))))))))))))))))))) : rf_den (rf_call d) rf_m_M_faultOf (0, [some (.inr (.inr (some o))), some (.inl a1)], [], h) = _)
noncomputable def rf_j_M_reads_2 (d : Nat) (o : Nat) (l1 : Int) (h : rf_H) : Option rf_R := rf_den (rf_call d) rf_m_M_reads (2, [some (.inr (.inr (some o))), some (.inl l1)], [], h)
noncomputable def rf_j_M_reads_101 (d : Nat) (o : Nat) (s0 : Int) (h : rf_H) : Option rf_R := rf_den (rf_call d) rf_m_M_reads (101, [some (.inr (.inr (some o))), none], [.inl s0], h)
noncomputable def rf_j_M_reads_132 (d : Nat) (o : Nat) (l1 : Int) (h : rf_H) : Option rf_R := rf_den (rf_call d) rf_m_M_reads (132, [some (.inr (.inr (some o))), some (.inl l1)], [], h)
theorem rf_u_M_reads : rf_mt 131 = rf_m_M_reads := rfl
theorem rf_f_M_reads_0 : rf_Fb rf_m_M_reads 0 1 (.iconst 0) 0 0 0 0 [] [] = true := by decide +kernel
theorem rf_f_M_reads_1 : rf_Fb rf_m_M_reads 1 2 (.istore_n 1) 0 0 0 0 [] [true, true] = true := by decide +kernel
theorem rf_f_M_reads_2 : rf_Fb rf_m_M_reads 2 3 (.iload_n 1) 0 0 0 0 [] [] = true := by decide +kernel
theorem rf_f_M_reads_3 : rf_Fb rf_m_M_reads 3 6 (.sipush 638) 0 0 0 0 [] [] = true := by decide +kernel
theorem rf_f_M_reads_6 : rf_Fb rf_m_M_reads 6 9 (.if_icmp .ge 16) 22 0 0 0 [] [] = true := by decide +kernel
theorem rf_f_M_reads_9 : rf_Fb rf_m_M_reads 9 10 (.aload_n 0) 0 0 0 0 [] [] = true := by decide +kernel
theorem rf_f_M_reads_10 : rf_Fb rf_m_M_reads 10 13 (.getfield 38) 5 16 2 0 [] [] = true := by decide +kernel
theorem rf_f_M_reads_13 : rf_Fb rf_m_M_reads 13 14 (.iload_n 1) 0 0 0 0 [] [] = true := by decide +kernel
theorem rf_f_M_reads_14 : rf_Fb rf_m_M_reads 14 15 (.iconst 0) 0 0 0 0 [] [] = true := by decide +kernel
theorem rf_f_M_reads_15 : rf_Fb rf_m_M_reads 15 16 (.iastore) 0 0 0 0 [] [] = true := by decide +kernel
theorem rf_f_M_reads_16 : rf_Fb rf_m_M_reads 16 19 (.iinc 1 1) 0 0 0 0 [] [] = true := by decide +kernel
theorem rf_f_M_reads_19 : rf_Fb rf_m_M_reads 19 22 (.goto (-17)) 2 0 0 0 [] [] = true := by decide +kernel
theorem rf_f_M_reads_22 : rf_Fb rf_m_M_reads 22 23 (.aload_n 0) 0 0 0 0 [] [] = true := by decide +kernel
theorem rf_f_M_reads_23 : rf_Fb rf_m_M_reads 23 26 (.getfield 38) 5 16 2 0 [] [] = true := by decide +kernel
theorem rf_f_M_reads_26 : rf_Fb rf_m_M_reads 26 28 (.bipush 31) 0 0 0 0 [] [] = true := by decide +kernel
theorem rf_f_M_reads_28 : rf_Fb rf_m_M_reads 28 29 (.iconst 1) 0 0 0 0 [] [] = true := by decide +kernel
theorem rf_f_M_reads_29 : rf_Fb rf_m_M_reads 29 30 (.iastore) 0 0 0 0 [] [] = true := by decide +kernel
theorem rf_f_M_reads_30 : rf_Fb rf_m_M_reads 30 31 (.aload_n 0) 0 0 0 0 [] [] = true := by decide +kernel
theorem rf_f_M_reads_31 : rf_Fb rf_m_M_reads 31 34 (.getfield 38) 5 16 2 0 [] [] = true := by decide +kernel
theorem rf_f_M_reads_34 : rf_Fb rf_m_M_reads 34 36 (.bipush 32) 0 0 0 0 [] [] = true := by decide +kernel
theorem rf_f_M_reads_36 : rf_Fb rf_m_M_reads 36 37 (.iconst 1) 0 0 0 0 [] [] = true := by decide +kernel
theorem rf_f_M_reads_37 : rf_Fb rf_m_M_reads 37 38 (.iastore) 0 0 0 0 [] [] = true := by decide +kernel
theorem rf_f_M_reads_38 : rf_Fb rf_m_M_reads 38 39 (.aload_n 0) 0 0 0 0 [] [] = true := by decide +kernel
theorem rf_f_M_reads_39 : rf_Fb rf_m_M_reads 39 42 (.invokevirtual 106) 132 0 3 5 [] [] = true := by decide +kernel
theorem rf_f_M_reads_42 : rf_Fb rf_m_M_reads 42 43 (.aload_n 0) 0 0 0 0 [] [] = true := by decide +kernel
theorem rf_f_M_reads_43 : rf_Fb rf_m_M_reads 43 45 (.bipush 101) 0 0 0 0 [] [] = true := by decide +kernel
theorem rf_f_M_reads_45 : rf_Fb rf_m_M_reads 45 48 (.invokevirtual 109) 134 1 0 5 [] [] = true := by decide +kernel
theorem rf_f_M_reads_48 : rf_Fb rf_m_M_reads 48 51 (.ifCond .eq 52) 100 0 0 0 [] [] = true := by decide +kernel
theorem rf_f_M_reads_51 : rf_Fb rf_m_M_reads 51 52 (.aload_n 0) 0 0 0 0 [] [] = true := by decide +kernel
theorem rf_f_M_reads_52 : rf_Fb rf_m_M_reads 52 53 (.iconst 0) 0 0 0 0 [] [] = true := by decide +kernel
theorem rf_f_M_reads_53 : rf_Fb rf_m_M_reads 53 54 (.iconst 1) 0 0 0 0 [] [] = true := by decide +kernel
theorem rf_f_M_reads_54 : rf_Fb rf_m_M_reads 54 56 (.bipush 9) 0 0 0 0 [] [] = true := by decide +kernel
theorem rf_f_M_reads_56 : rf_Fb rf_m_M_reads 56 59 (.invokevirtual 102) 135 3 0 5 [] [] = true := by decide +kernel
theorem rf_f_M_reads_59 : rf_Fb rf_m_M_reads 59 62 (.ifCond .eq 41) 100 0 0 0 [] [] = true := by decide +kernel
theorem rf_f_M_reads_62 : rf_Fb rf_m_M_reads 62 63 (.aload_n 0) 0 0 0 0 [] [] = true := by decide +kernel
theorem rf_f_M_reads_63 : rf_Fb rf_m_M_reads 63 65 (.bipush 27) 0 0 0 0 [] [] = true := by decide +kernel
theorem rf_f_M_reads_65 : rf_Fb rf_m_M_reads 65 66 (.iconst 0) 0 0 0 0 [] [] = true := by decide +kernel
theorem rf_f_M_reads_66 : rf_Fb rf_m_M_reads 66 68 (.bipush 9) 0 0 0 0 [] [] = true := by decide +kernel
theorem rf_f_M_reads_68 : rf_Fb rf_m_M_reads 68 71 (.invokevirtual 102) 135 3 0 5 [] [] = true := by decide +kernel
theorem rf_f_M_reads_71 : rf_Fb rf_m_M_reads 71 74 (.ifCond .eq 29) 100 0 0 0 [] [] = true := by decide +kernel
theorem rf_f_M_reads_74 : rf_Fb rf_m_M_reads 74 75 (.aload_n 0) 0 0 0 0 [] [] = true := by decide +kernel
theorem rf_f_M_reads_75 : rf_Fb rf_m_M_reads 75 77 (.bipush 28) 0 0 0 0 [] [] = true := by decide +kernel
theorem rf_f_M_reads_77 : rf_Fb rf_m_M_reads 77 78 (.iconst 0) 0 0 0 0 [] [] = true := by decide +kernel
theorem rf_f_M_reads_78 : rf_Fb rf_m_M_reads 78 80 (.bipush 9) 0 0 0 0 [] [] = true := by decide +kernel
theorem rf_f_M_reads_80 : rf_Fb rf_m_M_reads 80 83 (.invokevirtual 102) 135 3 0 5 [] [] = true := by decide +kernel
theorem rf_f_M_reads_83 : rf_Fb rf_m_M_reads 83 86 (.ifCond .eq 17) 100 0 0 0 [] [] = true := by decide +kernel
theorem rf_f_M_reads_86 : rf_Fb rf_m_M_reads 86 87 (.aload_n 0) 0 0 0 0 [] [] = true := by decide +kernel
theorem rf_f_M_reads_87 : rf_Fb rf_m_M_reads 87 88 (.iconst 1) 0 0 0 0 [] [] = true := by decide +kernel
theorem rf_f_M_reads_88 : rf_Fb rf_m_M_reads 88 89 (.iconst 0) 0 0 0 0 [] [] = true := by decide +kernel
theorem rf_f_M_reads_89 : rf_Fb rf_m_M_reads 89 90 (.iconst 3) 0 0 0 0 [] [] = true := by decide +kernel
theorem rf_f_M_reads_90 : rf_Fb rf_m_M_reads 90 93 (.invokevirtual 102) 135 3 0 5 [] [] = true := by decide +kernel
theorem rf_f_M_reads_93 : rf_Fb rf_m_M_reads 93 96 (.ifCond .eq 7) 100 0 0 0 [] [] = true := by decide +kernel
theorem rf_f_M_reads_96 : rf_Fb rf_m_M_reads 96 97 (.iconst 1) 0 0 0 0 [] [] = true := by decide +kernel
theorem rf_f_M_reads_97 : rf_Fb rf_m_M_reads 97 100 (.goto 4) 101 0 0 0 [] [] = true := by decide +kernel
theorem rf_f_M_reads_100 : rf_Fb rf_m_M_reads 100 101 (.iconst 0) 0 0 0 0 [] [true, false] = true := by decide +kernel
theorem rf_f_M_reads_101 : rf_Fb rf_m_M_reads 101 102 (.istore_n 1) 0 0 0 0 [] [] = true := by decide +kernel
theorem rf_f_M_reads_102 : rf_Fb rf_m_M_reads 102 103 (.iload_n 1) 0 0 0 0 [] [] = true := by decide +kernel
theorem rf_f_M_reads_103 : rf_Fb rf_m_M_reads 103 106 (.ifCond .eq 29) 132 0 0 0 [] [] = true := by decide +kernel
theorem rf_f_M_reads_106 : rf_Fb rf_m_M_reads 106 107 (.aload_n 0) 0 0 0 0 [] [] = true := by decide +kernel
theorem rf_f_M_reads_107 : rf_Fb rf_m_M_reads 107 110 (.invokevirtual 106) 132 0 3 5 [] [] = true := by decide +kernel
theorem rf_f_M_reads_110 : rf_Fb rf_m_M_reads 110 111 (.aload_n 0) 0 0 0 0 [] [] = true := by decide +kernel
theorem rf_f_M_reads_111 : rf_Fb rf_m_M_reads 111 113 (.bipush 105) 0 0 0 0 [] [] = true := by decide +kernel
theorem rf_f_M_reads_113 : rf_Fb rf_m_M_reads 113 116 (.invokevirtual 109) 134 1 0 5 [] [] = true := by decide +kernel
theorem rf_f_M_reads_116 : rf_Fb rf_m_M_reads 116 119 (.ifCond .eq 14) 130 0 0 0 [] [] = true := by decide +kernel
theorem rf_f_M_reads_119 : rf_Fb rf_m_M_reads 119 120 (.aload_n 0) 0 0 0 0 [] [] = true := by decide +kernel
theorem rf_f_M_reads_120 : rf_Fb rf_m_M_reads 120 123 (.invokevirtual 112) 136 0 0 5 [] [] = true := by decide +kernel
theorem rf_f_M_reads_123 : rf_Fb rf_m_M_reads 123 126 (.ifCond .eq 7) 130 0 0 0 [] [] = true := by decide +kernel
theorem rf_f_M_reads_126 : rf_Fb rf_m_M_reads 126 127 (.iconst 1) 0 0 0 0 [] [] = true := by decide +kernel
theorem rf_f_M_reads_127 : rf_Fb rf_m_M_reads 127 130 (.goto 4) 131 0 0 0 [] [] = true := by decide +kernel
theorem rf_f_M_reads_130 : rf_Fb rf_m_M_reads 130 131 (.iconst 0) 0 0 0 0 [] [] = true := by decide +kernel
theorem rf_f_M_reads_131 : rf_Fb rf_m_M_reads 131 132 (.istore_n 1) 0 0 0 0 [] [true, true] = true := by decide +kernel
theorem rf_f_M_reads_132 : rf_Fb rf_m_M_reads 132 133 (.iload_n 1) 0 0 0 0 [] [] = true := by decide +kernel
theorem rf_f_M_reads_133 : rf_Fb rf_m_M_reads 133 136 (.ifCond .eq 45) 178 0 0 0 [] [] = true := by decide +kernel
theorem rf_f_M_reads_136 : rf_Fb rf_m_M_reads 136 137 (.aload_n 0) 0 0 0 0 [] [] = true := by decide +kernel
theorem rf_f_M_reads_137 : rf_Fb rf_m_M_reads 137 140 (.getfield 83) 5 15 0 0 [] [] = true := by decide +kernel
theorem rf_f_M_reads_140 : rf_Fb rf_m_M_reads 140 141 (.aload_n 0) 0 0 0 0 [] [] = true := by decide +kernel
theorem rf_f_M_reads_141 : rf_Fb rf_m_M_reads 141 144 (.getfield 86) 5 14 0 0 [] [] = true := by decide +kernel
theorem rf_f_M_reads_144 : rf_Fb rf_m_M_reads 144 147 (.if_icmp .ge 34) 178 0 0 0 [] [] = true := by decide +kernel
theorem rf_f_M_reads_147 : rf_Fb rf_m_M_reads 147 148 (.aload_n 0) 0 0 0 0 [] [] = true := by decide +kernel
theorem rf_f_M_reads_148 : rf_Fb rf_m_M_reads 148 151 (.invokevirtual 106) 132 0 3 5 [] [] = true := by decide +kernel
theorem rf_f_M_reads_151 : rf_Fb rf_m_M_reads 151 152 (.aload_n 0) 0 0 0 0 [] [] = true := by decide +kernel
theorem rf_f_M_reads_152 : rf_Fb rf_m_M_reads 152 155 (.getfield 83) 5 15 0 0 [] [] = true := by decide +kernel
theorem rf_f_M_reads_155 : rf_Fb rf_m_M_reads 155 156 (.aload_n 0) 0 0 0 0 [] [] = true := by decide +kernel
theorem rf_f_M_reads_156 : rf_Fb rf_m_M_reads 156 159 (.getfield 86) 5 14 0 0 [] [] = true := by decide +kernel
theorem rf_f_M_reads_159 : rf_Fb rf_m_M_reads 159 162 (.if_icmp .eq 10) 169 0 0 0 [] [] = true := by decide +kernel
theorem rf_f_M_reads_162 : rf_Fb rf_m_M_reads 162 163 (.aload_n 0) 0 0 0 0 [] [] = true := by decide +kernel
theorem rf_f_M_reads_163 : rf_Fb rf_m_M_reads 163 166 (.invokevirtual 116) 138 0 0 5 [] [] = true := by decide +kernel
theorem rf_f_M_reads_166 : rf_Fb rf_m_M_reads 166 169 (.ifCond .eq 7) 173 0 0 0 [] [] = true := by decide +kernel
theorem rf_f_M_reads_169 : rf_Fb rf_m_M_reads 169 170 (.iconst 1) 0 0 0 0 [] [] = true := by decide +kernel
theorem rf_f_M_reads_170 : rf_Fb rf_m_M_reads 170 173 (.goto 4) 174 0 0 0 [] [] = true := by decide +kernel
theorem rf_f_M_reads_173 : rf_Fb rf_m_M_reads 173 174 (.iconst 0) 0 0 0 0 [] [] = true := by decide +kernel
theorem rf_f_M_reads_174 : rf_Fb rf_m_M_reads 174 175 (.istore_n 1) 0 0 0 0 [] [] = true := by decide +kernel
theorem rf_f_M_reads_175 : rf_Fb rf_m_M_reads 175 178 (.goto (-43)) 132 0 0 0 [] [] = true := by decide +kernel
theorem rf_f_M_reads_178 : rf_Fb rf_m_M_reads 178 179 (.iload_n 1) 0 0 0 0 [] [] = true := by decide +kernel
theorem rf_f_M_reads_179 : rf_Fb rf_m_M_reads 179 180 (.ireturn) 0 0 1 0 [] [] = true := by decide +kernel
set_option maxRecDepth 20000 in
set_option maxHeartbeats 2000000 in
theorem rf_e_M_reads (d : Nat) (o : Nat) (h : rf_H) : rf_call (d + 1) 131 [.inr (.inr (some o))] h = rf_j_M_reads_2 d o 0 h := by
  show rf_den (rf_call d) (rf_mt 131) _ = _
  rw [rf_u_M_reads]
  exact ((rf_s_iconst rf_f_M_reads_0 (rf_m0 _) (rf_s_istore_n rf_f_M_reads_1 rfl rfl)) : rf_den (rf_call d) rf_m_M_reads (0, [some (.inr (.inr (some o))), none], [], h) = _)
set_option maxRecDepth 20000 in
set_option maxHeartbeats 2000000 in
theorem rf_e_M_reads_2 (d : Nat) (o : Nat) (l1 : Int) (h : rf_H) : rf_j_M_reads_2 d o l1 h = (if l1 < 638 then ((rf_gR h 5 o 16).bind fun x24 => (rf_nn x24 fun k25 => ((rf_sI h k25 l1 0).bind fun h26 => rf_j_M_reads_2 d o (rf_w (l1 + 1)) h26))) else ((rf_gR h 5 o 16).bind fun x1 => (rf_nn x1 fun k2 => ((rf_sI h k2 31 1).bind fun h3 => ((rf_gR h3 5 o 16).bind fun x4 => (rf_nn x4 fun k5 => ((rf_sI h3 k5 32 1).bind fun h6 => (bif rf_isO h6.1 o 5 then ((rf_call d 132 [.inr (.inr (some o))] h6).bind fun q8 => rf_kV q8 fun h7 => (bif rf_isO h7.1 o 5 then ((rf_call d 134 [.inr (.inr (some o)), .inl 101] h7).bind fun q10 => rf_kI q10 fun x11 h9 => (if x11 = 0 then rf_j_M_reads_101 d o 0 h9 else (bif rf_isO h9.1 o 5 then ((rf_call d 135 [.inr (.inr (some o)), .inl 0, .inl 1, .inl 9] h9).bind fun q13 => rf_kI q13 fun x14 h12 => (if x14 = 0 then rf_j_M_reads_101 d o 0 h12 else (bif rf_isO h12.1 o 5 then ((rf_call d 135 [.inr (.inr (some o)), .inl 27, .inl 0, .inl 9] h12).bind fun q16 => rf_kI q16 fun x17 h15 => (if x17 = 0 then rf_j_M_reads_101 d o 0 h15 else (bif rf_isO h15.1 o 5 then ((rf_call d 135 [.inr (.inr (some o)), .inl 28, .inl 0, .inl 9] h15).bind fun q19 => rf_kI q19 fun x20 h18 => (if x20 = 0 then rf_j_M_reads_101 d o 0 h18 else (bif rf_isO h18.1 o 5 then ((rf_call d 135 [.inr (.inr (some o)), .inl 1, .inl 0, .inl 3] h18).bind fun q22 => rf_kI q22 fun x23 h21 => (if x23 = 0 then rf_j_M_reads_101 d o 0 h21 else rf_j_M_reads_101 d o 1 h21)) else none))) else none))) else none))) else none))) else none)) else none)))))))) :=
  ((rf_s_iload_n rf_f_M_reads_2 rfl (rf_m0 _) (rf_s_sipush rf_f_M_reads_3 (rf_m0 _) (rf_s_icmp_ge rf_f_M_reads_6 rfl (rf_m0 _) (rf_m0 _) (rf_s_aload_n rf_f_M_reads_22 rfl (rf_m0 _) (rf_s_getAS rf_f_M_reads_23 (rf_m0 _) fun x1 => (rf_s_bipush rf_f_M_reads_26 (rf_m0 _) (rf_s_iconst rf_f_M_reads_28 (rf_m0 _) (rf_s_iastR rf_f_M_reads_29 (rf_m0 _) fun k2 h3 => (rf_s_aload_n rf_f_M_reads_30 rfl (rf_m0 _) (rf_s_getAS rf_f_M_reads_31 (rf_m0 _) fun x4 => (rf_s_bipush rf_f_M_reads_34 (rf_m0 _) (rf_s_iconst rf_f_M_reads_36 (rf_m0 _) (rf_s_iastR rf_f_M_reads_37 (rf_m0 _) fun k5 h6 => (rf_s_aload_n rf_f_M_reads_38 rfl (rf_m0 _) (rf_s_invV3S rf_f_M_reads_39 rfl rfl (rf_m0 _) fun q8 h7 => (rf_s_aload_n rf_f_M_reads_42 rfl (rf_m0 _) (rf_s_bipush rf_f_M_reads_43 (rf_m0 _) (rf_s_invV0S rf_f_M_reads_45 rfl rfl (rf_m0 _) fun q10 x11 h9 => (rf_s_if_eq rf_f_M_reads_48 rfl (rf_m0 _) (rf_m0 _) (rf_s_iconst rf_f_M_reads_100 rfl rfl) (rf_s_aload_n rf_f_M_reads_51 rfl (rf_m0 _) (rf_s_iconst rf_f_M_reads_52 (rf_m0 _) (rf_s_iconst rf_f_M_reads_53 (rf_m0 _) (rf_s_bipush rf_f_M_reads_54 (rf_m0 _) (rf_s_invV0S rf_f_M_reads_56 rfl rfl (rf_m0 _) fun q13 x14 h12 => (rf_s_if_eq rf_f_M_reads_59 rfl (rf_m0 _) (rf_m0 _) (rf_s_iconst rf_f_M_reads_100 rfl rfl) (rf_s_aload_n rf_f_M_reads_62 rfl (rf_m0 _) (rf_s_bipush rf_f_M_reads_63 (rf_m0 _) (rf_s_iconst rf_f_M_reads_65 (rf_m0 _) (rf_s_bipush rf_f_M_reads_66 (rf_m0 _) (rf_s_invV0S rf_f_M_reads_68 rfl rfl (rf_m0 _) fun q16 x17 h15 => (rf_s_if_eq rf_f_M_reads_71 rfl (rf_m0 _) (rf_m0 _) (rf_s_iconst rf_f_M_reads_100 rfl rfl) (rf_s_aload_n rf_f_M_reads_74 rfl (rf_m0 _) (rf_s_bipush rf_f_M_reads_75 (rf_m0 _) (rf_s_iconst rf_f_M_reads_77 (rf_m0 _) (rf_s_bipush rf_f_M_reads_78 (rf_m0 _) (rf_s_invV0S rf_f_M_reads_80 rfl rfl (rf_m0 _) fun q19 x20 h18 => (rf_s_if_eq rf_f_M_reads_83 rfl (rf_m0 _) (rf_m0 _) (rf_s_iconst rf_f_M_reads_100 rfl rfl) (rf_s_aload_n rf_f_M_reads_86 rfl (rf_m0 _) (rf_s_iconst rf_f_M_reads_87 (rf_m0 _) (rf_s_iconst rf_f_M_reads_88 (rf_m0 _) (rf_s_iconst rf_f_M_reads_89 (rf_m0 _) (rf_s_invV0S rf_f_M_reads_90 rfl rfl (rf_m0 _) fun q22 x23 h21 => (rf_s_if_eq rf_f_M_reads_93 rfl (rf_m0 _) (rf_m0 _) (rf_s_iconst rf_f_M_reads_100 rfl rfl) (rf_s_iconst rf_f_M_reads_96 (rf_m0 _) (rf_s_goto rf_f_M_reads_97 rfl rfl rfl)))))))))))))))))))))))))))))))))))))))))) (rf_s_aload_n rf_f_M_reads_9 rfl (rf_m0 _) (rf_s_getAS rf_f_M_reads_10 (rf_m0 _) fun x24 => (rf_s_iload_n rf_f_M_reads_13 rfl (rf_m0 _) (rf_s_iconst rf_f_M_reads_14 (rf_m0 _) (rf_s_iastR rf_f_M_reads_15 (rf_m0 _) fun k25 h26 => (rf_s_iinc (L' := [some (.inr (.inr (some o))), some (.inl (rf_w (l1 + 1)))]) rf_f_M_reads_16 rfl rfl (rf_s_goto rf_f_M_reads_19 rfl rfl rfl)))))))))) : rf_den (rf_call d) rf_m_M_reads (2, [some (.inr (.inr (some o))), some (.inl l1)], [], h) = _)
set_option maxRecDepth 20000 in
set_option maxHeartbeats 2000000 in
theorem rf_e_M_reads_101 (d : Nat) (o : Nat) (s0 : Int) (h : rf_H) : rf_j_M_reads_101 d o s0 h = (if s0 = 0 then rf_j_M_reads_132 d o s0 h else (bif rf_isO h.1 o 5 then ((rf_call d 132 [.inr (.inr (some o))] h).bind fun q2 => rf_kV q2 fun h1 => (bif rf_isO h1.1 o 5 then ((rf_call d 134 [.inr (.inr (some o)), .inl 105] h1).bind fun q4 => rf_kI q4 fun x5 h3 => (if x5 = 0 then rf_j_M_reads_132 d o 0 h3 else (bif rf_isO h3.1 o 5 then ((rf_call d 136 [.inr (.inr (some o))] h3).bind fun q7 => rf_kI q7 fun x8 h6 => (if x8 = 0 then rf_j_M_reads_132 d o 0 h6 else rf_j_M_reads_132 d o 1 h6)) else none))) else none)) else none)) :=
  ((rf_s_istore_n (L' := [some (.inr (.inr (some o))), some (.inl s0)]) rf_f_M_reads_101 rfl (rf_s_iload_n rf_f_M_reads_102 rfl (rf_m0 _) (rf_s_if_eq rf_f_M_reads_103 rfl rfl (rf_m0 _) rfl (rf_s_aload_n rf_f_M_reads_106 rfl (rf_m0 _) (rf_s_invV3S rf_f_M_reads_107 rfl rfl (rf_m0 _) fun q2 h1 => (rf_s_aload_n rf_f_M_reads_110 rfl (rf_m0 _) (rf_s_bipush rf_f_M_reads_111 (rf_m0 _) (rf_s_invV0S rf_f_M_reads_113 rfl rfl (rf_m0 _) fun q4 x5 h3 => (rf_s_if_eq rf_f_M_reads_116 rfl (rf_m0 _) (rf_m0 _) (rf_s_iconst rf_f_M_reads_130 (rf_m0 _) (rf_s_istore_n rf_f_M_reads_131 rfl rfl)) (rf_s_aload_n rf_f_M_reads_119 rfl (rf_m0 _) (rf_s_invV0S rf_f_M_reads_120 rfl rfl (rf_m0 _) fun q7 x8 h6 => (rf_s_if_eq rf_f_M_reads_123 rfl (rf_m0 _) (rf_m0 _) (rf_s_iconst rf_f_M_reads_130 (rf_m0 _) (rf_s_istore_n rf_f_M_reads_131 rfl rfl)) (rf_s_iconst rf_f_M_reads_126 (rf_m0 _) (rf_s_goto rf_f_M_reads_127 rfl (rf_m0 _) (rf_s_istore_n rf_f_M_reads_131 rfl rfl))))))))))))))) : rf_den (rf_call d) rf_m_M_reads (101, [some (.inr (.inr (some o))), none], [.inl s0], h) = _)
set_option maxRecDepth 20000 in
set_option maxHeartbeats 2000000 in
theorem rf_e_M_reads_132 (d : Nat) (o : Nat) (l1 : Int) (h : rf_H) : rf_j_M_reads_132 d o l1 h = (if l1 = 0 then (if l1 = 0 ∨ l1 = 1 then some (some (.inl l1), h) else none) else ((rf_gI h 5 o 15).bind fun x1 => ((rf_gI h 5 o 14).bind fun x2 => (if x1 < x2 then (bif rf_isO h.1 o 5 then ((rf_call d 132 [.inr (.inr (some o))] h).bind fun q4 => rf_kV q4 fun h3 => ((rf_gI h3 5 o 15).bind fun x5 => ((rf_gI h3 5 o 14).bind fun x6 => (if x5 = x6 then rf_j_M_reads_132 d o 1 h3 else (bif rf_isO h3.1 o 5 then ((rf_call d 138 [.inr (.inr (some o))] h3).bind fun q8 => rf_kI q8 fun x9 h7 => (if x9 = 0 then rf_j_M_reads_132 d o 0 h7 else rf_j_M_reads_132 d o 1 h7)) else none))))) else none) else (if l1 = 0 ∨ l1 = 1 then some (some (.inl l1), h) else none))))) :=
  ((rf_s_iload_n rf_f_M_reads_132 rfl (rf_m0 _) (rf_s_if_eq rf_f_M_reads_133 rfl (rf_m0 _) (rf_m0 _) (rf_s_iload_n rf_f_M_reads_178 rfl (rf_m0 _) (rf_s_zret rf_f_M_reads_179)) (rf_s_aload_n rf_f_M_reads_136 rfl (rf_m0 _) (rf_s_getIS rf_f_M_reads_137 (rf_m0 _) fun x1 => (rf_s_aload_n rf_f_M_reads_140 rfl (rf_m0 _) (rf_s_getIS rf_f_M_reads_141 (rf_m0 _) fun x2 => (rf_s_icmp_ge rf_f_M_reads_144 rfl (rf_m0 _) (rf_m0 _) (rf_s_iload_n rf_f_M_reads_178 rfl (rf_m0 _) (rf_s_zret rf_f_M_reads_179)) (rf_s_aload_n rf_f_M_reads_147 rfl (rf_m0 _) (rf_s_invV3S rf_f_M_reads_148 rfl rfl (rf_m0 _) fun q4 h3 => (rf_s_aload_n rf_f_M_reads_151 rfl (rf_m0 _) (rf_s_getIS rf_f_M_reads_152 (rf_m0 _) fun x5 => (rf_s_aload_n rf_f_M_reads_155 rfl (rf_m0 _) (rf_s_getIS rf_f_M_reads_156 (rf_m0 _) fun x6 => (rf_s_icmp_eq rf_f_M_reads_159 rfl (rf_m0 _) (rf_m0 _) (rf_s_iconst rf_f_M_reads_169 (rf_m0 _) (rf_s_goto rf_f_M_reads_170 rfl (rf_m0 _) (rf_s_istore_n (L' := [some (.inr (.inr (some o))), some (.inl 1)]) rf_f_M_reads_174 rfl (rf_s_goto rf_f_M_reads_175 rfl rfl rfl)))) (rf_s_aload_n rf_f_M_reads_162 rfl (rf_m0 _) (rf_s_invV0S rf_f_M_reads_163 rfl rfl (rf_m0 _) fun q8 x9 h7 => (rf_s_if_eq rf_f_M_reads_166 rfl (rf_m0 _) (rf_m0 _) (rf_s_iconst rf_f_M_reads_173 (rf_m0 _) (rf_s_istore_n (L' := [some (.inr (.inr (some o))), some (.inl 0)]) rf_f_M_reads_174 rfl (rf_s_goto rf_f_M_reads_175 rfl rfl rfl))) (rf_s_iconst rf_f_M_reads_169 (rf_m0 _) (rf_s_goto rf_f_M_reads_170 rfl (rf_m0 _) (rf_s_istore_n (L' := [some (.inr (.inr (some o))), some (.inl 1)]) rf_f_M_reads_174 rfl (rf_s_goto rf_f_M_reads_175 rfl rfl rfl))))))))))))))))))))) : rf_den (rf_call d) rf_m_M_reads (132, [some (.inr (.inr (some o))), some (.inl l1)], [], h) = _)
noncomputable def rf_j_M_skips_0 (d : Nat) (o : Nat) (h : rf_H) : Option rf_R := rf_den (rf_call d) rf_m_M_skips (0, [some (.inr (.inr (some o)))], [], h)
theorem rf_u_M_skips : rf_mt 132 = rf_m_M_skips := rfl
theorem rf_f_M_skips_0 : rf_Fb rf_m_M_skips 0 1 (.aload_n 0) 0 0 0 0 [] [] = true := by decide +kernel
theorem rf_f_M_skips_1 : rf_Fb rf_m_M_skips 1 4 (.invokevirtual 92) 133 0 0 5 [] [] = true := by decide +kernel
theorem rf_f_M_skips_4 : rf_Fb rf_m_M_skips 4 6 (.bipush 32) 0 0 0 0 [] [] = true := by decide +kernel
theorem rf_f_M_skips_6 : rf_Fb rf_m_M_skips 6 9 (.if_icmp .ne 16) 22 0 0 0 [] [] = true := by decide +kernel
theorem rf_f_M_skips_9 : rf_Fb rf_m_M_skips 9 10 (.aload_n 0) 0 0 0 0 [] [] = true := by decide +kernel
theorem rf_f_M_skips_10 : rf_Fb rf_m_M_skips 10 11 (.dup) 0 0 0 0 [] [] = true := by decide +kernel
theorem rf_f_M_skips_11 : rf_Fb rf_m_M_skips 11 14 (.getfield 83) 5 15 0 0 [] [] = true := by decide +kernel
theorem rf_f_M_skips_14 : rf_Fb rf_m_M_skips 14 15 (.iconst 1) 0 0 0 0 [] [] = true := by decide +kernel
theorem rf_f_M_skips_15 : rf_Fb rf_m_M_skips 15 16 (.iadd) 0 0 0 0 [] [] = true := by decide +kernel
theorem rf_f_M_skips_16 : rf_Fb rf_m_M_skips 16 19 (.putfield 83) 5 15 0 0 [] [] = true := by decide +kernel
theorem rf_f_M_skips_19 : rf_Fb rf_m_M_skips 19 22 (.goto (-19)) 0 0 0 0 [] [] = true := by decide +kernel
theorem rf_f_M_skips_22 : rf_Fb rf_m_M_skips 22 23 (.return_) 0 0 0 0 [] [] = true := by decide +kernel
set_option maxRecDepth 20000 in
set_option maxHeartbeats 2000000 in
theorem rf_e_M_skips (d : Nat) (o : Nat) (h : rf_H) : rf_call (d + 1) 132 [.inr (.inr (some o))] h = rf_j_M_skips_0 d o h := by
  show rf_den (rf_call d) (rf_mt 132) _ = _
  rw [rf_u_M_skips]
  exact (rfl : rf_den (rf_call d) rf_m_M_skips (0, [some (.inr (.inr (some o)))], [], h) = _)
set_option maxRecDepth 20000 in
set_option maxHeartbeats 2000000 in
theorem rf_e_M_skips_0 (d : Nat) (o : Nat) (h : rf_H) : rf_j_M_skips_0 d o h = (bif rf_isO h.1 o 5 then ((rf_call d 133 [.inr (.inr (some o))] h).bind fun q2 => rf_kI q2 fun x3 h1 => (if x3 = 32 then ((rf_gI h1 5 o 15).bind fun x4 => ((rf_pI h1 5 o 15 (rf_w (x4 + 1))).bind fun h5 => rf_j_M_skips_0 d o h5)) else some (none, h1))) else none) :=
  ((rf_s_aload_n rf_f_M_skips_0 rfl (rf_m0 _) (rf_s_invV0S rf_f_M_skips_1 rfl rfl (rf_m0 _) fun q2 x3 h1 => (rf_s_bipush rf_f_M_skips_4 (rf_m0 _) (rf_s_icmp_ne rf_f_M_skips_6 rfl (rf_m0 _) (rf_m0 _) (rf_s_vret rf_f_M_skips_22) (rf_s_aload_n rf_f_M_skips_9 rfl (rf_m0 _) (rf_s_dupA rf_f_M_skips_10 (rf_m0 _) (rf_s_getIS rf_f_M_skips_11 (rf_m0 _) fun x4 => (rf_s_iconst rf_f_M_skips_14 (rf_m0 _) (rf_s_iadd rf_f_M_skips_15 (rf_m0 _) (rf_s_putIS rf_f_M_skips_16 (rf_m0 _) fun h5 => (rf_s_goto rf_f_M_skips_19 rfl rfl rfl))))))))))) : rf_den (rf_call d) rf_m_M_skips (0, [some (.inr (.inr (some o)))], [], h) = _)
theorem rf_u_M_sign : rf_mt 133 = rf_m_M_sign := rfl
theorem rf_f_M_sign_0 : rf_Fb rf_m_M_sign 0 1 (.aload_n 0) 0 0 0 0 [] [] = true := by decide +kernel
theorem rf_f_M_sign_1 : rf_Fb rf_m_M_sign 1 4 (.getfield 83) 5 15 0 0 [] [] = true := by decide +kernel
theorem rf_f_M_sign_4 : rf_Fb rf_m_M_sign 4 5 (.aload_n 0) 0 0 0 0 [] [] = true := by decide +kernel
theorem rf_f_M_sign_5 : rf_Fb rf_m_M_sign 5 8 (.getfield 86) 5 14 0 0 [] [] = true := by decide +kernel
theorem rf_f_M_sign_8 : rf_Fb rf_m_M_sign 8 11 (.if_icmp .ge 20) 28 0 0 0 [] [] = true := by decide +kernel
theorem rf_f_M_sign_11 : rf_Fb rf_m_M_sign 11 12 (.aload_n 0) 0 0 0 0 [] [] = true := by decide +kernel
theorem rf_f_M_sign_12 : rf_Fb rf_m_M_sign 12 15 (.getfield 19) 5 3 2 0 [] [] = true := by decide +kernel
theorem rf_f_M_sign_15 : rf_Fb rf_m_M_sign 15 16 (.aload_n 0) 0 0 0 0 [] [] = true := by decide +kernel
theorem rf_f_M_sign_16 : rf_Fb rf_m_M_sign 16 19 (.getfield 89) 5 13 0 0 [] [] = true := by decide +kernel
theorem rf_f_M_sign_19 : rf_Fb rf_m_M_sign 19 20 (.aload_n 0) 0 0 0 0 [] [] = true := by decide +kernel
theorem rf_f_M_sign_20 : rf_Fb rf_m_M_sign 20 23 (.getfield 83) 5 15 0 0 [] [] = true := by decide +kernel
theorem rf_f_M_sign_23 : rf_Fb rf_m_M_sign 23 24 (.iadd) 0 0 0 0 [] [] = true := by decide +kernel
theorem rf_f_M_sign_24 : rf_Fb rf_m_M_sign 24 25 (.iaload) 0 0 0 0 [] [] = true := by decide +kernel
theorem rf_f_M_sign_25 : rf_Fb rf_m_M_sign 25 28 (.goto 4) 29 0 0 0 [] [] = true := by decide +kernel
theorem rf_f_M_sign_28 : rf_Fb rf_m_M_sign 28 29 (.iconst (-1)) 0 0 0 0 [] [] = true := by decide +kernel
theorem rf_f_M_sign_29 : rf_Fb rf_m_M_sign 29 30 (.ireturn) 0 0 0 0 [] [] = true := by decide +kernel
set_option maxRecDepth 20000 in
set_option maxHeartbeats 2000000 in
theorem rf_e_M_sign (d : Nat) (o : Nat) (h : rf_H) : rf_call (d + 1) 133 [.inr (.inr (some o))] h = ((rf_gI h 5 o 15).bind fun x1 => ((rf_gI h 5 o 14).bind fun x2 => (if x1 < x2 then ((rf_gR h 5 o 3).bind fun x3 => ((rf_gI h 5 o 13).bind fun x4 => ((rf_gI h 5 o 15).bind fun x5 => (rf_nn x3 fun k6 => ((rf_aI h k6 (rf_w (x4 + x5))).bind fun x7 => some (some (.inl x7), h)))))) else some (some (.inl (-1)), h)))) := by
  show rf_den (rf_call d) (rf_mt 133) _ = _
  rw [rf_u_M_sign]
  exact ((rf_s_aload_n rf_f_M_sign_0 rfl (rf_m0 _) (rf_s_getIS rf_f_M_sign_1 (rf_m0 _) fun x1 => (rf_s_aload_n rf_f_M_sign_4 rfl (rf_m0 _) (rf_s_getIS rf_f_M_sign_5 (rf_m0 _) fun x2 => (rf_s_icmp_ge rf_f_M_sign_8 rfl (rf_m0 _) (rf_m0 _) (rf_s_iconst rf_f_M_sign_28 (rf_m0 _) (rf_s_iret rf_f_M_sign_29)) (rf_s_aload_n rf_f_M_sign_11 rfl (rf_m0 _) (rf_s_getAS rf_f_M_sign_12 (rf_m0 _) fun x3 => (rf_s_aload_n rf_f_M_sign_15 rfl (rf_m0 _) (rf_s_getIS rf_f_M_sign_16 (rf_m0 _) fun x4 => (rf_s_aload_n rf_f_M_sign_19 rfl (rf_m0 _) (rf_s_getIS rf_f_M_sign_20 (rf_m0 _) fun x5 => (rf_s_iadd rf_f_M_sign_23 (rf_m0 _) (rf_s_ialdR rf_f_M_sign_24 (rf_m0 _) fun k6 x7 => (rf_s_goto rf_f_M_sign_25 rfl (rf_m0 _) (rf_s_iret rf_f_M_sign_29))))))))))))))) : rf_den (rf_call d) rf_m_M_sign (0, [some (.inr (.inr (some o)))], [], h) = _)
noncomputable def rf_j_M_letter_13 (d : Nat) (o : Nat) (s0 : Int) (h : rf_H) : Option rf_R := rf_den (rf_call d) rf_m_M_letter (13, [some (.inr (.inr (some o))), none, none], [.inl s0], h)
theorem rf_u_M_letter : rf_mt 134 = rf_m_M_letter := rfl
theorem rf_f_M_letter_0 : rf_Fb rf_m_M_letter 0 1 (.aload_n 0) 0 0 0 0 [] [] = true := by decide +kernel
theorem rf_f_M_letter_1 : rf_Fb rf_m_M_letter 1 4 (.invokevirtual 92) 133 0 0 5 [] [] = true := by decide +kernel
theorem rf_f_M_letter_4 : rf_Fb rf_m_M_letter 4 5 (.iload_n 1) 0 0 0 0 [] [] = true := by decide +kernel
theorem rf_f_M_letter_5 : rf_Fb rf_m_M_letter 5 8 (.if_icmp .ne 7) 12 0 0 0 [] [] = true := by decide +kernel
theorem rf_f_M_letter_8 : rf_Fb rf_m_M_letter 8 9 (.iconst 1) 0 0 0 0 [] [] = true := by decide +kernel
theorem rf_f_M_letter_9 : rf_Fb rf_m_M_letter 9 12 (.goto 4) 13 0 0 0 [] [] = true := by decide +kernel
theorem rf_f_M_letter_12 : rf_Fb rf_m_M_letter 12 13 (.iconst 0) 0 0 0 0 [] [true, false, false] = true := by decide +kernel
theorem rf_f_M_letter_13 : rf_Fb rf_m_M_letter 13 14 (.istore_n 2) 0 0 0 0 [] [] = true := by decide +kernel
theorem rf_f_M_letter_14 : rf_Fb rf_m_M_letter 14 15 (.aload_n 0) 0 0 0 0 [] [] = true := by decide +kernel
theorem rf_f_M_letter_15 : rf_Fb rf_m_M_letter 15 16 (.dup) 0 0 0 0 [] [] = true := by decide +kernel
theorem rf_f_M_letter_16 : rf_Fb rf_m_M_letter 16 19 (.getfield 83) 5 15 0 0 [] [] = true := by decide +kernel
theorem rf_f_M_letter_19 : rf_Fb rf_m_M_letter 19 20 (.iload_n 2) 0 0 0 0 [] [] = true := by decide +kernel
theorem rf_f_M_letter_20 : rf_Fb rf_m_M_letter 20 23 (.ifCond .eq 7) 27 0 0 0 [] [] = true := by decide +kernel
theorem rf_f_M_letter_23 : rf_Fb rf_m_M_letter 23 24 (.iconst 1) 0 0 0 0 [] [] = true := by decide +kernel
theorem rf_f_M_letter_24 : rf_Fb rf_m_M_letter 24 27 (.goto 4) 28 0 0 0 [] [] = true := by decide +kernel
theorem rf_f_M_letter_27 : rf_Fb rf_m_M_letter 27 28 (.iconst 0) 0 0 0 0 [] [] = true := by decide +kernel
theorem rf_f_M_letter_28 : rf_Fb rf_m_M_letter 28 29 (.iadd) 0 0 0 0 [] [] = true := by decide +kernel
theorem rf_f_M_letter_29 : rf_Fb rf_m_M_letter 29 32 (.putfield 83) 5 15 0 0 [] [] = true := by decide +kernel
theorem rf_f_M_letter_32 : rf_Fb rf_m_M_letter 32 33 (.iload_n 2) 0 0 0 0 [] [] = true := by decide +kernel
theorem rf_f_M_letter_33 : rf_Fb rf_m_M_letter 33 34 (.ireturn) 0 0 1 0 [] [] = true := by decide +kernel
set_option maxRecDepth 20000 in
set_option maxHeartbeats 2000000 in
theorem rf_e_M_letter (d : Nat) (o : Nat) (a1 : Int) (h : rf_H) : rf_call (d + 1) 134 [.inr (.inr (some o)), .inl a1] h = (bif rf_isO h.1 o 5 then ((rf_call d 133 [.inr (.inr (some o))] h).bind fun q2 => rf_kI q2 fun x3 h1 => (if x3 = a1 then rf_j_M_letter_13 d o 1 h1 else rf_j_M_letter_13 d o 0 h1)) else none) := by
  show rf_den (rf_call d) (rf_mt 134) _ = _
  rw [rf_u_M_letter]
  exact ((rf_s_aload_n rf_f_M_letter_0 rfl (rf_m0 _) (rf_s_invV0S rf_f_M_letter_1 rfl rfl (rf_m0 _) fun q2 x3 h1 => (rf_s_iload_n rf_f_M_letter_4 rfl (rf_m0 _) (rf_s_icmp_ne rf_f_M_letter_5 rfl (rf_m0 _) (rf_m0 _) (rf_s_iconst rf_f_M_letter_12 rfl rfl) (rf_s_iconst rf_f_M_letter_8 (rf_m0 _) (rf_s_goto rf_f_M_letter_9 rfl rfl rfl)))))) : rf_den (rf_call d) rf_m_M_letter (0, [some (.inr (.inr (some o))), some (.inl a1), none], [], h) = _)
set_option maxRecDepth 20000 in
set_option maxHeartbeats 2000000 in
theorem rf_e_M_letter_13 (d : Nat) (o : Nat) (s0 : Int) (h : rf_H) : rf_j_M_letter_13 d o s0 h = ((rf_gI h 5 o 15).bind fun x1 => (if s0 = 0 then ((rf_pI h 5 o 15 (rf_w (x1 + 0))).bind fun h2 => (if s0 = 0 ∨ s0 = 1 then some (some (.inl s0), h2) else none)) else ((rf_pI h 5 o 15 (rf_w (x1 + 1))).bind fun h3 => (if s0 = 0 ∨ s0 = 1 then some (some (.inl s0), h3) else none)))) :=
  ((rf_s_istore_n (L' := [some (.inr (.inr (some o))), none, some (.inl s0)]) rf_f_M_letter_13 rfl (rf_s_aload_n rf_f_M_letter_14 rfl (rf_m0 _) (rf_s_dupA rf_f_M_letter_15 (rf_m0 _) (rf_s_getIS rf_f_M_letter_16 (rf_m0 _) fun x1 => (rf_s_iload_n rf_f_M_letter_19 rfl (rf_m0 _) (rf_s_if_eq rf_f_M_letter_20 rfl (rf_m0 _) (rf_m0 _) (rf_s_iconst rf_f_M_letter_27 (rf_m0 _) (rf_s_iadd rf_f_M_letter_28 (rf_m0 _) (rf_s_putIS rf_f_M_letter_29 (rf_m0 _) fun h2 => (rf_s_iload_n rf_f_M_letter_32 rfl (rf_m0 _) (rf_s_zret rf_f_M_letter_33))))) (rf_s_iconst rf_f_M_letter_23 (rf_m0 _) (rf_s_goto rf_f_M_letter_24 rfl (rf_m0 _) (rf_s_iadd rf_f_M_letter_28 (rf_m0 _) (rf_s_putIS rf_f_M_letter_29 (rf_m0 _) fun h3 => (rf_s_iload_n rf_f_M_letter_32 rfl (rf_m0 _) (rf_s_zret rf_f_M_letter_33)))))))))))) : rf_den (rf_call d) rf_m_M_letter (13, [some (.inr (.inr (some o))), none, none], [.inl s0], h) = _)
theorem rf_u_M_figure : rf_mt 135 = rf_m_M_figure := rfl
theorem rf_f_M_figure_0 : rf_Fb rf_m_M_figure 0 1 (.aload_n 0) 0 0 0 0 [] [] = true := by decide +kernel
theorem rf_f_M_figure_1 : rf_Fb rf_m_M_figure 1 4 (.invokevirtual 92) 133 0 0 5 [] [] = true := by decide +kernel
theorem rf_f_M_figure_4 : rf_Fb rf_m_M_figure 4 6 (.bipush 48) 0 0 0 0 [] [] = true := by decide +kernel
theorem rf_f_M_figure_6 : rf_Fb rf_m_M_figure 6 7 (.isub) 0 0 0 0 [] [] = true := by decide +kernel
theorem rf_f_M_figure_7 : rf_Fb rf_m_M_figure 7 9 (.istore 4) 0 0 0 0 [] [] = true := by decide +kernel
theorem rf_f_M_figure_9 : rf_Fb rf_m_M_figure 9 11 (.iload 4) 0 0 0 0 [] [] = true := by decide +kernel
theorem rf_f_M_figure_11 : rf_Fb rf_m_M_figure 11 12 (.i2l) 0 0 0 0 [] [] = true := by decide +kernel
theorem rf_f_M_figure_12 : rf_Fb rf_m_M_figure 12 13 (.iload_n 2) 0 0 0 0 [] [] = true := by decide +kernel
theorem rf_f_M_figure_13 : rf_Fb rf_m_M_figure 13 14 (.i2l) 0 0 0 0 [] [] = true := by decide +kernel
theorem rf_f_M_figure_14 : rf_Fb rf_m_M_figure 14 15 (.iload_n 3) 0 0 0 0 [] [] = true := by decide +kernel
theorem rf_f_M_figure_15 : rf_Fb rf_m_M_figure 15 16 (.i2l) 0 0 0 0 [] [] = true := by decide +kernel
theorem rf_f_M_figure_16 : rf_Fb rf_m_M_figure 16 19 (.invokestatic 63) 118 3 0 0 [] [] = true := by decide +kernel
theorem rf_f_M_figure_19 : rf_Fb rf_m_M_figure 19 22 (.ifCond .ne 5) 24 0 0 0 [] [] = true := by decide +kernel
theorem rf_f_M_figure_22 : rf_Fb rf_m_M_figure 22 23 (.iconst 0) 0 0 0 0 [] [] = true := by decide +kernel
theorem rf_f_M_figure_23 : rf_Fb rf_m_M_figure 23 24 (.ireturn) 0 0 1 0 [] [] = true := by decide +kernel
theorem rf_f_M_figure_24 : rf_Fb rf_m_M_figure 24 25 (.aload_n 0) 0 0 0 0 [] [] = true := by decide +kernel
theorem rf_f_M_figure_25 : rf_Fb rf_m_M_figure 25 28 (.getfield 38) 5 16 2 0 [] [] = true := by decide +kernel
theorem rf_f_M_figure_28 : rf_Fb rf_m_M_figure 28 29 (.iload_n 1) 0 0 0 0 [] [] = true := by decide +kernel
theorem rf_f_M_figure_29 : rf_Fb rf_m_M_figure 29 31 (.iload 4) 0 0 0 0 [] [] = true := by decide +kernel
theorem rf_f_M_figure_31 : rf_Fb rf_m_M_figure 31 32 (.iastore) 0 0 0 0 [] [] = true := by decide +kernel
theorem rf_f_M_figure_32 : rf_Fb rf_m_M_figure 32 33 (.aload_n 0) 0 0 0 0 [] [] = true := by decide +kernel
theorem rf_f_M_figure_33 : rf_Fb rf_m_M_figure 33 34 (.dup) 0 0 0 0 [] [] = true := by decide +kernel
theorem rf_f_M_figure_34 : rf_Fb rf_m_M_figure 34 37 (.getfield 83) 5 15 0 0 [] [] = true := by decide +kernel
theorem rf_f_M_figure_37 : rf_Fb rf_m_M_figure 37 38 (.iconst 1) 0 0 0 0 [] [] = true := by decide +kernel
theorem rf_f_M_figure_38 : rf_Fb rf_m_M_figure 38 39 (.iadd) 0 0 0 0 [] [] = true := by decide +kernel
theorem rf_f_M_figure_39 : rf_Fb rf_m_M_figure 39 42 (.putfield 83) 5 15 0 0 [] [] = true := by decide +kernel
theorem rf_f_M_figure_42 : rf_Fb rf_m_M_figure 42 43 (.iconst 1) 0 0 0 0 [] [] = true := by decide +kernel
theorem rf_f_M_figure_43 : rf_Fb rf_m_M_figure 43 44 (.ireturn) 0 0 1 0 [] [] = true := by decide +kernel
set_option maxRecDepth 20000 in
set_option maxHeartbeats 2000000 in
theorem rf_e_M_figure (d : Nat) (o : Nat) (a1 : Int) (a2 : Int) (a3 : Int) (h : rf_H) : rf_call (d + 1) 135 [.inr (.inr (some o)), .inl a1, .inl a2, .inl a3] h = (bif rf_isO h.1 o 5 then ((rf_call d 133 [.inr (.inr (some o))] h).bind fun q2 => rf_kI q2 fun x3 h1 => ((rf_call d 118 [.inr (.inl (rf_w (x3 - 48))), .inr (.inl a2), .inr (.inl a3)] h1).bind fun q5 => rf_kI q5 fun x6 h4 => (if x6 = 0 then some (some (.inl 0), h4) else ((rf_gR h4 5 o 16).bind fun x7 => (rf_nn x7 fun k8 => ((rf_sI h4 k8 a1 (rf_w (x3 - 48))).bind fun h9 => ((rf_gI h9 5 o 15).bind fun x10 => ((rf_pI h9 5 o 15 (rf_w (x10 + 1))).bind fun h11 => some (some (.inl 1), h11))))))))) else none) := by
  show rf_den (rf_call d) (rf_mt 135) _ = _
  rw [rf_u_M_figure]
  exact ((rf_s_aload_n rf_f_M_figure_0 rfl (rf_m0 _) (rf_s_invV0S rf_f_M_figure_1 rfl rfl (rf_m0 _) fun q2 x3 h1 => (rf_s_bipush rf_f_M_figure_4 (rf_m0 _) (rf_s_isub rf_f_M_figure_6 (rf_m0 _) (rf_s_istore (L' := [some (.inr (.inr (some o))), some (.inl a1), some (.inl a2), some (.inl a3), some (.inl (rf_w (x3 - 48)))]) rf_f_M_figure_7 rfl (rf_s_iload rf_f_M_figure_9 rfl (rf_m0 _) (rf_s_i2l rf_f_M_figure_11 (rf_m0 _) (rf_s_iload_n rf_f_M_figure_12 rfl (rf_m0 _) (rf_s_i2l rf_f_M_figure_13 (rf_m0 _) (rf_s_iload_n rf_f_M_figure_14 rfl (rf_m0 _) (rf_s_i2l rf_f_M_figure_15 (rf_m0 _) (rf_s_invS0 rf_f_M_figure_16 rfl rfl (rf_m0 _) fun q5 x6 h4 => (rf_s_if_ne rf_f_M_figure_19 rfl (rf_m0 _) (rf_m0 _) (rf_s_aload_n rf_f_M_figure_24 rfl (rf_m0 _) (rf_s_getAS rf_f_M_figure_25 (rf_m0 _) fun x7 => (rf_s_iload_n rf_f_M_figure_28 rfl (rf_m0 _) (rf_s_iload rf_f_M_figure_29 rfl (rf_m0 _) (rf_s_iastR rf_f_M_figure_31 (rf_m0 _) fun k8 h9 => (rf_s_aload_n rf_f_M_figure_32 rfl (rf_m0 _) (rf_s_dupA rf_f_M_figure_33 (rf_m0 _) (rf_s_getIS rf_f_M_figure_34 (rf_m0 _) fun x10 => (rf_s_iconst rf_f_M_figure_37 (rf_m0 _) (rf_s_iadd rf_f_M_figure_38 (rf_m0 _) (rf_s_putIS rf_f_M_figure_39 (rf_m0 _) fun h11 => (rf_s_iconst rf_f_M_figure_42 (rf_m0 _) (rf_s_zretK rf_f_M_figure_43 (by decide)))))))))))))) (rf_s_iconst rf_f_M_figure_22 (rf_m0 _) (rf_s_zretK rf_f_M_figure_23 (by decide)))))))))))))))) : rf_den (rf_call d) rf_m_M_figure (0, [some (.inr (.inr (some o))), some (.inl a1), some (.inl a2), some (.inl a3), none], [], h) = _)
noncomputable def rf_j_M_readsRails_0 (d : Nat) (o : Nat) (h : rf_H) : Option rf_R := rf_den (rf_call d) rf_m_M_readsRails (0, [some (.inr (.inr (some o)))], [], h)
noncomputable def rf_j_M_readsRails_66 (d : Nat) (o : Nat) (h : rf_H) : Option rf_R := rf_den (rf_call d) rf_m_M_readsRails (66, [some (.inr (.inr (some o)))], [], h)
theorem rf_u_M_readsRails : rf_mt 136 = rf_m_M_readsRails := rfl
theorem rf_f_M_readsRails_0 : rf_Fb rf_m_M_readsRails 0 1 (.aload_n 0) 0 0 0 0 [] [] = true := by decide +kernel
theorem rf_f_M_readsRails_1 : rf_Fb rf_m_M_readsRails 1 4 (.invokevirtual 92) 133 0 0 5 [] [] = true := by decide +kernel
theorem rf_f_M_readsRails_4 : rf_Fb rf_m_M_readsRails 4 7 (.invokestatic 96) 137 1 0 0 [] [] = true := by decide +kernel
theorem rf_f_M_readsRails_7 : rf_Fb rf_m_M_readsRails 7 9 (.bipush (-9)) 0 0 0 0 [] [] = true := by decide +kernel
theorem rf_f_M_readsRails_9 : rf_Fb rf_m_M_readsRails 9 12 (.if_icmp .eq 57) 66 0 0 0 [] [] = true := by decide +kernel
theorem rf_f_M_readsRails_12 : rf_Fb rf_m_M_readsRails 12 13 (.aload_n 0) 0 0 0 0 [] [] = true := by decide +kernel
theorem rf_f_M_readsRails_13 : rf_Fb rf_m_M_readsRails 13 16 (.getfield 38) 5 16 2 0 [] [] = true := by decide +kernel
theorem rf_f_M_readsRails_16 : rf_Fb rf_m_M_readsRails 16 17 (.iconst 2) 0 0 0 0 [] [] = true := by decide +kernel
theorem rf_f_M_readsRails_17 : rf_Fb rf_m_M_readsRails 17 18 (.iaload) 0 0 0 0 [] [] = true := by decide +kernel
theorem rf_f_M_readsRails_18 : rf_Fb rf_m_M_readsRails 18 20 (.bipush 6) 0 0 0 0 [] [] = true := by decide +kernel
theorem rf_f_M_readsRails_20 : rf_Fb rf_m_M_readsRails 20 23 (.if_icmp .ge 46) 66 0 0 0 [] [] = true := by decide +kernel
theorem rf_f_M_readsRails_23 : rf_Fb rf_m_M_readsRails 23 24 (.aload_n 0) 0 0 0 0 [] [] = true := by decide +kernel
theorem rf_f_M_readsRails_24 : rf_Fb rf_m_M_readsRails 24 27 (.getfield 38) 5 16 2 0 [] [] = true := by decide +kernel
theorem rf_f_M_readsRails_27 : rf_Fb rf_m_M_readsRails 27 28 (.iconst 3) 0 0 0 0 [] [] = true := by decide +kernel
theorem rf_f_M_readsRails_28 : rf_Fb rf_m_M_readsRails 28 29 (.aload_n 0) 0 0 0 0 [] [] = true := by decide +kernel
theorem rf_f_M_readsRails_29 : rf_Fb rf_m_M_readsRails 29 32 (.getfield 38) 5 16 2 0 [] [] = true := by decide +kernel
theorem rf_f_M_readsRails_32 : rf_Fb rf_m_M_readsRails 32 33 (.iconst 2) 0 0 0 0 [] [] = true := by decide +kernel
theorem rf_f_M_readsRails_33 : rf_Fb rf_m_M_readsRails 33 34 (.iaload) 0 0 0 0 [] [] = true := by decide +kernel
theorem rf_f_M_readsRails_34 : rf_Fb rf_m_M_readsRails 34 35 (.iadd) 0 0 0 0 [] [] = true := by decide +kernel
theorem rf_f_M_readsRails_35 : rf_Fb rf_m_M_readsRails 35 36 (.aload_n 0) 0 0 0 0 [] [] = true := by decide +kernel
theorem rf_f_M_readsRails_36 : rf_Fb rf_m_M_readsRails 36 39 (.invokevirtual 92) 133 0 0 5 [] [] = true := by decide +kernel
theorem rf_f_M_readsRails_39 : rf_Fb rf_m_M_readsRails 39 42 (.invokestatic 96) 137 1 0 0 [] [] = true := by decide +kernel
theorem rf_f_M_readsRails_42 : rf_Fb rf_m_M_readsRails 42 43 (.iastore) 0 0 0 0 [] [] = true := by decide +kernel
theorem rf_f_M_readsRails_43 : rf_Fb rf_m_M_readsRails 43 44 (.aload_n 0) 0 0 0 0 [] [] = true := by decide +kernel
theorem rf_f_M_readsRails_44 : rf_Fb rf_m_M_readsRails 44 47 (.getfield 38) 5 16 2 0 [] [] = true := by decide +kernel
theorem rf_f_M_readsRails_47 : rf_Fb rf_m_M_readsRails 47 48 (.iconst 2) 0 0 0 0 [] [] = true := by decide +kernel
theorem rf_f_M_readsRails_48 : rf_Fb rf_m_M_readsRails 48 49 (.dup2) 0 0 0 0 [] [] = true := by decide +kernel
theorem rf_f_M_readsRails_49 : rf_Fb rf_m_M_readsRails 49 50 (.iaload) 0 0 0 0 [] [] = true := by decide +kernel
theorem rf_f_M_readsRails_50 : rf_Fb rf_m_M_readsRails 50 51 (.iconst 1) 0 0 0 0 [] [] = true := by decide +kernel
theorem rf_f_M_readsRails_51 : rf_Fb rf_m_M_readsRails 51 52 (.iadd) 0 0 0 0 [] [] = true := by decide +kernel
theorem rf_f_M_readsRails_52 : rf_Fb rf_m_M_readsRails 52 53 (.iastore) 0 0 0 0 [] [] = true := by decide +kernel
theorem rf_f_M_readsRails_53 : rf_Fb rf_m_M_readsRails 53 54 (.aload_n 0) 0 0 0 0 [] [] = true := by decide +kernel
theorem rf_f_M_readsRails_54 : rf_Fb rf_m_M_readsRails 54 55 (.dup) 0 0 0 0 [] [] = true := by decide +kernel
theorem rf_f_M_readsRails_55 : rf_Fb rf_m_M_readsRails 55 58 (.getfield 83) 5 15 0 0 [] [] = true := by decide +kernel
theorem rf_f_M_readsRails_58 : rf_Fb rf_m_M_readsRails 58 59 (.iconst 1) 0 0 0 0 [] [] = true := by decide +kernel
theorem rf_f_M_readsRails_59 : rf_Fb rf_m_M_readsRails 59 60 (.iadd) 0 0 0 0 [] [] = true := by decide +kernel
theorem rf_f_M_readsRails_60 : rf_Fb rf_m_M_readsRails 60 63 (.putfield 83) 5 15 0 0 [] [] = true := by decide +kernel
theorem rf_f_M_readsRails_63 : rf_Fb rf_m_M_readsRails 63 66 (.goto (-63)) 0 0 0 0 [] [true] = true := by decide +kernel
theorem rf_f_M_readsRails_66 : rf_Fb rf_m_M_readsRails 66 67 (.aload_n 0) 0 0 0 0 [] [] = true := by decide +kernel
theorem rf_f_M_readsRails_67 : rf_Fb rf_m_M_readsRails 67 70 (.getfield 38) 5 16 2 0 [] [] = true := by decide +kernel
theorem rf_f_M_readsRails_70 : rf_Fb rf_m_M_readsRails 70 71 (.iconst 2) 0 0 0 0 [] [] = true := by decide +kernel
theorem rf_f_M_readsRails_71 : rf_Fb rf_m_M_readsRails 71 72 (.iaload) 0 0 0 0 [] [] = true := by decide +kernel
theorem rf_f_M_readsRails_72 : rf_Fb rf_m_M_readsRails 72 75 (.ifCond .le 25) 97 0 0 0 [] [] = true := by decide +kernel
theorem rf_f_M_readsRails_75 : rf_Fb rf_m_M_readsRails 75 76 (.aload_n 0) 0 0 0 0 [] [] = true := by decide +kernel
theorem rf_f_M_readsRails_76 : rf_Fb rf_m_M_readsRails 76 79 (.invokevirtual 92) 133 0 0 5 [] [] = true := by decide +kernel
theorem rf_f_M_readsRails_79 : rf_Fb rf_m_M_readsRails 79 81 (.bipush 100) 0 0 0 0 [] [] = true := by decide +kernel
theorem rf_f_M_readsRails_81 : rf_Fb rf_m_M_readsRails 81 84 (.if_icmp .eq 16) 97 0 0 0 [] [] = true := by decide +kernel
theorem rf_f_M_readsRails_84 : rf_Fb rf_m_M_readsRails 84 85 (.aload_n 0) 0 0 0 0 [] [] = true := by decide +kernel
theorem rf_f_M_readsRails_85 : rf_Fb rf_m_M_readsRails 85 88 (.invokevirtual 92) 133 0 0 5 [] [] = true := by decide +kernel
theorem rf_f_M_readsRails_88 : rf_Fb rf_m_M_readsRails 88 90 (.bipush 108) 0 0 0 0 [] [] = true := by decide +kernel
theorem rf_f_M_readsRails_90 : rf_Fb rf_m_M_readsRails 90 93 (.if_icmp .eq 7) 97 0 0 0 [] [] = true := by decide +kernel
theorem rf_f_M_readsRails_93 : rf_Fb rf_m_M_readsRails 93 94 (.iconst 1) 0 0 0 0 [] [] = true := by decide +kernel
theorem rf_f_M_readsRails_94 : rf_Fb rf_m_M_readsRails 94 97 (.goto 4) 98 0 0 0 [] [] = true := by decide +kernel
theorem rf_f_M_readsRails_97 : rf_Fb rf_m_M_readsRails 97 98 (.iconst 0) 0 0 0 0 [] [] = true := by decide +kernel
theorem rf_f_M_readsRails_98 : rf_Fb rf_m_M_readsRails 98 99 (.ireturn) 0 0 1 0 [] [] = true := by decide +kernel
set_option maxRecDepth 20000 in
set_option maxHeartbeats 2000000 in
theorem rf_e_M_readsRails (d : Nat) (o : Nat) (h : rf_H) : rf_call (d + 1) 136 [.inr (.inr (some o))] h = rf_j_M_readsRails_0 d o h := by
  show rf_den (rf_call d) (rf_mt 136) _ = _
  rw [rf_u_M_readsRails]
  exact (rfl : rf_den (rf_call d) rf_m_M_readsRails (0, [some (.inr (.inr (some o)))], [], h) = _)
set_option maxRecDepth 20000 in
set_option maxHeartbeats 2000000 in
theorem rf_e_M_readsRails_0 (d : Nat) (o : Nat) (h : rf_H) : rf_j_M_readsRails_0 d o h = (bif rf_isO h.1 o 5 then ((rf_call d 133 [.inr (.inr (some o))] h).bind fun q2 => rf_kI q2 fun x3 h1 => ((rf_call d 137 [.inl x3] h1).bind fun q5 => rf_kI q5 fun x6 h4 => (if x6 = (-9) then rf_j_M_readsRails_66 d o h4 else ((rf_gR h4 5 o 16).bind fun x7 => (rf_nn x7 fun k8 => ((rf_aI h4 k8 2).bind fun x9 => (if x9 < 6 then ((rf_gR h4 5 o 16).bind fun x10 => ((rf_gR h4 5 o 16).bind fun x11 => (rf_nn x11 fun k12 => ((rf_aI h4 k12 2).bind fun x13 => (bif rf_isO h4.1 o 5 then ((rf_call d 133 [.inr (.inr (some o))] h4).bind fun q15 => rf_kI q15 fun x16 h14 => ((rf_call d 137 [.inl x16] h14).bind fun q18 => rf_kI q18 fun x19 h17 => (rf_nn x10 fun k20 => ((rf_sI h17 k20 (rf_w (3 + x13)) x19).bind fun h21 => ((rf_gR h21 5 o 16).bind fun x22 => (rf_nn x22 fun k23 => ((rf_aI h21 k23 2).bind fun x24 => (rf_nn x22 fun k25 => ((rf_sI h21 k25 2 (rf_w (x24 + 1))).bind fun h26 => ((rf_gI h26 5 o 15).bind fun x27 => ((rf_pI h26 5 o 15 (rf_w (x27 + 1))).bind fun h28 => rf_j_M_readsRails_0 d o h28))))))))))) else none))))) else rf_j_M_readsRails_66 d o h4))))))) else none) :=
  ((rf_s_aload_n rf_f_M_readsRails_0 rfl (rf_m0 _) (rf_s_invV0S rf_f_M_readsRails_1 rfl rfl (rf_m0 _) fun q2 x3 h1 => (rf_s_invS0 rf_f_M_readsRails_4 rfl rfl (rf_m0 _) fun q5 x6 h4 => (rf_s_bipush rf_f_M_readsRails_7 (rf_m0 _) (rf_s_icmp_eq rf_f_M_readsRails_9 rfl rfl (rf_m0 _) rfl (rf_s_aload_n rf_f_M_readsRails_12 rfl (rf_m0 _) (rf_s_getAS rf_f_M_readsRails_13 (rf_m0 _) fun x7 => (rf_s_iconst rf_f_M_readsRails_16 (rf_m0 _) (rf_s_ialdR rf_f_M_readsRails_17 (rf_m0 _) fun k8 x9 => (rf_s_bipush rf_f_M_readsRails_18 (rf_m0 _) (rf_s_icmp_ge rf_f_M_readsRails_20 rfl rfl (rf_m0 _) rfl (rf_s_aload_n rf_f_M_readsRails_23 rfl (rf_m0 _) (rf_s_getAS rf_f_M_readsRails_24 (rf_m0 _) fun x10 => (rf_s_iconst rf_f_M_readsRails_27 (rf_m0 _) (rf_s_aload_n rf_f_M_readsRails_28 rfl (rf_m0 _) (rf_s_getAS rf_f_M_readsRails_29 (rf_m0 _) fun x11 => (rf_s_iconst rf_f_M_readsRails_32 (rf_m0 _) (rf_s_ialdR rf_f_M_readsRails_33 (rf_m0 _) fun k12 x13 => (rf_s_iadd rf_f_M_readsRails_34 (rf_m0 _) (rf_s_aload_n rf_f_M_readsRails_35 rfl (rf_m0 _) (rf_s_invV0S rf_f_M_readsRails_36 rfl rfl (rf_m0 _) fun q15 x16 h14 => (rf_s_invS0 rf_f_M_readsRails_39 rfl rfl (rf_m0 _) fun q18 x19 h17 => (rf_s_iastR rf_f_M_readsRails_42 (rf_m0 _) fun k20 h21 => (rf_s_aload_n rf_f_M_readsRails_43 rfl (rf_m0 _) (rf_s_getAS rf_f_M_readsRails_44 (rf_m0 _) fun x22 => (rf_s_iconst rf_f_M_readsRails_47 (rf_m0 _) (rf_s_dup2 rf_f_M_readsRails_48 (rf_m0 _) (rf_s_ialdR rf_f_M_readsRails_49 (rf_m0 _) fun k23 x24 => (rf_s_iconst rf_f_M_readsRails_50 (rf_m0 _) (rf_s_iadd rf_f_M_readsRails_51 (rf_m0 _) (rf_s_iastR rf_f_M_readsRails_52 (rf_m0 _) fun k25 h26 => (rf_s_aload_n rf_f_M_readsRails_53 rfl (rf_m0 _) (rf_s_dupA rf_f_M_readsRails_54 (rf_m0 _) (rf_s_getIS rf_f_M_readsRails_55 (rf_m0 _) fun x27 => (rf_s_iconst rf_f_M_readsRails_58 (rf_m0 _) (rf_s_iadd rf_f_M_readsRails_59 (rf_m0 _) (rf_s_putIS rf_f_M_readsRails_60 (rf_m0 _) fun h28 => (rf_s_goto rf_f_M_readsRails_63 rfl rfl rfl)))))))))))))))))))))))))))))))))))))) : rf_den (rf_call d) rf_m_M_readsRails (0, [some (.inr (.inr (some o)))], [], h) = _)
set_option maxRecDepth 20000 in
set_option maxHeartbeats 2000000 in
theorem rf_e_M_readsRails_66 (d : Nat) (o : Nat) (h : rf_H) : rf_j_M_readsRails_66 d o h = ((rf_gR h 5 o 16).bind fun x1 => (rf_nn x1 fun k2 => ((rf_aI h k2 2).bind fun x3 => (if 0 < x3 then (bif rf_isO h.1 o 5 then ((rf_call d 133 [.inr (.inr (some o))] h).bind fun q5 => rf_kI q5 fun x6 h4 => (if x6 = 100 then some (some (.inl 0), h4) else (bif rf_isO h4.1 o 5 then ((rf_call d 133 [.inr (.inr (some o))] h4).bind fun q8 => rf_kI q8 fun x9 h7 => (if x9 = 108 then some (some (.inl 0), h7) else some (some (.inl 1), h7))) else none))) else none) else some (some (.inl 0), h))))) :=
  ((rf_s_aload_n rf_f_M_readsRails_66 rfl (rf_m0 _) (rf_s_getAS rf_f_M_readsRails_67 (rf_m0 _) fun x1 => (rf_s_iconst rf_f_M_readsRails_70 (rf_m0 _) (rf_s_ialdR rf_f_M_readsRails_71 (rf_m0 _) fun k2 x3 => (rf_s_if_le rf_f_M_readsRails_72 rfl (rf_m0 _) (rf_m0 _) (rf_s_iconst rf_f_M_readsRails_97 (rf_m0 _) (rf_s_zretK rf_f_M_readsRails_98 (by decide))) (rf_s_aload_n rf_f_M_readsRails_75 rfl (rf_m0 _) (rf_s_invV0S rf_f_M_readsRails_76 rfl rfl (rf_m0 _) fun q5 x6 h4 => (rf_s_bipush rf_f_M_readsRails_79 (rf_m0 _) (rf_s_icmp_eq rf_f_M_readsRails_81 rfl (rf_m0 _) (rf_m0 _) (rf_s_iconst rf_f_M_readsRails_97 (rf_m0 _) (rf_s_zretK rf_f_M_readsRails_98 (by decide))) (rf_s_aload_n rf_f_M_readsRails_84 rfl (rf_m0 _) (rf_s_invV0S rf_f_M_readsRails_85 rfl rfl (rf_m0 _) fun q8 x9 h7 => (rf_s_bipush rf_f_M_readsRails_88 (rf_m0 _) (rf_s_icmp_eq rf_f_M_readsRails_90 rfl (rf_m0 _) (rf_m0 _) (rf_s_iconst rf_f_M_readsRails_97 (rf_m0 _) (rf_s_zretK rf_f_M_readsRails_98 (by decide))) (rf_s_iconst rf_f_M_readsRails_93 (rf_m0 _) (rf_s_goto rf_f_M_readsRails_94 rfl (rf_m0 _) (rf_s_zretK rf_f_M_readsRails_98 (by decide))))))))))))))))) : rf_den (rf_call d) rf_m_M_readsRails (66, [some (.inr (.inr (some o)))], [], h) = _)
theorem rf_u_M_railOf : rf_mt 137 = rf_m_M_railOf := rfl
theorem rf_f_M_railOf_0 : rf_Fb rf_m_M_railOf 0 1 (.iload_n 0) 0 0 0 0 [] [] = true := by decide +kernel
theorem rf_f_M_railOf_1 : rf_Fb rf_m_M_railOf 1 3 (.bipush 100) 0 0 0 0 [] [] = true := by decide +kernel
theorem rf_f_M_railOf_3 : rf_Fb rf_m_M_railOf 3 6 (.if_icmp .ne 7) 10 0 0 0 [] [] = true := by decide +kernel
theorem rf_f_M_railOf_6 : rf_Fb rf_m_M_railOf 6 7 (.iconst 0) 0 0 0 0 [] [] = true := by decide +kernel
theorem rf_f_M_railOf_7 : rf_Fb rf_m_M_railOf 7 10 (.goto 25) 32 0 0 0 [] [] = true := by decide +kernel
theorem rf_f_M_railOf_10 : rf_Fb rf_m_M_railOf 10 11 (.iload_n 0) 0 0 0 0 [] [] = true := by decide +kernel
theorem rf_f_M_railOf_11 : rf_Fb rf_m_M_railOf 11 13 (.bipush 119) 0 0 0 0 [] [] = true := by decide +kernel
theorem rf_f_M_railOf_13 : rf_Fb rf_m_M_railOf 13 16 (.if_icmp .ne 7) 20 0 0 0 [] [] = true := by decide +kernel
theorem rf_f_M_railOf_16 : rf_Fb rf_m_M_railOf 16 17 (.iconst 1) 0 0 0 0 [] [] = true := by decide +kernel
theorem rf_f_M_railOf_17 : rf_Fb rf_m_M_railOf 17 20 (.goto 15) 32 0 0 0 [] [] = true := by decide +kernel
theorem rf_f_M_railOf_20 : rf_Fb rf_m_M_railOf 20 21 (.iload_n 0) 0 0 0 0 [] [] = true := by decide +kernel
theorem rf_f_M_railOf_21 : rf_Fb rf_m_M_railOf 21 23 (.bipush 108) 0 0 0 0 [] [] = true := by decide +kernel
theorem rf_f_M_railOf_23 : rf_Fb rf_m_M_railOf 23 26 (.if_icmp .ne 7) 30 0 0 0 [] [] = true := by decide +kernel
theorem rf_f_M_railOf_26 : rf_Fb rf_m_M_railOf 26 27 (.iconst 2) 0 0 0 0 [] [] = true := by decide +kernel
theorem rf_f_M_railOf_27 : rf_Fb rf_m_M_railOf 27 30 (.goto 5) 32 0 0 0 [] [] = true := by decide +kernel
theorem rf_f_M_railOf_30 : rf_Fb rf_m_M_railOf 30 32 (.bipush (-9)) 0 0 0 0 [] [] = true := by decide +kernel
theorem rf_f_M_railOf_32 : rf_Fb rf_m_M_railOf 32 33 (.ireturn) 0 0 0 0 [] [] = true := by decide +kernel
set_option maxRecDepth 20000 in
set_option maxHeartbeats 2000000 in
theorem rf_e_M_railOf (d : Nat) (a1 : Int) (h : rf_H) : rf_call (d + 1) 137 [.inl a1] h = (if a1 = 100 then some (some (.inl 0), h) else (if a1 = 119 then some (some (.inl 1), h) else (if a1 = 108 then some (some (.inl 2), h) else some (some (.inl (-9)), h)))) := by
  show rf_den (rf_call d) (rf_mt 137) _ = _
  rw [rf_u_M_railOf]
  exact ((rf_s_iload_n rf_f_M_railOf_0 rfl (rf_m0 _) (rf_s_bipush rf_f_M_railOf_1 (rf_m0 _) (rf_s_icmp_ne rf_f_M_railOf_3 rfl (rf_m0 _) (rf_m0 _) (rf_s_iload_n rf_f_M_railOf_10 rfl (rf_m0 _) (rf_s_bipush rf_f_M_railOf_11 (rf_m0 _) (rf_s_icmp_ne rf_f_M_railOf_13 rfl (rf_m0 _) (rf_m0 _) (rf_s_iload_n rf_f_M_railOf_20 rfl (rf_m0 _) (rf_s_bipush rf_f_M_railOf_21 (rf_m0 _) (rf_s_icmp_ne rf_f_M_railOf_23 rfl (rf_m0 _) (rf_m0 _) (rf_s_bipush rf_f_M_railOf_30 (rf_m0 _) (rf_s_iret rf_f_M_railOf_32)) (rf_s_iconst rf_f_M_railOf_26 (rf_m0 _) (rf_s_goto rf_f_M_railOf_27 rfl (rf_m0 _) (rf_s_iret rf_f_M_railOf_32)))))) (rf_s_iconst rf_f_M_railOf_16 (rf_m0 _) (rf_s_goto rf_f_M_railOf_17 rfl (rf_m0 _) (rf_s_iret rf_f_M_railOf_32)))))) (rf_s_iconst rf_f_M_railOf_6 (rf_m0 _) (rf_s_goto rf_f_M_railOf_7 rfl (rf_m0 _) (rf_s_iret rf_f_M_railOf_32)))))) : rf_den (rf_call d) rf_m_M_railOf (0, [some (.inl a1)], [], h) = _)
noncomputable def rf_j_M_readsWagon_85 (d : Nat) (o : Nat) (s0 : Int) (h : rf_H) : Option rf_R := rf_den (rf_call d) rf_m_M_readsWagon (85, [some (.inr (.inr (some o))), none, none, none, none], [.inl s0], h)
theorem rf_u_M_readsWagon : rf_mt 138 = rf_m_M_readsWagon := rfl
theorem rf_f_M_readsWagon_0 : rf_Fb rf_m_M_readsWagon 0 1 (.aload_n 0) 0 0 0 0 [] [] = true := by decide +kernel
theorem rf_f_M_readsWagon_1 : rf_Fb rf_m_M_readsWagon 1 4 (.getfield 38) 5 16 2 0 [] [] = true := by decide +kernel
theorem rf_f_M_readsWagon_4 : rf_Fb rf_m_M_readsWagon 4 6 (.bipush 36) 0 0 0 0 [] [] = true := by decide +kernel
theorem rf_f_M_readsWagon_6 : rf_Fb rf_m_M_readsWagon 6 7 (.iaload) 0 0 0 0 [] [] = true := by decide +kernel
theorem rf_f_M_readsWagon_7 : rf_Fb rf_m_M_readsWagon 7 8 (.istore_n 1) 0 0 0 0 [] [] = true := by decide +kernel
theorem rf_f_M_readsWagon_8 : rf_Fb rf_m_M_readsWagon 8 9 (.aload_n 0) 0 0 0 0 [] [] = true := by decide +kernel
theorem rf_f_M_readsWagon_9 : rf_Fb rf_m_M_readsWagon 9 12 (.invokevirtual 92) 133 0 0 5 [] [] = true := by decide +kernel
theorem rf_f_M_readsWagon_12 : rf_Fb rf_m_M_readsWagon 12 15 (.invokestatic 99) 139 1 0 0 [] [] = true := by decide +kernel
theorem rf_f_M_readsWagon_15 : rf_Fb rf_m_M_readsWagon 15 16 (.istore_n 2) 0 0 0 0 [] [] = true := by decide +kernel
theorem rf_f_M_readsWagon_16 : rf_Fb rf_m_M_readsWagon 16 17 (.iload_n 2) 0 0 0 0 [] [] = true := by decide +kernel
theorem rf_f_M_readsWagon_17 : rf_Fb rf_m_M_readsWagon 17 19 (.bipush (-9)) 0 0 0 0 [] [] = true := by decide +kernel
theorem rf_f_M_readsWagon_19 : rf_Fb rf_m_M_readsWagon 19 22 (.if_icmp .eq 9) 28 0 0 0 [] [] = true := by decide +kernel
theorem rf_f_M_readsWagon_22 : rf_Fb rf_m_M_readsWagon 22 23 (.iload_n 1) 0 0 0 0 [] [] = true := by decide +kernel
theorem rf_f_M_readsWagon_23 : rf_Fb rf_m_M_readsWagon 23 25 (.bipush 6) 0 0 0 0 [] [] = true := by decide +kernel
theorem rf_f_M_readsWagon_25 : rf_Fb rf_m_M_readsWagon 25 28 (.if_icmp .ne 5) 30 0 0 0 [] [] = true := by decide +kernel
theorem rf_f_M_readsWagon_28 : rf_Fb rf_m_M_readsWagon 28 29 (.iconst 0) 0 0 0 0 [] [] = true := by decide +kernel
theorem rf_f_M_readsWagon_29 : rf_Fb rf_m_M_readsWagon 29 30 (.ireturn) 0 0 1 0 [] [] = true := by decide +kernel
theorem rf_f_M_readsWagon_30 : rf_Fb rf_m_M_readsWagon 30 31 (.aload_n 0) 0 0 0 0 [] [] = true := by decide +kernel
theorem rf_f_M_readsWagon_31 : rf_Fb rf_m_M_readsWagon 31 32 (.dup) 0 0 0 0 [] [] = true := by decide +kernel
theorem rf_f_M_readsWagon_32 : rf_Fb rf_m_M_readsWagon 32 35 (.getfield 83) 5 15 0 0 [] [] = true := by decide +kernel
theorem rf_f_M_readsWagon_35 : rf_Fb rf_m_M_readsWagon 35 36 (.iconst 1) 0 0 0 0 [] [] = true := by decide +kernel
theorem rf_f_M_readsWagon_36 : rf_Fb rf_m_M_readsWagon 36 37 (.iadd) 0 0 0 0 [] [] = true := by decide +kernel
theorem rf_f_M_readsWagon_37 : rf_Fb rf_m_M_readsWagon 37 40 (.putfield 83) 5 15 0 0 [] [] = true := by decide +kernel
theorem rf_f_M_readsWagon_40 : rf_Fb rf_m_M_readsWagon 40 42 (.bipush 9) 0 0 0 0 [] [] = true := by decide +kernel
theorem rf_f_M_readsWagon_42 : rf_Fb rf_m_M_readsWagon 42 43 (.iconst 3) 0 0 0 0 [] [] = true := by decide +kernel
theorem rf_f_M_readsWagon_43 : rf_Fb rf_m_M_readsWagon 43 44 (.iload_n 1) 0 0 0 0 [] [] = true := by decide +kernel
theorem rf_f_M_readsWagon_44 : rf_Fb rf_m_M_readsWagon 44 45 (.imul) 0 0 0 0 [] [] = true := by decide +kernel
theorem rf_f_M_readsWagon_45 : rf_Fb rf_m_M_readsWagon 45 46 (.iadd) 0 0 0 0 [] [] = true := by decide +kernel
theorem rf_f_M_readsWagon_46 : rf_Fb rf_m_M_readsWagon 46 47 (.istore_n 3) 0 0 0 0 [] [] = true := by decide +kernel
theorem rf_f_M_readsWagon_47 : rf_Fb rf_m_M_readsWagon 47 48 (.aload_n 0) 0 0 0 0 [] [] = true := by decide +kernel
theorem rf_f_M_readsWagon_48 : rf_Fb rf_m_M_readsWagon 48 51 (.getfield 38) 5 16 2 0 [] [] = true := by decide +kernel
theorem rf_f_M_readsWagon_51 : rf_Fb rf_m_M_readsWagon 51 52 (.iload_n 3) 0 0 0 0 [] [] = true := by decide +kernel
theorem rf_f_M_readsWagon_52 : rf_Fb rf_m_M_readsWagon 52 53 (.iload_n 2) 0 0 0 0 [] [] = true := by decide +kernel
theorem rf_f_M_readsWagon_53 : rf_Fb rf_m_M_readsWagon 53 54 (.iastore) 0 0 0 0 [] [] = true := by decide +kernel
theorem rf_f_M_readsWagon_54 : rf_Fb rf_m_M_readsWagon 54 55 (.aload_n 0) 0 0 0 0 [] [] = true := by decide +kernel
theorem rf_f_M_readsWagon_55 : rf_Fb rf_m_M_readsWagon 55 56 (.iload_n 3) 0 0 0 0 [] [] = true := by decide +kernel
theorem rf_f_M_readsWagon_56 : rf_Fb rf_m_M_readsWagon 56 57 (.iconst 1) 0 0 0 0 [] [] = true := by decide +kernel
theorem rf_f_M_readsWagon_57 : rf_Fb rf_m_M_readsWagon 57 58 (.iadd) 0 0 0 0 [] [] = true := by decide +kernel
theorem rf_f_M_readsWagon_58 : rf_Fb rf_m_M_readsWagon 58 59 (.iconst 1) 0 0 0 0 [] [] = true := by decide +kernel
theorem rf_f_M_readsWagon_59 : rf_Fb rf_m_M_readsWagon 59 61 (.bipush 9) 0 0 0 0 [] [] = true := by decide +kernel
theorem rf_f_M_readsWagon_61 : rf_Fb rf_m_M_readsWagon 61 64 (.invokevirtual 102) 135 3 0 5 [] [] = true := by decide +kernel
theorem rf_f_M_readsWagon_64 : rf_Fb rf_m_M_readsWagon 64 67 (.ifCond .eq 20) 84 0 0 0 [] [] = true := by decide +kernel
theorem rf_f_M_readsWagon_67 : rf_Fb rf_m_M_readsWagon 67 68 (.aload_n 0) 0 0 0 0 [] [] = true := by decide +kernel
theorem rf_f_M_readsWagon_68 : rf_Fb rf_m_M_readsWagon 68 69 (.iload_n 3) 0 0 0 0 [] [] = true := by decide +kernel
theorem rf_f_M_readsWagon_69 : rf_Fb rf_m_M_readsWagon 69 70 (.iconst 2) 0 0 0 0 [] [] = true := by decide +kernel
theorem rf_f_M_readsWagon_70 : rf_Fb rf_m_M_readsWagon 70 71 (.iadd) 0 0 0 0 [] [] = true := by decide +kernel
theorem rf_f_M_readsWagon_71 : rf_Fb rf_m_M_readsWagon 71 72 (.iconst 1) 0 0 0 0 [] [] = true := by decide +kernel
theorem rf_f_M_readsWagon_72 : rf_Fb rf_m_M_readsWagon 72 74 (.bipush 9) 0 0 0 0 [] [] = true := by decide +kernel
theorem rf_f_M_readsWagon_74 : rf_Fb rf_m_M_readsWagon 74 77 (.invokevirtual 102) 135 3 0 5 [] [] = true := by decide +kernel
theorem rf_f_M_readsWagon_77 : rf_Fb rf_m_M_readsWagon 77 80 (.ifCond .eq 7) 84 0 0 0 [] [] = true := by decide +kernel
theorem rf_f_M_readsWagon_80 : rf_Fb rf_m_M_readsWagon 80 81 (.iconst 1) 0 0 0 0 [] [] = true := by decide +kernel
theorem rf_f_M_readsWagon_81 : rf_Fb rf_m_M_readsWagon 81 84 (.goto 4) 85 0 0 0 [] [] = true := by decide +kernel
theorem rf_f_M_readsWagon_84 : rf_Fb rf_m_M_readsWagon 84 85 (.iconst 0) 0 0 0 0 [] [true, false, false, false, false] = true := by decide +kernel
theorem rf_f_M_readsWagon_85 : rf_Fb rf_m_M_readsWagon 85 87 (.istore 4) 0 0 0 0 [] [] = true := by decide +kernel
theorem rf_f_M_readsWagon_87 : rf_Fb rf_m_M_readsWagon 87 88 (.aload_n 0) 0 0 0 0 [] [] = true := by decide +kernel
theorem rf_f_M_readsWagon_88 : rf_Fb rf_m_M_readsWagon 88 91 (.getfield 38) 5 16 2 0 [] [] = true := by decide +kernel
theorem rf_f_M_readsWagon_91 : rf_Fb rf_m_M_readsWagon 91 93 (.bipush 36) 0 0 0 0 [] [] = true := by decide +kernel
theorem rf_f_M_readsWagon_93 : rf_Fb rf_m_M_readsWagon 93 94 (.dup2) 0 0 0 0 [] [] = true := by decide +kernel
theorem rf_f_M_readsWagon_94 : rf_Fb rf_m_M_readsWagon 94 95 (.iaload) 0 0 0 0 [] [] = true := by decide +kernel
theorem rf_f_M_readsWagon_95 : rf_Fb rf_m_M_readsWagon 95 97 (.iload 4) 0 0 0 0 [] [] = true := by decide +kernel
theorem rf_f_M_readsWagon_97 : rf_Fb rf_m_M_readsWagon 97 100 (.ifCond .eq 7) 104 0 0 0 [] [] = true := by decide +kernel
theorem rf_f_M_readsWagon_100 : rf_Fb rf_m_M_readsWagon 100 101 (.iconst 1) 0 0 0 0 [] [] = true := by decide +kernel
theorem rf_f_M_readsWagon_101 : rf_Fb rf_m_M_readsWagon 101 104 (.goto 4) 105 0 0 0 [] [] = true := by decide +kernel
theorem rf_f_M_readsWagon_104 : rf_Fb rf_m_M_readsWagon 104 105 (.iconst 0) 0 0 0 0 [] [] = true := by decide +kernel
theorem rf_f_M_readsWagon_105 : rf_Fb rf_m_M_readsWagon 105 106 (.iadd) 0 0 0 0 [] [] = true := by decide +kernel
theorem rf_f_M_readsWagon_106 : rf_Fb rf_m_M_readsWagon 106 107 (.iastore) 0 0 0 0 [] [] = true := by decide +kernel
theorem rf_f_M_readsWagon_107 : rf_Fb rf_m_M_readsWagon 107 109 (.iload 4) 0 0 0 0 [] [] = true := by decide +kernel
theorem rf_f_M_readsWagon_109 : rf_Fb rf_m_M_readsWagon 109 110 (.ireturn) 0 0 1 0 [] [] = true := by decide +kernel
set_option maxRecDepth 20000 in
set_option maxHeartbeats 2000000 in
theorem rf_e_M_readsWagon (d : Nat) (o : Nat) (h : rf_H) : rf_call (d + 1) 138 [.inr (.inr (some o))] h = ((rf_gR h 5 o 16).bind fun x1 => (rf_nn x1 fun k2 => ((rf_aI h k2 36).bind fun x3 => (bif rf_isO h.1 o 5 then ((rf_call d 133 [.inr (.inr (some o))] h).bind fun q5 => rf_kI q5 fun x6 h4 => ((rf_call d 139 [.inl x6] h4).bind fun q8 => rf_kI q8 fun x9 h7 => (if x9 = (-9) then some (some (.inl 0), h7) else (if x3 = 6 then some (some (.inl 0), h7) else ((rf_gI h7 5 o 15).bind fun x10 => ((rf_pI h7 5 o 15 (rf_w (x10 + 1))).bind fun h11 => ((rf_gR h11 5 o 16).bind fun x12 => (rf_nn x12 fun k13 => ((rf_sI h11 k13 (rf_w (9 + (rf_w (3 * x3)))) x9).bind fun h14 => (bif rf_isO h14.1 o 5 then ((rf_call d 135 [.inr (.inr (some o)), .inl (rf_w ((rf_w (9 + (rf_w (3 * x3)))) + 1)), .inl 1, .inl 9] h14).bind fun q16 => rf_kI q16 fun x17 h15 => (if x17 = 0 then rf_j_M_readsWagon_85 d o 0 h15 else (bif rf_isO h15.1 o 5 then ((rf_call d 135 [.inr (.inr (some o)), .inl (rf_w ((rf_w (9 + (rf_w (3 * x3)))) + 2)), .inl 1, .inl 9] h15).bind fun q19 => rf_kI q19 fun x20 h18 => (if x20 = 0 then rf_j_M_readsWagon_85 d o 0 h18 else rf_j_M_readsWagon_85 d o 1 h18)) else none))) else none)))))))))) else none)))) := by
  show rf_den (rf_call d) (rf_mt 138) _ = _
  rw [rf_u_M_readsWagon]
  exact ((rf_s_aload_n rf_f_M_readsWagon_0 rfl (rf_m0 _) (rf_s_getAS rf_f_M_readsWagon_1 (rf_m0 _) fun x1 => (rf_s_bipush rf_f_M_readsWagon_4 (rf_m0 _) (rf_s_ialdR rf_f_M_readsWagon_6 (rf_m0 _) fun k2 x3 => (rf_s_istore_n (L' := [some (.inr (.inr (some o))), some (.inl x3), none, none, none]) rf_f_M_readsWagon_7 rfl (rf_s_aload_n rf_f_M_readsWagon_8 rfl (rf_m0 _) (rf_s_invV0S rf_f_M_readsWagon_9 rfl rfl (rf_m0 _) fun q5 x6 h4 => (rf_s_invS0 rf_f_M_readsWagon_12 rfl rfl (rf_m0 _) fun q8 x9 h7 => (rf_s_istore_n (L' := [some (.inr (.inr (some o))), some (.inl x3), some (.inl x9), none, none]) rf_f_M_readsWagon_15 rfl (rf_s_iload_n rf_f_M_readsWagon_16 rfl (rf_m0 _) (rf_s_bipush rf_f_M_readsWagon_17 (rf_m0 _) (rf_s_icmp_eq rf_f_M_readsWagon_19 rfl (rf_m0 _) (rf_m0 _) (rf_s_iconst rf_f_M_readsWagon_28 (rf_m0 _) (rf_s_zretK rf_f_M_readsWagon_29 (by decide))) (rf_s_iload_n rf_f_M_readsWagon_22 rfl (rf_m0 _) (rf_s_bipush rf_f_M_readsWagon_23 (rf_m0 _) (rf_s_icmp_ne rf_f_M_readsWagon_25 rfl (rf_m0 _) (rf_m0 _) (rf_s_aload_n rf_f_M_readsWagon_30 rfl (rf_m0 _) (rf_s_dupA rf_f_M_readsWagon_31 (rf_m0 _) (rf_s_getIS rf_f_M_readsWagon_32 (rf_m0 _) fun x10 => (rf_s_iconst rf_f_M_readsWagon_35 (rf_m0 _) (rf_s_iadd rf_f_M_readsWagon_36 (rf_m0 _) (rf_s_putIS rf_f_M_readsWagon_37 (rf_m0 _) fun h11 => (rf_s_bipush rf_f_M_readsWagon_40 (rf_m0 _) (rf_s_iconst rf_f_M_readsWagon_42 (rf_m0 _) (rf_s_iload_n rf_f_M_readsWagon_43 rfl (rf_m0 _) (rf_s_imul rf_f_M_readsWagon_44 (rf_m0 _) (rf_s_iadd rf_f_M_readsWagon_45 (rf_m0 _) (rf_s_istore_n (L' := [some (.inr (.inr (some o))), some (.inl x3), some (.inl x9), some (.inl (rf_w (9 + (rf_w (3 * x3))))), none]) rf_f_M_readsWagon_46 rfl (rf_s_aload_n rf_f_M_readsWagon_47 rfl (rf_m0 _) (rf_s_getAS rf_f_M_readsWagon_48 (rf_m0 _) fun x12 => (rf_s_iload_n rf_f_M_readsWagon_51 rfl (rf_m0 _) (rf_s_iload_n rf_f_M_readsWagon_52 rfl (rf_m0 _) (rf_s_iastR rf_f_M_readsWagon_53 (rf_m0 _) fun k13 h14 => (rf_s_aload_n rf_f_M_readsWagon_54 rfl (rf_m0 _) (rf_s_iload_n rf_f_M_readsWagon_55 rfl (rf_m0 _) (rf_s_iconst rf_f_M_readsWagon_56 (rf_m0 _) (rf_s_iadd rf_f_M_readsWagon_57 (rf_m0 _) (rf_s_iconst rf_f_M_readsWagon_58 (rf_m0 _) (rf_s_bipush rf_f_M_readsWagon_59 (rf_m0 _) (rf_s_invV0S rf_f_M_readsWagon_61 rfl rfl (rf_m0 _) fun q16 x17 h15 => (rf_s_if_eq rf_f_M_readsWagon_64 rfl (rf_m0 _) (rf_m0 _) (rf_s_iconst rf_f_M_readsWagon_84 rfl rfl) (rf_s_aload_n rf_f_M_readsWagon_67 rfl (rf_m0 _) (rf_s_iload_n rf_f_M_readsWagon_68 rfl (rf_m0 _) (rf_s_iconst rf_f_M_readsWagon_69 (rf_m0 _) (rf_s_iadd rf_f_M_readsWagon_70 (rf_m0 _) (rf_s_iconst rf_f_M_readsWagon_71 (rf_m0 _) (rf_s_bipush rf_f_M_readsWagon_72 (rf_m0 _) (rf_s_invV0S rf_f_M_readsWagon_74 rfl rfl (rf_m0 _) fun q19 x20 h18 => (rf_s_if_eq rf_f_M_readsWagon_77 rfl (rf_m0 _) (rf_m0 _) (rf_s_iconst rf_f_M_readsWagon_84 rfl rfl) (rf_s_iconst rf_f_M_readsWagon_80 (rf_m0 _) (rf_s_goto rf_f_M_readsWagon_81 rfl rfl rfl))))))))))))))))))))))))))))))))))) (rf_s_iconst rf_f_M_readsWagon_28 (rf_m0 _) (rf_s_zretK rf_f_M_readsWagon_29 (by decide)))))))))))))))))) : rf_den (rf_call d) rf_m_M_readsWagon (0, [some (.inr (.inr (some o))), none, none, none, none], [], h) = _)
set_option maxRecDepth 20000 in
set_option maxHeartbeats 2000000 in
theorem rf_e_M_readsWagon_85 (d : Nat) (o : Nat) (s0 : Int) (h : rf_H) : rf_j_M_readsWagon_85 d o s0 h = ((rf_gR h 5 o 16).bind fun x1 => (rf_nn x1 fun k2 => ((rf_aI h k2 36).bind fun x3 => (if s0 = 0 then (rf_nn x1 fun k4 => ((rf_sI h k4 36 (rf_w (x3 + 0))).bind fun h5 => (if s0 = 0 ∨ s0 = 1 then some (some (.inl s0), h5) else none))) else (rf_nn x1 fun k6 => ((rf_sI h k6 36 (rf_w (x3 + 1))).bind fun h7 => (if s0 = 0 ∨ s0 = 1 then some (some (.inl s0), h7) else none))))))) :=
  ((rf_s_istore (L' := [some (.inr (.inr (some o))), none, none, none, some (.inl s0)]) rf_f_M_readsWagon_85 rfl (rf_s_aload_n rf_f_M_readsWagon_87 rfl (rf_m0 _) (rf_s_getAS rf_f_M_readsWagon_88 (rf_m0 _) fun x1 => (rf_s_bipush rf_f_M_readsWagon_91 (rf_m0 _) (rf_s_dup2 rf_f_M_readsWagon_93 (rf_m0 _) (rf_s_ialdR rf_f_M_readsWagon_94 (rf_m0 _) fun k2 x3 => (rf_s_iload rf_f_M_readsWagon_95 rfl (rf_m0 _) (rf_s_if_eq rf_f_M_readsWagon_97 rfl (rf_m0 _) (rf_m0 _) (rf_s_iconst rf_f_M_readsWagon_104 (rf_m0 _) (rf_s_iadd rf_f_M_readsWagon_105 (rf_m0 _) (rf_s_iastR rf_f_M_readsWagon_106 (rf_m0 _) fun k4 h5 => (rf_s_iload rf_f_M_readsWagon_107 rfl (rf_m0 _) (rf_s_zret rf_f_M_readsWagon_109))))) (rf_s_iconst rf_f_M_readsWagon_100 (rf_m0 _) (rf_s_goto rf_f_M_readsWagon_101 rfl (rf_m0 _) (rf_s_iadd rf_f_M_readsWagon_105 (rf_m0 _) (rf_s_iastR rf_f_M_readsWagon_106 (rf_m0 _) fun k6 h7 => (rf_s_iload rf_f_M_readsWagon_107 rfl (rf_m0 _) (rf_s_zret rf_f_M_readsWagon_109)))))))))))))) : rf_den (rf_call d) rf_m_M_readsWagon (85, [some (.inr (.inr (some o))), none, none, none, none], [.inl s0], h) = _)
noncomputable def rf_j_M_kindOf_32 (d : Nat) (l0 : Int) (s0 : Int) (h : rf_H) : Option rf_R := rf_den (rf_call d) rf_m_M_kindOf (32, [some (.inl l0), none], [.inl s0], h)
theorem rf_u_M_kindOf : rf_mt 139 = rf_m_M_kindOf := rfl
theorem rf_f_M_kindOf_0 : rf_Fb rf_m_M_kindOf 0 1 (.iload_n 0) 0 0 0 0 [] [] = true := by decide +kernel
theorem rf_f_M_kindOf_1 : rf_Fb rf_m_M_kindOf 1 3 (.bipush 119) 0 0 0 0 [] [] = true := by decide +kernel
theorem rf_f_M_kindOf_3 : rf_Fb rf_m_M_kindOf 3 6 (.if_icmp .ne 7) 10 0 0 0 [] [] = true := by decide +kernel
theorem rf_f_M_kindOf_6 : rf_Fb rf_m_M_kindOf 6 7 (.iconst 0) 0 0 0 0 [] [] = true := by decide +kernel
theorem rf_f_M_kindOf_7 : rf_Fb rf_m_M_kindOf 7 10 (.goto 25) 32 0 0 0 [] [] = true := by decide +kernel
theorem rf_f_M_kindOf_10 : rf_Fb rf_m_M_kindOf 10 11 (.iload_n 0) 0 0 0 0 [] [] = true := by decide +kernel
theorem rf_f_M_kindOf_11 : rf_Fb rf_m_M_kindOf 11 13 (.bipush 104) 0 0 0 0 [] [] = true := by decide +kernel
theorem rf_f_M_kindOf_13 : rf_Fb rf_m_M_kindOf 13 16 (.if_icmp .ne 7) 20 0 0 0 [] [] = true := by decide +kernel
theorem rf_f_M_kindOf_16 : rf_Fb rf_m_M_kindOf 16 17 (.iconst 1) 0 0 0 0 [] [] = true := by decide +kernel
theorem rf_f_M_kindOf_17 : rf_Fb rf_m_M_kindOf 17 20 (.goto 15) 32 0 0 0 [] [] = true := by decide +kernel
theorem rf_f_M_kindOf_20 : rf_Fb rf_m_M_kindOf 20 21 (.iload_n 0) 0 0 0 0 [] [] = true := by decide +kernel
theorem rf_f_M_kindOf_21 : rf_Fb rf_m_M_kindOf 21 23 (.bipush 115) 0 0 0 0 [] [] = true := by decide +kernel
theorem rf_f_M_kindOf_23 : rf_Fb rf_m_M_kindOf 23 26 (.if_icmp .ne 7) 30 0 0 0 [] [] = true := by decide +kernel
theorem rf_f_M_kindOf_26 : rf_Fb rf_m_M_kindOf 26 27 (.iconst 2) 0 0 0 0 [] [] = true := by decide +kernel
theorem rf_f_M_kindOf_27 : rf_Fb rf_m_M_kindOf 27 30 (.goto 5) 32 0 0 0 [] [] = true := by decide +kernel
theorem rf_f_M_kindOf_30 : rf_Fb rf_m_M_kindOf 30 32 (.bipush (-9)) 0 0 0 0 [] [true, false] = true := by decide +kernel
theorem rf_f_M_kindOf_32 : rf_Fb rf_m_M_kindOf 32 33 (.istore_n 1) 0 0 0 0 [] [] = true := by decide +kernel
theorem rf_f_M_kindOf_33 : rf_Fb rf_m_M_kindOf 33 34 (.iload_n 0) 0 0 0 0 [] [] = true := by decide +kernel
theorem rf_f_M_kindOf_34 : rf_Fb rf_m_M_kindOf 34 36 (.bipush 112) 0 0 0 0 [] [] = true := by decide +kernel
theorem rf_f_M_kindOf_36 : rf_Fb rf_m_M_kindOf 36 39 (.if_icmp .ne 7) 43 0 0 0 [] [] = true := by decide +kernel
theorem rf_f_M_kindOf_39 : rf_Fb rf_m_M_kindOf 39 40 (.iconst 3) 0 0 0 0 [] [] = true := by decide +kernel
theorem rf_f_M_kindOf_40 : rf_Fb rf_m_M_kindOf 40 43 (.goto 24) 64 0 0 0 [] [] = true := by decide +kernel
theorem rf_f_M_kindOf_43 : rf_Fb rf_m_M_kindOf 43 44 (.iload_n 0) 0 0 0 0 [] [] = true := by decide +kernel
theorem rf_f_M_kindOf_44 : rf_Fb rf_m_M_kindOf 44 46 (.bipush 114) 0 0 0 0 [] [] = true := by decide +kernel
theorem rf_f_M_kindOf_46 : rf_Fb rf_m_M_kindOf 46 49 (.if_icmp .ne 7) 53 0 0 0 [] [] = true := by decide +kernel
theorem rf_f_M_kindOf_49 : rf_Fb rf_m_M_kindOf 49 50 (.iconst 4) 0 0 0 0 [] [] = true := by decide +kernel
theorem rf_f_M_kindOf_50 : rf_Fb rf_m_M_kindOf 50 53 (.goto 14) 64 0 0 0 [] [] = true := by decide +kernel
theorem rf_f_M_kindOf_53 : rf_Fb rf_m_M_kindOf 53 54 (.iload_n 0) 0 0 0 0 [] [] = true := by decide +kernel
theorem rf_f_M_kindOf_54 : rf_Fb rf_m_M_kindOf 54 56 (.bipush 98) 0 0 0 0 [] [] = true := by decide +kernel
theorem rf_f_M_kindOf_56 : rf_Fb rf_m_M_kindOf 56 59 (.if_icmp .ne 7) 63 0 0 0 [] [] = true := by decide +kernel
theorem rf_f_M_kindOf_59 : rf_Fb rf_m_M_kindOf 59 60 (.iconst 5) 0 0 0 0 [] [] = true := by decide +kernel
theorem rf_f_M_kindOf_60 : rf_Fb rf_m_M_kindOf 60 63 (.goto 4) 64 0 0 0 [] [] = true := by decide +kernel
theorem rf_f_M_kindOf_63 : rf_Fb rf_m_M_kindOf 63 64 (.iload_n 1) 0 0 0 0 [] [] = true := by decide +kernel
theorem rf_f_M_kindOf_64 : rf_Fb rf_m_M_kindOf 64 65 (.ireturn) 0 0 0 0 [] [] = true := by decide +kernel
set_option maxRecDepth 20000 in
set_option maxHeartbeats 2000000 in
theorem rf_e_M_kindOf (d : Nat) (a1 : Int) (h : rf_H) : rf_call (d + 1) 139 [.inl a1] h = (if a1 = 119 then rf_j_M_kindOf_32 d a1 0 h else (if a1 = 104 then rf_j_M_kindOf_32 d a1 1 h else (if a1 = 115 then rf_j_M_kindOf_32 d a1 2 h else rf_j_M_kindOf_32 d a1 (-9) h))) := by
  show rf_den (rf_call d) (rf_mt 139) _ = _
  rw [rf_u_M_kindOf]
  exact ((rf_s_iload_n rf_f_M_kindOf_0 rfl (rf_m0 _) (rf_s_bipush rf_f_M_kindOf_1 (rf_m0 _) (rf_s_icmp_ne rf_f_M_kindOf_3 rfl (rf_m0 _) (rf_m0 _) (rf_s_iload_n rf_f_M_kindOf_10 rfl (rf_m0 _) (rf_s_bipush rf_f_M_kindOf_11 (rf_m0 _) (rf_s_icmp_ne rf_f_M_kindOf_13 rfl (rf_m0 _) (rf_m0 _) (rf_s_iload_n rf_f_M_kindOf_20 rfl (rf_m0 _) (rf_s_bipush rf_f_M_kindOf_21 (rf_m0 _) (rf_s_icmp_ne rf_f_M_kindOf_23 rfl (rf_m0 _) (rf_m0 _) (rf_s_bipush rf_f_M_kindOf_30 rfl rfl) (rf_s_iconst rf_f_M_kindOf_26 (rf_m0 _) (rf_s_goto rf_f_M_kindOf_27 rfl rfl rfl))))) (rf_s_iconst rf_f_M_kindOf_16 (rf_m0 _) (rf_s_goto rf_f_M_kindOf_17 rfl rfl rfl))))) (rf_s_iconst rf_f_M_kindOf_6 (rf_m0 _) (rf_s_goto rf_f_M_kindOf_7 rfl rfl rfl))))) : rf_den (rf_call d) rf_m_M_kindOf (0, [some (.inl a1), none], [], h) = _)
set_option maxRecDepth 20000 in
set_option maxHeartbeats 2000000 in
theorem rf_e_M_kindOf_32 (d : Nat) (l0 : Int) (s0 : Int) (h : rf_H) : rf_j_M_kindOf_32 d l0 s0 h = (if l0 = 112 then some (some (.inl 3), h) else (if l0 = 114 then some (some (.inl 4), h) else (if l0 = 98 then some (some (.inl 5), h) else some (some (.inl s0), h)))) :=
  ((rf_s_istore_n (L' := [some (.inl l0), some (.inl s0)]) rf_f_M_kindOf_32 rfl (rf_s_iload_n rf_f_M_kindOf_33 rfl (rf_m0 _) (rf_s_bipush rf_f_M_kindOf_34 (rf_m0 _) (rf_s_icmp_ne rf_f_M_kindOf_36 rfl (rf_m0 _) (rf_m0 _) (rf_s_iload_n rf_f_M_kindOf_43 rfl (rf_m0 _) (rf_s_bipush rf_f_M_kindOf_44 (rf_m0 _) (rf_s_icmp_ne rf_f_M_kindOf_46 rfl (rf_m0 _) (rf_m0 _) (rf_s_iload_n rf_f_M_kindOf_53 rfl (rf_m0 _) (rf_s_bipush rf_f_M_kindOf_54 (rf_m0 _) (rf_s_icmp_ne rf_f_M_kindOf_56 rfl (rf_m0 _) (rf_m0 _) (rf_s_iload_n rf_f_M_kindOf_63 rfl (rf_m0 _) (rf_s_iret rf_f_M_kindOf_64)) (rf_s_iconst rf_f_M_kindOf_59 (rf_m0 _) (rf_s_goto rf_f_M_kindOf_60 rfl (rf_m0 _) (rf_s_iret rf_f_M_kindOf_64)))))) (rf_s_iconst rf_f_M_kindOf_49 (rf_m0 _) (rf_s_goto rf_f_M_kindOf_50 rfl (rf_m0 _) (rf_s_iret rf_f_M_kindOf_64)))))) (rf_s_iconst rf_f_M_kindOf_39 (rf_m0 _) (rf_s_goto rf_f_M_kindOf_40 rfl (rf_m0 _) (rf_s_iret rf_f_M_kindOf_64))))))) : rf_den (rf_call d) rf_m_M_kindOf (32, [some (.inl l0), none], [.inl s0], h) = _)
noncomputable def rf_j_M_train_39 (d : Nat) (o : Nat) (l2 : Int) (h : rf_H) : Option rf_R := rf_den (rf_call d) rf_m_M_train (39, [some (.inr (.inr (some o))), none, some (.inl l2)], [], h)
noncomputable def rf_j_M_train_66 (d : Nat) (o : Nat) (l2 : Int) (h : rf_H) : Option rf_R := rf_den (rf_call d) rf_m_M_train (66, [some (.inr (.inr (some o))), none, some (.inl l2)], [], h)
theorem rf_u_M_train : rf_mt 140 = rf_m_M_train := rfl
theorem rf_f_M_train_0 : rf_Fb rf_m_M_train 0 1 (.iload_n 1) 0 0 0 0 [] [] = true := by decide +kernel
theorem rf_f_M_train_1 : rf_Fb rf_m_M_train 1 4 (.invokestatic 80) 127 1 0 0 [] [] = true := by decide +kernel
theorem rf_f_M_train_4 : rf_Fb rf_m_M_train 4 7 (.ifCond .ne 5) 9 0 0 0 [] [] = true := by decide +kernel
theorem rf_f_M_train_7 : rf_Fb rf_m_M_train 7 8 (.iconst (-1)) 0 0 0 0 [] [] = true := by decide +kernel
theorem rf_f_M_train_8 : rf_Fb rf_m_M_train 8 9 (.ireturn) 0 0 0 0 [] [] = true := by decide +kernel
theorem rf_f_M_train_9 : rf_Fb rf_m_M_train 9 10 (.aload_n 0) 0 0 0 0 [] [] = true := by decide +kernel
theorem rf_f_M_train_10 : rf_Fb rf_m_M_train 10 13 (.getfield 16) 5 2 2 0 [] [] = true := by decide +kernel
theorem rf_f_M_train_13 : rf_Fb rf_m_M_train 13 14 (.iload_n 1) 0 0 0 0 [] [] = true := by decide +kernel
theorem rf_f_M_train_14 : rf_Fb rf_m_M_train 14 15 (.iaload) 0 0 0 0 [] [] = true := by decide +kernel
theorem rf_f_M_train_15 : rf_Fb rf_m_M_train 15 18 (.ifCond .ge 9) 24 0 0 0 [] [] = true := by decide +kernel
theorem rf_f_M_train_18 : rf_Fb rf_m_M_train 18 19 (.aload_n 0) 0 0 0 0 [] [] = true := by decide +kernel
theorem rf_f_M_train_19 : rf_Fb rf_m_M_train 19 20 (.iconst 1) 0 0 0 0 [] [] = true := by decide +kernel
theorem rf_f_M_train_20 : rf_Fb rf_m_M_train 20 23 (.invokevirtual 73) 119 1 0 5 [] [] = true := by decide +kernel
theorem rf_f_M_train_23 : rf_Fb rf_m_M_train 23 24 (.ireturn) 0 0 0 0 [] [] = true := by decide +kernel
theorem rf_f_M_train_24 : rf_Fb rf_m_M_train 24 25 (.aload_n 0) 0 0 0 0 [] [] = true := by decide +kernel
theorem rf_f_M_train_25 : rf_Fb rf_m_M_train 25 26 (.iload_n 1) 0 0 0 0 [] [] = true := by decide +kernel
theorem rf_f_M_train_26 : rf_Fb rf_m_M_train 26 29 (.invokevirtual 122) 130 1 0 5 [] [] = true := by decide +kernel
theorem rf_f_M_train_29 : rf_Fb rf_m_M_train 29 31 (.bipush (-9)) 0 0 0 0 [] [] = true := by decide +kernel
theorem rf_f_M_train_31 : rf_Fb rf_m_M_train 31 34 (.if_icmp .eq 6) 37 0 0 0 [] [] = true := by decide +kernel
theorem rf_f_M_train_34 : rf_Fb rf_m_M_train 34 36 (.bipush (-4)) 0 0 0 0 [] [] = true := by decide +kernel
theorem rf_f_M_train_36 : rf_Fb rf_m_M_train 36 37 (.ireturn) 0 0 0 0 [] [] = true := by decide +kernel
theorem rf_f_M_train_37 : rf_Fb rf_m_M_train 37 38 (.iconst 0) 0 0 0 0 [] [] = true := by decide +kernel
theorem rf_f_M_train_38 : rf_Fb rf_m_M_train 38 39 (.istore_n 2) 0 0 0 0 [] [true, false, true] = true := by decide +kernel
theorem rf_f_M_train_39 : rf_Fb rf_m_M_train 39 40 (.iload_n 2) 0 0 0 0 [] [] = true := by decide +kernel
theorem rf_f_M_train_40 : rf_Fb rf_m_M_train 40 43 (.sipush 638) 0 0 0 0 [] [] = true := by decide +kernel
theorem rf_f_M_train_43 : rf_Fb rf_m_M_train 43 46 (.if_icmp .ge 21) 64 0 0 0 [] [] = true := by decide +kernel
theorem rf_f_M_train_46 : rf_Fb rf_m_M_train 46 47 (.aload_n 0) 0 0 0 0 [] [] = true := by decide +kernel
theorem rf_f_M_train_47 : rf_Fb rf_m_M_train 47 50 (.getfield 22) 5 4 2 0 [] [] = true := by decide +kernel
theorem rf_f_M_train_50 : rf_Fb rf_m_M_train 50 51 (.iload_n 2) 0 0 0 0 [] [] = true := by decide +kernel
theorem rf_f_M_train_51 : rf_Fb rf_m_M_train 51 52 (.aload_n 0) 0 0 0 0 [] [] = true := by decide +kernel
theorem rf_f_M_train_52 : rf_Fb rf_m_M_train 52 55 (.getfield 38) 5 16 2 0 [] [] = true := by decide +kernel
theorem rf_f_M_train_55 : rf_Fb rf_m_M_train 55 56 (.iload_n 2) 0 0 0 0 [] [] = true := by decide +kernel
theorem rf_f_M_train_56 : rf_Fb rf_m_M_train 56 57 (.iaload) 0 0 0 0 [] [] = true := by decide +kernel
theorem rf_f_M_train_57 : rf_Fb rf_m_M_train 57 58 (.iastore) 0 0 0 0 [] [] = true := by decide +kernel
theorem rf_f_M_train_58 : rf_Fb rf_m_M_train 58 61 (.iinc 2 1) 0 0 0 0 [] [] = true := by decide +kernel
theorem rf_f_M_train_61 : rf_Fb rf_m_M_train 61 64 (.goto (-22)) 39 0 0 0 [] [] = true := by decide +kernel
theorem rf_f_M_train_64 : rf_Fb rf_m_M_train 64 65 (.iconst 0) 0 0 0 0 [] [] = true := by decide +kernel
theorem rf_f_M_train_65 : rf_Fb rf_m_M_train 65 66 (.istore_n 2) 0 0 0 0 [] [true, false, true] = true := by decide +kernel
theorem rf_f_M_train_66 : rf_Fb rf_m_M_train 66 67 (.iload_n 2) 0 0 0 0 [] [] = true := by decide +kernel
theorem rf_f_M_train_67 : rf_Fb rf_m_M_train 67 68 (.iconst 3) 0 0 0 0 [] [] = true := by decide +kernel
theorem rf_f_M_train_68 : rf_Fb rf_m_M_train 68 71 (.if_icmp .ge 16) 84 0 0 0 [] [] = true := by decide +kernel
theorem rf_f_M_train_71 : rf_Fb rf_m_M_train 71 72 (.aload_n 0) 0 0 0 0 [] [] = true := by decide +kernel
theorem rf_f_M_train_72 : rf_Fb rf_m_M_train 72 75 (.getfield 28) 5 6 2 0 [] [] = true := by decide +kernel
theorem rf_f_M_train_75 : rf_Fb rf_m_M_train 75 76 (.iload_n 2) 0 0 0 0 [] [] = true := by decide +kernel
theorem rf_f_M_train_76 : rf_Fb rf_m_M_train 76 77 (.iconst 0) 0 0 0 0 [] [] = true := by decide +kernel
theorem rf_f_M_train_77 : rf_Fb rf_m_M_train 77 78 (.bastore) 0 0 0 0 [] [] = true := by decide +kernel
theorem rf_f_M_train_78 : rf_Fb rf_m_M_train 78 81 (.iinc 2 1) 0 0 0 0 [] [] = true := by decide +kernel
theorem rf_f_M_train_81 : rf_Fb rf_m_M_train 81 84 (.goto (-15)) 66 0 0 0 [] [] = true := by decide +kernel
theorem rf_f_M_train_84 : rf_Fb rf_m_M_train 84 85 (.aload_n 0) 0 0 0 0 [] [] = true := by decide +kernel
theorem rf_f_M_train_85 : rf_Fb rf_m_M_train 85 88 (.getfield 22) 5 4 2 0 [] [] = true := by decide +kernel
theorem rf_f_M_train_88 : rf_Fb rf_m_M_train 88 90 (.bipush 36) 0 0 0 0 [] [] = true := by decide +kernel
theorem rf_f_M_train_90 : rf_Fb rf_m_M_train 90 91 (.iaload) 0 0 0 0 [] [] = true := by decide +kernel
theorem rf_f_M_train_91 : rf_Fb rf_m_M_train 91 92 (.ireturn) 0 0 0 0 [] [] = true := by decide +kernel
set_option maxRecDepth 20000 in
set_option maxHeartbeats 2000000 in
theorem rf_e_M_train (d : Nat) (o : Nat) (a1 : Int) (h : rf_H) : rf_call (d + 1) 140 [.inr (.inr (some o)), .inl a1] h = ((rf_call d 127 [.inl a1] h).bind fun q2 => rf_kI q2 fun x3 h1 => (if x3 = 0 then some (some (.inl (-1)), h1) else ((rf_gR h1 5 o 2).bind fun x4 => (rf_nn x4 fun k5 => ((rf_aI h1 k5 a1).bind fun x6 => (if x6 < 0 then (bif rf_isO h1.1 o 5 then ((rf_call d 119 [.inr (.inr (some o)), .inl 1] h1).bind fun q11 => rf_kI q11 fun x12 h10 => some (some (.inl x12), h10)) else none) else (bif rf_isO h1.1 o 5 then ((rf_call d 130 [.inr (.inr (some o)), .inl a1] h1).bind fun q8 => rf_kI q8 fun x9 h7 => (if x9 = (-9) then rf_j_M_train_39 d o 0 h7 else some (some (.inl (-4)), h7))) else none))))))) := by
  show rf_den (rf_call d) (rf_mt 140) _ = _
  rw [rf_u_M_train]
  exact ((rf_s_iload_n rf_f_M_train_0 rfl (rf_m0 _) (rf_s_invS0 rf_f_M_train_1 rfl rfl (rf_m0 _) fun q2 x3 h1 => (rf_s_if_ne rf_f_M_train_4 rfl (rf_m0 _) (rf_m0 _) (rf_s_aload_n rf_f_M_train_9 rfl (rf_m0 _) (rf_s_getAS rf_f_M_train_10 (rf_m0 _) fun x4 => (rf_s_iload_n rf_f_M_train_13 rfl (rf_m0 _) (rf_s_ialdR rf_f_M_train_14 (rf_m0 _) fun k5 x6 => (rf_s_if_ge rf_f_M_train_15 rfl (rf_m0 _) (rf_m0 _) (rf_s_aload_n rf_f_M_train_24 rfl (rf_m0 _) (rf_s_iload_n rf_f_M_train_25 rfl (rf_m0 _) (rf_s_invV0S rf_f_M_train_26 rfl rfl (rf_m0 _) fun q8 x9 h7 => (rf_s_bipush rf_f_M_train_29 (rf_m0 _) (rf_s_icmp_eq rf_f_M_train_31 rfl (rf_m0 _) (rf_m0 _) (rf_s_iconst rf_f_M_train_37 (rf_m0 _) (rf_s_istore_n rf_f_M_train_38 rfl rfl)) (rf_s_bipush rf_f_M_train_34 (rf_m0 _) (rf_s_iret rf_f_M_train_36))))))) (rf_s_aload_n rf_f_M_train_18 rfl (rf_m0 _) (rf_s_iconst rf_f_M_train_19 (rf_m0 _) (rf_s_invV0S rf_f_M_train_20 rfl rfl (rf_m0 _) fun q11 x12 h10 => (rf_s_iret rf_f_M_train_23))))))))) (rf_s_iconst rf_f_M_train_7 (rf_m0 _) (rf_s_iret rf_f_M_train_8))))) : rf_den (rf_call d) rf_m_M_train (0, [some (.inr (.inr (some o))), some (.inl a1), none], [], h) = _)
set_option maxRecDepth 20000 in
set_option maxHeartbeats 2000000 in
theorem rf_e_M_train_39 (d : Nat) (o : Nat) (l2 : Int) (h : rf_H) : rf_j_M_train_39 d o l2 h = (if l2 < 638 then ((rf_gR h 5 o 4).bind fun x1 => ((rf_gR h 5 o 16).bind fun x2 => (rf_nn x2 fun k3 => ((rf_aI h k3 l2).bind fun x4 => (rf_nn x1 fun k5 => ((rf_sI h k5 l2 x4).bind fun h6 => rf_j_M_train_39 d o (rf_w (l2 + 1)) h6)))))) else rf_j_M_train_66 d o 0 h) :=
  ((rf_s_iload_n rf_f_M_train_39 rfl (rf_m0 _) (rf_s_sipush rf_f_M_train_40 (rf_m0 _) (rf_s_icmp_ge rf_f_M_train_43 rfl (rf_m0 _) (rf_m0 _) (rf_s_iconst rf_f_M_train_64 (rf_m0 _) (rf_s_istore_n rf_f_M_train_65 rfl rfl)) (rf_s_aload_n rf_f_M_train_46 rfl (rf_m0 _) (rf_s_getAS rf_f_M_train_47 (rf_m0 _) fun x1 => (rf_s_iload_n rf_f_M_train_50 rfl (rf_m0 _) (rf_s_aload_n rf_f_M_train_51 rfl (rf_m0 _) (rf_s_getAS rf_f_M_train_52 (rf_m0 _) fun x2 => (rf_s_iload_n rf_f_M_train_55 rfl (rf_m0 _) (rf_s_ialdR rf_f_M_train_56 (rf_m0 _) fun k3 x4 => (rf_s_iastR rf_f_M_train_57 (rf_m0 _) fun k5 h6 => (rf_s_iinc (L' := [some (.inr (.inr (some o))), none, some (.inl (rf_w (l2 + 1)))]) rf_f_M_train_58 rfl rfl (rf_s_goto rf_f_M_train_61 rfl rfl rfl))))))))))))) : rf_den (rf_call d) rf_m_M_train (39, [some (.inr (.inr (some o))), none, some (.inl l2)], [], h) = _)
set_option maxRecDepth 20000 in
set_option maxHeartbeats 2000000 in
theorem rf_e_M_train_66 (d : Nat) (o : Nat) (l2 : Int) (h : rf_H) : rf_j_M_train_66 d o l2 h = (if l2 < 3 then ((rf_gR h 5 o 6).bind fun x4 => (rf_nn x4 fun k5 => ((rf_sZ h k5 l2 0).bind fun h6 => rf_j_M_train_66 d o (rf_w (l2 + 1)) h6))) else ((rf_gR h 5 o 4).bind fun x1 => (rf_nn x1 fun k2 => ((rf_aI h k2 36).bind fun x3 => some (some (.inl x3), h))))) :=
  ((rf_s_iload_n rf_f_M_train_66 rfl (rf_m0 _) (rf_s_iconst rf_f_M_train_67 (rf_m0 _) (rf_s_icmp_ge rf_f_M_train_68 rfl (rf_m0 _) (rf_m0 _) (rf_s_aload_n rf_f_M_train_84 rfl (rf_m0 _) (rf_s_getAS rf_f_M_train_85 (rf_m0 _) fun x1 => (rf_s_bipush rf_f_M_train_88 (rf_m0 _) (rf_s_ialdR rf_f_M_train_90 (rf_m0 _) fun k2 x3 => (rf_s_iret rf_f_M_train_91))))) (rf_s_aload_n rf_f_M_train_71 rfl (rf_m0 _) (rf_s_getAS rf_f_M_train_72 (rf_m0 _) fun x4 => (rf_s_iload_n rf_f_M_train_75 rfl (rf_m0 _) (rf_s_iconst rf_f_M_train_76 (rf_m0 _) (rf_s_bastR (by decide) rf_f_M_train_77 (rf_m0 _) fun k5 h6 => (rf_s_iinc (L' := [some (.inr (.inr (some o))), none, some (.inl (rf_w (l2 + 1)))]) rf_f_M_train_78 rfl rfl (rf_s_goto rf_f_M_train_81 rfl rfl rfl)))))))))) : rf_den (rf_call d) rf_m_M_train (66, [some (.inr (.inr (some o))), none, some (.inl l2)], [], h) = _)
noncomputable def rf_j_M_wagon_79 (d : Nat) (o : Nat) (l1 : Int) (l2 : Int) (s0 : Int) (h : rf_H) : Option rf_R := rf_den (rf_call d) rf_m_M_wagon (79, [some (.inr (.inr (some o))), some (.inl l1), some (.inl l2), none], [.inl s0], h)
theorem rf_u_M_wagon : rf_mt 141 = rf_m_M_wagon := rfl
theorem rf_f_M_wagon_0 : rf_Fb rf_m_M_wagon 0 1 (.aload_n 0) 0 0 0 0 [] [] = true := by decide +kernel
theorem rf_f_M_wagon_1 : rf_Fb rf_m_M_wagon 1 4 (.invokevirtual 153) 142 0 3 5 [] [] = true := by decide +kernel
theorem rf_f_M_wagon_4 : rf_Fb rf_m_M_wagon 4 5 (.iload_n 1) 0 0 0 0 [] [] = true := by decide +kernel
theorem rf_f_M_wagon_5 : rf_Fb rf_m_M_wagon 5 6 (.i2l) 0 0 0 0 [] [] = true := by decide +kernel
theorem rf_f_M_wagon_6 : rf_Fb rf_m_M_wagon 6 7 (.lconst 0) 0 0 0 0 [] [] = true := by decide +kernel
theorem rf_f_M_wagon_7 : rf_Fb rf_m_M_wagon 7 8 (.aload_n 0) 0 0 0 0 [] [] = true := by decide +kernel
theorem rf_f_M_wagon_8 : rf_Fb rf_m_M_wagon 8 11 (.getfield 22) 5 4 2 0 [] [] = true := by decide +kernel
theorem rf_f_M_wagon_11 : rf_Fb rf_m_M_wagon 11 13 (.bipush 36) 0 0 0 0 [] [] = true := by decide +kernel
theorem rf_f_M_wagon_13 : rf_Fb rf_m_M_wagon 13 14 (.iaload) 0 0 0 0 [] [] = true := by decide +kernel
theorem rf_f_M_wagon_14 : rf_Fb rf_m_M_wagon 14 15 (.iconst 1) 0 0 0 0 [] [] = true := by decide +kernel
theorem rf_f_M_wagon_15 : rf_Fb rf_m_M_wagon 15 16 (.isub) 0 0 0 0 [] [] = true := by decide +kernel
theorem rf_f_M_wagon_16 : rf_Fb rf_m_M_wagon 16 17 (.i2l) 0 0 0 0 [] [] = true := by decide +kernel
theorem rf_f_M_wagon_17 : rf_Fb rf_m_M_wagon 17 20 (.invokestatic 63) 118 3 0 0 [] [] = true := by decide +kernel
theorem rf_f_M_wagon_20 : rf_Fb rf_m_M_wagon 20 23 (.ifCond .eq 15) 35 0 0 0 [] [] = true := by decide +kernel
theorem rf_f_M_wagon_23 : rf_Fb rf_m_M_wagon 23 24 (.iload_n 2) 0 0 0 0 [] [] = true := by decide +kernel
theorem rf_f_M_wagon_24 : rf_Fb rf_m_M_wagon 24 25 (.i2l) 0 0 0 0 [] [] = true := by decide +kernel
theorem rf_f_M_wagon_25 : rf_Fb rf_m_M_wagon 25 26 (.lconst 0) 0 0 0 0 [] [] = true := by decide +kernel
theorem rf_f_M_wagon_26 : rf_Fb rf_m_M_wagon 26 29 (.ldc2_w 61) 0 0 0 5 [] [] = true := by decide +kernel
theorem rf_f_M_wagon_29 : rf_Fb rf_m_M_wagon 29 32 (.invokestatic 63) 118 3 0 0 [] [] = true := by decide +kernel
theorem rf_f_M_wagon_32 : rf_Fb rf_m_M_wagon 32 35 (.ifCond .ne 5) 37 0 0 0 [] [] = true := by decide +kernel
theorem rf_f_M_wagon_35 : rf_Fb rf_m_M_wagon 35 36 (.iconst (-1)) 0 0 0 0 [] [] = true := by decide +kernel
theorem rf_f_M_wagon_36 : rf_Fb rf_m_M_wagon 36 37 (.ireturn) 0 0 0 0 [] [] = true := by decide +kernel
theorem rf_f_M_wagon_37 : rf_Fb rf_m_M_wagon 37 38 (.iload_n 2) 0 0 0 0 [] [] = true := by decide +kernel
theorem rf_f_M_wagon_38 : rf_Fb rf_m_M_wagon 38 39 (.iconst 3) 0 0 0 0 [] [] = true := by decide +kernel
theorem rf_f_M_wagon_39 : rf_Fb rf_m_M_wagon 39 42 (.if_icmp .ne 11) 50 0 0 0 [] [] = true := by decide +kernel
theorem rf_f_M_wagon_42 : rf_Fb rf_m_M_wagon 42 43 (.aload_n 0) 0 0 0 0 [] [] = true := by decide +kernel
theorem rf_f_M_wagon_43 : rf_Fb rf_m_M_wagon 43 44 (.iload_n 1) 0 0 0 0 [] [] = true := by decide +kernel
theorem rf_f_M_wagon_44 : rf_Fb rf_m_M_wagon 44 47 (.invokevirtual 147) 143 1 0 5 [] [] = true := by decide +kernel
theorem rf_f_M_wagon_47 : rf_Fb rf_m_M_wagon 47 50 (.goto 32) 79 0 0 0 [] [] = true := by decide +kernel
theorem rf_f_M_wagon_50 : rf_Fb rf_m_M_wagon 50 51 (.iload_n 2) 0 0 0 0 [] [] = true := by decide +kernel
theorem rf_f_M_wagon_51 : rf_Fb rf_m_M_wagon 51 52 (.iconst 4) 0 0 0 0 [] [] = true := by decide +kernel
theorem rf_f_M_wagon_52 : rf_Fb rf_m_M_wagon 52 55 (.if_icmp .ne 11) 63 0 0 0 [] [] = true := by decide +kernel
theorem rf_f_M_wagon_55 : rf_Fb rf_m_M_wagon 55 56 (.aload_n 0) 0 0 0 0 [] [] = true := by decide +kernel
theorem rf_f_M_wagon_56 : rf_Fb rf_m_M_wagon 56 57 (.iload_n 1) 0 0 0 0 [] [] = true := by decide +kernel
theorem rf_f_M_wagon_57 : rf_Fb rf_m_M_wagon 57 60 (.invokevirtual 144) 145 1 0 5 [] [] = true := by decide +kernel
theorem rf_f_M_wagon_60 : rf_Fb rf_m_M_wagon 60 63 (.goto 19) 79 0 0 0 [] [] = true := by decide +kernel
theorem rf_f_M_wagon_63 : rf_Fb rf_m_M_wagon 63 64 (.iload_n 1) 0 0 0 0 [] [] = true := by decide +kernel
theorem rf_f_M_wagon_64 : rf_Fb rf_m_M_wagon 64 65 (.aload_n 0) 0 0 0 0 [] [] = true := by decide +kernel
theorem rf_f_M_wagon_65 : rf_Fb rf_m_M_wagon 65 68 (.getfield 41) 5 17 2 0 [] [] = true := by decide +kernel
theorem rf_f_M_wagon_68 : rf_Fb rf_m_M_wagon 68 70 (.bipush 33) 0 0 0 0 [] [] = true := by decide +kernel
theorem rf_f_M_wagon_70 : rf_Fb rf_m_M_wagon 70 71 (.iaload) 0 0 0 0 [] [] = true := by decide +kernel
theorem rf_f_M_wagon_71 : rf_Fb rf_m_M_wagon 71 74 (.if_icmp .ge 7) 78 0 0 0 [] [] = true := by decide +kernel
theorem rf_f_M_wagon_74 : rf_Fb rf_m_M_wagon 74 75 (.iconst 1) 0 0 0 0 [] [] = true := by decide +kernel
theorem rf_f_M_wagon_75 : rf_Fb rf_m_M_wagon 75 78 (.goto 4) 79 0 0 0 [] [] = true := by decide +kernel
theorem rf_f_M_wagon_78 : rf_Fb rf_m_M_wagon 78 79 (.iconst 0) 0 0 0 0 [] [true, true, true, false] = true := by decide +kernel
theorem rf_f_M_wagon_79 : rf_Fb rf_m_M_wagon 79 80 (.istore_n 3) 0 0 0 0 [] [] = true := by decide +kernel
theorem rf_f_M_wagon_80 : rf_Fb rf_m_M_wagon 80 81 (.aload_n 0) 0 0 0 0 [] [] = true := by decide +kernel
theorem rf_f_M_wagon_81 : rf_Fb rf_m_M_wagon 81 82 (.iload_n 2) 0 0 0 0 [] [] = true := by decide +kernel
theorem rf_f_M_wagon_82 : rf_Fb rf_m_M_wagon 82 83 (.iconst 2) 0 0 0 0 [] [] = true := by decide +kernel
theorem rf_f_M_wagon_83 : rf_Fb rf_m_M_wagon 83 86 (.if_icmp .ge 19) 102 0 0 0 [] [] = true := by decide +kernel
theorem rf_f_M_wagon_86 : rf_Fb rf_m_M_wagon 86 87 (.aload_n 0) 0 0 0 0 [] [] = true := by decide +kernel
theorem rf_f_M_wagon_87 : rf_Fb rf_m_M_wagon 87 90 (.getfield 41) 5 17 2 0 [] [] = true := by decide +kernel
theorem rf_f_M_wagon_90 : rf_Fb rf_m_M_wagon 90 92 (.bipush 9) 0 0 0 0 [] [] = true := by decide +kernel
theorem rf_f_M_wagon_92 : rf_Fb rf_m_M_wagon 92 93 (.iconst 3) 0 0 0 0 [] [] = true := by decide +kernel
theorem rf_f_M_wagon_93 : rf_Fb rf_m_M_wagon 93 94 (.iload_n 1) 0 0 0 0 [] [] = true := by decide +kernel
theorem rf_f_M_wagon_94 : rf_Fb rf_m_M_wagon 94 95 (.imul) 0 0 0 0 [] [] = true := by decide +kernel
theorem rf_f_M_wagon_95 : rf_Fb rf_m_M_wagon 95 96 (.iadd) 0 0 0 0 [] [] = true := by decide +kernel
theorem rf_f_M_wagon_96 : rf_Fb rf_m_M_wagon 96 97 (.iload_n 2) 0 0 0 0 [] [] = true := by decide +kernel
theorem rf_f_M_wagon_97 : rf_Fb rf_m_M_wagon 97 98 (.iadd) 0 0 0 0 [] [] = true := by decide +kernel
theorem rf_f_M_wagon_98 : rf_Fb rf_m_M_wagon 98 99 (.iaload) 0 0 0 0 [] [] = true := by decide +kernel
theorem rf_f_M_wagon_99 : rf_Fb rf_m_M_wagon 99 102 (.goto 17) 116 0 0 0 [] [] = true := by decide +kernel
theorem rf_f_M_wagon_102 : rf_Fb rf_m_M_wagon 102 103 (.iload_n 2) 0 0 0 0 [] [] = true := by decide +kernel
theorem rf_f_M_wagon_103 : rf_Fb rf_m_M_wagon 103 104 (.iconst 2) 0 0 0 0 [] [] = true := by decide +kernel
theorem rf_f_M_wagon_104 : rf_Fb rf_m_M_wagon 104 107 (.if_icmp .ne 11) 115 0 0 0 [] [] = true := by decide +kernel
theorem rf_f_M_wagon_107 : rf_Fb rf_m_M_wagon 107 108 (.aload_n 0) 0 0 0 0 [] [] = true := by decide +kernel
theorem rf_f_M_wagon_108 : rf_Fb rf_m_M_wagon 108 109 (.iload_n 1) 0 0 0 0 [] [] = true := by decide +kernel
theorem rf_f_M_wagon_109 : rf_Fb rf_m_M_wagon 109 112 (.invokevirtual 132) 146 1 0 5 [] [] = true := by decide +kernel
theorem rf_f_M_wagon_112 : rf_Fb rf_m_M_wagon 112 115 (.goto 4) 116 0 0 0 [] [] = true := by decide +kernel
theorem rf_f_M_wagon_115 : rf_Fb rf_m_M_wagon 115 116 (.iload_n 3) 0 0 0 0 [] [] = true := by decide +kernel
theorem rf_f_M_wagon_116 : rf_Fb rf_m_M_wagon 116 119 (.invokevirtual 77) 121 1 0 5 [] [] = true := by decide +kernel
theorem rf_f_M_wagon_119 : rf_Fb rf_m_M_wagon 119 120 (.ireturn) 0 0 0 0 [] [] = true := by decide +kernel
set_option maxRecDepth 20000 in
set_option maxHeartbeats 2000000 in
theorem rf_e_M_wagon (d : Nat) (o : Nat) (a1 : Int) (a2 : Int) (h : rf_H) : rf_call (d + 1) 141 [.inr (.inr (some o)), .inl a1, .inl a2] h = (bif rf_isO h.1 o 5 then ((rf_call d 142 [.inr (.inr (some o))] h).bind fun q2 => rf_kV q2 fun h1 => ((rf_gR h1 5 o 4).bind fun x3 => (rf_nn x3 fun k4 => ((rf_aI h1 k4 36).bind fun x5 => ((rf_call d 118 [.inr (.inl a1), .inr (.inl 0), .inr (.inl (rf_w (x5 - 1)))] h1).bind fun q7 => rf_kI q7 fun x8 h6 => (if x8 = 0 then some (some (.inl (-1)), h6) else ((rf_call d 118 [.inr (.inl a2), .inr (.inl 0), .inr (.inl 5)] h6).bind fun q10 => rf_kI q10 fun x11 h9 => (if x11 = 0 then some (some (.inl (-1)), h9) else (if a2 = 3 then (bif rf_isO h9.1 o 5 then ((rf_call d 143 [.inr (.inr (some o)), .inl a1] h9).bind fun q19 => rf_kI q19 fun x20 h18 => rf_j_M_wagon_79 d o a1 a2 x20 h18) else none) else (if a2 = 4 then (bif rf_isO h9.1 o 5 then ((rf_call d 145 [.inr (.inr (some o)), .inl a1] h9).bind fun q16 => rf_kI q16 fun x17 h15 => rf_j_M_wagon_79 d o a1 a2 x17 h15) else none) else ((rf_gR h9 5 o 17).bind fun x12 => (rf_nn x12 fun k13 => ((rf_aI h9 k13 33).bind fun x14 => (if a1 < x14 then rf_j_M_wagon_79 d o a1 a2 1 h9 else rf_j_M_wagon_79 d o a1 a2 0 h9)))))))))))))) else none) := by
  show rf_den (rf_call d) (rf_mt 141) _ = _
  rw [rf_u_M_wagon]
  exact ((rf_s_aload_n rf_f_M_wagon_0 rfl (rf_m0 _) (rf_s_invV3S rf_f_M_wagon_1 rfl rfl (rf_m0 _) fun q2 h1 => (rf_s_iload_n rf_f_M_wagon_4 rfl (rf_m0 _) (rf_s_i2l rf_f_M_wagon_5 (rf_m0 _) (rf_s_lconst rf_f_M_wagon_6 (rf_m0 _) (rf_s_aload_n rf_f_M_wagon_7 rfl (rf_m0 _) (rf_s_getAS rf_f_M_wagon_8 (rf_m0 _) fun x3 => (rf_s_bipush rf_f_M_wagon_11 (rf_m0 _) (rf_s_ialdR rf_f_M_wagon_13 (rf_m0 _) fun k4 x5 => (rf_s_iconst rf_f_M_wagon_14 (rf_m0 _) (rf_s_isub rf_f_M_wagon_15 (rf_m0 _) (rf_s_i2l rf_f_M_wagon_16 (rf_m0 _) (rf_s_invS0 rf_f_M_wagon_17 rfl rfl (rf_m0 _) fun q7 x8 h6 => (rf_s_if_eq rf_f_M_wagon_20 rfl (rf_m0 _) (rf_m0 _) (rf_s_iconst rf_f_M_wagon_35 (rf_m0 _) (rf_s_iret rf_f_M_wagon_36)) (rf_s_iload_n rf_f_M_wagon_23 rfl (rf_m0 _) (rf_s_i2l rf_f_M_wagon_24 (rf_m0 _) (rf_s_lconst rf_f_M_wagon_25 (rf_m0 _) (rf_s_ldc2_w rf_f_M_wagon_26 (rf_m0 _) (rf_s_invS0 rf_f_M_wagon_29 rfl rfl (rf_m0 _) fun q10 x11 h9 => (rf_s_if_ne rf_f_M_wagon_32 rfl (rf_m0 _) (rf_m0 _) (rf_s_iload_n rf_f_M_wagon_37 rfl (rf_m0 _) (rf_s_iconst rf_f_M_wagon_38 (rf_m0 _) (rf_s_icmp_ne rf_f_M_wagon_39 rfl (rf_m0 _) (rf_m0 _) (rf_s_iload_n rf_f_M_wagon_50 rfl (rf_m0 _) (rf_s_iconst rf_f_M_wagon_51 (rf_m0 _) (rf_s_icmp_ne rf_f_M_wagon_52 rfl (rf_m0 _) (rf_m0 _) (rf_s_iload_n rf_f_M_wagon_63 rfl (rf_m0 _) (rf_s_aload_n rf_f_M_wagon_64 rfl (rf_m0 _) (rf_s_getAS rf_f_M_wagon_65 (rf_m0 _) fun x12 => (rf_s_bipush rf_f_M_wagon_68 (rf_m0 _) (rf_s_ialdR rf_f_M_wagon_70 (rf_m0 _) fun k13 x14 => (rf_s_icmp_ge rf_f_M_wagon_71 rfl (rf_m0 _) (rf_m0 _) (rf_s_iconst rf_f_M_wagon_78 rfl rfl) (rf_s_iconst rf_f_M_wagon_74 (rf_m0 _) (rf_s_goto rf_f_M_wagon_75 rfl rfl rfl)))))))) (rf_s_aload_n rf_f_M_wagon_55 rfl (rf_m0 _) (rf_s_iload_n rf_f_M_wagon_56 rfl (rf_m0 _) (rf_s_invV0S rf_f_M_wagon_57 rfl rfl (rf_m0 _) fun q16 x17 h15 => (rf_s_goto rf_f_M_wagon_60 rfl rfl rfl))))))) (rf_s_aload_n rf_f_M_wagon_42 rfl (rf_m0 _) (rf_s_iload_n rf_f_M_wagon_43 rfl (rf_m0 _) (rf_s_invV0S rf_f_M_wagon_44 rfl rfl (rf_m0 _) fun q19 x20 h18 => (rf_s_goto rf_f_M_wagon_47 rfl rfl rfl))))))) (rf_s_iconst rf_f_M_wagon_35 (rf_m0 _) (rf_s_iret rf_f_M_wagon_36)))))))))))))))))))))) : rf_den (rf_call d) rf_m_M_wagon (0, [some (.inr (.inr (some o))), some (.inl a1), some (.inl a2), none], [], h) = _)
set_option maxRecDepth 20000 in
set_option maxHeartbeats 2000000 in
theorem rf_e_M_wagon_79 (d : Nat) (o : Nat) (l1 : Int) (l2 : Int) (s0 : Int) (h : rf_H) : rf_j_M_wagon_79 d o l1 l2 s0 h = (if l2 < 2 then ((rf_gR h 5 o 17).bind fun x10 => (rf_nn x10 fun k11 => ((rf_aI h k11 (rf_w ((rf_w (9 + (rf_w (3 * l1)))) + l2))).bind fun x12 => (bif rf_isO h.1 o 5 then ((rf_call d 121 [.inr (.inr (some o)), .inl x12] h).bind fun q14 => rf_kI q14 fun x15 h13 => some (some (.inl x15), h13)) else none)))) else (if l2 = 2 then (bif rf_isO h.1 o 5 then ((rf_call d 146 [.inr (.inr (some o)), .inl l1] h).bind fun q5 => rf_kI q5 fun x6 h4 => (bif rf_isO h4.1 o 5 then ((rf_call d 121 [.inr (.inr (some o)), .inl x6] h4).bind fun q8 => rf_kI q8 fun x9 h7 => some (some (.inl x9), h7)) else none)) else none) else (bif rf_isO h.1 o 5 then ((rf_call d 121 [.inr (.inr (some o)), .inl s0] h).bind fun q2 => rf_kI q2 fun x3 h1 => some (some (.inl x3), h1)) else none))) :=
  ((rf_s_istore_n (L' := [some (.inr (.inr (some o))), some (.inl l1), some (.inl l2), some (.inl s0)]) rf_f_M_wagon_79 rfl (rf_s_aload_n rf_f_M_wagon_80 rfl (rf_m0 _) (rf_s_iload_n rf_f_M_wagon_81 rfl (rf_m0 _) (rf_s_iconst rf_f_M_wagon_82 (rf_m0 _) (rf_s_icmp_ge rf_f_M_wagon_83 rfl (rf_m0 _) (rf_m0 _) (rf_s_iload_n rf_f_M_wagon_102 rfl (rf_m0 _) (rf_s_iconst rf_f_M_wagon_103 (rf_m0 _) (rf_s_icmp_ne rf_f_M_wagon_104 rfl (rf_m0 _) (rf_m0 _) (rf_s_iload_n rf_f_M_wagon_115 rfl (rf_m0 _) (rf_s_invV0S rf_f_M_wagon_116 rfl rfl (rf_m0 _) fun q2 x3 h1 => (rf_s_iret rf_f_M_wagon_119))) (rf_s_aload_n rf_f_M_wagon_107 rfl (rf_m0 _) (rf_s_iload_n rf_f_M_wagon_108 rfl (rf_m0 _) (rf_s_invV0S rf_f_M_wagon_109 rfl rfl (rf_m0 _) fun q5 x6 h4 => (rf_s_goto rf_f_M_wagon_112 rfl (rf_m0 _) (rf_s_invV0S rf_f_M_wagon_116 rfl rfl (rf_m0 _) fun q8 x9 h7 => (rf_s_iret rf_f_M_wagon_119))))))))) (rf_s_aload_n rf_f_M_wagon_86 rfl (rf_m0 _) (rf_s_getAS rf_f_M_wagon_87 (rf_m0 _) fun x10 => (rf_s_bipush rf_f_M_wagon_90 (rf_m0 _) (rf_s_iconst rf_f_M_wagon_92 (rf_m0 _) (rf_s_iload_n rf_f_M_wagon_93 rfl (rf_m0 _) (rf_s_imul rf_f_M_wagon_94 (rf_m0 _) (rf_s_iadd rf_f_M_wagon_95 (rf_m0 _) (rf_s_iload_n rf_f_M_wagon_96 rfl (rf_m0 _) (rf_s_iadd rf_f_M_wagon_97 (rf_m0 _) (rf_s_ialdR rf_f_M_wagon_98 (rf_m0 _) fun k11 x12 => (rf_s_goto rf_f_M_wagon_99 rfl (rf_m0 _) (rf_s_invV0S rf_f_M_wagon_116 rfl rfl (rf_m0 _) fun q14 x15 h13 => (rf_s_iret rf_f_M_wagon_119)))))))))))))))))) : rf_den (rf_call d) rf_m_M_wagon (79, [some (.inr (.inr (some o))), some (.inl l1), some (.inl l2), none], [.inl s0], h) = _)
noncomputable def rf_j_M_take_2 (d : Nat) (o : Nat) (l1 : Int) (h : rf_H) : Option rf_R := rf_den (rf_call d) rf_m_M_take (2, [some (.inr (.inr (some o))), some (.inl l1)], [], h)
theorem rf_u_M_take : rf_mt 142 = rf_m_M_take := rfl
theorem rf_f_M_take_0 : rf_Fb rf_m_M_take 0 1 (.iconst 0) 0 0 0 0 [] [] = true := by decide +kernel
theorem rf_f_M_take_1 : rf_Fb rf_m_M_take 1 2 (.istore_n 1) 0 0 0 0 [] [true, true] = true := by decide +kernel
theorem rf_f_M_take_2 : rf_Fb rf_m_M_take 2 3 (.iload_n 1) 0 0 0 0 [] [] = true := by decide +kernel
theorem rf_f_M_take_3 : rf_Fb rf_m_M_take 3 5 (.bipush 37) 0 0 0 0 [] [] = true := by decide +kernel
theorem rf_f_M_take_5 : rf_Fb rf_m_M_take 5 8 (.if_icmp .ge 21) 26 0 0 0 [] [] = true := by decide +kernel
theorem rf_f_M_take_8 : rf_Fb rf_m_M_take 8 9 (.aload_n 0) 0 0 0 0 [] [] = true := by decide +kernel
theorem rf_f_M_take_9 : rf_Fb rf_m_M_take 9 12 (.getfield 41) 5 17 2 0 [] [] = true := by decide +kernel
theorem rf_f_M_take_12 : rf_Fb rf_m_M_take 12 13 (.iload_n 1) 0 0 0 0 [] [] = true := by decide +kernel
theorem rf_f_M_take_13 : rf_Fb rf_m_M_take 13 14 (.aload_n 0) 0 0 0 0 [] [] = true := by decide +kernel
theorem rf_f_M_take_14 : rf_Fb rf_m_M_take 14 17 (.getfield 22) 5 4 2 0 [] [] = true := by decide +kernel
theorem rf_f_M_take_17 : rf_Fb rf_m_M_take 17 18 (.iload_n 1) 0 0 0 0 [] [] = true := by decide +kernel
theorem rf_f_M_take_18 : rf_Fb rf_m_M_take 18 19 (.iaload) 0 0 0 0 [] [] = true := by decide +kernel
theorem rf_f_M_take_19 : rf_Fb rf_m_M_take 19 20 (.iastore) 0 0 0 0 [] [] = true := by decide +kernel
theorem rf_f_M_take_20 : rf_Fb rf_m_M_take 20 23 (.iinc 1 1) 0 0 0 0 [] [] = true := by decide +kernel
theorem rf_f_M_take_23 : rf_Fb rf_m_M_take 23 26 (.goto (-21)) 2 0 0 0 [] [] = true := by decide +kernel
theorem rf_f_M_take_26 : rf_Fb rf_m_M_take 26 27 (.return_) 0 0 0 0 [] [] = true := by decide +kernel
set_option maxRecDepth 20000 in
set_option maxHeartbeats 2000000 in
theorem rf_e_M_take (d : Nat) (o : Nat) (h : rf_H) : rf_call (d + 1) 142 [.inr (.inr (some o))] h = rf_j_M_take_2 d o 0 h := by
  show rf_den (rf_call d) (rf_mt 142) _ = _
  rw [rf_u_M_take]
  exact ((rf_s_iconst rf_f_M_take_0 (rf_m0 _) (rf_s_istore_n rf_f_M_take_1 rfl rfl)) : rf_den (rf_call d) rf_m_M_take (0, [some (.inr (.inr (some o))), none], [], h) = _)
set_option maxRecDepth 20000 in
set_option maxHeartbeats 2000000 in
theorem rf_e_M_take_2 (d : Nat) (o : Nat) (l1 : Int) (h : rf_H) : rf_j_M_take_2 d o l1 h = (if l1 < 37 then ((rf_gR h 5 o 17).bind fun x1 => ((rf_gR h 5 o 4).bind fun x2 => (rf_nn x2 fun k3 => ((rf_aI h k3 l1).bind fun x4 => (rf_nn x1 fun k5 => ((rf_sI h k5 l1 x4).bind fun h6 => rf_j_M_take_2 d o (rf_w (l1 + 1)) h6)))))) else some (none, h)) :=
  ((rf_s_iload_n rf_f_M_take_2 rfl (rf_m0 _) (rf_s_bipush rf_f_M_take_3 (rf_m0 _) (rf_s_icmp_ge rf_f_M_take_5 rfl (rf_m0 _) (rf_m0 _) (rf_s_vret rf_f_M_take_26) (rf_s_aload_n rf_f_M_take_8 rfl (rf_m0 _) (rf_s_getAS rf_f_M_take_9 (rf_m0 _) fun x1 => (rf_s_iload_n rf_f_M_take_12 rfl (rf_m0 _) (rf_s_aload_n rf_f_M_take_13 rfl (rf_m0 _) (rf_s_getAS rf_f_M_take_14 (rf_m0 _) fun x2 => (rf_s_iload_n rf_f_M_take_17 rfl (rf_m0 _) (rf_s_ialdR rf_f_M_take_18 (rf_m0 _) fun k3 x4 => (rf_s_iastR rf_f_M_take_19 (rf_m0 _) fun k5 h6 => (rf_s_iinc (L' := [some (.inr (.inr (some o))), some (.inl (rf_w (l1 + 1)))]) rf_f_M_take_20 rfl rfl (rf_s_goto rf_f_M_take_23 rfl rfl rfl))))))))))))) : rf_den (rf_call d) rf_m_M_take (2, [some (.inr (.inr (some o))), some (.inl l1)], [], h) = _)
theorem rf_u_M_holds : rf_mt 143 = rf_m_M_holds := rfl
theorem rf_f_M_holds_0 : rf_Fb rf_m_M_holds 0 1 (.aload_n 0) 0 0 0 0 [] [] = true := by decide +kernel
theorem rf_f_M_holds_1 : rf_Fb rf_m_M_holds 1 4 (.getfield 41) 5 17 2 0 [] [] = true := by decide +kernel
theorem rf_f_M_holds_4 : rf_Fb rf_m_M_holds 4 6 (.bipush 9) 0 0 0 0 [] [] = true := by decide +kernel
theorem rf_f_M_holds_6 : rf_Fb rf_m_M_holds 6 7 (.iconst 3) 0 0 0 0 [] [] = true := by decide +kernel
theorem rf_f_M_holds_7 : rf_Fb rf_m_M_holds 7 8 (.iload_n 1) 0 0 0 0 [] [] = true := by decide +kernel
theorem rf_f_M_holds_8 : rf_Fb rf_m_M_holds 8 9 (.imul) 0 0 0 0 [] [] = true := by decide +kernel
theorem rf_f_M_holds_9 : rf_Fb rf_m_M_holds 9 10 (.iadd) 0 0 0 0 [] [] = true := by decide +kernel
theorem rf_f_M_holds_10 : rf_Fb rf_m_M_holds 10 11 (.iconst 2) 0 0 0 0 [] [] = true := by decide +kernel
theorem rf_f_M_holds_11 : rf_Fb rf_m_M_holds 11 12 (.iadd) 0 0 0 0 [] [] = true := by decide +kernel
theorem rf_f_M_holds_12 : rf_Fb rf_m_M_holds 12 13 (.iaload) 0 0 0 0 [] [] = true := by decide +kernel
theorem rf_f_M_holds_13 : rf_Fb rf_m_M_holds 13 14 (.istore_n 2) 0 0 0 0 [] [] = true := by decide +kernel
theorem rf_f_M_holds_14 : rf_Fb rf_m_M_holds 14 15 (.aload_n 0) 0 0 0 0 [] [] = true := by decide +kernel
theorem rf_f_M_holds_15 : rf_Fb rf_m_M_holds 15 16 (.iload_n 1) 0 0 0 0 [] [] = true := by decide +kernel
theorem rf_f_M_holds_16 : rf_Fb rf_m_M_holds 16 19 (.invokevirtual 125) 144 1 0 5 [] [] = true := by decide +kernel
theorem rf_f_M_holds_19 : rf_Fb rf_m_M_holds 19 20 (.iconst 4) 0 0 0 0 [] [] = true := by decide +kernel
theorem rf_f_M_holds_20 : rf_Fb rf_m_M_holds 20 23 (.if_icmp .ne 9) 29 0 0 0 [] [] = true := by decide +kernel
theorem rf_f_M_holds_23 : rf_Fb rf_m_M_holds 23 24 (.iload_n 2) 0 0 0 0 [] [] = true := by decide +kernel
theorem rf_f_M_holds_24 : rf_Fb rf_m_M_holds 24 25 (.iconst 2) 0 0 0 0 [] [] = true := by decide +kernel
theorem rf_f_M_holds_25 : rf_Fb rf_m_M_holds 25 26 (.idiv) 0 0 0 0 [] [] = true := by decide +kernel
theorem rf_f_M_holds_26 : rf_Fb rf_m_M_holds 26 29 (.goto 4) 30 0 0 0 [] [] = true := by decide +kernel
theorem rf_f_M_holds_29 : rf_Fb rf_m_M_holds 29 30 (.iload_n 2) 0 0 0 0 [] [] = true := by decide +kernel
theorem rf_f_M_holds_30 : rf_Fb rf_m_M_holds 30 31 (.ireturn) 0 0 0 0 [] [] = true := by decide +kernel
set_option maxRecDepth 20000 in
set_option maxHeartbeats 2000000 in
theorem rf_e_M_holds (d : Nat) (o : Nat) (a1 : Int) (h : rf_H) : rf_call (d + 1) 143 [.inr (.inr (some o)), .inl a1] h = ((rf_gR h 5 o 17).bind fun x1 => (rf_nn x1 fun k2 => ((rf_aI h k2 (rf_w ((rf_w (9 + (rf_w (3 * a1)))) + 2))).bind fun x3 => (bif rf_isO h.1 o 5 then ((rf_call d 144 [.inr (.inr (some o)), .inl a1] h).bind fun q5 => rf_kI q5 fun x6 h4 => (if x6 = 4 then some (some (.inl (rf_w (Int.tdiv x3 2))), h4) else some (some (.inl x3), h4))) else none)))) := by
  show rf_den (rf_call d) (rf_mt 143) _ = _
  rw [rf_u_M_holds]
  exact ((rf_s_aload_n rf_f_M_holds_0 rfl (rf_m0 _) (rf_s_getAS rf_f_M_holds_1 (rf_m0 _) fun x1 => (rf_s_bipush rf_f_M_holds_4 (rf_m0 _) (rf_s_iconst rf_f_M_holds_6 (rf_m0 _) (rf_s_iload_n rf_f_M_holds_7 rfl (rf_m0 _) (rf_s_imul rf_f_M_holds_8 (rf_m0 _) (rf_s_iadd rf_f_M_holds_9 (rf_m0 _) (rf_s_iconst rf_f_M_holds_10 (rf_m0 _) (rf_s_iadd rf_f_M_holds_11 (rf_m0 _) (rf_s_ialdR rf_f_M_holds_12 (rf_m0 _) fun k2 x3 => (rf_s_istore_n (L' := [some (.inr (.inr (some o))), some (.inl a1), some (.inl x3)]) rf_f_M_holds_13 rfl (rf_s_aload_n rf_f_M_holds_14 rfl (rf_m0 _) (rf_s_iload_n rf_f_M_holds_15 rfl (rf_m0 _) (rf_s_invV0S rf_f_M_holds_16 rfl rfl (rf_m0 _) fun q5 x6 h4 => (rf_s_iconst rf_f_M_holds_19 (rf_m0 _) (rf_s_icmp_ne rf_f_M_holds_20 rfl (rf_m0 _) (rf_m0 _) (rf_s_iload_n rf_f_M_holds_29 rfl (rf_m0 _) (rf_s_iret rf_f_M_holds_30)) (rf_s_iload_n rf_f_M_holds_23 rfl (rf_m0 _) (rf_s_iconst rf_f_M_holds_24 (rf_m0 _) (rf_s_idiv rf_f_M_holds_25 (by decide) (rf_m0 _) (rf_s_goto rf_f_M_holds_26 rfl (rf_m0 _) (rf_s_iret rf_f_M_holds_30))))))))))))))))))))) : rf_den (rf_call d) rf_m_M_holds (0, [some (.inr (.inr (some o))), some (.inl a1), none], [], h) = _)
theorem rf_u_M_kind : rf_mt 144 = rf_m_M_kind := rfl
theorem rf_f_M_kind_0 : rf_Fb rf_m_M_kind 0 1 (.aload_n 0) 0 0 0 0 [] [] = true := by decide +kernel
theorem rf_f_M_kind_1 : rf_Fb rf_m_M_kind 1 4 (.getfield 41) 5 17 2 0 [] [] = true := by decide +kernel
theorem rf_f_M_kind_4 : rf_Fb rf_m_M_kind 4 6 (.bipush 9) 0 0 0 0 [] [] = true := by decide +kernel
theorem rf_f_M_kind_6 : rf_Fb rf_m_M_kind 6 7 (.iconst 3) 0 0 0 0 [] [] = true := by decide +kernel
theorem rf_f_M_kind_7 : rf_Fb rf_m_M_kind 7 8 (.iload_n 1) 0 0 0 0 [] [] = true := by decide +kernel
theorem rf_f_M_kind_8 : rf_Fb rf_m_M_kind 8 9 (.imul) 0 0 0 0 [] [] = true := by decide +kernel
theorem rf_f_M_kind_9 : rf_Fb rf_m_M_kind 9 10 (.iadd) 0 0 0 0 [] [] = true := by decide +kernel
theorem rf_f_M_kind_10 : rf_Fb rf_m_M_kind 10 11 (.iaload) 0 0 0 0 [] [] = true := by decide +kernel
theorem rf_f_M_kind_11 : rf_Fb rf_m_M_kind 11 12 (.ireturn) 0 0 0 0 [] [] = true := by decide +kernel
set_option maxRecDepth 20000 in
set_option maxHeartbeats 2000000 in
theorem rf_e_M_kind (d : Nat) (o : Nat) (a1 : Int) (h : rf_H) : rf_call (d + 1) 144 [.inr (.inr (some o)), .inl a1] h = ((rf_gR h 5 o 17).bind fun x1 => (rf_nn x1 fun k2 => ((rf_aI h k2 (rf_w (9 + (rf_w (3 * a1))))).bind fun x3 => some (some (.inl x3), h)))) := by
  show rf_den (rf_call d) (rf_mt 144) _ = _
  rw [rf_u_M_kind]
  exact ((rf_s_aload_n rf_f_M_kind_0 rfl (rf_m0 _) (rf_s_getAS rf_f_M_kind_1 (rf_m0 _) fun x1 => (rf_s_bipush rf_f_M_kind_4 (rf_m0 _) (rf_s_iconst rf_f_M_kind_6 (rf_m0 _) (rf_s_iload_n rf_f_M_kind_7 rfl (rf_m0 _) (rf_s_imul rf_f_M_kind_8 (rf_m0 _) (rf_s_iadd rf_f_M_kind_9 (rf_m0 _) (rf_s_ialdR rf_f_M_kind_10 (rf_m0 _) fun k2 x3 => (rf_s_iret rf_f_M_kind_11))))))))) : rf_den (rf_call d) rf_m_M_kind (0, [some (.inr (.inr (some o))), some (.inl a1)], [], h) = _)
theorem rf_u_M_slack : rf_mt 145 = rf_m_M_slack := rfl
theorem rf_f_M_slack_0 : rf_Fb rf_m_M_slack 0 1 (.aload_n 0) 0 0 0 0 [] [] = true := by decide +kernel
theorem rf_f_M_slack_1 : rf_Fb rf_m_M_slack 1 2 (.iload_n 1) 0 0 0 0 [] [] = true := by decide +kernel
theorem rf_f_M_slack_2 : rf_Fb rf_m_M_slack 2 5 (.invokevirtual 125) 144 1 0 5 [] [] = true := by decide +kernel
theorem rf_f_M_slack_5 : rf_Fb rf_m_M_slack 5 6 (.iconst 2) 0 0 0 0 [] [] = true := by decide +kernel
theorem rf_f_M_slack_6 : rf_Fb rf_m_M_slack 6 9 (.if_icmp .eq 12) 18 0 0 0 [] [] = true := by decide +kernel
theorem rf_f_M_slack_9 : rf_Fb rf_m_M_slack 9 10 (.aload_n 0) 0 0 0 0 [] [] = true := by decide +kernel
theorem rf_f_M_slack_10 : rf_Fb rf_m_M_slack 10 11 (.iload_n 1) 0 0 0 0 [] [] = true := by decide +kernel
theorem rf_f_M_slack_11 : rf_Fb rf_m_M_slack 11 14 (.invokevirtual 125) 144 1 0 5 [] [] = true := by decide +kernel
theorem rf_f_M_slack_14 : rf_Fb rf_m_M_slack 14 15 (.iconst 5) 0 0 0 0 [] [] = true := by decide +kernel
theorem rf_f_M_slack_15 : rf_Fb rf_m_M_slack 15 18 (.if_icmp .ne 7) 22 0 0 0 [] [] = true := by decide +kernel
theorem rf_f_M_slack_18 : rf_Fb rf_m_M_slack 18 19 (.iconst 2) 0 0 0 0 [] [] = true := by decide +kernel
theorem rf_f_M_slack_19 : rf_Fb rf_m_M_slack 19 22 (.goto 4) 23 0 0 0 [] [] = true := by decide +kernel
theorem rf_f_M_slack_22 : rf_Fb rf_m_M_slack 22 23 (.iconst 0) 0 0 0 0 [] [] = true := by decide +kernel
theorem rf_f_M_slack_23 : rf_Fb rf_m_M_slack 23 24 (.ireturn) 0 0 0 0 [] [] = true := by decide +kernel
set_option maxRecDepth 20000 in
set_option maxHeartbeats 2000000 in
theorem rf_e_M_slack (d : Nat) (o : Nat) (a1 : Int) (h : rf_H) : rf_call (d + 1) 145 [.inr (.inr (some o)), .inl a1] h = (bif rf_isO h.1 o 5 then ((rf_call d 144 [.inr (.inr (some o)), .inl a1] h).bind fun q2 => rf_kI q2 fun x3 h1 => (if x3 = 2 then some (some (.inl 2), h1) else (bif rf_isO h1.1 o 5 then ((rf_call d 144 [.inr (.inr (some o)), .inl a1] h1).bind fun q5 => rf_kI q5 fun x6 h4 => (if x6 = 5 then some (some (.inl 2), h4) else some (some (.inl 0), h4))) else none))) else none) := by
  show rf_den (rf_call d) (rf_mt 145) _ = _
  rw [rf_u_M_slack]
  exact ((rf_s_aload_n rf_f_M_slack_0 rfl (rf_m0 _) (rf_s_iload_n rf_f_M_slack_1 rfl (rf_m0 _) (rf_s_invV0S rf_f_M_slack_2 rfl rfl (rf_m0 _) fun q2 x3 h1 => (rf_s_iconst rf_f_M_slack_5 (rf_m0 _) (rf_s_icmp_eq rf_f_M_slack_6 rfl (rf_m0 _) (rf_m0 _) (rf_s_iconst rf_f_M_slack_18 (rf_m0 _) (rf_s_goto rf_f_M_slack_19 rfl (rf_m0 _) (rf_s_iret rf_f_M_slack_23))) (rf_s_aload_n rf_f_M_slack_9 rfl (rf_m0 _) (rf_s_iload_n rf_f_M_slack_10 rfl (rf_m0 _) (rf_s_invV0S rf_f_M_slack_11 rfl rfl (rf_m0 _) fun q5 x6 h4 => (rf_s_iconst rf_f_M_slack_14 (rf_m0 _) (rf_s_icmp_ne rf_f_M_slack_15 rfl (rf_m0 _) (rf_m0 _) (rf_s_iconst rf_f_M_slack_22 (rf_m0 _) (rf_s_iret rf_f_M_slack_23)) (rf_s_iconst rf_f_M_slack_18 (rf_m0 _) (rf_s_goto rf_f_M_slack_19 rfl (rf_m0 _) (rf_s_iret rf_f_M_slack_23))))))))))))) : rf_den (rf_call d) rf_m_M_slack (0, [some (.inr (.inr (some o))), some (.inl a1)], [], h) = _)
noncomputable def rf_j_M_weighs_52 (d : Nat) (o : Nat) (l3 : Int) (s0 : Int) (h : rf_H) : Option rf_R := rf_den (rf_call d) rf_m_M_weighs (52, [some (.inr (.inr (some o))), none, none, some (.inl l3), none], [.inl s0], h)
theorem rf_u_M_weighs : rf_mt 146 = rf_m_M_weighs := rfl
theorem rf_f_M_weighs_0 : rf_Fb rf_m_M_weighs 0 1 (.aload_n 0) 0 0 0 0 [] [] = true := by decide +kernel
theorem rf_f_M_weighs_1 : rf_Fb rf_m_M_weighs 1 4 (.getfield 41) 5 17 2 0 [] [] = true := by decide +kernel
theorem rf_f_M_weighs_4 : rf_Fb rf_m_M_weighs 4 6 (.bipush 9) 0 0 0 0 [] [] = true := by decide +kernel
theorem rf_f_M_weighs_6 : rf_Fb rf_m_M_weighs 6 7 (.iconst 3) 0 0 0 0 [] [] = true := by decide +kernel
theorem rf_f_M_weighs_7 : rf_Fb rf_m_M_weighs 7 8 (.iload_n 1) 0 0 0 0 [] [] = true := by decide +kernel
theorem rf_f_M_weighs_8 : rf_Fb rf_m_M_weighs 8 9 (.imul) 0 0 0 0 [] [] = true := by decide +kernel
theorem rf_f_M_weighs_9 : rf_Fb rf_m_M_weighs 9 10 (.iadd) 0 0 0 0 [] [] = true := by decide +kernel
theorem rf_f_M_weighs_10 : rf_Fb rf_m_M_weighs 10 11 (.iconst 1) 0 0 0 0 [] [] = true := by decide +kernel
theorem rf_f_M_weighs_11 : rf_Fb rf_m_M_weighs 11 12 (.iadd) 0 0 0 0 [] [] = true := by decide +kernel
theorem rf_f_M_weighs_12 : rf_Fb rf_m_M_weighs 12 13 (.iaload) 0 0 0 0 [] [] = true := by decide +kernel
theorem rf_f_M_weighs_13 : rf_Fb rf_m_M_weighs 13 14 (.istore_n 2) 0 0 0 0 [] [] = true := by decide +kernel
theorem rf_f_M_weighs_14 : rf_Fb rf_m_M_weighs 14 15 (.aload_n 0) 0 0 0 0 [] [] = true := by decide +kernel
theorem rf_f_M_weighs_15 : rf_Fb rf_m_M_weighs 15 16 (.iload_n 1) 0 0 0 0 [] [] = true := by decide +kernel
theorem rf_f_M_weighs_16 : rf_Fb rf_m_M_weighs 16 19 (.invokevirtual 125) 144 1 0 5 [] [] = true := by decide +kernel
theorem rf_f_M_weighs_19 : rf_Fb rf_m_M_weighs 19 20 (.istore_n 3) 0 0 0 0 [] [] = true := by decide +kernel
theorem rf_f_M_weighs_20 : rf_Fb rf_m_M_weighs 20 21 (.iload_n 3) 0 0 0 0 [] [] = true := by decide +kernel
theorem rf_f_M_weighs_21 : rf_Fb rf_m_M_weighs 21 22 (.iconst 1) 0 0 0 0 [] [] = true := by decide +kernel
theorem rf_f_M_weighs_22 : rf_Fb rf_m_M_weighs 22 25 (.if_icmp .eq 8) 30 0 0 0 [] [] = true := by decide +kernel
theorem rf_f_M_weighs_25 : rf_Fb rf_m_M_weighs 25 26 (.iload_n 3) 0 0 0 0 [] [] = true := by decide +kernel
theorem rf_f_M_weighs_26 : rf_Fb rf_m_M_weighs 26 27 (.iconst 4) 0 0 0 0 [] [] = true := by decide +kernel
theorem rf_f_M_weighs_27 : rf_Fb rf_m_M_weighs 27 30 (.if_icmp .ne 9) 36 0 0 0 [] [] = true := by decide +kernel
theorem rf_f_M_weighs_30 : rf_Fb rf_m_M_weighs 30 31 (.iconst 2) 0 0 0 0 [] [] = true := by decide +kernel
theorem rf_f_M_weighs_31 : rf_Fb rf_m_M_weighs 31 32 (.iload_n 2) 0 0 0 0 [] [] = true := by decide +kernel
theorem rf_f_M_weighs_32 : rf_Fb rf_m_M_weighs 32 33 (.imul) 0 0 0 0 [] [] = true := by decide +kernel
theorem rf_f_M_weighs_33 : rf_Fb rf_m_M_weighs 33 36 (.goto 19) 52 0 0 0 [] [] = true := by decide +kernel
theorem rf_f_M_weighs_36 : rf_Fb rf_m_M_weighs 36 37 (.iload_n 3) 0 0 0 0 [] [] = true := by decide +kernel
theorem rf_f_M_weighs_37 : rf_Fb rf_m_M_weighs 37 38 (.iconst 3) 0 0 0 0 [] [] = true := by decide +kernel
theorem rf_f_M_weighs_38 : rf_Fb rf_m_M_weighs 38 41 (.if_icmp .ne 13) 51 0 0 0 [] [] = true := by decide +kernel
theorem rf_f_M_weighs_41 : rf_Fb rf_m_M_weighs 41 42 (.iconst 0) 0 0 0 0 [] [] = true := by decide +kernel
theorem rf_f_M_weighs_42 : rf_Fb rf_m_M_weighs 42 43 (.iload_n 2) 0 0 0 0 [] [] = true := by decide +kernel
theorem rf_f_M_weighs_43 : rf_Fb rf_m_M_weighs 43 44 (.iconst 2) 0 0 0 0 [] [] = true := by decide +kernel
theorem rf_f_M_weighs_44 : rf_Fb rf_m_M_weighs 44 45 (.isub) 0 0 0 0 [] [] = true := by decide +kernel
theorem rf_f_M_weighs_45 : rf_Fb rf_m_M_weighs 45 48 (.invokestatic 128) 147 2 0 0 [] [] = true := by decide +kernel
theorem rf_f_M_weighs_48 : rf_Fb rf_m_M_weighs 48 51 (.goto 4) 52 0 0 0 [] [] = true := by decide +kernel
theorem rf_f_M_weighs_51 : rf_Fb rf_m_M_weighs 51 52 (.iload_n 2) 0 0 0 0 [] [true, false, false, true, false] = true := by decide +kernel
theorem rf_f_M_weighs_52 : rf_Fb rf_m_M_weighs 52 54 (.istore 4) 0 0 0 0 [] [] = true := by decide +kernel
theorem rf_f_M_weighs_54 : rf_Fb rf_m_M_weighs 54 56 (.iload 4) 0 0 0 0 [] [] = true := by decide +kernel
theorem rf_f_M_weighs_56 : rf_Fb rf_m_M_weighs 56 57 (.iload_n 3) 0 0 0 0 [] [] = true := by decide +kernel
theorem rf_f_M_weighs_57 : rf_Fb rf_m_M_weighs 57 58 (.iconst 5) 0 0 0 0 [] [] = true := by decide +kernel
theorem rf_f_M_weighs_58 : rf_Fb rf_m_M_weighs 58 61 (.if_icmp .ne 18) 76 0 0 0 [] [] = true := by decide +kernel
theorem rf_f_M_weighs_61 : rf_Fb rf_m_M_weighs 61 62 (.aload_n 0) 0 0 0 0 [] [] = true := by decide +kernel
theorem rf_f_M_weighs_62 : rf_Fb rf_m_M_weighs 62 65 (.getfield 41) 5 17 2 0 [] [] = true := by decide +kernel
theorem rf_f_M_weighs_65 : rf_Fb rf_m_M_weighs 65 67 (.bipush 31) 0 0 0 0 [] [] = true := by decide +kernel
theorem rf_f_M_weighs_67 : rf_Fb rf_m_M_weighs 67 68 (.iaload) 0 0 0 0 [] [] = true := by decide +kernel
theorem rf_f_M_weighs_68 : rf_Fb rf_m_M_weighs 68 69 (.iconst 1) 0 0 0 0 [] [] = true := by decide +kernel
theorem rf_f_M_weighs_69 : rf_Fb rf_m_M_weighs 69 72 (.if_icmp .ne 7) 76 0 0 0 [] [] = true := by decide +kernel
theorem rf_f_M_weighs_72 : rf_Fb rf_m_M_weighs 72 73 (.iconst 3) 0 0 0 0 [] [] = true := by decide +kernel
theorem rf_f_M_weighs_73 : rf_Fb rf_m_M_weighs 73 76 (.goto 4) 77 0 0 0 [] [] = true := by decide +kernel
theorem rf_f_M_weighs_76 : rf_Fb rf_m_M_weighs 76 77 (.iconst 0) 0 0 0 0 [] [] = true := by decide +kernel
theorem rf_f_M_weighs_77 : rf_Fb rf_m_M_weighs 77 78 (.iadd) 0 0 0 0 [] [] = true := by decide +kernel
theorem rf_f_M_weighs_78 : rf_Fb rf_m_M_weighs 78 79 (.aload_n 0) 0 0 0 0 [] [] = true := by decide +kernel
theorem rf_f_M_weighs_79 : rf_Fb rf_m_M_weighs 79 82 (.getfield 41) 5 17 2 0 [] [] = true := by decide +kernel
theorem rf_f_M_weighs_82 : rf_Fb rf_m_M_weighs 82 83 (.iconst 1) 0 0 0 0 [] [] = true := by decide +kernel
theorem rf_f_M_weighs_83 : rf_Fb rf_m_M_weighs 83 84 (.iaload) 0 0 0 0 [] [] = true := by decide +kernel
theorem rf_f_M_weighs_84 : rf_Fb rf_m_M_weighs 84 85 (.iadd) 0 0 0 0 [] [] = true := by decide +kernel
theorem rf_f_M_weighs_85 : rf_Fb rf_m_M_weighs 85 86 (.ireturn) 0 0 0 0 [] [] = true := by decide +kernel
set_option maxRecDepth 20000 in
set_option maxHeartbeats 2000000 in
theorem rf_e_M_weighs (d : Nat) (o : Nat) (a1 : Int) (h : rf_H) : rf_call (d + 1) 146 [.inr (.inr (some o)), .inl a1] h = ((rf_gR h 5 o 17).bind fun x1 => (rf_nn x1 fun k2 => ((rf_aI h k2 (rf_w ((rf_w (9 + (rf_w (3 * a1)))) + 1))).bind fun x3 => (bif rf_isO h.1 o 5 then ((rf_call d 144 [.inr (.inr (some o)), .inl a1] h).bind fun q5 => rf_kI q5 fun x6 h4 => (if x6 = 1 then rf_j_M_weighs_52 d o x6 (rf_w (2 * x3)) h4 else (if x6 = 4 then rf_j_M_weighs_52 d o x6 (rf_w (2 * x3)) h4 else (if x6 = 3 then ((rf_call d 147 [.inl 0, .inl (rf_w (x3 - 2))] h4).bind fun q8 => rf_kI q8 fun x9 h7 => rf_j_M_weighs_52 d o x6 x9 h7) else rf_j_M_weighs_52 d o x6 x3 h4)))) else none)))) := by
  show rf_den (rf_call d) (rf_mt 146) _ = _
  rw [rf_u_M_weighs]
  exact ((rf_s_aload_n rf_f_M_weighs_0 rfl (rf_m0 _) (rf_s_getAS rf_f_M_weighs_1 (rf_m0 _) fun x1 => (rf_s_bipush rf_f_M_weighs_4 (rf_m0 _) (rf_s_iconst rf_f_M_weighs_6 (rf_m0 _) (rf_s_iload_n rf_f_M_weighs_7 rfl (rf_m0 _) (rf_s_imul rf_f_M_weighs_8 (rf_m0 _) (rf_s_iadd rf_f_M_weighs_9 (rf_m0 _) (rf_s_iconst rf_f_M_weighs_10 (rf_m0 _) (rf_s_iadd rf_f_M_weighs_11 (rf_m0 _) (rf_s_ialdR rf_f_M_weighs_12 (rf_m0 _) fun k2 x3 => (rf_s_istore_n (L' := [some (.inr (.inr (some o))), some (.inl a1), some (.inl x3), none, none]) rf_f_M_weighs_13 rfl (rf_s_aload_n rf_f_M_weighs_14 rfl (rf_m0 _) (rf_s_iload_n rf_f_M_weighs_15 rfl (rf_m0 _) (rf_s_invV0S rf_f_M_weighs_16 rfl rfl (rf_m0 _) fun q5 x6 h4 => (rf_s_istore_n (L' := [some (.inr (.inr (some o))), some (.inl a1), some (.inl x3), some (.inl x6), none]) rf_f_M_weighs_19 rfl (rf_s_iload_n rf_f_M_weighs_20 rfl (rf_m0 _) (rf_s_iconst rf_f_M_weighs_21 (rf_m0 _) (rf_s_icmp_eq rf_f_M_weighs_22 rfl (rf_m0 _) (rf_m0 _) (rf_s_iconst rf_f_M_weighs_30 (rf_m0 _) (rf_s_iload_n rf_f_M_weighs_31 rfl (rf_m0 _) (rf_s_imul rf_f_M_weighs_32 (rf_m0 _) (rf_s_goto rf_f_M_weighs_33 rfl rfl rfl)))) (rf_s_iload_n rf_f_M_weighs_25 rfl (rf_m0 _) (rf_s_iconst rf_f_M_weighs_26 (rf_m0 _) (rf_s_icmp_ne rf_f_M_weighs_27 rfl (rf_m0 _) (rf_m0 _) (rf_s_iload_n rf_f_M_weighs_36 rfl (rf_m0 _) (rf_s_iconst rf_f_M_weighs_37 (rf_m0 _) (rf_s_icmp_ne rf_f_M_weighs_38 rfl (rf_m0 _) (rf_m0 _) (rf_s_iload_n rf_f_M_weighs_51 rfl rfl rfl) (rf_s_iconst rf_f_M_weighs_41 (rf_m0 _) (rf_s_iload_n rf_f_M_weighs_42 rfl (rf_m0 _) (rf_s_iconst rf_f_M_weighs_43 (rf_m0 _) (rf_s_isub rf_f_M_weighs_44 (rf_m0 _) (rf_s_invS0 rf_f_M_weighs_45 rfl rfl (rf_m0 _) fun q8 x9 h7 => (rf_s_goto rf_f_M_weighs_48 rfl rfl rfl))))))))) (rf_s_iconst rf_f_M_weighs_30 (rf_m0 _) (rf_s_iload_n rf_f_M_weighs_31 rfl (rf_m0 _) (rf_s_imul rf_f_M_weighs_32 (rf_m0 _) (rf_s_goto rf_f_M_weighs_33 rfl rfl rfl))))))))))))))))))))))))) : rf_den (rf_call d) rf_m_M_weighs (0, [some (.inr (.inr (some o))), some (.inl a1), none, none, none], [], h) = _)
set_option maxRecDepth 20000 in
set_option maxHeartbeats 2000000 in
theorem rf_e_M_weighs_52 (d : Nat) (o : Nat) (l3 : Int) (s0 : Int) (h : rf_H) : rf_j_M_weighs_52 d o l3 s0 h = (if l3 = 5 then ((rf_gR h 5 o 17).bind fun x4 => (rf_nn x4 fun k5 => ((rf_aI h k5 31).bind fun x6 => (if x6 = 1 then ((rf_gR h 5 o 17).bind fun x10 => (rf_nn x10 fun k11 => ((rf_aI h k11 1).bind fun x12 => some (some (.inl (rf_w ((rf_w (s0 + 3)) + x12))), h)))) else ((rf_gR h 5 o 17).bind fun x7 => (rf_nn x7 fun k8 => ((rf_aI h k8 1).bind fun x9 => some (some (.inl (rf_w ((rf_w (s0 + 0)) + x9))), h)))))))) else ((rf_gR h 5 o 17).bind fun x1 => (rf_nn x1 fun k2 => ((rf_aI h k2 1).bind fun x3 => some (some (.inl (rf_w ((rf_w (s0 + 0)) + x3))), h))))) :=
  ((rf_s_istore (L' := [some (.inr (.inr (some o))), none, none, some (.inl l3), some (.inl s0)]) rf_f_M_weighs_52 rfl (rf_s_iload rf_f_M_weighs_54 rfl (rf_m0 _) (rf_s_iload_n rf_f_M_weighs_56 rfl (rf_m0 _) (rf_s_iconst rf_f_M_weighs_57 (rf_m0 _) (rf_s_icmp_ne rf_f_M_weighs_58 rfl (rf_m0 _) (rf_m0 _) (rf_s_iconst rf_f_M_weighs_76 (rf_m0 _) (rf_s_iadd rf_f_M_weighs_77 (rf_m0 _) (rf_s_aload_n rf_f_M_weighs_78 rfl (rf_m0 _) (rf_s_getAS rf_f_M_weighs_79 (rf_m0 _) fun x1 => (rf_s_iconst rf_f_M_weighs_82 (rf_m0 _) (rf_s_ialdR rf_f_M_weighs_83 (rf_m0 _) fun k2 x3 => (rf_s_iadd rf_f_M_weighs_84 (rf_m0 _) (rf_s_iret rf_f_M_weighs_85)))))))) (rf_s_aload_n rf_f_M_weighs_61 rfl (rf_m0 _) (rf_s_getAS rf_f_M_weighs_62 (rf_m0 _) fun x4 => (rf_s_bipush rf_f_M_weighs_65 (rf_m0 _) (rf_s_ialdR rf_f_M_weighs_67 (rf_m0 _) fun k5 x6 => (rf_s_iconst rf_f_M_weighs_68 (rf_m0 _) (rf_s_icmp_ne rf_f_M_weighs_69 rfl (rf_m0 _) (rf_m0 _) (rf_s_iconst rf_f_M_weighs_76 (rf_m0 _) (rf_s_iadd rf_f_M_weighs_77 (rf_m0 _) (rf_s_aload_n rf_f_M_weighs_78 rfl (rf_m0 _) (rf_s_getAS rf_f_M_weighs_79 (rf_m0 _) fun x7 => (rf_s_iconst rf_f_M_weighs_82 (rf_m0 _) (rf_s_ialdR rf_f_M_weighs_83 (rf_m0 _) fun k8 x9 => (rf_s_iadd rf_f_M_weighs_84 (rf_m0 _) (rf_s_iret rf_f_M_weighs_85)))))))) (rf_s_iconst rf_f_M_weighs_72 (rf_m0 _) (rf_s_goto rf_f_M_weighs_73 rfl (rf_m0 _) (rf_s_iadd rf_f_M_weighs_77 (rf_m0 _) (rf_s_aload_n rf_f_M_weighs_78 rfl (rf_m0 _) (rf_s_getAS rf_f_M_weighs_79 (rf_m0 _) fun x10 => (rf_s_iconst rf_f_M_weighs_82 (rf_m0 _) (rf_s_ialdR rf_f_M_weighs_83 (rf_m0 _) fun k11 x12 => (rf_s_iadd rf_f_M_weighs_84 (rf_m0 _) (rf_s_iret rf_f_M_weighs_85)))))))))))))))))))) : rf_den (rf_call d) rf_m_M_weighs (52, [some (.inr (.inr (some o))), none, none, some (.inl l3), none], [.inl s0], h) = _)
theorem rf_u_M_greater : rf_mt 147 = rf_m_M_greater := rfl
theorem rf_f_M_greater_0 : rf_Fb rf_m_M_greater 0 1 (.iload_n 0) 0 0 0 0 [] [] = true := by decide +kernel
theorem rf_f_M_greater_1 : rf_Fb rf_m_M_greater 1 2 (.iload_n 1) 0 0 0 0 [] [] = true := by decide +kernel
theorem rf_f_M_greater_2 : rf_Fb rf_m_M_greater 2 5 (.if_icmp .le 7) 9 0 0 0 [] [] = true := by decide +kernel
theorem rf_f_M_greater_5 : rf_Fb rf_m_M_greater 5 6 (.iload_n 0) 0 0 0 0 [] [] = true := by decide +kernel
theorem rf_f_M_greater_6 : rf_Fb rf_m_M_greater 6 9 (.goto 4) 10 0 0 0 [] [] = true := by decide +kernel
theorem rf_f_M_greater_9 : rf_Fb rf_m_M_greater 9 10 (.iload_n 1) 0 0 0 0 [] [] = true := by decide +kernel
theorem rf_f_M_greater_10 : rf_Fb rf_m_M_greater 10 11 (.ireturn) 0 0 0 0 [] [] = true := by decide +kernel
set_option maxRecDepth 20000 in
set_option maxHeartbeats 2000000 in
theorem rf_e_M_greater (d : Nat) (a1 : Int) (a2 : Int) (h : rf_H) : rf_call (d + 1) 147 [.inl a1, .inl a2] h = (if a2 < a1 then some (some (.inl a1), h) else some (some (.inl a2), h)) := by
  show rf_den (rf_call d) (rf_mt 147) _ = _
  rw [rf_u_M_greater]
  exact ((rf_s_iload_n rf_f_M_greater_0 rfl (rf_m0 _) (rf_s_iload_n rf_f_M_greater_1 rfl (rf_m0 _) (rf_s_icmp_le rf_f_M_greater_2 rfl (rf_m0 _) (rf_m0 _) (rf_s_iload_n rf_f_M_greater_9 rfl (rf_m0 _) (rf_s_iret rf_f_M_greater_10)) (rf_s_iload_n rf_f_M_greater_5 rfl (rf_m0 _) (rf_s_goto rf_f_M_greater_6 rfl (rf_m0 _) (rf_s_iret rf_f_M_greater_10)))))) : rf_den (rf_call d) rf_m_M_greater (0, [some (.inl a1), some (.inl a2)], [], h) = _)
noncomputable def rf_j_M_mark_58 (d : Nat) (o : Nat) (l1 : Int) (l2 : Int) (l3 : Int) (h : rf_H) : Option rf_R := rf_den (rf_call d) rf_m_M_mark (58, [some (.inr (.inr (some o))), some (.inl l1), some (.inl l2), some (.inl l3), none, none], [], h)
noncomputable def rf_j_M_mark_80 (d : Nat) (o : Nat) (l1 : Int) (l2 : Int) (l4 : Int) (l5 : Int) (h : rf_H) : Option rf_R := rf_den (rf_call d) rf_m_M_mark (80, [some (.inr (.inr (some o))), some (.inl l1), some (.inl l2), none, some (.inl l4), some (.inl l5)], [], h)
noncomputable def rf_j_M_mark_149 (d : Nat) (o : Nat) (l1 : Int) (l2 : Int) (l4 : Int) (s0 : Int) (h : rf_H) : Option rf_R := rf_den (rf_call d) rf_m_M_mark (149, [some (.inr (.inr (some o))), some (.inl l1), some (.inl l2), none, some (.inl l4), none], [.inl s0], h)
theorem rf_u_M_mark : rf_mt 148 = rf_m_M_mark := rfl
theorem rf_f_M_mark_0 : rf_Fb rf_m_M_mark 0 1 (.aload_n 0) 0 0 0 0 [] [] = true := by decide +kernel
theorem rf_f_M_mark_1 : rf_Fb rf_m_M_mark 1 4 (.invokevirtual 153) 142 0 3 5 [] [] = true := by decide +kernel
theorem rf_f_M_mark_4 : rf_Fb rf_m_M_mark 4 5 (.iload_n 1) 0 0 0 0 [] [] = true := by decide +kernel
theorem rf_f_M_mark_5 : rf_Fb rf_m_M_mark 5 6 (.i2l) 0 0 0 0 [] [] = true := by decide +kernel
theorem rf_f_M_mark_6 : rf_Fb rf_m_M_mark 6 7 (.lconst 0) 0 0 0 0 [] [] = true := by decide +kernel
theorem rf_f_M_mark_7 : rf_Fb rf_m_M_mark 7 8 (.aload_n 0) 0 0 0 0 [] [] = true := by decide +kernel
theorem rf_f_M_mark_8 : rf_Fb rf_m_M_mark 8 11 (.getfield 22) 5 4 2 0 [] [] = true := by decide +kernel
theorem rf_f_M_mark_11 : rf_Fb rf_m_M_mark 11 13 (.bipush 36) 0 0 0 0 [] [] = true := by decide +kernel
theorem rf_f_M_mark_13 : rf_Fb rf_m_M_mark 13 14 (.iaload) 0 0 0 0 [] [] = true := by decide +kernel
theorem rf_f_M_mark_14 : rf_Fb rf_m_M_mark 14 15 (.iconst 1) 0 0 0 0 [] [] = true := by decide +kernel
theorem rf_f_M_mark_15 : rf_Fb rf_m_M_mark 15 16 (.isub) 0 0 0 0 [] [] = true := by decide +kernel
theorem rf_f_M_mark_16 : rf_Fb rf_m_M_mark 16 17 (.i2l) 0 0 0 0 [] [] = true := by decide +kernel
theorem rf_f_M_mark_17 : rf_Fb rf_m_M_mark 17 20 (.invokestatic 63) 118 3 0 0 [] [] = true := by decide +kernel
theorem rf_f_M_mark_20 : rf_Fb rf_m_M_mark 20 23 (.ifCond .eq 15) 35 0 0 0 [] [] = true := by decide +kernel
theorem rf_f_M_mark_23 : rf_Fb rf_m_M_mark 23 24 (.iload_n 2) 0 0 0 0 [] [] = true := by decide +kernel
theorem rf_f_M_mark_24 : rf_Fb rf_m_M_mark 24 25 (.i2l) 0 0 0 0 [] [] = true := by decide +kernel
theorem rf_f_M_mark_25 : rf_Fb rf_m_M_mark 25 26 (.lconst 1) 0 0 0 1 [] [] = true := by decide +kernel
theorem rf_f_M_mark_26 : rf_Fb rf_m_M_mark 26 29 (.ldc2_w 61) 0 0 0 5 [] [] = true := by decide +kernel
theorem rf_f_M_mark_29 : rf_Fb rf_m_M_mark 29 32 (.invokestatic 63) 118 3 0 0 [] [] = true := by decide +kernel
theorem rf_f_M_mark_32 : rf_Fb rf_m_M_mark 32 35 (.ifCond .ne 5) 37 0 0 0 [] [] = true := by decide +kernel
theorem rf_f_M_mark_35 : rf_Fb rf_m_M_mark 35 36 (.iconst (-1)) 0 0 0 0 [] [] = true := by decide +kernel
theorem rf_f_M_mark_36 : rf_Fb rf_m_M_mark 36 37 (.ireturn) 0 0 0 0 [] [] = true := by decide +kernel
theorem rf_f_M_mark_37 : rf_Fb rf_m_M_mark 37 38 (.aload_n 0) 0 0 0 0 [] [] = true := by decide +kernel
theorem rf_f_M_mark_38 : rf_Fb rf_m_M_mark 38 39 (.iload_n 1) 0 0 0 0 [] [] = true := by decide +kernel
theorem rf_f_M_mark_39 : rf_Fb rf_m_M_mark 39 42 (.invokevirtual 125) 144 1 0 5 [] [] = true := by decide +kernel
theorem rf_f_M_mark_42 : rf_Fb rf_m_M_mark 42 43 (.istore_n 3) 0 0 0 0 [] [] = true := by decide +kernel
theorem rf_f_M_mark_43 : rf_Fb rf_m_M_mark 43 44 (.iload_n 3) 0 0 0 0 [] [] = true := by decide +kernel
theorem rf_f_M_mark_44 : rf_Fb rf_m_M_mark 44 45 (.iload_n 2) 0 0 0 0 [] [] = true := by decide +kernel
theorem rf_f_M_mark_45 : rf_Fb rf_m_M_mark 45 48 (.if_icmp .eq 29) 74 0 0 0 [] [] = true := by decide +kernel
theorem rf_f_M_mark_48 : rf_Fb rf_m_M_mark 48 49 (.iload_n 2) 0 0 0 0 [] [] = true := by decide +kernel
theorem rf_f_M_mark_49 : rf_Fb rf_m_M_mark 49 50 (.iconst 1) 0 0 0 0 [] [] = true := by decide +kernel
theorem rf_f_M_mark_50 : rf_Fb rf_m_M_mark 50 53 (.if_icmp .ne 8) 58 0 0 0 [] [] = true := by decide +kernel
theorem rf_f_M_mark_53 : rf_Fb rf_m_M_mark 53 54 (.iload_n 3) 0 0 0 0 [] [] = true := by decide +kernel
theorem rf_f_M_mark_54 : rf_Fb rf_m_M_mark 54 55 (.iconst 4) 0 0 0 0 [] [] = true := by decide +kernel
theorem rf_f_M_mark_55 : rf_Fb rf_m_M_mark 55 58 (.if_icmp .eq 19) 74 0 0 0 [] [true, true, true, true, false, false] = true := by decide +kernel
theorem rf_f_M_mark_58 : rf_Fb rf_m_M_mark 58 59 (.iload_n 2) 0 0 0 0 [] [] = true := by decide +kernel
theorem rf_f_M_mark_59 : rf_Fb rf_m_M_mark 59 60 (.iconst 2) 0 0 0 0 [] [] = true := by decide +kernel
theorem rf_f_M_mark_60 : rf_Fb rf_m_M_mark 60 63 (.if_icmp .ne 8) 68 0 0 0 [] [] = true := by decide +kernel
theorem rf_f_M_mark_63 : rf_Fb rf_m_M_mark 63 64 (.iload_n 3) 0 0 0 0 [] [] = true := by decide +kernel
theorem rf_f_M_mark_64 : rf_Fb rf_m_M_mark 64 65 (.iconst 5) 0 0 0 0 [] [] = true := by decide +kernel
theorem rf_f_M_mark_65 : rf_Fb rf_m_M_mark 65 68 (.if_icmp .eq 9) 74 0 0 0 [] [] = true := by decide +kernel
theorem rf_f_M_mark_68 : rf_Fb rf_m_M_mark 68 69 (.aload_n 0) 0 0 0 0 [] [] = true := by decide +kernel
theorem rf_f_M_mark_69 : rf_Fb rf_m_M_mark 69 70 (.iconst 3) 0 0 0 0 [] [] = true := by decide +kernel
theorem rf_f_M_mark_70 : rf_Fb rf_m_M_mark 70 73 (.invokevirtual 73) 119 1 0 5 [] [] = true := by decide +kernel
theorem rf_f_M_mark_73 : rf_Fb rf_m_M_mark 73 74 (.ireturn) 0 0 0 0 [] [] = true := by decide +kernel
theorem rf_f_M_mark_74 : rf_Fb rf_m_M_mark 74 75 (.iconst 0) 0 0 0 0 [] [] = true := by decide +kernel
theorem rf_f_M_mark_75 : rf_Fb rf_m_M_mark 75 77 (.istore 4) 0 0 0 0 [] [] = true := by decide +kernel
theorem rf_f_M_mark_77 : rf_Fb rf_m_M_mark 77 78 (.iconst 0) 0 0 0 0 [] [] = true := by decide +kernel
theorem rf_f_M_mark_78 : rf_Fb rf_m_M_mark 78 80 (.istore 5) 0 0 0 0 [] [true, true, true, false, true, true] = true := by decide +kernel
theorem rf_f_M_mark_80 : rf_Fb rf_m_M_mark 80 82 (.iload 5) 0 0 0 0 [] [] = true := by decide +kernel
theorem rf_f_M_mark_82 : rf_Fb rf_m_M_mark 82 83 (.iload_n 1) 0 0 0 0 [] [] = true := by decide +kernel
theorem rf_f_M_mark_83 : rf_Fb rf_m_M_mark 83 86 (.if_icmp .ge 28) 111 0 0 0 [] [] = true := by decide +kernel
theorem rf_f_M_mark_86 : rf_Fb rf_m_M_mark 86 88 (.iload 4) 0 0 0 0 [] [] = true := by decide +kernel
theorem rf_f_M_mark_88 : rf_Fb rf_m_M_mark 88 89 (.aload_n 0) 0 0 0 0 [] [] = true := by decide +kernel
theorem rf_f_M_mark_89 : rf_Fb rf_m_M_mark 89 91 (.iload 5) 0 0 0 0 [] [] = true := by decide +kernel
theorem rf_f_M_mark_91 : rf_Fb rf_m_M_mark 91 94 (.invokevirtual 144) 145 1 0 5 [] [] = true := by decide +kernel
theorem rf_f_M_mark_94 : rf_Fb rf_m_M_mark 94 97 (.ifCond .le 7) 101 0 0 0 [] [] = true := by decide +kernel
theorem rf_f_M_mark_97 : rf_Fb rf_m_M_mark 97 98 (.iconst 1) 0 0 0 0 [] [] = true := by decide +kernel
theorem rf_f_M_mark_98 : rf_Fb rf_m_M_mark 98 101 (.goto 4) 102 0 0 0 [] [] = true := by decide +kernel
theorem rf_f_M_mark_101 : rf_Fb rf_m_M_mark 101 102 (.iconst 0) 0 0 0 0 [] [] = true := by decide +kernel
theorem rf_f_M_mark_102 : rf_Fb rf_m_M_mark 102 103 (.iadd) 0 0 0 0 [] [] = true := by decide +kernel
theorem rf_f_M_mark_103 : rf_Fb rf_m_M_mark 103 105 (.istore 4) 0 0 0 0 [] [] = true := by decide +kernel
theorem rf_f_M_mark_105 : rf_Fb rf_m_M_mark 105 108 (.iinc 5 1) 0 0 0 0 [] [] = true := by decide +kernel
theorem rf_f_M_mark_108 : rf_Fb rf_m_M_mark 108 111 (.goto (-28)) 80 0 0 0 [] [] = true := by decide +kernel
theorem rf_f_M_mark_111 : rf_Fb rf_m_M_mark 111 112 (.iload_n 2) 0 0 0 0 [] [] = true := by decide +kernel
theorem rf_f_M_mark_112 : rf_Fb rf_m_M_mark 112 113 (.iconst 4) 0 0 0 0 [] [] = true := by decide +kernel
theorem rf_f_M_mark_113 : rf_Fb rf_m_M_mark 113 116 (.if_icmp .ne 25) 138 0 0 0 [] [] = true := by decide +kernel
theorem rf_f_M_mark_116 : rf_Fb rf_m_M_mark 116 117 (.aload_n 0) 0 0 0 0 [] [] = true := by decide +kernel
theorem rf_f_M_mark_117 : rf_Fb rf_m_M_mark 117 120 (.getfield 41) 5 17 2 0 [] [] = true := by decide +kernel
theorem rf_f_M_mark_120 : rf_Fb rf_m_M_mark 120 122 (.bipush 9) 0 0 0 0 [] [] = true := by decide +kernel
theorem rf_f_M_mark_122 : rf_Fb rf_m_M_mark 122 123 (.iconst 3) 0 0 0 0 [] [] = true := by decide +kernel
theorem rf_f_M_mark_123 : rf_Fb rf_m_M_mark 123 124 (.iload_n 1) 0 0 0 0 [] [] = true := by decide +kernel
theorem rf_f_M_mark_124 : rf_Fb rf_m_M_mark 124 125 (.imul) 0 0 0 0 [] [] = true := by decide +kernel
theorem rf_f_M_mark_125 : rf_Fb rf_m_M_mark 125 126 (.iadd) 0 0 0 0 [] [] = true := by decide +kernel
theorem rf_f_M_mark_126 : rf_Fb rf_m_M_mark 126 127 (.iconst 2) 0 0 0 0 [] [] = true := by decide +kernel
theorem rf_f_M_mark_127 : rf_Fb rf_m_M_mark 127 128 (.iadd) 0 0 0 0 [] [] = true := by decide +kernel
theorem rf_f_M_mark_128 : rf_Fb rf_m_M_mark 128 129 (.iaload) 0 0 0 0 [] [] = true := by decide +kernel
theorem rf_f_M_mark_129 : rf_Fb rf_m_M_mark 129 130 (.aload_n 0) 0 0 0 0 [] [] = true := by decide +kernel
theorem rf_f_M_mark_130 : rf_Fb rf_m_M_mark 130 131 (.iload_n 1) 0 0 0 0 [] [] = true := by decide +kernel
theorem rf_f_M_mark_131 : rf_Fb rf_m_M_mark 131 134 (.invokevirtual 147) 143 1 0 5 [] [] = true := by decide +kernel
theorem rf_f_M_mark_134 : rf_Fb rf_m_M_mark 134 135 (.isub) 0 0 0 0 [] [] = true := by decide +kernel
theorem rf_f_M_mark_135 : rf_Fb rf_m_M_mark 135 138 (.goto 14) 149 0 0 0 [] [] = true := by decide +kernel
theorem rf_f_M_mark_138 : rf_Fb rf_m_M_mark 138 139 (.aload_n 0) 0 0 0 0 [] [] = true := by decide +kernel
theorem rf_f_M_mark_139 : rf_Fb rf_m_M_mark 139 142 (.getfield 41) 5 17 2 0 [] [] = true := by decide +kernel
theorem rf_f_M_mark_142 : rf_Fb rf_m_M_mark 142 144 (.bipush 36) 0 0 0 0 [] [] = true := by decide +kernel
theorem rf_f_M_mark_144 : rf_Fb rf_m_M_mark 144 145 (.iaload) 0 0 0 0 [] [] = true := by decide +kernel
theorem rf_f_M_mark_145 : rf_Fb rf_m_M_mark 145 146 (.iconst 1) 0 0 0 0 [] [] = true := by decide +kernel
theorem rf_f_M_mark_146 : rf_Fb rf_m_M_mark 146 147 (.isub) 0 0 0 0 [] [] = true := by decide +kernel
theorem rf_f_M_mark_147 : rf_Fb rf_m_M_mark 147 148 (.iload_n 1) 0 0 0 0 [] [] = true := by decide +kernel
theorem rf_f_M_mark_148 : rf_Fb rf_m_M_mark 148 149 (.isub) 0 0 0 0 [] [true, true, true, false, true, false] = true := by decide +kernel
theorem rf_f_M_mark_149 : rf_Fb rf_m_M_mark 149 151 (.istore 5) 0 0 0 0 [] [] = true := by decide +kernel
theorem rf_f_M_mark_151 : rf_Fb rf_m_M_mark 151 152 (.iload_n 2) 0 0 0 0 [] [] = true := by decide +kernel
theorem rf_f_M_mark_152 : rf_Fb rf_m_M_mark 152 153 (.iconst 1) 0 0 0 0 [] [] = true := by decide +kernel
theorem rf_f_M_mark_153 : rf_Fb rf_m_M_mark 153 156 (.if_icmp .ne 19) 172 0 0 0 [] [] = true := by decide +kernel
theorem rf_f_M_mark_156 : rf_Fb rf_m_M_mark 156 157 (.aload_n 0) 0 0 0 0 [] [] = true := by decide +kernel
theorem rf_f_M_mark_157 : rf_Fb rf_m_M_mark 157 160 (.getfield 41) 5 17 2 0 [] [] = true := by decide +kernel
theorem rf_f_M_mark_160 : rf_Fb rf_m_M_mark 160 162 (.bipush 9) 0 0 0 0 [] [] = true := by decide +kernel
theorem rf_f_M_mark_162 : rf_Fb rf_m_M_mark 162 163 (.iconst 3) 0 0 0 0 [] [] = true := by decide +kernel
theorem rf_f_M_mark_163 : rf_Fb rf_m_M_mark 163 164 (.iload_n 1) 0 0 0 0 [] [] = true := by decide +kernel
theorem rf_f_M_mark_164 : rf_Fb rf_m_M_mark 164 165 (.imul) 0 0 0 0 [] [] = true := by decide +kernel
theorem rf_f_M_mark_165 : rf_Fb rf_m_M_mark 165 166 (.iadd) 0 0 0 0 [] [] = true := by decide +kernel
theorem rf_f_M_mark_166 : rf_Fb rf_m_M_mark 166 167 (.iconst 1) 0 0 0 0 [] [] = true := by decide +kernel
theorem rf_f_M_mark_167 : rf_Fb rf_m_M_mark 167 168 (.iadd) 0 0 0 0 [] [] = true := by decide +kernel
theorem rf_f_M_mark_168 : rf_Fb rf_m_M_mark 168 169 (.iaload) 0 0 0 0 [] [] = true := by decide +kernel
theorem rf_f_M_mark_169 : rf_Fb rf_m_M_mark 169 172 (.goto 32) 201 0 0 0 [] [] = true := by decide +kernel
theorem rf_f_M_mark_172 : rf_Fb rf_m_M_mark 172 173 (.iload_n 2) 0 0 0 0 [] [] = true := by decide +kernel
theorem rf_f_M_mark_173 : rf_Fb rf_m_M_mark 173 174 (.iconst 2) 0 0 0 0 [] [] = true := by decide +kernel
theorem rf_f_M_mark_174 : rf_Fb rf_m_M_mark 174 177 (.if_icmp .ne 8) 182 0 0 0 [] [] = true := by decide +kernel
theorem rf_f_M_mark_177 : rf_Fb rf_m_M_mark 177 179 (.iload 4) 0 0 0 0 [] [] = true := by decide +kernel
theorem rf_f_M_mark_179 : rf_Fb rf_m_M_mark 179 182 (.goto 22) 201 0 0 0 [] [] = true := by decide +kernel
theorem rf_f_M_mark_182 : rf_Fb rf_m_M_mark 182 183 (.iload_n 2) 0 0 0 0 [] [] = true := by decide +kernel
theorem rf_f_M_mark_183 : rf_Fb rf_m_M_mark 183 184 (.iconst 3) 0 0 0 0 [] [] = true := by decide +kernel
theorem rf_f_M_mark_184 : rf_Fb rf_m_M_mark 184 187 (.if_icmp .ne 15) 199 0 0 0 [] [] = true := by decide +kernel
theorem rf_f_M_mark_187 : rf_Fb rf_m_M_mark 187 188 (.aload_n 0) 0 0 0 0 [] [] = true := by decide +kernel
theorem rf_f_M_mark_188 : rf_Fb rf_m_M_mark 188 189 (.iload_n 1) 0 0 0 0 [] [] = true := by decide +kernel
theorem rf_f_M_mark_189 : rf_Fb rf_m_M_mark 189 192 (.invokevirtual 132) 146 1 0 5 [] [] = true := by decide +kernel
theorem rf_f_M_mark_192 : rf_Fb rf_m_M_mark 192 193 (.iconst 1) 0 0 0 0 [] [] = true := by decide +kernel
theorem rf_f_M_mark_193 : rf_Fb rf_m_M_mark 193 194 (.iadd) 0 0 0 0 [] [] = true := by decide +kernel
theorem rf_f_M_mark_194 : rf_Fb rf_m_M_mark 194 195 (.iconst 2) 0 0 0 0 [] [] = true := by decide +kernel
theorem rf_f_M_mark_195 : rf_Fb rf_m_M_mark 195 196 (.idiv) 0 0 0 0 [] [] = true := by decide +kernel
theorem rf_f_M_mark_196 : rf_Fb rf_m_M_mark 196 199 (.goto 5) 201 0 0 0 [] [] = true := by decide +kernel
theorem rf_f_M_mark_199 : rf_Fb rf_m_M_mark 199 201 (.iload 5) 0 0 0 0 [] [] = true := by decide +kernel
theorem rf_f_M_mark_201 : rf_Fb rf_m_M_mark 201 202 (.ireturn) 0 0 0 0 [] [] = true := by decide +kernel
set_option maxRecDepth 20000 in
set_option maxHeartbeats 2000000 in
theorem rf_e_M_mark (d : Nat) (o : Nat) (a1 : Int) (a2 : Int) (h : rf_H) : rf_call (d + 1) 148 [.inr (.inr (some o)), .inl a1, .inl a2] h = (bif rf_isO h.1 o 5 then ((rf_call d 142 [.inr (.inr (some o))] h).bind fun q2 => rf_kV q2 fun h1 => ((rf_gR h1 5 o 4).bind fun x3 => (rf_nn x3 fun k4 => ((rf_aI h1 k4 36).bind fun x5 => ((rf_call d 118 [.inr (.inl a1), .inr (.inl 0), .inr (.inl (rf_w (x5 - 1)))] h1).bind fun q7 => rf_kI q7 fun x8 h6 => (if x8 = 0 then some (some (.inl (-1)), h6) else ((rf_call d 118 [.inr (.inl a2), .inr (.inl 1), .inr (.inl 5)] h6).bind fun q10 => rf_kI q10 fun x11 h9 => (if x11 = 0 then some (some (.inl (-1)), h9) else (bif rf_isO h9.1 o 5 then ((rf_call d 144 [.inr (.inr (some o)), .inl a1] h9).bind fun q13 => rf_kI q13 fun x14 h12 => (if x14 = a2 then rf_j_M_mark_80 d o a1 a2 0 0 h12 else (if a2 = 1 then (if x14 = 4 then rf_j_M_mark_80 d o a1 a2 0 0 h12 else rf_j_M_mark_58 d o a1 a2 x14 h12) else rf_j_M_mark_58 d o a1 a2 x14 h12))) else none))))))))) else none) := by
  show rf_den (rf_call d) (rf_mt 148) _ = _
  rw [rf_u_M_mark]
  exact ((rf_s_aload_n rf_f_M_mark_0 rfl (rf_m0 _) (rf_s_invV3S rf_f_M_mark_1 rfl rfl (rf_m0 _) fun q2 h1 => (rf_s_iload_n rf_f_M_mark_4 rfl (rf_m0 _) (rf_s_i2l rf_f_M_mark_5 (rf_m0 _) (rf_s_lconst rf_f_M_mark_6 (rf_m0 _) (rf_s_aload_n rf_f_M_mark_7 rfl (rf_m0 _) (rf_s_getAS rf_f_M_mark_8 (rf_m0 _) fun x3 => (rf_s_bipush rf_f_M_mark_11 (rf_m0 _) (rf_s_ialdR rf_f_M_mark_13 (rf_m0 _) fun k4 x5 => (rf_s_iconst rf_f_M_mark_14 (rf_m0 _) (rf_s_isub rf_f_M_mark_15 (rf_m0 _) (rf_s_i2l rf_f_M_mark_16 (rf_m0 _) (rf_s_invS0 rf_f_M_mark_17 rfl rfl (rf_m0 _) fun q7 x8 h6 => (rf_s_if_eq rf_f_M_mark_20 rfl (rf_m0 _) (rf_m0 _) (rf_s_iconst rf_f_M_mark_35 (rf_m0 _) (rf_s_iret rf_f_M_mark_36)) (rf_s_iload_n rf_f_M_mark_23 rfl (rf_m0 _) (rf_s_i2l rf_f_M_mark_24 (rf_m0 _) (rf_s_lconst rf_f_M_mark_25 (rf_m0 _) (rf_s_ldc2_w rf_f_M_mark_26 (rf_m0 _) (rf_s_invS0 rf_f_M_mark_29 rfl rfl (rf_m0 _) fun q10 x11 h9 => (rf_s_if_ne rf_f_M_mark_32 rfl (rf_m0 _) (rf_m0 _) (rf_s_aload_n rf_f_M_mark_37 rfl (rf_m0 _) (rf_s_iload_n rf_f_M_mark_38 rfl (rf_m0 _) (rf_s_invV0S rf_f_M_mark_39 rfl rfl (rf_m0 _) fun q13 x14 h12 => (rf_s_istore_n (L' := [some (.inr (.inr (some o))), some (.inl a1), some (.inl a2), some (.inl x14), none, none]) rf_f_M_mark_42 rfl (rf_s_iload_n rf_f_M_mark_43 rfl (rf_m0 _) (rf_s_iload_n rf_f_M_mark_44 rfl (rf_m0 _) (rf_s_icmp_eq rf_f_M_mark_45 rfl (rf_m0 _) (rf_m0 _) (rf_s_iconst rf_f_M_mark_74 (rf_m0 _) (rf_s_istore (L' := [some (.inr (.inr (some o))), some (.inl a1), some (.inl a2), some (.inl x14), some (.inl 0), none]) rf_f_M_mark_75 rfl (rf_s_iconst rf_f_M_mark_77 (rf_m0 _) (rf_s_istore rf_f_M_mark_78 rfl rfl)))) (rf_s_iload_n rf_f_M_mark_48 rfl (rf_m0 _) (rf_s_iconst rf_f_M_mark_49 (rf_m0 _) (rf_s_icmp_ne rf_f_M_mark_50 rfl rfl (rf_m0 _) rfl (rf_s_iload_n rf_f_M_mark_53 rfl (rf_m0 _) (rf_s_iconst rf_f_M_mark_54 (rf_m0 _) (rf_s_icmp_eq rf_f_M_mark_55 rfl (rf_m0 _) rfl (rf_s_iconst rf_f_M_mark_74 (rf_m0 _) (rf_s_istore (L' := [some (.inr (.inr (some o))), some (.inl a1), some (.inl a2), some (.inl x14), some (.inl 0), none]) rf_f_M_mark_75 rfl (rf_s_iconst rf_f_M_mark_77 (rf_m0 _) (rf_s_istore rf_f_M_mark_78 rfl rfl)))) rfl))))))))))))) (rf_s_iconst rf_f_M_mark_35 (rf_m0 _) (rf_s_iret rf_f_M_mark_36)))))))))))))))))))))) : rf_den (rf_call d) rf_m_M_mark (0, [some (.inr (.inr (some o))), some (.inl a1), some (.inl a2), none, none, none], [], h) = _)
set_option maxRecDepth 20000 in
set_option maxHeartbeats 2000000 in
theorem rf_e_M_mark_58 (d : Nat) (o : Nat) (l1 : Int) (l2 : Int) (l3 : Int) (h : rf_H) : rf_j_M_mark_58 d o l1 l2 l3 h = (if l2 = 2 then (if l3 = 5 then rf_j_M_mark_80 d o l1 l2 0 0 h else (bif rf_isO h.1 o 5 then ((rf_call d 119 [.inr (.inr (some o)), .inl 3] h).bind fun q5 => rf_kI q5 fun x6 h4 => some (some (.inl x6), h4)) else none)) else (bif rf_isO h.1 o 5 then ((rf_call d 119 [.inr (.inr (some o)), .inl 3] h).bind fun q2 => rf_kI q2 fun x3 h1 => some (some (.inl x3), h1)) else none)) :=
  ((rf_s_iload_n rf_f_M_mark_58 rfl (rf_m0 _) (rf_s_iconst rf_f_M_mark_59 (rf_m0 _) (rf_s_icmp_ne rf_f_M_mark_60 rfl (rf_m0 _) (rf_m0 _) (rf_s_aload_n rf_f_M_mark_68 rfl (rf_m0 _) (rf_s_iconst rf_f_M_mark_69 (rf_m0 _) (rf_s_invV0S rf_f_M_mark_70 rfl rfl (rf_m0 _) fun q2 x3 h1 => (rf_s_iret rf_f_M_mark_73)))) (rf_s_iload_n rf_f_M_mark_63 rfl (rf_m0 _) (rf_s_iconst rf_f_M_mark_64 (rf_m0 _) (rf_s_icmp_eq rf_f_M_mark_65 rfl (rf_m0 _) (rf_m0 _) (rf_s_iconst rf_f_M_mark_74 (rf_m0 _) (rf_s_istore (L' := [some (.inr (.inr (some o))), some (.inl l1), some (.inl l2), some (.inl l3), some (.inl 0), none]) rf_f_M_mark_75 rfl (rf_s_iconst rf_f_M_mark_77 (rf_m0 _) (rf_s_istore rf_f_M_mark_78 rfl rfl)))) (rf_s_aload_n rf_f_M_mark_68 rfl (rf_m0 _) (rf_s_iconst rf_f_M_mark_69 (rf_m0 _) (rf_s_invV0S rf_f_M_mark_70 rfl rfl (rf_m0 _) fun q5 x6 h4 => (rf_s_iret rf_f_M_mark_73)))))))))) : rf_den (rf_call d) rf_m_M_mark (58, [some (.inr (.inr (some o))), some (.inl l1), some (.inl l2), some (.inl l3), none, none], [], h) = _)
set_option maxRecDepth 20000 in
set_option maxHeartbeats 2000000 in
theorem rf_e_M_mark_80 (d : Nat) (o : Nat) (l1 : Int) (l2 : Int) (l4 : Int) (l5 : Int) (h : rf_H) : rf_j_M_mark_80 d o l1 l2 l4 l5 h = (if l5 < l1 then (bif rf_isO h.1 o 5 then ((rf_call d 145 [.inr (.inr (some o)), .inl l5] h).bind fun q11 => rf_kI q11 fun x12 h10 => (if 0 < x12 then rf_j_M_mark_80 d o l1 l2 (rf_w (l4 + 1)) (rf_w (l5 + 1)) h10 else rf_j_M_mark_80 d o l1 l2 (rf_w (l4 + 0)) (rf_w (l5 + 1)) h10)) else none) else (if l2 = 4 then ((rf_gR h 5 o 17).bind fun x4 => (rf_nn x4 fun k5 => ((rf_aI h k5 (rf_w ((rf_w (9 + (rf_w (3 * l1)))) + 2))).bind fun x6 => (bif rf_isO h.1 o 5 then ((rf_call d 143 [.inr (.inr (some o)), .inl l1] h).bind fun q8 => rf_kI q8 fun x9 h7 => rf_j_M_mark_149 d o l1 l2 l4 (rf_w (x6 - x9)) h7) else none)))) else ((rf_gR h 5 o 17).bind fun x1 => (rf_nn x1 fun k2 => ((rf_aI h k2 36).bind fun x3 => rf_j_M_mark_149 d o l1 l2 l4 (rf_w ((rf_w (x3 - 1)) - l1)) h))))) :=
  ((rf_s_iload rf_f_M_mark_80 rfl (rf_m0 _) (rf_s_iload_n rf_f_M_mark_82 rfl (rf_m0 _) (rf_s_icmp_ge rf_f_M_mark_83 rfl (rf_m0 _) (rf_m0 _) (rf_s_iload_n rf_f_M_mark_111 rfl (rf_m0 _) (rf_s_iconst rf_f_M_mark_112 (rf_m0 _) (rf_s_icmp_ne rf_f_M_mark_113 rfl (rf_m0 _) (rf_m0 _) (rf_s_aload_n rf_f_M_mark_138 rfl (rf_m0 _) (rf_s_getAS rf_f_M_mark_139 (rf_m0 _) fun x1 => (rf_s_bipush rf_f_M_mark_142 (rf_m0 _) (rf_s_ialdR rf_f_M_mark_144 (rf_m0 _) fun k2 x3 => (rf_s_iconst rf_f_M_mark_145 (rf_m0 _) (rf_s_isub rf_f_M_mark_146 (rf_m0 _) (rf_s_iload_n rf_f_M_mark_147 rfl (rf_m0 _) (rf_s_isub rf_f_M_mark_148 rfl rfl)))))))) (rf_s_aload_n rf_f_M_mark_116 rfl (rf_m0 _) (rf_s_getAS rf_f_M_mark_117 (rf_m0 _) fun x4 => (rf_s_bipush rf_f_M_mark_120 (rf_m0 _) (rf_s_iconst rf_f_M_mark_122 (rf_m0 _) (rf_s_iload_n rf_f_M_mark_123 rfl (rf_m0 _) (rf_s_imul rf_f_M_mark_124 (rf_m0 _) (rf_s_iadd rf_f_M_mark_125 (rf_m0 _) (rf_s_iconst rf_f_M_mark_126 (rf_m0 _) (rf_s_iadd rf_f_M_mark_127 (rf_m0 _) (rf_s_ialdR rf_f_M_mark_128 (rf_m0 _) fun k5 x6 => (rf_s_aload_n rf_f_M_mark_129 rfl (rf_m0 _) (rf_s_iload_n rf_f_M_mark_130 rfl (rf_m0 _) (rf_s_invV0S rf_f_M_mark_131 rfl rfl (rf_m0 _) fun q8 x9 h7 => (rf_s_isub rf_f_M_mark_134 (rf_m0 _) (rf_s_goto rf_f_M_mark_135 rfl rfl rfl)))))))))))))))))) (rf_s_iload rf_f_M_mark_86 rfl (rf_m0 _) (rf_s_aload_n rf_f_M_mark_88 rfl (rf_m0 _) (rf_s_iload rf_f_M_mark_89 rfl (rf_m0 _) (rf_s_invV0S rf_f_M_mark_91 rfl rfl (rf_m0 _) fun q11 x12 h10 => (rf_s_if_le rf_f_M_mark_94 rfl (rf_m0 _) (rf_m0 _) (rf_s_iconst rf_f_M_mark_101 (rf_m0 _) (rf_s_iadd rf_f_M_mark_102 (rf_m0 _) (rf_s_istore (L' := [some (.inr (.inr (some o))), some (.inl l1), some (.inl l2), none, some (.inl (rf_w (l4 + 0))), some (.inl l5)]) rf_f_M_mark_103 rfl (rf_s_iinc (L' := [some (.inr (.inr (some o))), some (.inl l1), some (.inl l2), none, some (.inl (rf_w (l4 + 0))), some (.inl (rf_w (l5 + 1)))]) rf_f_M_mark_105 rfl rfl (rf_s_goto rf_f_M_mark_108 rfl rfl rfl))))) (rf_s_iconst rf_f_M_mark_97 (rf_m0 _) (rf_s_goto rf_f_M_mark_98 rfl (rf_m0 _) (rf_s_iadd rf_f_M_mark_102 (rf_m0 _) (rf_s_istore (L' := [some (.inr (.inr (some o))), some (.inl l1), some (.inl l2), none, some (.inl (rf_w (l4 + 1))), some (.inl l5)]) rf_f_M_mark_103 rfl (rf_s_iinc (L' := [some (.inr (.inr (some o))), some (.inl l1), some (.inl l2), none, some (.inl (rf_w (l4 + 1))), some (.inl (rf_w (l5 + 1)))]) rf_f_M_mark_105 rfl rfl (rf_s_goto rf_f_M_mark_108 rfl rfl rfl)))))))))))))) : rf_den (rf_call d) rf_m_M_mark (80, [some (.inr (.inr (some o))), some (.inl l1), some (.inl l2), none, some (.inl l4), some (.inl l5)], [], h) = _)
set_option maxRecDepth 20000 in
set_option maxHeartbeats 2000000 in
theorem rf_e_M_mark_149 (d : Nat) (o : Nat) (l1 : Int) (l2 : Int) (l4 : Int) (s0 : Int) (h : rf_H) : rf_j_M_mark_149 d o l1 l2 l4 s0 h = (if l2 = 1 then ((rf_gR h 5 o 17).bind fun x4 => (rf_nn x4 fun k5 => ((rf_aI h k5 (rf_w ((rf_w (9 + (rf_w (3 * l1)))) + 1))).bind fun x6 => some (some (.inl x6), h)))) else (if l2 = 2 then some (some (.inl l4), h) else (if l2 = 3 then (bif rf_isO h.1 o 5 then ((rf_call d 146 [.inr (.inr (some o)), .inl l1] h).bind fun q2 => rf_kI q2 fun x3 h1 => some (some (.inl (rf_w (Int.tdiv (rf_w (x3 + 1)) 2))), h1)) else none) else some (some (.inl s0), h)))) :=
  ((rf_s_istore (L' := [some (.inr (.inr (some o))), some (.inl l1), some (.inl l2), none, some (.inl l4), some (.inl s0)]) rf_f_M_mark_149 rfl (rf_s_iload_n rf_f_M_mark_151 rfl (rf_m0 _) (rf_s_iconst rf_f_M_mark_152 (rf_m0 _) (rf_s_icmp_ne rf_f_M_mark_153 rfl (rf_m0 _) (rf_m0 _) (rf_s_iload_n rf_f_M_mark_172 rfl (rf_m0 _) (rf_s_iconst rf_f_M_mark_173 (rf_m0 _) (rf_s_icmp_ne rf_f_M_mark_174 rfl (rf_m0 _) (rf_m0 _) (rf_s_iload_n rf_f_M_mark_182 rfl (rf_m0 _) (rf_s_iconst rf_f_M_mark_183 (rf_m0 _) (rf_s_icmp_ne rf_f_M_mark_184 rfl (rf_m0 _) (rf_m0 _) (rf_s_iload rf_f_M_mark_199 rfl (rf_m0 _) (rf_s_iret rf_f_M_mark_201)) (rf_s_aload_n rf_f_M_mark_187 rfl (rf_m0 _) (rf_s_iload_n rf_f_M_mark_188 rfl (rf_m0 _) (rf_s_invV0S rf_f_M_mark_189 rfl rfl (rf_m0 _) fun q2 x3 h1 => (rf_s_iconst rf_f_M_mark_192 (rf_m0 _) (rf_s_iadd rf_f_M_mark_193 (rf_m0 _) (rf_s_iconst rf_f_M_mark_194 (rf_m0 _) (rf_s_idiv rf_f_M_mark_195 (by decide) (rf_m0 _) (rf_s_goto rf_f_M_mark_196 rfl (rf_m0 _) (rf_s_iret rf_f_M_mark_201)))))))))))) (rf_s_iload rf_f_M_mark_177 rfl (rf_m0 _) (rf_s_goto rf_f_M_mark_179 rfl (rf_m0 _) (rf_s_iret rf_f_M_mark_201)))))) (rf_s_aload_n rf_f_M_mark_156 rfl (rf_m0 _) (rf_s_getAS rf_f_M_mark_157 (rf_m0 _) fun x4 => (rf_s_bipush rf_f_M_mark_160 (rf_m0 _) (rf_s_iconst rf_f_M_mark_162 (rf_m0 _) (rf_s_iload_n rf_f_M_mark_163 rfl (rf_m0 _) (rf_s_imul rf_f_M_mark_164 (rf_m0 _) (rf_s_iadd rf_f_M_mark_165 (rf_m0 _) (rf_s_iconst rf_f_M_mark_166 (rf_m0 _) (rf_s_iadd rf_f_M_mark_167 (rf_m0 _) (rf_s_ialdR rf_f_M_mark_168 (rf_m0 _) fun k5 x6 => (rf_s_goto rf_f_M_mark_169 rfl (rf_m0 _) (rf_s_iret rf_f_M_mark_201)))))))))))))))) : rf_den (rf_call d) rf_m_M_mark (149, [some (.inr (.inr (some o))), some (.inl l1), some (.inl l2), none, some (.inl l4), none], [.inl s0], h) = _)
noncomputable def rf_j_M_engine_73 (d : Nat) (o : Nat) (l1 : Int) (s0 : Int) (h : rf_H) : Option rf_R := rf_den (rf_call d) rf_m_M_engine (73, [some (.inr (.inr (some o))), some (.inl l1), none, none], [.inl s0], h)
noncomputable def rf_j_M_engine_113 (d : Nat) (o : Nat) (l1 : Int) (l2 : Int) (s0 : Int) (h : rf_H) : Option rf_R := rf_den (rf_call d) rf_m_M_engine (113, [some (.inr (.inr (some o))), some (.inl l1), some (.inl l2), none], [.inl s0], h)
theorem rf_u_M_engine : rf_mt 149 = rf_m_M_engine := rfl
theorem rf_f_M_engine_0 : rf_Fb rf_m_M_engine 0 1 (.aload_n 0) 0 0 0 0 [] [] = true := by decide +kernel
theorem rf_f_M_engine_1 : rf_Fb rf_m_M_engine 1 4 (.invokevirtual 162) 150 0 0 5 [] [] = true := by decide +kernel
theorem rf_f_M_engine_4 : rf_Fb rf_m_M_engine 4 7 (.ifCond .ne 6) 10 0 0 0 [] [] = true := by decide +kernel
theorem rf_f_M_engine_7 : rf_Fb rf_m_M_engine 7 9 (.bipush (-4)) 0 0 0 0 [] [] = true := by decide +kernel
theorem rf_f_M_engine_9 : rf_Fb rf_m_M_engine 9 10 (.ireturn) 0 0 0 0 [] [] = true := by decide +kernel
theorem rf_f_M_engine_10 : rf_Fb rf_m_M_engine 10 11 (.iload_n 1) 0 0 0 0 [] [] = true := by decide +kernel
theorem rf_f_M_engine_11 : rf_Fb rf_m_M_engine 11 12 (.i2l) 0 0 0 0 [] [] = true := by decide +kernel
theorem rf_f_M_engine_12 : rf_Fb rf_m_M_engine 12 13 (.lconst 0) 0 0 0 0 [] [] = true := by decide +kernel
theorem rf_f_M_engine_13 : rf_Fb rf_m_M_engine 13 16 (.ldc2_w 165) 0 0 0 9 [] [] = true := by decide +kernel
theorem rf_f_M_engine_16 : rf_Fb rf_m_M_engine 16 19 (.invokestatic 63) 118 3 0 0 [] [] = true := by decide +kernel
theorem rf_f_M_engine_19 : rf_Fb rf_m_M_engine 19 22 (.ifCond .ne 5) 24 0 0 0 [] [] = true := by decide +kernel
theorem rf_f_M_engine_22 : rf_Fb rf_m_M_engine 22 23 (.iconst (-1)) 0 0 0 0 [] [] = true := by decide +kernel
theorem rf_f_M_engine_23 : rf_Fb rf_m_M_engine 23 24 (.ireturn) 0 0 0 0 [] [] = true := by decide +kernel
theorem rf_f_M_engine_24 : rf_Fb rf_m_M_engine 24 25 (.iload_n 1) 0 0 0 0 [] [] = true := by decide +kernel
theorem rf_f_M_engine_25 : rf_Fb rf_m_M_engine 25 28 (.ifCond .ne 12) 37 0 0 0 [] [] = true := by decide +kernel
theorem rf_f_M_engine_28 : rf_Fb rf_m_M_engine 28 29 (.aload_n 0) 0 0 0 0 [] [] = true := by decide +kernel
theorem rf_f_M_engine_29 : rf_Fb rf_m_M_engine 29 32 (.getfield 22) 5 4 2 0 [] [] = true := by decide +kernel
theorem rf_f_M_engine_32 : rf_Fb rf_m_M_engine 32 33 (.iconst 0) 0 0 0 0 [] [] = true := by decide +kernel
theorem rf_f_M_engine_33 : rf_Fb rf_m_M_engine 33 34 (.iaload) 0 0 0 0 [] [] = true := by decide +kernel
theorem rf_f_M_engine_34 : rf_Fb rf_m_M_engine 34 37 (.goto 39) 73 0 0 0 [] [] = true := by decide +kernel
theorem rf_f_M_engine_37 : rf_Fb rf_m_M_engine 37 38 (.iload_n 1) 0 0 0 0 [] [] = true := by decide +kernel
theorem rf_f_M_engine_38 : rf_Fb rf_m_M_engine 38 39 (.iconst 1) 0 0 0 0 [] [] = true := by decide +kernel
theorem rf_f_M_engine_39 : rf_Fb rf_m_M_engine 39 42 (.if_icmp .ne 13) 52 0 0 0 [] [] = true := by decide +kernel
theorem rf_f_M_engine_42 : rf_Fb rf_m_M_engine 42 43 (.aload_n 0) 0 0 0 0 [] [] = true := by decide +kernel
theorem rf_f_M_engine_43 : rf_Fb rf_m_M_engine 43 46 (.getfield 22) 5 4 2 0 [] [] = true := by decide +kernel
theorem rf_f_M_engine_46 : rf_Fb rf_m_M_engine 46 48 (.bipush 27) 0 0 0 0 [] [] = true := by decide +kernel
theorem rf_f_M_engine_48 : rf_Fb rf_m_M_engine 48 49 (.iaload) 0 0 0 0 [] [] = true := by decide +kernel
theorem rf_f_M_engine_49 : rf_Fb rf_m_M_engine 49 52 (.goto 24) 73 0 0 0 [] [] = true := by decide +kernel
theorem rf_f_M_engine_52 : rf_Fb rf_m_M_engine 52 53 (.iload_n 1) 0 0 0 0 [] [] = true := by decide +kernel
theorem rf_f_M_engine_53 : rf_Fb rf_m_M_engine 53 54 (.iconst 2) 0 0 0 0 [] [] = true := by decide +kernel
theorem rf_f_M_engine_54 : rf_Fb rf_m_M_engine 54 57 (.if_icmp .ne 13) 67 0 0 0 [] [] = true := by decide +kernel
theorem rf_f_M_engine_57 : rf_Fb rf_m_M_engine 57 58 (.aload_n 0) 0 0 0 0 [] [] = true := by decide +kernel
theorem rf_f_M_engine_58 : rf_Fb rf_m_M_engine 58 61 (.getfield 22) 5 4 2 0 [] [] = true := by decide +kernel
theorem rf_f_M_engine_61 : rf_Fb rf_m_M_engine 61 63 (.bipush 28) 0 0 0 0 [] [] = true := by decide +kernel
theorem rf_f_M_engine_63 : rf_Fb rf_m_M_engine 63 64 (.iaload) 0 0 0 0 [] [] = true := by decide +kernel
theorem rf_f_M_engine_64 : rf_Fb rf_m_M_engine 64 67 (.goto 9) 73 0 0 0 [] [] = true := by decide +kernel
theorem rf_f_M_engine_67 : rf_Fb rf_m_M_engine 67 68 (.aload_n 0) 0 0 0 0 [] [] = true := by decide +kernel
theorem rf_f_M_engine_68 : rf_Fb rf_m_M_engine 68 71 (.getfield 22) 5 4 2 0 [] [] = true := by decide +kernel
theorem rf_f_M_engine_71 : rf_Fb rf_m_M_engine 71 72 (.iconst 1) 0 0 0 0 [] [] = true := by decide +kernel
theorem rf_f_M_engine_72 : rf_Fb rf_m_M_engine 72 73 (.iaload) 0 0 0 0 [] [true, true, false, false] = true := by decide +kernel
theorem rf_f_M_engine_73 : rf_Fb rf_m_M_engine 73 74 (.istore_n 2) 0 0 0 0 [] [] = true := by decide +kernel
theorem rf_f_M_engine_74 : rf_Fb rf_m_M_engine 74 75 (.iload_n 1) 0 0 0 0 [] [] = true := by decide +kernel
theorem rf_f_M_engine_75 : rf_Fb rf_m_M_engine 75 77 (.bipush 7) 0 0 0 0 [] [] = true := by decide +kernel
theorem rf_f_M_engine_77 : rf_Fb rf_m_M_engine 77 80 (.if_icmp .ne 13) 90 0 0 0 [] [] = true := by decide +kernel
theorem rf_f_M_engine_80 : rf_Fb rf_m_M_engine 80 81 (.aload_n 0) 0 0 0 0 [] [] = true := by decide +kernel
theorem rf_f_M_engine_81 : rf_Fb rf_m_M_engine 81 84 (.getfield 22) 5 4 2 0 [] [] = true := by decide +kernel
theorem rf_f_M_engine_84 : rf_Fb rf_m_M_engine 84 86 (.bipush 33) 0 0 0 0 [] [] = true := by decide +kernel
theorem rf_f_M_engine_86 : rf_Fb rf_m_M_engine 86 87 (.iaload) 0 0 0 0 [] [] = true := by decide +kernel
theorem rf_f_M_engine_87 : rf_Fb rf_m_M_engine 87 90 (.goto 26) 113 0 0 0 [] [] = true := by decide +kernel
theorem rf_f_M_engine_90 : rf_Fb rf_m_M_engine 90 91 (.iload_n 1) 0 0 0 0 [] [] = true := by decide +kernel
theorem rf_f_M_engine_91 : rf_Fb rf_m_M_engine 91 93 (.bipush 8) 0 0 0 0 [] [] = true := by decide +kernel
theorem rf_f_M_engine_93 : rf_Fb rf_m_M_engine 93 96 (.if_icmp .ne 13) 106 0 0 0 [] [] = true := by decide +kernel
theorem rf_f_M_engine_96 : rf_Fb rf_m_M_engine 96 97 (.aload_n 0) 0 0 0 0 [] [] = true := by decide +kernel
theorem rf_f_M_engine_97 : rf_Fb rf_m_M_engine 97 100 (.getfield 22) 5 4 2 0 [] [] = true := by decide +kernel
theorem rf_f_M_engine_100 : rf_Fb rf_m_M_engine 100 102 (.bipush 34) 0 0 0 0 [] [] = true := by decide +kernel
theorem rf_f_M_engine_102 : rf_Fb rf_m_M_engine 102 103 (.iaload) 0 0 0 0 [] [] = true := by decide +kernel
theorem rf_f_M_engine_103 : rf_Fb rf_m_M_engine 103 106 (.goto 10) 113 0 0 0 [] [] = true := by decide +kernel
theorem rf_f_M_engine_106 : rf_Fb rf_m_M_engine 106 107 (.aload_n 0) 0 0 0 0 [] [] = true := by decide +kernel
theorem rf_f_M_engine_107 : rf_Fb rf_m_M_engine 107 110 (.getfield 22) 5 4 2 0 [] [] = true := by decide +kernel
theorem rf_f_M_engine_110 : rf_Fb rf_m_M_engine 110 112 (.bipush 35) 0 0 0 0 [] [] = true := by decide +kernel
theorem rf_f_M_engine_112 : rf_Fb rf_m_M_engine 112 113 (.iaload) 0 0 0 0 [] [true, true, true, false] = true := by decide +kernel
theorem rf_f_M_engine_113 : rf_Fb rf_m_M_engine 113 114 (.istore_n 3) 0 0 0 0 [] [] = true := by decide +kernel
theorem rf_f_M_engine_114 : rf_Fb rf_m_M_engine 114 115 (.aload_n 0) 0 0 0 0 [] [] = true := by decide +kernel
theorem rf_f_M_engine_115 : rf_Fb rf_m_M_engine 115 116 (.iload_n 1) 0 0 0 0 [] [] = true := by decide +kernel
theorem rf_f_M_engine_116 : rf_Fb rf_m_M_engine 116 117 (.iconst 4) 0 0 0 0 [] [] = true := by decide +kernel
theorem rf_f_M_engine_117 : rf_Fb rf_m_M_engine 117 120 (.if_icmp .ge 7) 124 0 0 0 [] [] = true := by decide +kernel
theorem rf_f_M_engine_120 : rf_Fb rf_m_M_engine 120 121 (.iload_n 2) 0 0 0 0 [] [] = true := by decide +kernel
theorem rf_f_M_engine_121 : rf_Fb rf_m_M_engine 121 124 (.goto 24) 145 0 0 0 [] [] = true := by decide +kernel
theorem rf_f_M_engine_124 : rf_Fb rf_m_M_engine 124 125 (.iload_n 1) 0 0 0 0 [] [] = true := by decide +kernel
theorem rf_f_M_engine_125 : rf_Fb rf_m_M_engine 125 127 (.bipush 7) 0 0 0 0 [] [] = true := by decide +kernel
theorem rf_f_M_engine_127 : rf_Fb rf_m_M_engine 127 130 (.if_icmp .ge 17) 144 0 0 0 [] [] = true := by decide +kernel
theorem rf_f_M_engine_130 : rf_Fb rf_m_M_engine 130 131 (.aload_n 0) 0 0 0 0 [] [] = true := by decide +kernel
theorem rf_f_M_engine_131 : rf_Fb rf_m_M_engine 131 134 (.getfield 22) 5 4 2 0 [] [] = true := by decide +kernel
theorem rf_f_M_engine_134 : rf_Fb rf_m_M_engine 134 136 (.bipush 29) 0 0 0 0 [] [] = true := by decide +kernel
theorem rf_f_M_engine_136 : rf_Fb rf_m_M_engine 136 137 (.iload_n 1) 0 0 0 0 [] [] = true := by decide +kernel
theorem rf_f_M_engine_137 : rf_Fb rf_m_M_engine 137 138 (.iadd) 0 0 0 0 [] [] = true := by decide +kernel
theorem rf_f_M_engine_138 : rf_Fb rf_m_M_engine 138 139 (.iconst 4) 0 0 0 0 [] [] = true := by decide +kernel
theorem rf_f_M_engine_139 : rf_Fb rf_m_M_engine 139 140 (.isub) 0 0 0 0 [] [] = true := by decide +kernel
theorem rf_f_M_engine_140 : rf_Fb rf_m_M_engine 140 141 (.iaload) 0 0 0 0 [] [] = true := by decide +kernel
theorem rf_f_M_engine_141 : rf_Fb rf_m_M_engine 141 144 (.goto 4) 145 0 0 0 [] [] = true := by decide +kernel
theorem rf_f_M_engine_144 : rf_Fb rf_m_M_engine 144 145 (.iload_n 3) 0 0 0 0 [] [] = true := by decide +kernel
theorem rf_f_M_engine_145 : rf_Fb rf_m_M_engine 145 148 (.invokevirtual 77) 121 1 0 5 [] [] = true := by decide +kernel
theorem rf_f_M_engine_148 : rf_Fb rf_m_M_engine 148 149 (.ireturn) 0 0 0 0 [] [] = true := by decide +kernel
set_option maxRecDepth 20000 in
set_option maxHeartbeats 2000000 in
theorem rf_e_M_engine (d : Nat) (o : Nat) (a1 : Int) (h : rf_H) : rf_call (d + 1) 149 [.inr (.inr (some o)), .inl a1] h = (bif rf_isO h.1 o 5 then ((rf_call d 150 [.inr (.inr (some o))] h).bind fun q2 => rf_kI q2 fun x3 h1 => (if x3 = 0 then some (some (.inl (-4)), h1) else ((rf_call d 118 [.inr (.inl a1), .inr (.inl 0), .inr (.inl 9)] h1).bind fun q5 => rf_kI q5 fun x6 h4 => (if x6 = 0 then some (some (.inl (-1)), h4) else (if a1 = 0 then ((rf_gR h4 5 o 4).bind fun x16 => (rf_nn x16 fun k17 => ((rf_aI h4 k17 0).bind fun x18 => rf_j_M_engine_73 d o a1 x18 h4))) else (if a1 = 1 then ((rf_gR h4 5 o 4).bind fun x13 => (rf_nn x13 fun k14 => ((rf_aI h4 k14 27).bind fun x15 => rf_j_M_engine_73 d o a1 x15 h4))) else (if a1 = 2 then ((rf_gR h4 5 o 4).bind fun x10 => (rf_nn x10 fun k11 => ((rf_aI h4 k11 28).bind fun x12 => rf_j_M_engine_73 d o a1 x12 h4))) else ((rf_gR h4 5 o 4).bind fun x7 => (rf_nn x7 fun k8 => ((rf_aI h4 k8 1).bind fun x9 => rf_j_M_engine_73 d o a1 x9 h4)))))))))) else none) := by
  show rf_den (rf_call d) (rf_mt 149) _ = _
  rw [rf_u_M_engine]
  exact ((rf_s_aload_n rf_f_M_engine_0 rfl (rf_m0 _) (rf_s_invV0S rf_f_M_engine_1 rfl rfl (rf_m0 _) fun q2 x3 h1 => (rf_s_if_ne rf_f_M_engine_4 rfl (rf_m0 _) (rf_m0 _) (rf_s_iload_n rf_f_M_engine_10 rfl (rf_m0 _) (rf_s_i2l rf_f_M_engine_11 (rf_m0 _) (rf_s_lconst rf_f_M_engine_12 (rf_m0 _) (rf_s_ldc2_w rf_f_M_engine_13 (rf_m0 _) (rf_s_invS0 rf_f_M_engine_16 rfl rfl (rf_m0 _) fun q5 x6 h4 => (rf_s_if_ne rf_f_M_engine_19 rfl (rf_m0 _) (rf_m0 _) (rf_s_iload_n rf_f_M_engine_24 rfl (rf_m0 _) (rf_s_if_ne rf_f_M_engine_25 rfl (rf_m0 _) (rf_m0 _) (rf_s_iload_n rf_f_M_engine_37 rfl (rf_m0 _) (rf_s_iconst rf_f_M_engine_38 (rf_m0 _) (rf_s_icmp_ne rf_f_M_engine_39 rfl (rf_m0 _) (rf_m0 _) (rf_s_iload_n rf_f_M_engine_52 rfl (rf_m0 _) (rf_s_iconst rf_f_M_engine_53 (rf_m0 _) (rf_s_icmp_ne rf_f_M_engine_54 rfl (rf_m0 _) (rf_m0 _) (rf_s_aload_n rf_f_M_engine_67 rfl (rf_m0 _) (rf_s_getAS rf_f_M_engine_68 (rf_m0 _) fun x7 => (rf_s_iconst rf_f_M_engine_71 (rf_m0 _) (rf_s_ialdR rf_f_M_engine_72 rfl fun k8 x9 => rfl)))) (rf_s_aload_n rf_f_M_engine_57 rfl (rf_m0 _) (rf_s_getAS rf_f_M_engine_58 (rf_m0 _) fun x10 => (rf_s_bipush rf_f_M_engine_61 (rf_m0 _) (rf_s_ialdR rf_f_M_engine_63 (rf_m0 _) fun k11 x12 => (rf_s_goto rf_f_M_engine_64 rfl rfl rfl)))))))) (rf_s_aload_n rf_f_M_engine_42 rfl (rf_m0 _) (rf_s_getAS rf_f_M_engine_43 (rf_m0 _) fun x13 => (rf_s_bipush rf_f_M_engine_46 (rf_m0 _) (rf_s_ialdR rf_f_M_engine_48 (rf_m0 _) fun k14 x15 => (rf_s_goto rf_f_M_engine_49 rfl rfl rfl)))))))) (rf_s_aload_n rf_f_M_engine_28 rfl (rf_m0 _) (rf_s_getAS rf_f_M_engine_29 (rf_m0 _) fun x16 => (rf_s_iconst rf_f_M_engine_32 (rf_m0 _) (rf_s_ialdR rf_f_M_engine_33 (rf_m0 _) fun k17 x18 => (rf_s_goto rf_f_M_engine_34 rfl rfl rfl))))))) (rf_s_iconst rf_f_M_engine_22 (rf_m0 _) (rf_s_iret rf_f_M_engine_23)))))))) (rf_s_bipush rf_f_M_engine_7 (rf_m0 _) (rf_s_iret rf_f_M_engine_9))))) : rf_den (rf_call d) rf_m_M_engine (0, [some (.inr (.inr (some o))), some (.inl a1), none, none], [], h) = _)
set_option maxRecDepth 20000 in
set_option maxHeartbeats 2000000 in
theorem rf_e_M_engine_73 (d : Nat) (o : Nat) (l1 : Int) (s0 : Int) (h : rf_H) : rf_j_M_engine_73 d o l1 s0 h = (if l1 = 7 then ((rf_gR h 5 o 4).bind fun x7 => (rf_nn x7 fun k8 => ((rf_aI h k8 33).bind fun x9 => rf_j_M_engine_113 d o l1 s0 x9 h))) else (if l1 = 8 then ((rf_gR h 5 o 4).bind fun x4 => (rf_nn x4 fun k5 => ((rf_aI h k5 34).bind fun x6 => rf_j_M_engine_113 d o l1 s0 x6 h))) else ((rf_gR h 5 o 4).bind fun x1 => (rf_nn x1 fun k2 => ((rf_aI h k2 35).bind fun x3 => rf_j_M_engine_113 d o l1 s0 x3 h))))) :=
  ((rf_s_istore_n (L' := [some (.inr (.inr (some o))), some (.inl l1), some (.inl s0), none]) rf_f_M_engine_73 rfl (rf_s_iload_n rf_f_M_engine_74 rfl (rf_m0 _) (rf_s_bipush rf_f_M_engine_75 (rf_m0 _) (rf_s_icmp_ne rf_f_M_engine_77 rfl (rf_m0 _) (rf_m0 _) (rf_s_iload_n rf_f_M_engine_90 rfl (rf_m0 _) (rf_s_bipush rf_f_M_engine_91 (rf_m0 _) (rf_s_icmp_ne rf_f_M_engine_93 rfl (rf_m0 _) (rf_m0 _) (rf_s_aload_n rf_f_M_engine_106 rfl (rf_m0 _) (rf_s_getAS rf_f_M_engine_107 (rf_m0 _) fun x1 => (rf_s_bipush rf_f_M_engine_110 (rf_m0 _) (rf_s_ialdR rf_f_M_engine_112 rfl fun k2 x3 => rfl)))) (rf_s_aload_n rf_f_M_engine_96 rfl (rf_m0 _) (rf_s_getAS rf_f_M_engine_97 (rf_m0 _) fun x4 => (rf_s_bipush rf_f_M_engine_100 (rf_m0 _) (rf_s_ialdR rf_f_M_engine_102 (rf_m0 _) fun k5 x6 => (rf_s_goto rf_f_M_engine_103 rfl rfl rfl)))))))) (rf_s_aload_n rf_f_M_engine_80 rfl (rf_m0 _) (rf_s_getAS rf_f_M_engine_81 (rf_m0 _) fun x7 => (rf_s_bipush rf_f_M_engine_84 (rf_m0 _) (rf_s_ialdR rf_f_M_engine_86 (rf_m0 _) fun k8 x9 => (rf_s_goto rf_f_M_engine_87 rfl rfl rfl))))))))) : rf_den (rf_call d) rf_m_M_engine (73, [some (.inr (.inr (some o))), some (.inl l1), none, none], [.inl s0], h) = _)
set_option maxRecDepth 20000 in
set_option maxHeartbeats 2000000 in
theorem rf_e_M_engine_113 (d : Nat) (o : Nat) (l1 : Int) (l2 : Int) (s0 : Int) (h : rf_H) : rf_j_M_engine_113 d o l1 l2 s0 h = (if l1 < 4 then (bif rf_isO h.1 o 5 then ((rf_call d 121 [.inr (.inr (some o)), .inl l2] h).bind fun q11 => rf_kI q11 fun x12 h10 => some (some (.inl x12), h10)) else none) else (if l1 < 7 then ((rf_gR h 5 o 4).bind fun x4 => (rf_nn x4 fun k5 => ((rf_aI h k5 (rf_w ((rf_w (29 + l1)) - 4))).bind fun x6 => (bif rf_isO h.1 o 5 then ((rf_call d 121 [.inr (.inr (some o)), .inl x6] h).bind fun q8 => rf_kI q8 fun x9 h7 => some (some (.inl x9), h7)) else none)))) else (bif rf_isO h.1 o 5 then ((rf_call d 121 [.inr (.inr (some o)), .inl s0] h).bind fun q2 => rf_kI q2 fun x3 h1 => some (some (.inl x3), h1)) else none))) :=
  ((rf_s_istore_n (L' := [some (.inr (.inr (some o))), some (.inl l1), some (.inl l2), some (.inl s0)]) rf_f_M_engine_113 rfl (rf_s_aload_n rf_f_M_engine_114 rfl (rf_m0 _) (rf_s_iload_n rf_f_M_engine_115 rfl (rf_m0 _) (rf_s_iconst rf_f_M_engine_116 (rf_m0 _) (rf_s_icmp_ge rf_f_M_engine_117 rfl (rf_m0 _) (rf_m0 _) (rf_s_iload_n rf_f_M_engine_124 rfl (rf_m0 _) (rf_s_bipush rf_f_M_engine_125 (rf_m0 _) (rf_s_icmp_ge rf_f_M_engine_127 rfl (rf_m0 _) (rf_m0 _) (rf_s_iload_n rf_f_M_engine_144 rfl (rf_m0 _) (rf_s_invV0S rf_f_M_engine_145 rfl rfl (rf_m0 _) fun q2 x3 h1 => (rf_s_iret rf_f_M_engine_148))) (rf_s_aload_n rf_f_M_engine_130 rfl (rf_m0 _) (rf_s_getAS rf_f_M_engine_131 (rf_m0 _) fun x4 => (rf_s_bipush rf_f_M_engine_134 (rf_m0 _) (rf_s_iload_n rf_f_M_engine_136 rfl (rf_m0 _) (rf_s_iadd rf_f_M_engine_137 (rf_m0 _) (rf_s_iconst rf_f_M_engine_138 (rf_m0 _) (rf_s_isub rf_f_M_engine_139 (rf_m0 _) (rf_s_ialdR rf_f_M_engine_140 (rf_m0 _) fun k5 x6 => (rf_s_goto rf_f_M_engine_141 rfl (rf_m0 _) (rf_s_invV0S rf_f_M_engine_145 rfl rfl (rf_m0 _) fun q8 x9 h7 => (rf_s_iret rf_f_M_engine_148)))))))))))))) (rf_s_iload_n rf_f_M_engine_120 rfl (rf_m0 _) (rf_s_goto rf_f_M_engine_121 rfl (rf_m0 _) (rf_s_invV0S rf_f_M_engine_145 rfl rfl (rf_m0 _) fun q11 x12 h10 => (rf_s_iret rf_f_M_engine_148))))))))) : rf_den (rf_call d) rf_m_M_engine (113, [some (.inr (.inr (some o))), some (.inl l1), some (.inl l2), none], [.inl s0], h) = _)
theorem rf_u_M_isTrain : rf_mt 150 = rf_m_M_isTrain := rfl
theorem rf_f_M_isTrain_0 : rf_Fb rf_m_M_isTrain 0 1 (.aload_n 0) 0 0 0 0 [] [] = true := by decide +kernel
theorem rf_f_M_isTrain_1 : rf_Fb rf_m_M_isTrain 1 4 (.getfield 22) 5 4 2 0 [] [] = true := by decide +kernel
theorem rf_f_M_isTrain_4 : rf_Fb rf_m_M_isTrain 4 5 (.iconst 0) 0 0 0 0 [] [] = true := by decide +kernel
theorem rf_f_M_isTrain_5 : rf_Fb rf_m_M_isTrain 5 6 (.iaload) 0 0 0 0 [] [] = true := by decide +kernel
theorem rf_f_M_isTrain_6 : rf_Fb rf_m_M_isTrain 6 9 (.ifCond .le 7) 13 0 0 0 [] [] = true := by decide +kernel
theorem rf_f_M_isTrain_9 : rf_Fb rf_m_M_isTrain 9 10 (.iconst 1) 0 0 0 0 [] [] = true := by decide +kernel
theorem rf_f_M_isTrain_10 : rf_Fb rf_m_M_isTrain 10 13 (.goto 4) 14 0 0 0 [] [] = true := by decide +kernel
theorem rf_f_M_isTrain_13 : rf_Fb rf_m_M_isTrain 13 14 (.iconst 0) 0 0 0 0 [] [] = true := by decide +kernel
theorem rf_f_M_isTrain_14 : rf_Fb rf_m_M_isTrain 14 15 (.ireturn) 0 0 1 0 [] [] = true := by decide +kernel
set_option maxRecDepth 20000 in
set_option maxHeartbeats 2000000 in
theorem rf_e_M_isTrain (d : Nat) (o : Nat) (h : rf_H) : rf_call (d + 1) 150 [.inr (.inr (some o))] h = ((rf_gR h 5 o 4).bind fun x1 => (rf_nn x1 fun k2 => ((rf_aI h k2 0).bind fun x3 => (if 0 < x3 then some (some (.inl 1), h) else some (some (.inl 0), h))))) := by
  show rf_den (rf_call d) (rf_mt 150) _ = _
  rw [rf_u_M_isTrain]
  exact ((rf_s_aload_n rf_f_M_isTrain_0 rfl (rf_m0 _) (rf_s_getAS rf_f_M_isTrain_1 (rf_m0 _) fun x1 => (rf_s_iconst rf_f_M_isTrain_4 (rf_m0 _) (rf_s_ialdR rf_f_M_isTrain_5 (rf_m0 _) fun k2 x3 => (rf_s_if_le rf_f_M_isTrain_6 rfl (rf_m0 _) (rf_m0 _) (rf_s_iconst rf_f_M_isTrain_13 (rf_m0 _) (rf_s_zretK rf_f_M_isTrain_14 (by decide))) (rf_s_iconst rf_f_M_isTrain_9 (rf_m0 _) (rf_s_goto rf_f_M_isTrain_10 rfl (rf_m0 _) (rf_s_zretK rf_f_M_isTrain_14 (by decide))))))))) : rf_den (rf_call d) rf_m_M_isTrain (0, [some (.inr (.inr (some o)))], [], h) = _)
theorem rf_u_M_go : rf_mt 151 = rf_m_M_go := rfl
theorem rf_f_M_go_0 : rf_Fb rf_m_M_go 0 1 (.iload_n 1) 0 0 0 0 [] [] = true := by decide +kernel
theorem rf_f_M_go_1 : rf_Fb rf_m_M_go 1 2 (.i2l) 0 0 0 0 [] [] = true := by decide +kernel
theorem rf_f_M_go_2 : rf_Fb rf_m_M_go 2 3 (.lconst 0) 0 0 0 0 [] [] = true := by decide +kernel
theorem rf_f_M_go_3 : rf_Fb rf_m_M_go 3 6 (.ldc2_w 167) 0 0 0 14 [] [] = true := by decide +kernel
theorem rf_f_M_go_6 : rf_Fb rf_m_M_go 6 9 (.invokestatic 63) 118 3 0 0 [] [] = true := by decide +kernel
theorem rf_f_M_go_9 : rf_Fb rf_m_M_go 9 12 (.ifCond .ne 5) 14 0 0 0 [] [] = true := by decide +kernel
theorem rf_f_M_go_12 : rf_Fb rf_m_M_go 12 13 (.iconst (-1)) 0 0 0 0 [] [] = true := by decide +kernel
theorem rf_f_M_go_13 : rf_Fb rf_m_M_go 13 14 (.ireturn) 0 0 0 0 [] [] = true := by decide +kernel
theorem rf_f_M_go_14 : rf_Fb rf_m_M_go 14 15 (.aload_n 0) 0 0 0 0 [] [] = true := by decide +kernel
theorem rf_f_M_go_15 : rf_Fb rf_m_M_go 15 18 (.invokevirtual 153) 142 0 3 5 [] [] = true := by decide +kernel
theorem rf_f_M_go_18 : rf_Fb rf_m_M_go 18 19 (.aload_n 0) 0 0 0 0 [] [] = true := by decide +kernel
theorem rf_f_M_go_19 : rf_Fb rf_m_M_go 19 22 (.invokevirtual 162) 150 0 0 5 [] [] = true := by decide +kernel
theorem rf_f_M_go_22 : rf_Fb rf_m_M_go 22 25 (.ifCond .eq 11) 33 0 0 0 [] [] = true := by decide +kernel
theorem rf_f_M_go_25 : rf_Fb rf_m_M_go 25 26 (.aload_n 0) 0 0 0 0 [] [] = true := by decide +kernel
theorem rf_f_M_go_26 : rf_Fb rf_m_M_go 26 27 (.iload_n 1) 0 0 0 0 [] [] = true := by decide +kernel
theorem rf_f_M_go_27 : rf_Fb rf_m_M_go 27 30 (.invokevirtual 169) 152 1 0 5 [] [] = true := by decide +kernel
theorem rf_f_M_go_30 : rf_Fb rf_m_M_go 30 33 (.ifCond .ne 6) 36 0 0 0 [] [] = true := by decide +kernel
theorem rf_f_M_go_33 : rf_Fb rf_m_M_go 33 35 (.bipush (-4)) 0 0 0 0 [] [] = true := by decide +kernel
theorem rf_f_M_go_35 : rf_Fb rf_m_M_go 35 36 (.ireturn) 0 0 0 0 [] [] = true := by decide +kernel
theorem rf_f_M_go_36 : rf_Fb rf_m_M_go 36 37 (.aload_n 0) 0 0 0 0 [] [] = true := by decide +kernel
theorem rf_f_M_go_37 : rf_Fb rf_m_M_go 37 40 (.getfield 22) 5 4 2 0 [] [] = true := by decide +kernel
theorem rf_f_M_go_40 : rf_Fb rf_m_M_go 40 42 (.bipush 37) 0 0 0 0 [] [] = true := by decide +kernel
theorem rf_f_M_go_42 : rf_Fb rf_m_M_go 42 43 (.iaload) 0 0 0 0 [] [] = true := by decide +kernel
theorem rf_f_M_go_43 : rf_Fb rf_m_M_go 43 45 (.bipush 60) 0 0 0 0 [] [] = true := by decide +kernel
theorem rf_f_M_go_45 : rf_Fb rf_m_M_go 45 48 (.if_icmp .ne 8) 53 0 0 0 [] [] = true := by decide +kernel
theorem rf_f_M_go_48 : rf_Fb rf_m_M_go 48 50 (.bipush (-2)) 0 0 0 0 [] [] = true := by decide +kernel
theorem rf_f_M_go_50 : rf_Fb rf_m_M_go 50 53 (.goto 8) 58 0 0 0 [] [] = true := by decide +kernel
theorem rf_f_M_go_53 : rf_Fb rf_m_M_go 53 54 (.aload_n 0) 0 0 0 0 [] [] = true := by decide +kernel
theorem rf_f_M_go_54 : rf_Fb rf_m_M_go 54 55 (.iload_n 1) 0 0 0 0 [] [] = true := by decide +kernel
theorem rf_f_M_go_55 : rf_Fb rf_m_M_go 55 58 (.invokevirtual 172) 153 1 0 5 [] [] = true := by decide +kernel
theorem rf_f_M_go_58 : rf_Fb rf_m_M_go 58 59 (.ireturn) 0 0 0 0 [] [] = true := by decide +kernel
set_option maxRecDepth 20000 in
set_option maxHeartbeats 2000000 in
theorem rf_e_M_go (d : Nat) (o : Nat) (a1 : Int) (h : rf_H) : rf_call (d + 1) 151 [.inr (.inr (some o)), .inl a1] h = ((rf_call d 118 [.inr (.inl a1), .inr (.inl 0), .inr (.inl 14)] h).bind fun q2 => rf_kI q2 fun x3 h1 => (if x3 = 0 then some (some (.inl (-1)), h1) else (bif rf_isO h1.1 o 5 then ((rf_call d 142 [.inr (.inr (some o))] h1).bind fun q5 => rf_kV q5 fun h4 => (bif rf_isO h4.1 o 5 then ((rf_call d 150 [.inr (.inr (some o))] h4).bind fun q7 => rf_kI q7 fun x8 h6 => (if x8 = 0 then some (some (.inl (-4)), h6) else (bif rf_isO h6.1 o 5 then ((rf_call d 152 [.inr (.inr (some o)), .inl a1] h6).bind fun q10 => rf_kI q10 fun x11 h9 => (if x11 = 0 then some (some (.inl (-4)), h9) else ((rf_gR h9 5 o 4).bind fun x12 => (rf_nn x12 fun k13 => ((rf_aI h9 k13 37).bind fun x14 => (if x14 = 60 then some (some (.inl (-2)), h9) else (bif rf_isO h9.1 o 5 then ((rf_call d 153 [.inr (.inr (some o)), .inl a1] h9).bind fun q16 => rf_kI q16 fun x17 h15 => some (some (.inl x17), h15)) else none))))))) else none))) else none)) else none))) := by
  show rf_den (rf_call d) (rf_mt 151) _ = _
  rw [rf_u_M_go]
  exact ((rf_s_iload_n rf_f_M_go_0 rfl (rf_m0 _) (rf_s_i2l rf_f_M_go_1 (rf_m0 _) (rf_s_lconst rf_f_M_go_2 (rf_m0 _) (rf_s_ldc2_w rf_f_M_go_3 (rf_m0 _) (rf_s_invS0 rf_f_M_go_6 rfl rfl (rf_m0 _) fun q2 x3 h1 => (rf_s_if_ne rf_f_M_go_9 rfl (rf_m0 _) (rf_m0 _) (rf_s_aload_n rf_f_M_go_14 rfl (rf_m0 _) (rf_s_invV3S rf_f_M_go_15 rfl rfl (rf_m0 _) fun q5 h4 => (rf_s_aload_n rf_f_M_go_18 rfl (rf_m0 _) (rf_s_invV0S rf_f_M_go_19 rfl rfl (rf_m0 _) fun q7 x8 h6 => (rf_s_if_eq rf_f_M_go_22 rfl (rf_m0 _) (rf_m0 _) (rf_s_bipush rf_f_M_go_33 (rf_m0 _) (rf_s_iret rf_f_M_go_35)) (rf_s_aload_n rf_f_M_go_25 rfl (rf_m0 _) (rf_s_iload_n rf_f_M_go_26 rfl (rf_m0 _) (rf_s_invV0S rf_f_M_go_27 rfl rfl (rf_m0 _) fun q10 x11 h9 => (rf_s_if_ne rf_f_M_go_30 rfl (rf_m0 _) (rf_m0 _) (rf_s_aload_n rf_f_M_go_36 rfl (rf_m0 _) (rf_s_getAS rf_f_M_go_37 (rf_m0 _) fun x12 => (rf_s_bipush rf_f_M_go_40 (rf_m0 _) (rf_s_ialdR rf_f_M_go_42 (rf_m0 _) fun k13 x14 => (rf_s_bipush rf_f_M_go_43 (rf_m0 _) (rf_s_icmp_ne rf_f_M_go_45 rfl (rf_m0 _) (rf_m0 _) (rf_s_aload_n rf_f_M_go_53 rfl (rf_m0 _) (rf_s_iload_n rf_f_M_go_54 rfl (rf_m0 _) (rf_s_invV0S rf_f_M_go_55 rfl rfl (rf_m0 _) fun q16 x17 h15 => (rf_s_iret rf_f_M_go_58)))) (rf_s_bipush rf_f_M_go_48 (rf_m0 _) (rf_s_goto rf_f_M_go_50 rfl (rf_m0 _) (rf_s_iret rf_f_M_go_58))))))))) (rf_s_bipush rf_f_M_go_33 (rf_m0 _) (rf_s_iret rf_f_M_go_35))))))))))) (rf_s_iconst rf_f_M_go_12 (rf_m0 _) (rf_s_iret rf_f_M_go_13)))))))) : rf_den (rf_call d) rf_m_M_go (0, [some (.inr (.inr (some o))), some (.inl a1)], [], h) = _)
theorem rf_u_M_can : rf_mt 152 = rf_m_M_can := rfl
theorem rf_f_M_can_0 : rf_Fb rf_m_M_can 0 1 (.iload_n 1) 0 0 0 0 [] [] = true := by decide +kernel
theorem rf_f_M_can_1 : rf_Fb rf_m_M_can 1 3 (.bipush 10) 0 0 0 0 [] [] = true := by decide +kernel
theorem rf_f_M_can_3 : rf_Fb rf_m_M_can 3 6 (.if_icmp .ge 22) 25 0 0 0 [] [] = true := by decide +kernel
theorem rf_f_M_can_6 : rf_Fb rf_m_M_can 6 7 (.iload_n 1) 0 0 0 0 [] [] = true := by decide +kernel
theorem rf_f_M_can_7 : rf_Fb rf_m_M_can 7 8 (.aload_n 0) 0 0 0 0 [] [] = true := by decide +kernel
theorem rf_f_M_can_8 : rf_Fb rf_m_M_can 8 11 (.getfield 41) 5 17 2 0 [] [] = true := by decide +kernel
theorem rf_f_M_can_11 : rf_Fb rf_m_M_can 11 13 (.bipush 27) 0 0 0 0 [] [] = true := by decide +kernel
theorem rf_f_M_can_13 : rf_Fb rf_m_M_can 13 14 (.iaload) 0 0 0 0 [] [] = true := by decide +kernel
theorem rf_f_M_can_14 : rf_Fb rf_m_M_can 14 17 (.if_icmp .gt 7) 21 0 0 0 [] [] = true := by decide +kernel
theorem rf_f_M_can_17 : rf_Fb rf_m_M_can 17 18 (.iconst 1) 0 0 0 0 [] [] = true := by decide +kernel
theorem rf_f_M_can_18 : rf_Fb rf_m_M_can 18 21 (.goto 53) 71 0 0 0 [] [] = true := by decide +kernel
theorem rf_f_M_can_21 : rf_Fb rf_m_M_can 21 22 (.iconst 0) 0 0 0 0 [] [] = true := by decide +kernel
theorem rf_f_M_can_22 : rf_Fb rf_m_M_can 22 25 (.goto 49) 71 0 0 0 [] [] = true := by decide +kernel
theorem rf_f_M_can_25 : rf_Fb rf_m_M_can 25 26 (.iload_n 1) 0 0 0 0 [] [] = true := by decide +kernel
theorem rf_f_M_can_26 : rf_Fb rf_m_M_can 26 28 (.bipush 10) 0 0 0 0 [] [] = true := by decide +kernel
theorem rf_f_M_can_28 : rf_Fb rf_m_M_can 28 31 (.if_icmp .ne 21) 49 0 0 0 [] [] = true := by decide +kernel
theorem rf_f_M_can_31 : rf_Fb rf_m_M_can 31 32 (.aload_n 0) 0 0 0 0 [] [] = true := by decide +kernel
theorem rf_f_M_can_32 : rf_Fb rf_m_M_can 32 35 (.getfield 41) 5 17 2 0 [] [] = true := by decide +kernel
theorem rf_f_M_can_35 : rf_Fb rf_m_M_can 35 37 (.bipush 28) 0 0 0 0 [] [] = true := by decide +kernel
theorem rf_f_M_can_37 : rf_Fb rf_m_M_can 37 38 (.iaload) 0 0 0 0 [] [] = true := by decide +kernel
theorem rf_f_M_can_38 : rf_Fb rf_m_M_can 38 41 (.ifCond .le 7) 45 0 0 0 [] [] = true := by decide +kernel
theorem rf_f_M_can_41 : rf_Fb rf_m_M_can 41 42 (.iconst 1) 0 0 0 0 [] [] = true := by decide +kernel
theorem rf_f_M_can_42 : rf_Fb rf_m_M_can 42 45 (.goto 29) 71 0 0 0 [] [] = true := by decide +kernel
theorem rf_f_M_can_45 : rf_Fb rf_m_M_can 45 46 (.iconst 0) 0 0 0 0 [] [] = true := by decide +kernel
theorem rf_f_M_can_46 : rf_Fb rf_m_M_can 46 49 (.goto 25) 71 0 0 0 [] [] = true := by decide +kernel
theorem rf_f_M_can_49 : rf_Fb rf_m_M_can 49 50 (.iload_n 1) 0 0 0 0 [] [] = true := by decide +kernel
theorem rf_f_M_can_50 : rf_Fb rf_m_M_can 50 52 (.bipush 14) 0 0 0 0 [] [] = true := by decide +kernel
theorem rf_f_M_can_52 : rf_Fb rf_m_M_can 52 55 (.if_icmp .lt 14) 66 0 0 0 [] [] = true := by decide +kernel
theorem rf_f_M_can_55 : rf_Fb rf_m_M_can 55 56 (.aload_n 0) 0 0 0 0 [] [] = true := by decide +kernel
theorem rf_f_M_can_56 : rf_Fb rf_m_M_can 56 59 (.getfield 41) 5 17 2 0 [] [] = true := by decide +kernel
theorem rf_f_M_can_59 : rf_Fb rf_m_M_can 59 61 (.bipush 32) 0 0 0 0 [] [] = true := by decide +kernel
theorem rf_f_M_can_61 : rf_Fb rf_m_M_can 61 62 (.iaload) 0 0 0 0 [] [] = true := by decide +kernel
theorem rf_f_M_can_62 : rf_Fb rf_m_M_can 62 63 (.iconst 1) 0 0 0 0 [] [] = true := by decide +kernel
theorem rf_f_M_can_63 : rf_Fb rf_m_M_can 63 66 (.if_icmp .ne 7) 70 0 0 0 [] [] = true := by decide +kernel
theorem rf_f_M_can_66 : rf_Fb rf_m_M_can 66 67 (.iconst 1) 0 0 0 0 [] [] = true := by decide +kernel
theorem rf_f_M_can_67 : rf_Fb rf_m_M_can 67 70 (.goto 4) 71 0 0 0 [] [] = true := by decide +kernel
theorem rf_f_M_can_70 : rf_Fb rf_m_M_can 70 71 (.iconst 0) 0 0 0 0 [] [] = true := by decide +kernel
theorem rf_f_M_can_71 : rf_Fb rf_m_M_can 71 72 (.ireturn) 0 0 1 0 [] [] = true := by decide +kernel
set_option maxRecDepth 20000 in
set_option maxHeartbeats 2000000 in
theorem rf_e_M_can (d : Nat) (o : Nat) (a1 : Int) (h : rf_H) : rf_call (d + 1) 152 [.inr (.inr (some o)), .inl a1] h = (if a1 < 10 then ((rf_gR h 5 o 17).bind fun x7 => (rf_nn x7 fun k8 => ((rf_aI h k8 27).bind fun x9 => (if x9 < a1 then some (some (.inl 0), h) else some (some (.inl 1), h))))) else (if a1 = 10 then ((rf_gR h 5 o 17).bind fun x4 => (rf_nn x4 fun k5 => ((rf_aI h k5 28).bind fun x6 => (if 0 < x6 then some (some (.inl 1), h) else some (some (.inl 0), h))))) else (if a1 < 14 then some (some (.inl 1), h) else ((rf_gR h 5 o 17).bind fun x1 => (rf_nn x1 fun k2 => ((rf_aI h k2 32).bind fun x3 => (if x3 = 1 then some (some (.inl 1), h) else some (some (.inl 0), h)))))))) := by
  show rf_den (rf_call d) (rf_mt 152) _ = _
  rw [rf_u_M_can]
  exact ((rf_s_iload_n rf_f_M_can_0 rfl (rf_m0 _) (rf_s_bipush rf_f_M_can_1 (rf_m0 _) (rf_s_icmp_ge rf_f_M_can_3 rfl (rf_m0 _) (rf_m0 _) (rf_s_iload_n rf_f_M_can_25 rfl (rf_m0 _) (rf_s_bipush rf_f_M_can_26 (rf_m0 _) (rf_s_icmp_ne rf_f_M_can_28 rfl (rf_m0 _) (rf_m0 _) (rf_s_iload_n rf_f_M_can_49 rfl (rf_m0 _) (rf_s_bipush rf_f_M_can_50 (rf_m0 _) (rf_s_icmp_lt rf_f_M_can_52 rfl (rf_m0 _) (rf_m0 _) (rf_s_iconst rf_f_M_can_66 (rf_m0 _) (rf_s_goto rf_f_M_can_67 rfl (rf_m0 _) (rf_s_zretK rf_f_M_can_71 (by decide)))) (rf_s_aload_n rf_f_M_can_55 rfl (rf_m0 _) (rf_s_getAS rf_f_M_can_56 (rf_m0 _) fun x1 => (rf_s_bipush rf_f_M_can_59 (rf_m0 _) (rf_s_ialdR rf_f_M_can_61 (rf_m0 _) fun k2 x3 => (rf_s_iconst rf_f_M_can_62 (rf_m0 _) (rf_s_icmp_ne rf_f_M_can_63 rfl (rf_m0 _) (rf_m0 _) (rf_s_iconst rf_f_M_can_70 (rf_m0 _) (rf_s_zretK rf_f_M_can_71 (by decide))) (rf_s_iconst rf_f_M_can_66 (rf_m0 _) (rf_s_goto rf_f_M_can_67 rfl (rf_m0 _) (rf_s_zretK rf_f_M_can_71 (by decide))))))))))))) (rf_s_aload_n rf_f_M_can_31 rfl (rf_m0 _) (rf_s_getAS rf_f_M_can_32 (rf_m0 _) fun x4 => (rf_s_bipush rf_f_M_can_35 (rf_m0 _) (rf_s_ialdR rf_f_M_can_37 (rf_m0 _) fun k5 x6 => (rf_s_if_le rf_f_M_can_38 rfl (rf_m0 _) (rf_m0 _) (rf_s_iconst rf_f_M_can_45 (rf_m0 _) (rf_s_goto rf_f_M_can_46 rfl (rf_m0 _) (rf_s_zretK rf_f_M_can_71 (by decide)))) (rf_s_iconst rf_f_M_can_41 (rf_m0 _) (rf_s_goto rf_f_M_can_42 rfl (rf_m0 _) (rf_s_zretK rf_f_M_can_71 (by decide)))))))))))) (rf_s_iload_n rf_f_M_can_6 rfl (rf_m0 _) (rf_s_aload_n rf_f_M_can_7 rfl (rf_m0 _) (rf_s_getAS rf_f_M_can_8 (rf_m0 _) fun x7 => (rf_s_bipush rf_f_M_can_11 (rf_m0 _) (rf_s_ialdR rf_f_M_can_13 (rf_m0 _) fun k8 x9 => (rf_s_icmp_gt rf_f_M_can_14 rfl (rf_m0 _) (rf_m0 _) (rf_s_iconst rf_f_M_can_21 (rf_m0 _) (rf_s_goto rf_f_M_can_22 rfl (rf_m0 _) (rf_s_zretK rf_f_M_can_71 (by decide)))) (rf_s_iconst rf_f_M_can_17 (rf_m0 _) (rf_s_goto rf_f_M_can_18 rfl (rf_m0 _) (rf_s_zretK rf_f_M_can_71 (by decide))))))))))))) : rf_den (rf_call d) rf_m_M_can (0, [some (.inr (.inr (some o))), some (.inl a1)], [], h) = _)
noncomputable def rf_j_M_acts_16 (d : Nat) (o : Nat) (l1 : Int) (l2 : Int) (l3 : Int) (h : rf_H) : Option rf_R := rf_den (rf_call d) rf_m_M_acts (16, [some (.inr (.inr (some o))), some (.inl l1), some (.inl l2), some (.inl l3), none], [], h)
noncomputable def rf_j_M_acts_62 (d : Nat) (o : Nat) (l3 : Int) (l4 : Int) (h : rf_H) : Option rf_R := rf_den (rf_call d) rf_m_M_acts (62, [some (.inr (.inr (some o))), none, none, some (.inl l3), some (.inl l4)], [], h)
theorem rf_u_M_acts : rf_mt 153 = rf_m_M_acts := rfl
theorem rf_f_M_acts_0 : rf_Fb rf_m_M_acts 0 2 (.bipush 38) 0 0 0 0 [] [] = true := by decide +kernel
theorem rf_f_M_acts_2 : rf_Fb rf_m_M_acts 2 4 (.bipush 10) 0 0 0 0 [] [] = true := by decide +kernel
theorem rf_f_M_acts_4 : rf_Fb rf_m_M_acts 4 5 (.aload_n 0) 0 0 0 0 [] [] = true := by decide +kernel
theorem rf_f_M_acts_5 : rf_Fb rf_m_M_acts 5 8 (.getfield 22) 5 4 2 0 [] [] = true := by decide +kernel
theorem rf_f_M_acts_8 : rf_Fb rf_m_M_acts 8 10 (.bipush 37) 0 0 0 0 [] [] = true := by decide +kernel
theorem rf_f_M_acts_10 : rf_Fb rf_m_M_acts 10 11 (.iaload) 0 0 0 0 [] [] = true := by decide +kernel
theorem rf_f_M_acts_11 : rf_Fb rf_m_M_acts 11 12 (.imul) 0 0 0 0 [] [] = true := by decide +kernel
theorem rf_f_M_acts_12 : rf_Fb rf_m_M_acts 12 13 (.iadd) 0 0 0 0 [] [] = true := by decide +kernel
theorem rf_f_M_acts_13 : rf_Fb rf_m_M_acts 13 14 (.istore_n 2) 0 0 0 0 [] [] = true := by decide +kernel
theorem rf_f_M_acts_14 : rf_Fb rf_m_M_acts 14 15 (.iconst 0) 0 0 0 0 [] [] = true := by decide +kernel
theorem rf_f_M_acts_15 : rf_Fb rf_m_M_acts 15 16 (.istore_n 3) 0 0 0 0 [] [true, true, true, true, false] = true := by decide +kernel
theorem rf_f_M_acts_16 : rf_Fb rf_m_M_acts 16 17 (.iload_n 3) 0 0 0 0 [] [] = true := by decide +kernel
theorem rf_f_M_acts_17 : rf_Fb rf_m_M_acts 17 19 (.bipush 10) 0 0 0 0 [] [] = true := by decide +kernel
theorem rf_f_M_acts_19 : rf_Fb rf_m_M_acts 19 22 (.if_icmp .ge 26) 45 0 0 0 [] [] = true := by decide +kernel
theorem rf_f_M_acts_22 : rf_Fb rf_m_M_acts 22 23 (.aload_n 0) 0 0 0 0 [] [] = true := by decide +kernel
theorem rf_f_M_acts_23 : rf_Fb rf_m_M_acts 23 26 (.getfield 22) 5 4 2 0 [] [] = true := by decide +kernel
theorem rf_f_M_acts_26 : rf_Fb rf_m_M_acts 26 27 (.iload_n 2) 0 0 0 0 [] [] = true := by decide +kernel
theorem rf_f_M_acts_27 : rf_Fb rf_m_M_acts 27 28 (.iload_n 3) 0 0 0 0 [] [] = true := by decide +kernel
theorem rf_f_M_acts_28 : rf_Fb rf_m_M_acts 28 29 (.iadd) 0 0 0 0 [] [] = true := by decide +kernel
theorem rf_f_M_acts_29 : rf_Fb rf_m_M_acts 29 30 (.aload_n 0) 0 0 0 0 [] [] = true := by decide +kernel
theorem rf_f_M_acts_30 : rf_Fb rf_m_M_acts 30 33 (.getfield 22) 5 4 2 0 [] [] = true := by decide +kernel
theorem rf_f_M_acts_33 : rf_Fb rf_m_M_acts 33 35 (.bipush 27) 0 0 0 0 [] [] = true := by decide +kernel
theorem rf_f_M_acts_35 : rf_Fb rf_m_M_acts 35 36 (.iload_n 3) 0 0 0 0 [] [] = true := by decide +kernel
theorem rf_f_M_acts_36 : rf_Fb rf_m_M_acts 36 37 (.iadd) 0 0 0 0 [] [] = true := by decide +kernel
theorem rf_f_M_acts_37 : rf_Fb rf_m_M_acts 37 38 (.iaload) 0 0 0 0 [] [] = true := by decide +kernel
theorem rf_f_M_acts_38 : rf_Fb rf_m_M_acts 38 39 (.iastore) 0 0 0 0 [] [] = true := by decide +kernel
theorem rf_f_M_acts_39 : rf_Fb rf_m_M_acts 39 42 (.iinc 3 1) 0 0 0 0 [] [] = true := by decide +kernel
theorem rf_f_M_acts_42 : rf_Fb rf_m_M_acts 42 45 (.goto (-26)) 16 0 0 0 [] [] = true := by decide +kernel
theorem rf_f_M_acts_45 : rf_Fb rf_m_M_acts 45 46 (.aload_n 0) 0 0 0 0 [] [] = true := by decide +kernel
theorem rf_f_M_acts_46 : rf_Fb rf_m_M_acts 46 49 (.invokevirtual 153) 142 0 3 5 [] [] = true := by decide +kernel
theorem rf_f_M_acts_49 : rf_Fb rf_m_M_acts 49 50 (.aload_n 0) 0 0 0 0 [] [] = true := by decide +kernel
theorem rf_f_M_acts_50 : rf_Fb rf_m_M_acts 50 51 (.iload_n 1) 0 0 0 0 [] [] = true := by decide +kernel
theorem rf_f_M_acts_51 : rf_Fb rf_m_M_acts 51 52 (.aload_n 0) 0 0 0 0 [] [] = true := by decide +kernel
theorem rf_f_M_acts_52 : rf_Fb rf_m_M_acts 52 55 (.invokevirtual 156) 154 0 0 5 [] [] = true := by decide +kernel
theorem rf_f_M_acts_55 : rf_Fb rf_m_M_acts 55 58 (.invokevirtual 159) 155 2 0 5 [] [] = true := by decide +kernel
theorem rf_f_M_acts_58 : rf_Fb rf_m_M_acts 58 59 (.istore_n 3) 0 0 0 0 [] [] = true := by decide +kernel
theorem rf_f_M_acts_59 : rf_Fb rf_m_M_acts 59 60 (.iconst 0) 0 0 0 0 [] [] = true := by decide +kernel
theorem rf_f_M_acts_60 : rf_Fb rf_m_M_acts 60 62 (.istore 4) 0 0 0 0 [] [true, false, false, true, true] = true := by decide +kernel
theorem rf_f_M_acts_62 : rf_Fb rf_m_M_acts 62 64 (.iload 4) 0 0 0 0 [] [] = true := by decide +kernel
theorem rf_f_M_acts_64 : rf_Fb rf_m_M_acts 64 66 (.bipush 10) 0 0 0 0 [] [] = true := by decide +kernel
theorem rf_f_M_acts_66 : rf_Fb rf_m_M_acts 66 69 (.if_icmp .ge 29) 95 0 0 0 [] [] = true := by decide +kernel
theorem rf_f_M_acts_69 : rf_Fb rf_m_M_acts 69 70 (.aload_n 0) 0 0 0 0 [] [] = true := by decide +kernel
theorem rf_f_M_acts_70 : rf_Fb rf_m_M_acts 70 73 (.getfield 22) 5 4 2 0 [] [] = true := by decide +kernel
theorem rf_f_M_acts_73 : rf_Fb rf_m_M_acts 73 75 (.bipush 27) 0 0 0 0 [] [] = true := by decide +kernel
theorem rf_f_M_acts_75 : rf_Fb rf_m_M_acts 75 77 (.iload 4) 0 0 0 0 [] [] = true := by decide +kernel
theorem rf_f_M_acts_77 : rf_Fb rf_m_M_acts 77 78 (.iadd) 0 0 0 0 [] [] = true := by decide +kernel
theorem rf_f_M_acts_78 : rf_Fb rf_m_M_acts 78 79 (.aload_n 0) 0 0 0 0 [] [] = true := by decide +kernel
theorem rf_f_M_acts_79 : rf_Fb rf_m_M_acts 79 82 (.getfield 41) 5 17 2 0 [] [] = true := by decide +kernel
theorem rf_f_M_acts_82 : rf_Fb rf_m_M_acts 82 84 (.bipush 27) 0 0 0 0 [] [] = true := by decide +kernel
theorem rf_f_M_acts_84 : rf_Fb rf_m_M_acts 84 86 (.iload 4) 0 0 0 0 [] [] = true := by decide +kernel
theorem rf_f_M_acts_86 : rf_Fb rf_m_M_acts 86 87 (.iadd) 0 0 0 0 [] [] = true := by decide +kernel
theorem rf_f_M_acts_87 : rf_Fb rf_m_M_acts 87 88 (.iaload) 0 0 0 0 [] [] = true := by decide +kernel
theorem rf_f_M_acts_88 : rf_Fb rf_m_M_acts 88 89 (.iastore) 0 0 0 0 [] [] = true := by decide +kernel
theorem rf_f_M_acts_89 : rf_Fb rf_m_M_acts 89 92 (.iinc 4 1) 0 0 0 0 [] [] = true := by decide +kernel
theorem rf_f_M_acts_92 : rf_Fb rf_m_M_acts 92 95 (.goto (-30)) 62 0 0 0 [] [] = true := by decide +kernel
theorem rf_f_M_acts_95 : rf_Fb rf_m_M_acts 95 96 (.aload_n 0) 0 0 0 0 [] [] = true := by decide +kernel
theorem rf_f_M_acts_96 : rf_Fb rf_m_M_acts 96 99 (.getfield 22) 5 4 2 0 [] [] = true := by decide +kernel
theorem rf_f_M_acts_99 : rf_Fb rf_m_M_acts 99 101 (.bipush 37) 0 0 0 0 [] [] = true := by decide +kernel
theorem rf_f_M_acts_101 : rf_Fb rf_m_M_acts 101 102 (.dup2) 0 0 0 0 [] [] = true := by decide +kernel
theorem rf_f_M_acts_102 : rf_Fb rf_m_M_acts 102 103 (.iaload) 0 0 0 0 [] [] = true := by decide +kernel
theorem rf_f_M_acts_103 : rf_Fb rf_m_M_acts 103 104 (.iconst 1) 0 0 0 0 [] [] = true := by decide +kernel
theorem rf_f_M_acts_104 : rf_Fb rf_m_M_acts 104 105 (.iadd) 0 0 0 0 [] [] = true := by decide +kernel
theorem rf_f_M_acts_105 : rf_Fb rf_m_M_acts 105 106 (.iastore) 0 0 0 0 [] [] = true := by decide +kernel
theorem rf_f_M_acts_106 : rf_Fb rf_m_M_acts 106 107 (.iload_n 3) 0 0 0 0 [] [] = true := by decide +kernel
theorem rf_f_M_acts_107 : rf_Fb rf_m_M_acts 107 108 (.ireturn) 0 0 0 0 [] [] = true := by decide +kernel
set_option maxRecDepth 20000 in
set_option maxHeartbeats 2000000 in
theorem rf_e_M_acts (d : Nat) (o : Nat) (a1 : Int) (h : rf_H) : rf_call (d + 1) 153 [.inr (.inr (some o)), .inl a1] h = ((rf_gR h 5 o 4).bind fun x1 => (rf_nn x1 fun k2 => ((rf_aI h k2 37).bind fun x3 => rf_j_M_acts_16 d o a1 (rf_w (38 + (rf_w (10 * x3)))) 0 h))) := by
  show rf_den (rf_call d) (rf_mt 153) _ = _
  rw [rf_u_M_acts]
  exact ((rf_s_bipush rf_f_M_acts_0 (rf_m0 _) (rf_s_bipush rf_f_M_acts_2 (rf_m0 _) (rf_s_aload_n rf_f_M_acts_4 rfl (rf_m0 _) (rf_s_getAS rf_f_M_acts_5 (rf_m0 _) fun x1 => (rf_s_bipush rf_f_M_acts_8 (rf_m0 _) (rf_s_ialdR rf_f_M_acts_10 (rf_m0 _) fun k2 x3 => (rf_s_imul rf_f_M_acts_11 (rf_m0 _) (rf_s_iadd rf_f_M_acts_12 (rf_m0 _) (rf_s_istore_n (L' := [some (.inr (.inr (some o))), some (.inl a1), some (.inl (rf_w (38 + (rf_w (10 * x3))))), none, none]) rf_f_M_acts_13 rfl (rf_s_iconst rf_f_M_acts_14 (rf_m0 _) (rf_s_istore_n rf_f_M_acts_15 rfl rfl))))))))))) : rf_den (rf_call d) rf_m_M_acts (0, [some (.inr (.inr (some o))), some (.inl a1), none, none, none], [], h) = _)
set_option maxRecDepth 20000 in
set_option maxHeartbeats 2000000 in
theorem rf_e_M_acts_16 (d : Nat) (o : Nat) (l1 : Int) (l2 : Int) (l3 : Int) (h : rf_H) : rf_j_M_acts_16 d o l1 l2 l3 h = (if l3 < 10 then ((rf_gR h 5 o 4).bind fun x9 => ((rf_gR h 5 o 4).bind fun x10 => (rf_nn x10 fun k11 => ((rf_aI h k11 (rf_w (27 + l3))).bind fun x12 => (rf_nn x9 fun k13 => ((rf_sI h k13 (rf_w (l2 + l3)) x12).bind fun h14 => rf_j_M_acts_16 d o l1 l2 (rf_w (l3 + 1)) h14)))))) else (bif rf_isO h.1 o 5 then ((rf_call d 142 [.inr (.inr (some o))] h).bind fun q2 => rf_kV q2 fun h1 => (bif rf_isO h1.1 o 5 then ((rf_call d 154 [.inr (.inr (some o))] h1).bind fun q4 => rf_kI q4 fun x5 h3 => (bif rf_isO h3.1 o 5 then ((rf_call d 155 [.inr (.inr (some o)), .inl l1, .inl x5] h3).bind fun q7 => rf_kI q7 fun x8 h6 => rf_j_M_acts_62 d o x8 0 h6) else none)) else none)) else none)) :=
  ((rf_s_iload_n rf_f_M_acts_16 rfl (rf_m0 _) (rf_s_bipush rf_f_M_acts_17 (rf_m0 _) (rf_s_icmp_ge rf_f_M_acts_19 rfl (rf_m0 _) (rf_m0 _) (rf_s_aload_n rf_f_M_acts_45 rfl (rf_m0 _) (rf_s_invV3S rf_f_M_acts_46 rfl rfl (rf_m0 _) fun q2 h1 => (rf_s_aload_n rf_f_M_acts_49 rfl (rf_m0 _) (rf_s_iload_n rf_f_M_acts_50 rfl (rf_m0 _) (rf_s_aload_n rf_f_M_acts_51 rfl (rf_m0 _) (rf_s_invV0S rf_f_M_acts_52 rfl rfl (rf_m0 _) fun q4 x5 h3 => (rf_s_invV0S rf_f_M_acts_55 rfl rfl (rf_m0 _) fun q7 x8 h6 => (rf_s_istore_n (L' := [some (.inr (.inr (some o))), some (.inl l1), some (.inl l2), some (.inl x8), none]) rf_f_M_acts_58 rfl (rf_s_iconst rf_f_M_acts_59 (rf_m0 _) (rf_s_istore rf_f_M_acts_60 rfl rfl)))))))))) (rf_s_aload_n rf_f_M_acts_22 rfl (rf_m0 _) (rf_s_getAS rf_f_M_acts_23 (rf_m0 _) fun x9 => (rf_s_iload_n rf_f_M_acts_26 rfl (rf_m0 _) (rf_s_iload_n rf_f_M_acts_27 rfl (rf_m0 _) (rf_s_iadd rf_f_M_acts_28 (rf_m0 _) (rf_s_aload_n rf_f_M_acts_29 rfl (rf_m0 _) (rf_s_getAS rf_f_M_acts_30 (rf_m0 _) fun x10 => (rf_s_bipush rf_f_M_acts_33 (rf_m0 _) (rf_s_iload_n rf_f_M_acts_35 rfl (rf_m0 _) (rf_s_iadd rf_f_M_acts_36 (rf_m0 _) (rf_s_ialdR rf_f_M_acts_37 (rf_m0 _) fun k11 x12 => (rf_s_iastR rf_f_M_acts_38 (rf_m0 _) fun k13 h14 => (rf_s_iinc (L' := [some (.inr (.inr (some o))), some (.inl l1), some (.inl l2), some (.inl (rf_w (l3 + 1))), none]) rf_f_M_acts_39 rfl rfl (rf_s_goto rf_f_M_acts_42 rfl rfl rfl))))))))))))))))) : rf_den (rf_call d) rf_m_M_acts (16, [some (.inr (.inr (some o))), some (.inl l1), some (.inl l2), some (.inl l3), none], [], h) = _)
set_option maxRecDepth 20000 in
set_option maxHeartbeats 2000000 in
theorem rf_e_M_acts_62 (d : Nat) (o : Nat) (l3 : Int) (l4 : Int) (h : rf_H) : rf_j_M_acts_62 d o l3 l4 h = (if l4 < 10 then ((rf_gR h 5 o 4).bind fun x6 => ((rf_gR h 5 o 17).bind fun x7 => (rf_nn x7 fun k8 => ((rf_aI h k8 (rf_w (27 + l4))).bind fun x9 => (rf_nn x6 fun k10 => ((rf_sI h k10 (rf_w (27 + l4)) x9).bind fun h11 => rf_j_M_acts_62 d o l3 (rf_w (l4 + 1)) h11)))))) else ((rf_gR h 5 o 4).bind fun x1 => (rf_nn x1 fun k2 => ((rf_aI h k2 37).bind fun x3 => (rf_nn x1 fun k4 => ((rf_sI h k4 37 (rf_w (x3 + 1))).bind fun h5 => some (some (.inl l3), h5))))))) :=
  ((rf_s_iload rf_f_M_acts_62 rfl (rf_m0 _) (rf_s_bipush rf_f_M_acts_64 (rf_m0 _) (rf_s_icmp_ge rf_f_M_acts_66 rfl (rf_m0 _) (rf_m0 _) (rf_s_aload_n rf_f_M_acts_95 rfl (rf_m0 _) (rf_s_getAS rf_f_M_acts_96 (rf_m0 _) fun x1 => (rf_s_bipush rf_f_M_acts_99 (rf_m0 _) (rf_s_dup2 rf_f_M_acts_101 (rf_m0 _) (rf_s_ialdR rf_f_M_acts_102 (rf_m0 _) fun k2 x3 => (rf_s_iconst rf_f_M_acts_103 (rf_m0 _) (rf_s_iadd rf_f_M_acts_104 (rf_m0 _) (rf_s_iastR rf_f_M_acts_105 (rf_m0 _) fun k4 h5 => (rf_s_iload_n rf_f_M_acts_106 rfl (rf_m0 _) (rf_s_iret rf_f_M_acts_107)))))))))) (rf_s_aload_n rf_f_M_acts_69 rfl (rf_m0 _) (rf_s_getAS rf_f_M_acts_70 (rf_m0 _) fun x6 => (rf_s_bipush rf_f_M_acts_73 (rf_m0 _) (rf_s_iload rf_f_M_acts_75 rfl (rf_m0 _) (rf_s_iadd rf_f_M_acts_77 (rf_m0 _) (rf_s_aload_n rf_f_M_acts_78 rfl (rf_m0 _) (rf_s_getAS rf_f_M_acts_79 (rf_m0 _) fun x7 => (rf_s_bipush rf_f_M_acts_82 (rf_m0 _) (rf_s_iload rf_f_M_acts_84 rfl (rf_m0 _) (rf_s_iadd rf_f_M_acts_86 (rf_m0 _) (rf_s_ialdR rf_f_M_acts_87 (rf_m0 _) fun k8 x9 => (rf_s_iastR rf_f_M_acts_88 (rf_m0 _) fun k10 h11 => (rf_s_iinc (L' := [some (.inr (.inr (some o))), none, none, some (.inl l3), some (.inl (rf_w (l4 + 1)))]) rf_f_M_acts_89 rfl rfl (rf_s_goto rf_f_M_acts_92 rfl rfl rfl))))))))))))))))) : rf_den (rf_call d) rf_m_M_acts (62, [some (.inr (.inr (some o))), none, none, some (.inl l3), some (.inl l4)], [], h) = _)
theorem rf_u_M_railNow : rf_mt 154 = rf_m_M_railNow := rfl
theorem rf_f_M_railNow_0 : rf_Fb rf_m_M_railNow 0 1 (.aload_n 0) 0 0 0 0 [] [] = true := by decide +kernel
theorem rf_f_M_railNow_1 : rf_Fb rf_m_M_railNow 1 4 (.getfield 41) 5 17 2 0 [] [] = true := by decide +kernel
theorem rf_f_M_railNow_4 : rf_Fb rf_m_M_railNow 4 5 (.iconst 3) 0 0 0 0 [] [] = true := by decide +kernel
theorem rf_f_M_railNow_5 : rf_Fb rf_m_M_railNow 5 6 (.aload_n 0) 0 0 0 0 [] [] = true := by decide +kernel
theorem rf_f_M_railNow_6 : rf_Fb rf_m_M_railNow 6 9 (.getfield 41) 5 17 2 0 [] [] = true := by decide +kernel
theorem rf_f_M_railNow_9 : rf_Fb rf_m_M_railNow 9 11 (.bipush 34) 0 0 0 0 [] [] = true := by decide +kernel
theorem rf_f_M_railNow_11 : rf_Fb rf_m_M_railNow 11 12 (.iaload) 0 0 0 0 [] [] = true := by decide +kernel
theorem rf_f_M_railNow_12 : rf_Fb rf_m_M_railNow 12 13 (.aload_n 0) 0 0 0 0 [] [] = true := by decide +kernel
theorem rf_f_M_railNow_13 : rf_Fb rf_m_M_railNow 13 16 (.getfield 41) 5 17 2 0 [] [] = true := by decide +kernel
theorem rf_f_M_railNow_16 : rf_Fb rf_m_M_railNow 16 17 (.iconst 2) 0 0 0 0 [] [] = true := by decide +kernel
theorem rf_f_M_railNow_17 : rf_Fb rf_m_M_railNow 17 18 (.iaload) 0 0 0 0 [] [] = true := by decide +kernel
theorem rf_f_M_railNow_18 : rf_Fb rf_m_M_railNow 18 19 (.irem) 0 0 0 0 [] [] = true := by decide +kernel
theorem rf_f_M_railNow_19 : rf_Fb rf_m_M_railNow 19 20 (.iadd) 0 0 0 0 [] [] = true := by decide +kernel
theorem rf_f_M_railNow_20 : rf_Fb rf_m_M_railNow 20 21 (.iaload) 0 0 0 0 [] [] = true := by decide +kernel
theorem rf_f_M_railNow_21 : rf_Fb rf_m_M_railNow 21 22 (.ireturn) 0 0 0 0 [] [] = true := by decide +kernel
set_option maxRecDepth 20000 in
set_option maxHeartbeats 2000000 in
theorem rf_e_M_railNow (d : Nat) (o : Nat) (h : rf_H) : rf_call (d + 1) 154 [.inr (.inr (some o))] h = ((rf_gR h 5 o 17).bind fun x1 => ((rf_gR h 5 o 17).bind fun x2 => (rf_nn x2 fun k3 => ((rf_aI h k3 34).bind fun x4 => ((rf_gR h 5 o 17).bind fun x5 => (rf_nn x5 fun k6 => ((rf_aI h k6 2).bind fun x7 => (if x7 = 0 then none else (rf_nn x1 fun k8 => ((rf_aI h k8 (rf_w (3 + (Int.tmod x4 x7)))).bind fun x9 => some (some (.inl x9), h))))))))))) := by
  show rf_den (rf_call d) (rf_mt 154) _ = _
  rw [rf_u_M_railNow]
  exact ((rf_s_aload_n rf_f_M_railNow_0 rfl (rf_m0 _) (rf_s_getAS rf_f_M_railNow_1 (rf_m0 _) fun x1 => (rf_s_iconst rf_f_M_railNow_4 (rf_m0 _) (rf_s_aload_n rf_f_M_railNow_5 rfl (rf_m0 _) (rf_s_getAS rf_f_M_railNow_6 (rf_m0 _) fun x2 => (rf_s_bipush rf_f_M_railNow_9 (rf_m0 _) (rf_s_ialdR rf_f_M_railNow_11 (rf_m0 _) fun k3 x4 => (rf_s_aload_n rf_f_M_railNow_12 rfl (rf_m0 _) (rf_s_getAS rf_f_M_railNow_13 (rf_m0 _) fun x5 => (rf_s_iconst rf_f_M_railNow_16 (rf_m0 _) (rf_s_ialdR rf_f_M_railNow_17 (rf_m0 _) fun k6 x7 => (rf_s_iremZ rf_f_M_railNow_18 (rf_m0 _) (rf_s_iadd rf_f_M_railNow_19 (rf_m0 _) (rf_s_ialdR rf_f_M_railNow_20 (rf_m0 _) fun k8 x9 => (rf_s_iret rf_f_M_railNow_21))))))))))))))) : rf_den (rf_call d) rf_m_M_railNow (0, [some (.inr (.inr (some o)))], [], h) = _)
noncomputable def rf_j_M_does_112 (d : Nat) (o : Nat) (l3 : Int) (h : rf_H) : Option rf_R := rf_den (rf_call d) rf_m_M_does (112, [some (.inr (.inr (some o))), none, none, some (.inl l3)], [], h)
theorem rf_u_M_does : rf_mt 155 = rf_m_M_does := rfl
theorem rf_f_M_does_0 : rf_Fb rf_m_M_does 0 2 (.bipush 6) 0 0 0 0 [] [] = true := by decide +kernel
theorem rf_f_M_does_2 : rf_Fb rf_m_M_does 2 3 (.istore_n 3) 0 0 0 0 [] [] = true := by decide +kernel
theorem rf_f_M_does_3 : rf_Fb rf_m_M_does 3 4 (.iload_n 1) 0 0 0 0 [] [] = true := by decide +kernel
theorem rf_f_M_does_4 : rf_Fb rf_m_M_does 4 6 (.bipush 10) 0 0 0 0 [] [] = true := by decide +kernel
theorem rf_f_M_does_6 : rf_Fb rf_m_M_does 6 9 (.if_icmp .ge 13) 19 0 0 0 [] [] = true := by decide +kernel
theorem rf_f_M_does_9 : rf_Fb rf_m_M_does 9 10 (.aload_n 0) 0 0 0 0 [] [] = true := by decide +kernel
theorem rf_f_M_does_10 : rf_Fb rf_m_M_does 10 11 (.iload_n 1) 0 0 0 0 [] [] = true := by decide +kernel
theorem rf_f_M_does_11 : rf_Fb rf_m_M_does 11 12 (.iload_n 2) 0 0 0 0 [] [] = true := by decide +kernel
theorem rf_f_M_does_12 : rf_Fb rf_m_M_does 12 15 (.invokevirtual 150) 156 2 0 5 [] [] = true := by decide +kernel
theorem rf_f_M_does_15 : rf_Fb rf_m_M_does 15 16 (.istore_n 3) 0 0 0 0 [] [] = true := by decide +kernel
theorem rf_f_M_does_16 : rf_Fb rf_m_M_does 16 19 (.goto 96) 112 0 0 0 [] [] = true := by decide +kernel
theorem rf_f_M_does_19 : rf_Fb rf_m_M_does 19 20 (.iload_n 1) 0 0 0 0 [] [] = true := by decide +kernel
theorem rf_f_M_does_20 : rf_Fb rf_m_M_does 20 22 (.bipush 10) 0 0 0 0 [] [] = true := by decide +kernel
theorem rf_f_M_does_22 : rf_Fb rf_m_M_does 22 25 (.if_icmp .ne 25) 47 0 0 0 [] [] = true := by decide +kernel
theorem rf_f_M_does_25 : rf_Fb rf_m_M_does 25 26 (.aload_n 0) 0 0 0 0 [] [] = true := by decide +kernel
theorem rf_f_M_does_26 : rf_Fb rf_m_M_does 26 29 (.getfield 41) 5 17 2 0 [] [] = true := by decide +kernel
theorem rf_f_M_does_29 : rf_Fb rf_m_M_does 29 31 (.bipush 28) 0 0 0 0 [] [] = true := by decide +kernel
theorem rf_f_M_does_31 : rf_Fb rf_m_M_does 31 32 (.dup2) 0 0 0 0 [] [] = true := by decide +kernel
theorem rf_f_M_does_32 : rf_Fb rf_m_M_does 32 33 (.iaload) 0 0 0 0 [] [] = true := by decide +kernel
theorem rf_f_M_does_33 : rf_Fb rf_m_M_does 33 34 (.iconst 1) 0 0 0 0 [] [] = true := by decide +kernel
theorem rf_f_M_does_34 : rf_Fb rf_m_M_does 34 35 (.isub) 0 0 0 0 [] [] = true := by decide +kernel
theorem rf_f_M_does_35 : rf_Fb rf_m_M_does 35 36 (.iastore) 0 0 0 0 [] [] = true := by decide +kernel
theorem rf_f_M_does_36 : rf_Fb rf_m_M_does 36 37 (.aload_n 0) 0 0 0 0 [] [] = true := by decide +kernel
theorem rf_f_M_does_37 : rf_Fb rf_m_M_does 37 40 (.getfield 41) 5 17 2 0 [] [] = true := by decide +kernel
theorem rf_f_M_does_40 : rf_Fb rf_m_M_does 40 42 (.bipush 30) 0 0 0 0 [] [] = true := by decide +kernel
theorem rf_f_M_does_42 : rf_Fb rf_m_M_does 42 43 (.iconst 1) 0 0 0 0 [] [] = true := by decide +kernel
theorem rf_f_M_does_43 : rf_Fb rf_m_M_does 43 44 (.iastore) 0 0 0 0 [] [] = true := by decide +kernel
theorem rf_f_M_does_44 : rf_Fb rf_m_M_does 44 47 (.goto 68) 112 0 0 0 [] [] = true := by decide +kernel
theorem rf_f_M_does_47 : rf_Fb rf_m_M_does 47 48 (.iload_n 1) 0 0 0 0 [] [] = true := by decide +kernel
theorem rf_f_M_does_48 : rf_Fb rf_m_M_does 48 50 (.bipush 11) 0 0 0 0 [] [] = true := by decide +kernel
theorem rf_f_M_does_50 : rf_Fb rf_m_M_does 50 53 (.if_icmp .ne 27) 77 0 0 0 [] [] = true := by decide +kernel
theorem rf_f_M_does_53 : rf_Fb rf_m_M_does 53 54 (.aload_n 0) 0 0 0 0 [] [] = true := by decide +kernel
theorem rf_f_M_does_54 : rf_Fb rf_m_M_does 54 57 (.getfield 41) 5 17 2 0 [] [] = true := by decide +kernel
theorem rf_f_M_does_57 : rf_Fb rf_m_M_does 57 59 (.bipush 27) 0 0 0 0 [] [] = true := by decide +kernel
theorem rf_f_M_does_59 : rf_Fb rf_m_M_does 59 61 (.bipush 9) 0 0 0 0 [] [] = true := by decide +kernel
theorem rf_f_M_does_61 : rf_Fb rf_m_M_does 61 62 (.aload_n 0) 0 0 0 0 [] [] = true := by decide +kernel
theorem rf_f_M_does_62 : rf_Fb rf_m_M_does 62 65 (.getfield 41) 5 17 2 0 [] [] = true := by decide +kernel
theorem rf_f_M_does_65 : rf_Fb rf_m_M_does 65 67 (.bipush 27) 0 0 0 0 [] [] = true := by decide +kernel
theorem rf_f_M_does_67 : rf_Fb rf_m_M_does 67 68 (.iaload) 0 0 0 0 [] [] = true := by decide +kernel
theorem rf_f_M_does_68 : rf_Fb rf_m_M_does 68 69 (.iconst 2) 0 0 0 0 [] [] = true := by decide +kernel
theorem rf_f_M_does_69 : rf_Fb rf_m_M_does 69 70 (.iadd) 0 0 0 0 [] [] = true := by decide +kernel
theorem rf_f_M_does_70 : rf_Fb rf_m_M_does 70 73 (.invokestatic 138) 158 2 0 0 [] [] = true := by decide +kernel
theorem rf_f_M_does_73 : rf_Fb rf_m_M_does 73 74 (.iastore) 0 0 0 0 [] [] = true := by decide +kernel
theorem rf_f_M_does_74 : rf_Fb rf_m_M_does 74 77 (.goto 38) 112 0 0 0 [] [] = true := by decide +kernel
theorem rf_f_M_does_77 : rf_Fb rf_m_M_does 77 78 (.iload_n 1) 0 0 0 0 [] [] = true := by decide +kernel
theorem rf_f_M_does_78 : rf_Fb rf_m_M_does 78 80 (.bipush 12) 0 0 0 0 [] [] = true := by decide +kernel
theorem rf_f_M_does_80 : rf_Fb rf_m_M_does 80 83 (.if_icmp .ne 14) 94 0 0 0 [] [] = true := by decide +kernel
theorem rf_f_M_does_83 : rf_Fb rf_m_M_does 83 84 (.aload_n 0) 0 0 0 0 [] [] = true := by decide +kernel
theorem rf_f_M_does_84 : rf_Fb rf_m_M_does 84 87 (.getfield 41) 5 17 2 0 [] [] = true := by decide +kernel
theorem rf_f_M_does_87 : rf_Fb rf_m_M_does 87 89 (.bipush 33) 0 0 0 0 [] [] = true := by decide +kernel
theorem rf_f_M_does_89 : rf_Fb rf_m_M_does 89 90 (.iconst 0) 0 0 0 0 [] [] = true := by decide +kernel
theorem rf_f_M_does_90 : rf_Fb rf_m_M_does 90 91 (.iastore) 0 0 0 0 [] [] = true := by decide +kernel
theorem rf_f_M_does_91 : rf_Fb rf_m_M_does 91 94 (.goto 21) 112 0 0 0 [] [] = true := by decide +kernel
theorem rf_f_M_does_94 : rf_Fb rf_m_M_does 94 95 (.aload_n 0) 0 0 0 0 [] [] = true := by decide +kernel
theorem rf_f_M_does_95 : rf_Fb rf_m_M_does 95 98 (.getfield 41) 5 17 2 0 [] [] = true := by decide +kernel
theorem rf_f_M_does_98 : rf_Fb rf_m_M_does 98 100 (.bipush 31) 0 0 0 0 [] [] = true := by decide +kernel
theorem rf_f_M_does_100 : rf_Fb rf_m_M_does 100 101 (.iload_n 1) 0 0 0 0 [] [] = true := by decide +kernel
theorem rf_f_M_does_101 : rf_Fb rf_m_M_does 101 103 (.bipush 14) 0 0 0 0 [] [] = true := by decide +kernel
theorem rf_f_M_does_103 : rf_Fb rf_m_M_does 103 106 (.if_icmp .ne 7) 110 0 0 0 [] [] = true := by decide +kernel
theorem rf_f_M_does_106 : rf_Fb rf_m_M_does 106 107 (.iconst 1) 0 0 0 0 [] [] = true := by decide +kernel
theorem rf_f_M_does_107 : rf_Fb rf_m_M_does 107 110 (.goto 4) 111 0 0 0 [] [] = true := by decide +kernel
theorem rf_f_M_does_110 : rf_Fb rf_m_M_does 110 111 (.iconst 0) 0 0 0 0 [] [] = true := by decide +kernel
theorem rf_f_M_does_111 : rf_Fb rf_m_M_does 111 112 (.iastore) 0 0 0 0 [] [true, false, false, true] = true := by decide +kernel
theorem rf_f_M_does_112 : rf_Fb rf_m_M_does 112 113 (.aload_n 0) 0 0 0 0 [] [] = true := by decide +kernel
theorem rf_f_M_does_113 : rf_Fb rf_m_M_does 113 116 (.getfield 41) 5 17 2 0 [] [] = true := by decide +kernel
theorem rf_f_M_does_116 : rf_Fb rf_m_M_does 116 118 (.bipush 34) 0 0 0 0 [] [] = true := by decide +kernel
theorem rf_f_M_does_118 : rf_Fb rf_m_M_does 118 119 (.dup2) 0 0 0 0 [] [] = true := by decide +kernel
theorem rf_f_M_does_119 : rf_Fb rf_m_M_does 119 120 (.iaload) 0 0 0 0 [] [] = true := by decide +kernel
theorem rf_f_M_does_120 : rf_Fb rf_m_M_does 120 121 (.iconst 1) 0 0 0 0 [] [] = true := by decide +kernel
theorem rf_f_M_does_121 : rf_Fb rf_m_M_does 121 122 (.iadd) 0 0 0 0 [] [] = true := by decide +kernel
theorem rf_f_M_does_122 : rf_Fb rf_m_M_does 122 123 (.iastore) 0 0 0 0 [] [] = true := by decide +kernel
theorem rf_f_M_does_123 : rf_Fb rf_m_M_does 123 124 (.iload_n 3) 0 0 0 0 [] [] = true := by decide +kernel
theorem rf_f_M_does_124 : rf_Fb rf_m_M_does 124 125 (.ireturn) 0 0 0 0 [] [] = true := by decide +kernel
set_option maxRecDepth 20000 in
set_option maxHeartbeats 2000000 in
theorem rf_e_M_does (d : Nat) (o : Nat) (a1 : Int) (a2 : Int) (h : rf_H) : rf_call (d + 1) 155 [.inr (.inr (some o)), .inl a1, .inl a2] h = (if a1 < 10 then (bif rf_isO h.1 o 5 then ((rf_call d 156 [.inr (.inr (some o)), .inl a1, .inl a2] h).bind fun q27 => rf_kI q27 fun x28 h26 => rf_j_M_does_112 d o x28 h26) else none) else (if a1 = 10 then ((rf_gR h 5 o 17).bind fun x18 => (rf_nn x18 fun k19 => ((rf_aI h k19 28).bind fun x20 => (rf_nn x18 fun k21 => ((rf_sI h k21 28 (rf_w (x20 - 1))).bind fun h22 => ((rf_gR h22 5 o 17).bind fun x23 => (rf_nn x23 fun k24 => ((rf_sI h22 k24 30 1).bind fun h25 => rf_j_M_does_112 d o 6 h25)))))))) else (if a1 = 11 then ((rf_gR h 5 o 17).bind fun x9 => ((rf_gR h 5 o 17).bind fun x10 => (rf_nn x10 fun k11 => ((rf_aI h k11 27).bind fun x12 => ((rf_call d 158 [.inl 9, .inl (rf_w (x12 + 2))] h).bind fun q14 => rf_kI q14 fun x15 h13 => (rf_nn x9 fun k16 => ((rf_sI h13 k16 27 x15).bind fun h17 => rf_j_M_does_112 d o 6 h17))))))) else (if a1 = 12 then ((rf_gR h 5 o 17).bind fun x6 => (rf_nn x6 fun k7 => ((rf_sI h k7 33 0).bind fun h8 => rf_j_M_does_112 d o 6 h8))) else ((rf_gR h 5 o 17).bind fun x1 => (if a1 = 14 then (rf_nn x1 fun k4 => ((rf_sI h k4 31 1).bind fun h5 => rf_j_M_does_112 d o 6 h5)) else (rf_nn x1 fun k2 => ((rf_sI h k2 31 0).bind fun h3 => rf_j_M_does_112 d o 6 h3)))))))) := by
  show rf_den (rf_call d) (rf_mt 155) _ = _
  rw [rf_u_M_does]
  exact ((rf_s_bipush rf_f_M_does_0 (rf_m0 _) (rf_s_istore_n (L' := [some (.inr (.inr (some o))), some (.inl a1), some (.inl a2), some (.inl 6)]) rf_f_M_does_2 rfl (rf_s_iload_n rf_f_M_does_3 rfl (rf_m0 _) (rf_s_bipush rf_f_M_does_4 (rf_m0 _) (rf_s_icmp_ge rf_f_M_does_6 rfl (rf_m0 _) (rf_m0 _) (rf_s_iload_n rf_f_M_does_19 rfl (rf_m0 _) (rf_s_bipush rf_f_M_does_20 (rf_m0 _) (rf_s_icmp_ne rf_f_M_does_22 rfl (rf_m0 _) (rf_m0 _) (rf_s_iload_n rf_f_M_does_47 rfl (rf_m0 _) (rf_s_bipush rf_f_M_does_48 (rf_m0 _) (rf_s_icmp_ne rf_f_M_does_50 rfl (rf_m0 _) (rf_m0 _) (rf_s_iload_n rf_f_M_does_77 rfl (rf_m0 _) (rf_s_bipush rf_f_M_does_78 (rf_m0 _) (rf_s_icmp_ne rf_f_M_does_80 rfl (rf_m0 _) (rf_m0 _) (rf_s_aload_n rf_f_M_does_94 rfl (rf_m0 _) (rf_s_getAS rf_f_M_does_95 (rf_m0 _) fun x1 => (rf_s_bipush rf_f_M_does_98 (rf_m0 _) (rf_s_iload_n rf_f_M_does_100 rfl (rf_m0 _) (rf_s_bipush rf_f_M_does_101 (rf_m0 _) (rf_s_icmp_ne rf_f_M_does_103 rfl (rf_m0 _) (rf_m0 _) (rf_s_iconst rf_f_M_does_110 (rf_m0 _) (rf_s_iastR rf_f_M_does_111 rfl fun k2 h3 => rfl)) (rf_s_iconst rf_f_M_does_106 (rf_m0 _) (rf_s_goto rf_f_M_does_107 rfl (rf_m0 _) (rf_s_iastR rf_f_M_does_111 rfl fun k4 h5 => rfl))))))))) (rf_s_aload_n rf_f_M_does_83 rfl (rf_m0 _) (rf_s_getAS rf_f_M_does_84 (rf_m0 _) fun x6 => (rf_s_bipush rf_f_M_does_87 (rf_m0 _) (rf_s_iconst rf_f_M_does_89 (rf_m0 _) (rf_s_iastR rf_f_M_does_90 (rf_m0 _) fun k7 h8 => (rf_s_goto rf_f_M_does_91 rfl rfl rfl))))))))) (rf_s_aload_n rf_f_M_does_53 rfl (rf_m0 _) (rf_s_getAS rf_f_M_does_54 (rf_m0 _) fun x9 => (rf_s_bipush rf_f_M_does_57 (rf_m0 _) (rf_s_bipush rf_f_M_does_59 (rf_m0 _) (rf_s_aload_n rf_f_M_does_61 rfl (rf_m0 _) (rf_s_getAS rf_f_M_does_62 (rf_m0 _) fun x10 => (rf_s_bipush rf_f_M_does_65 (rf_m0 _) (rf_s_ialdR rf_f_M_does_67 (rf_m0 _) fun k11 x12 => (rf_s_iconst rf_f_M_does_68 (rf_m0 _) (rf_s_iadd rf_f_M_does_69 (rf_m0 _) (rf_s_invS0 rf_f_M_does_70 rfl rfl (rf_m0 _) fun q14 x15 h13 => (rf_s_iastR rf_f_M_does_73 (rf_m0 _) fun k16 h17 => (rf_s_goto rf_f_M_does_74 rfl rfl rfl)))))))))))))))) (rf_s_aload_n rf_f_M_does_25 rfl (rf_m0 _) (rf_s_getAS rf_f_M_does_26 (rf_m0 _) fun x18 => (rf_s_bipush rf_f_M_does_29 (rf_m0 _) (rf_s_dup2 rf_f_M_does_31 (rf_m0 _) (rf_s_ialdR rf_f_M_does_32 (rf_m0 _) fun k19 x20 => (rf_s_iconst rf_f_M_does_33 (rf_m0 _) (rf_s_isub rf_f_M_does_34 (rf_m0 _) (rf_s_iastR rf_f_M_does_35 (rf_m0 _) fun k21 h22 => (rf_s_aload_n rf_f_M_does_36 rfl (rf_m0 _) (rf_s_getAS rf_f_M_does_37 (rf_m0 _) fun x23 => (rf_s_bipush rf_f_M_does_40 (rf_m0 _) (rf_s_iconst rf_f_M_does_42 (rf_m0 _) (rf_s_iastR rf_f_M_does_43 (rf_m0 _) fun k24 h25 => (rf_s_goto rf_f_M_does_44 rfl rfl rfl))))))))))))))))) (rf_s_aload_n rf_f_M_does_9 rfl (rf_m0 _) (rf_s_iload_n rf_f_M_does_10 rfl (rf_m0 _) (rf_s_iload_n rf_f_M_does_11 rfl (rf_m0 _) (rf_s_invV0S rf_f_M_does_12 rfl rfl (rf_m0 _) fun q27 x28 h26 => (rf_s_istore_n (L' := [some (.inr (.inr (some o))), some (.inl a1), some (.inl a2), some (.inl x28)]) rf_f_M_does_15 rfl (rf_s_goto rf_f_M_does_16 rfl rfl rfl))))))))))) : rf_den (rf_call d) rf_m_M_does (0, [some (.inr (.inr (some o))), some (.inl a1), some (.inl a2), none], [], h) = _)
set_option maxRecDepth 20000 in
set_option maxHeartbeats 2000000 in
theorem rf_e_M_does_112 (d : Nat) (o : Nat) (l3 : Int) (h : rf_H) : rf_j_M_does_112 d o l3 h = ((rf_gR h 5 o 17).bind fun x1 => (rf_nn x1 fun k2 => ((rf_aI h k2 34).bind fun x3 => (rf_nn x1 fun k4 => ((rf_sI h k4 34 (rf_w (x3 + 1))).bind fun h5 => some (some (.inl l3), h5)))))) :=
  ((rf_s_aload_n rf_f_M_does_112 rfl (rf_m0 _) (rf_s_getAS rf_f_M_does_113 (rf_m0 _) fun x1 => (rf_s_bipush rf_f_M_does_116 (rf_m0 _) (rf_s_dup2 rf_f_M_does_118 (rf_m0 _) (rf_s_ialdR rf_f_M_does_119 (rf_m0 _) fun k2 x3 => (rf_s_iconst rf_f_M_does_120 (rf_m0 _) (rf_s_iadd rf_f_M_does_121 (rf_m0 _) (rf_s_iastR rf_f_M_does_122 (rf_m0 _) fun k4 h5 => (rf_s_iload_n rf_f_M_does_123 rfl (rf_m0 _) (rf_s_iret rf_f_M_does_124)))))))))) : rf_den (rf_call d) rf_m_M_does (112, [some (.inr (.inr (some o))), none, none, some (.inl l3)], [], h) = _)
noncomputable def rf_j_M_gives_95 (d : Nat) (o : Nat) (l3 : Int) (s0 : Option Nat) (s1 : Int) (s2 : Int) (s3 : Int) (h : rf_H) : Option rf_R := rf_den (rf_call d) rf_m_M_gives (95, [some (.inr (.inr (some o))), none, none, some (.inl l3), none, none, none], [.inl s3, .inl s2, .inl s1, .inr (.inr s0)], h)
noncomputable def rf_j_M_gives_123 (d : Nat) (o : Nat) (l3 : Int) (l5 : Int) (s0 : Int) (h : rf_H) : Option rf_R := rf_den (rf_call d) rf_m_M_gives (123, [some (.inr (.inr (some o))), none, none, some (.inl l3), none, some (.inl l5), none], [.inl s0], h)
noncomputable def rf_j_M_gives_166 (d : Nat) (o : Nat) (l3 : Int) (l5 : Int) (h : rf_H) : Option rf_R := rf_den (rf_call d) rf_m_M_gives (166, [some (.inr (.inr (some o))), none, none, some (.inl l3), none, some (.inl l5), none], [], h)
noncomputable def rf_j_M_gives_232 (d : Nat) (o : Nat) (l3 : Int) (l5 : Int) (l6 : Int) (h : rf_H) : Option rf_R := rf_den (rf_call d) rf_m_M_gives (232, [some (.inr (.inr (some o))), none, none, some (.inl l3), none, some (.inl l5), some (.inl l6)], [], h)
noncomputable def rf_j_M_gives_270 (d : Nat) (o : Nat) (l3 : Int) (l5 : Int) (h : rf_H) : Option rf_R := rf_den (rf_call d) rf_m_M_gives (270, [some (.inr (.inr (some o))), none, none, some (.inl l3), none, some (.inl l5), none], [], h)
theorem rf_u_M_gives : rf_mt 156 = rf_m_M_gives := rfl
theorem rf_f_M_gives_0 : rf_Fb rf_m_M_gives 0 1 (.iconst 2) 0 0 0 0 [] [] = true := by decide +kernel
theorem rf_f_M_gives_1 : rf_Fb rf_m_M_gives 1 2 (.iload_n 1) 0 0 0 0 [] [] = true := by decide +kernel
theorem rf_f_M_gives_2 : rf_Fb rf_m_M_gives 2 3 (.imul) 0 0 0 0 [] [] = true := by decide +kernel
theorem rf_f_M_gives_3 : rf_Fb rf_m_M_gives 3 4 (.istore_n 3) 0 0 0 0 [] [] = true := by decide +kernel
theorem rf_f_M_gives_4 : rf_Fb rf_m_M_gives 4 5 (.aload_n 0) 0 0 0 0 [] [] = true := by decide +kernel
theorem rf_f_M_gives_5 : rf_Fb rf_m_M_gives 5 6 (.iload_n 2) 0 0 0 0 [] [] = true := by decide +kernel
theorem rf_f_M_gives_6 : rf_Fb rf_m_M_gives 6 9 (.invokevirtual 135) 157 1 0 5 [] [] = true := by decide +kernel
theorem rf_f_M_gives_9 : rf_Fb rf_m_M_gives 9 11 (.istore 4) 0 0 0 0 [] [] = true := by decide +kernel
theorem rf_f_M_gives_11 : rf_Fb rf_m_M_gives 11 12 (.aload_n 0) 0 0 0 0 [] [] = true := by decide +kernel
theorem rf_f_M_gives_12 : rf_Fb rf_m_M_gives 12 15 (.getfield 41) 5 17 2 0 [] [] = true := by decide +kernel
theorem rf_f_M_gives_15 : rf_Fb rf_m_M_gives 15 17 (.bipush 30) 0 0 0 0 [] [] = true := by decide +kernel
theorem rf_f_M_gives_17 : rf_Fb rf_m_M_gives 17 18 (.iconst 0) 0 0 0 0 [] [] = true := by decide +kernel
theorem rf_f_M_gives_18 : rf_Fb rf_m_M_gives 18 19 (.iastore) 0 0 0 0 [] [] = true := by decide +kernel
theorem rf_f_M_gives_19 : rf_Fb rf_m_M_gives 19 20 (.iload_n 3) 0 0 0 0 [] [] = true := by decide +kernel
theorem rf_f_M_gives_20 : rf_Fb rf_m_M_gives 20 22 (.iload 4) 0 0 0 0 [] [] = true := by decide +kernel
theorem rf_f_M_gives_22 : rf_Fb rf_m_M_gives 22 25 (.if_icmp .le 46) 68 0 0 0 [] [] = true := by decide +kernel
theorem rf_f_M_gives_25 : rf_Fb rf_m_M_gives 25 26 (.aload_n 0) 0 0 0 0 [] [] = true := by decide +kernel
theorem rf_f_M_gives_26 : rf_Fb rf_m_M_gives 26 29 (.getfield 41) 5 17 2 0 [] [] = true := by decide +kernel
theorem rf_f_M_gives_29 : rf_Fb rf_m_M_gives 29 31 (.bipush 29) 0 0 0 0 [] [] = true := by decide +kernel
theorem rf_f_M_gives_31 : rf_Fb rf_m_M_gives 31 33 (.bipush 9) 0 0 0 0 [] [] = true := by decide +kernel
theorem rf_f_M_gives_33 : rf_Fb rf_m_M_gives 33 34 (.aload_n 0) 0 0 0 0 [] [] = true := by decide +kernel
theorem rf_f_M_gives_34 : rf_Fb rf_m_M_gives 34 37 (.getfield 41) 5 17 2 0 [] [] = true := by decide +kernel
theorem rf_f_M_gives_37 : rf_Fb rf_m_M_gives 37 39 (.bipush 29) 0 0 0 0 [] [] = true := by decide +kernel
theorem rf_f_M_gives_39 : rf_Fb rf_m_M_gives 39 40 (.iaload) 0 0 0 0 [] [] = true := by decide +kernel
theorem rf_f_M_gives_40 : rf_Fb rf_m_M_gives 40 41 (.iconst 1) 0 0 0 0 [] [] = true := by decide +kernel
theorem rf_f_M_gives_41 : rf_Fb rf_m_M_gives 41 42 (.iadd) 0 0 0 0 [] [] = true := by decide +kernel
theorem rf_f_M_gives_42 : rf_Fb rf_m_M_gives 42 45 (.invokestatic 138) 158 2 0 0 [] [] = true := by decide +kernel
theorem rf_f_M_gives_45 : rf_Fb rf_m_M_gives 45 46 (.iastore) 0 0 0 0 [] [] = true := by decide +kernel
theorem rf_f_M_gives_46 : rf_Fb rf_m_M_gives 46 47 (.aload_n 0) 0 0 0 0 [] [] = true := by decide +kernel
theorem rf_f_M_gives_47 : rf_Fb rf_m_M_gives 47 50 (.getfield 41) 5 17 2 0 [] [] = true := by decide +kernel
theorem rf_f_M_gives_50 : rf_Fb rf_m_M_gives 50 52 (.bipush 27) 0 0 0 0 [] [] = true := by decide +kernel
theorem rf_f_M_gives_52 : rf_Fb rf_m_M_gives 52 53 (.iconst 0) 0 0 0 0 [] [] = true := by decide +kernel
theorem rf_f_M_gives_53 : rf_Fb rf_m_M_gives 53 54 (.aload_n 0) 0 0 0 0 [] [] = true := by decide +kernel
theorem rf_f_M_gives_54 : rf_Fb rf_m_M_gives 54 57 (.getfield 41) 5 17 2 0 [] [] = true := by decide +kernel
theorem rf_f_M_gives_57 : rf_Fb rf_m_M_gives 57 59 (.bipush 27) 0 0 0 0 [] [] = true := by decide +kernel
theorem rf_f_M_gives_59 : rf_Fb rf_m_M_gives 59 60 (.iaload) 0 0 0 0 [] [] = true := by decide +kernel
theorem rf_f_M_gives_60 : rf_Fb rf_m_M_gives 60 61 (.iconst 2) 0 0 0 0 [] [] = true := by decide +kernel
theorem rf_f_M_gives_61 : rf_Fb rf_m_M_gives 61 62 (.isub) 0 0 0 0 [] [] = true := by decide +kernel
theorem rf_f_M_gives_62 : rf_Fb rf_m_M_gives 62 65 (.invokestatic 128) 147 2 0 0 [] [] = true := by decide +kernel
theorem rf_f_M_gives_65 : rf_Fb rf_m_M_gives 65 66 (.iastore) 0 0 0 0 [] [] = true := by decide +kernel
theorem rf_f_M_gives_66 : rf_Fb rf_m_M_gives 66 67 (.iconst 1) 0 0 0 0 [] [] = true := by decide +kernel
theorem rf_f_M_gives_67 : rf_Fb rf_m_M_gives 67 68 (.ireturn) 0 0 0 0 [] [] = true := by decide +kernel
theorem rf_f_M_gives_68 : rf_Fb rf_m_M_gives 68 69 (.aload_n 0) 0 0 0 0 [] [] = true := by decide +kernel
theorem rf_f_M_gives_69 : rf_Fb rf_m_M_gives 69 72 (.getfield 41) 5 17 2 0 [] [] = true := by decide +kernel
theorem rf_f_M_gives_72 : rf_Fb rf_m_M_gives 72 74 (.bipush 27) 0 0 0 0 [] [] = true := by decide +kernel
theorem rf_f_M_gives_74 : rf_Fb rf_m_M_gives 74 75 (.dup2) 0 0 0 0 [] [] = true := by decide +kernel
theorem rf_f_M_gives_75 : rf_Fb rf_m_M_gives 75 76 (.iaload) 0 0 0 0 [] [] = true := by decide +kernel
theorem rf_f_M_gives_76 : rf_Fb rf_m_M_gives 76 77 (.iload_n 1) 0 0 0 0 [] [] = true := by decide +kernel
theorem rf_f_M_gives_77 : rf_Fb rf_m_M_gives 77 80 (.ifCond .le 17) 94 0 0 0 [] [] = true := by decide +kernel
theorem rf_f_M_gives_80 : rf_Fb rf_m_M_gives 80 81 (.aload_n 0) 0 0 0 0 [] [] = true := by decide +kernel
theorem rf_f_M_gives_81 : rf_Fb rf_m_M_gives 81 84 (.getfield 41) 5 17 2 0 [] [] = true := by decide +kernel
theorem rf_f_M_gives_84 : rf_Fb rf_m_M_gives 84 86 (.bipush 27) 0 0 0 0 [] [] = true := by decide +kernel
theorem rf_f_M_gives_86 : rf_Fb rf_m_M_gives 86 87 (.iaload) 0 0 0 0 [] [] = true := by decide +kernel
theorem rf_f_M_gives_87 : rf_Fb rf_m_M_gives 87 90 (.ifCond .le 7) 94 0 0 0 [] [] = true := by decide +kernel
theorem rf_f_M_gives_90 : rf_Fb rf_m_M_gives 90 91 (.iconst 1) 0 0 0 0 [] [] = true := by decide +kernel
theorem rf_f_M_gives_91 : rf_Fb rf_m_M_gives 91 94 (.goto 4) 95 0 0 0 [] [] = true := by decide +kernel
theorem rf_f_M_gives_94 : rf_Fb rf_m_M_gives 94 95 (.iconst 0) 0 0 0 0 [] [true, false, false, true, false, false, false] = true := by decide +kernel
theorem rf_f_M_gives_95 : rf_Fb rf_m_M_gives 95 96 (.isub) 0 0 0 0 [] [] = true := by decide +kernel
theorem rf_f_M_gives_96 : rf_Fb rf_m_M_gives 96 97 (.iastore) 0 0 0 0 [] [] = true := by decide +kernel
theorem rf_f_M_gives_97 : rf_Fb rf_m_M_gives 97 98 (.aload_n 0) 0 0 0 0 [] [] = true := by decide +kernel
theorem rf_f_M_gives_98 : rf_Fb rf_m_M_gives 98 101 (.getfield 41) 5 17 2 0 [] [] = true := by decide +kernel
theorem rf_f_M_gives_101 : rf_Fb rf_m_M_gives 101 103 (.bipush 33) 0 0 0 0 [] [] = true := by decide +kernel
theorem rf_f_M_gives_103 : rf_Fb rf_m_M_gives 103 104 (.iaload) 0 0 0 0 [] [] = true := by decide +kernel
theorem rf_f_M_gives_104 : rf_Fb rf_m_M_gives 104 106 (.istore 5) 0 0 0 0 [] [] = true := by decide +kernel
theorem rf_f_M_gives_106 : rf_Fb rf_m_M_gives 106 108 (.iload 5) 0 0 0 0 [] [] = true := by decide +kernel
theorem rf_f_M_gives_108 : rf_Fb rf_m_M_gives 108 109 (.aload_n 0) 0 0 0 0 [] [] = true := by decide +kernel
theorem rf_f_M_gives_109 : rf_Fb rf_m_M_gives 109 112 (.getfield 41) 5 17 2 0 [] [] = true := by decide +kernel
theorem rf_f_M_gives_112 : rf_Fb rf_m_M_gives 112 114 (.bipush 36) 0 0 0 0 [] [] = true := by decide +kernel
theorem rf_f_M_gives_114 : rf_Fb rf_m_M_gives 114 115 (.iaload) 0 0 0 0 [] [] = true := by decide +kernel
theorem rf_f_M_gives_115 : rf_Fb rf_m_M_gives 115 118 (.if_icmp .ne 7) 122 0 0 0 [] [] = true := by decide +kernel
theorem rf_f_M_gives_118 : rf_Fb rf_m_M_gives 118 119 (.iconst 1) 0 0 0 0 [] [] = true := by decide +kernel
theorem rf_f_M_gives_119 : rf_Fb rf_m_M_gives 119 122 (.goto 4) 123 0 0 0 [] [] = true := by decide +kernel
theorem rf_f_M_gives_122 : rf_Fb rf_m_M_gives 122 123 (.iconst 0) 0 0 0 0 [] [true, false, false, true, false, true, false] = true := by decide +kernel
theorem rf_f_M_gives_123 : rf_Fb rf_m_M_gives 123 125 (.istore 6) 0 0 0 0 [] [] = true := by decide +kernel
theorem rf_f_M_gives_125 : rf_Fb rf_m_M_gives 125 127 (.iload 6) 0 0 0 0 [] [] = true := by decide +kernel
theorem rf_f_M_gives_127 : rf_Fb rf_m_M_gives 127 130 (.ifCond .ne 105) 232 0 0 0 [] [] = true := by decide +kernel
theorem rf_f_M_gives_130 : rf_Fb rf_m_M_gives 130 131 (.iload_n 3) 0 0 0 0 [] [] = true := by decide +kernel
theorem rf_f_M_gives_131 : rf_Fb rf_m_M_gives 131 132 (.aload_n 0) 0 0 0 0 [] [] = true := by decide +kernel
theorem rf_f_M_gives_132 : rf_Fb rf_m_M_gives 132 134 (.iload 5) 0 0 0 0 [] [] = true := by decide +kernel
theorem rf_f_M_gives_134 : rf_Fb rf_m_M_gives 134 135 (.iconst 1) 0 0 0 0 [] [] = true := by decide +kernel
theorem rf_f_M_gives_135 : rf_Fb rf_m_M_gives 135 136 (.iadd) 0 0 0 0 [] [] = true := by decide +kernel
theorem rf_f_M_gives_136 : rf_Fb rf_m_M_gives 136 139 (.invokevirtual 141) 159 1 0 5 [] [] = true := by decide +kernel
theorem rf_f_M_gives_139 : rf_Fb rf_m_M_gives 139 142 (.if_icmp .lt 93) 232 0 0 0 [] [] = true := by decide +kernel
theorem rf_f_M_gives_142 : rf_Fb rf_m_M_gives 142 144 (.iload 5) 0 0 0 0 [] [] = true := by decide +kernel
theorem rf_f_M_gives_144 : rf_Fb rf_m_M_gives 144 145 (.iconst 1) 0 0 0 0 [] [] = true := by decide +kernel
theorem rf_f_M_gives_145 : rf_Fb rf_m_M_gives 145 146 (.iadd) 0 0 0 0 [] [] = true := by decide +kernel
theorem rf_f_M_gives_146 : rf_Fb rf_m_M_gives 146 147 (.aload_n 0) 0 0 0 0 [] [] = true := by decide +kernel
theorem rf_f_M_gives_147 : rf_Fb rf_m_M_gives 147 150 (.getfield 41) 5 17 2 0 [] [] = true := by decide +kernel
theorem rf_f_M_gives_150 : rf_Fb rf_m_M_gives 150 152 (.bipush 36) 0 0 0 0 [] [] = true := by decide +kernel
theorem rf_f_M_gives_152 : rf_Fb rf_m_M_gives 152 153 (.iaload) 0 0 0 0 [] [] = true := by decide +kernel
theorem rf_f_M_gives_153 : rf_Fb rf_m_M_gives 153 156 (.if_icmp .lt 13) 166 0 0 0 [] [] = true := by decide +kernel
theorem rf_f_M_gives_156 : rf_Fb rf_m_M_gives 156 157 (.aload_n 0) 0 0 0 0 [] [] = true := by decide +kernel
theorem rf_f_M_gives_157 : rf_Fb rf_m_M_gives 157 160 (.getfield 41) 5 17 2 0 [] [] = true := by decide +kernel
theorem rf_f_M_gives_160 : rf_Fb rf_m_M_gives 160 162 (.bipush 31) 0 0 0 0 [] [] = true := by decide +kernel
theorem rf_f_M_gives_162 : rf_Fb rf_m_M_gives 162 163 (.iaload) 0 0 0 0 [] [] = true := by decide +kernel
theorem rf_f_M_gives_163 : rf_Fb rf_m_M_gives 163 166 (.ifCond .ne 69) 232 0 0 0 [] [true, false, false, true, false, true, false] = true := by decide +kernel
theorem rf_f_M_gives_166 : rf_Fb rf_m_M_gives 166 167 (.iload_n 3) 0 0 0 0 [] [] = true := by decide +kernel
theorem rf_f_M_gives_167 : rf_Fb rf_m_M_gives 167 168 (.aload_n 0) 0 0 0 0 [] [] = true := by decide +kernel
theorem rf_f_M_gives_168 : rf_Fb rf_m_M_gives 168 170 (.iload 5) 0 0 0 0 [] [] = true := by decide +kernel
theorem rf_f_M_gives_170 : rf_Fb rf_m_M_gives 170 171 (.iconst 1) 0 0 0 0 [] [] = true := by decide +kernel
theorem rf_f_M_gives_171 : rf_Fb rf_m_M_gives 171 172 (.iadd) 0 0 0 0 [] [] = true := by decide +kernel
theorem rf_f_M_gives_172 : rf_Fb rf_m_M_gives 172 175 (.invokevirtual 141) 159 1 0 5 [] [] = true := by decide +kernel
theorem rf_f_M_gives_175 : rf_Fb rf_m_M_gives 175 176 (.isub) 0 0 0 0 [] [] = true := by decide +kernel
theorem rf_f_M_gives_176 : rf_Fb rf_m_M_gives 176 177 (.aload_n 0) 0 0 0 0 [] [] = true := by decide +kernel
theorem rf_f_M_gives_177 : rf_Fb rf_m_M_gives 177 179 (.iload 5) 0 0 0 0 [] [] = true := by decide +kernel
theorem rf_f_M_gives_179 : rf_Fb rf_m_M_gives 179 182 (.invokevirtual 144) 145 1 0 5 [] [] = true := by decide +kernel
theorem rf_f_M_gives_182 : rf_Fb rf_m_M_gives 182 183 (.iadd) 0 0 0 0 [] [] = true := by decide +kernel
theorem rf_f_M_gives_183 : rf_Fb rf_m_M_gives 183 184 (.aload_n 0) 0 0 0 0 [] [] = true := by decide +kernel
theorem rf_f_M_gives_184 : rf_Fb rf_m_M_gives 184 186 (.iload 5) 0 0 0 0 [] [] = true := by decide +kernel
theorem rf_f_M_gives_186 : rf_Fb rf_m_M_gives 186 189 (.invokevirtual 147) 143 1 0 5 [] [] = true := by decide +kernel
theorem rf_f_M_gives_189 : rf_Fb rf_m_M_gives 189 192 (.if_icmp .le 30) 219 0 0 0 [] [] = true := by decide +kernel
theorem rf_f_M_gives_192 : rf_Fb rf_m_M_gives 192 193 (.aload_n 0) 0 0 0 0 [] [] = true := by decide +kernel
theorem rf_f_M_gives_193 : rf_Fb rf_m_M_gives 193 196 (.getfield 41) 5 17 2 0 [] [] = true := by decide +kernel
theorem rf_f_M_gives_196 : rf_Fb rf_m_M_gives 196 198 (.bipush 36) 0 0 0 0 [] [] = true := by decide +kernel
theorem rf_f_M_gives_198 : rf_Fb rf_m_M_gives 198 200 (.iload 5) 0 0 0 0 [] [] = true := by decide +kernel
theorem rf_f_M_gives_200 : rf_Fb rf_m_M_gives 200 201 (.iastore) 0 0 0 0 [] [] = true := by decide +kernel
theorem rf_f_M_gives_201 : rf_Fb rf_m_M_gives 201 202 (.aload_n 0) 0 0 0 0 [] [] = true := by decide +kernel
theorem rf_f_M_gives_202 : rf_Fb rf_m_M_gives 202 205 (.getfield 41) 5 17 2 0 [] [] = true := by decide +kernel
theorem rf_f_M_gives_205 : rf_Fb rf_m_M_gives 205 207 (.bipush 31) 0 0 0 0 [] [] = true := by decide +kernel
theorem rf_f_M_gives_207 : rf_Fb rf_m_M_gives 207 208 (.iconst 0) 0 0 0 0 [] [] = true := by decide +kernel
theorem rf_f_M_gives_208 : rf_Fb rf_m_M_gives 208 209 (.iastore) 0 0 0 0 [] [] = true := by decide +kernel
theorem rf_f_M_gives_209 : rf_Fb rf_m_M_gives 209 210 (.aload_n 0) 0 0 0 0 [] [] = true := by decide +kernel
theorem rf_f_M_gives_210 : rf_Fb rf_m_M_gives 210 213 (.getfield 41) 5 17 2 0 [] [] = true := by decide +kernel
theorem rf_f_M_gives_213 : rf_Fb rf_m_M_gives 213 215 (.bipush 32) 0 0 0 0 [] [] = true := by decide +kernel
theorem rf_f_M_gives_215 : rf_Fb rf_m_M_gives 215 216 (.iconst 0) 0 0 0 0 [] [] = true := by decide +kernel
theorem rf_f_M_gives_216 : rf_Fb rf_m_M_gives 216 217 (.iastore) 0 0 0 0 [] [] = true := by decide +kernel
theorem rf_f_M_gives_217 : rf_Fb rf_m_M_gives 217 218 (.iconst 3) 0 0 0 0 [] [] = true := by decide +kernel
theorem rf_f_M_gives_218 : rf_Fb rf_m_M_gives 218 219 (.ireturn) 0 0 0 0 [] [] = true := by decide +kernel
theorem rf_f_M_gives_219 : rf_Fb rf_m_M_gives 219 220 (.aload_n 0) 0 0 0 0 [] [] = true := by decide +kernel
theorem rf_f_M_gives_220 : rf_Fb rf_m_M_gives 220 223 (.getfield 41) 5 17 2 0 [] [] = true := by decide +kernel
theorem rf_f_M_gives_223 : rf_Fb rf_m_M_gives 223 225 (.bipush 33) 0 0 0 0 [] [] = true := by decide +kernel
theorem rf_f_M_gives_225 : rf_Fb rf_m_M_gives 225 226 (.dup2) 0 0 0 0 [] [] = true := by decide +kernel
theorem rf_f_M_gives_226 : rf_Fb rf_m_M_gives 226 227 (.iaload) 0 0 0 0 [] [] = true := by decide +kernel
theorem rf_f_M_gives_227 : rf_Fb rf_m_M_gives 227 228 (.iconst 1) 0 0 0 0 [] [] = true := by decide +kernel
theorem rf_f_M_gives_228 : rf_Fb rf_m_M_gives 228 229 (.iadd) 0 0 0 0 [] [] = true := by decide +kernel
theorem rf_f_M_gives_229 : rf_Fb rf_m_M_gives 229 230 (.iastore) 0 0 0 0 [] [] = true := by decide +kernel
theorem rf_f_M_gives_230 : rf_Fb rf_m_M_gives 230 231 (.iconst 2) 0 0 0 0 [] [] = true := by decide +kernel
theorem rf_f_M_gives_231 : rf_Fb rf_m_M_gives 231 232 (.ireturn) 0 0 0 0 [] [true, false, false, true, false, true, true] = true := by decide +kernel
theorem rf_f_M_gives_232 : rf_Fb rf_m_M_gives 232 234 (.iload 6) 0 0 0 0 [] [] = true := by decide +kernel
theorem rf_f_M_gives_234 : rf_Fb rf_m_M_gives 234 237 (.ifCond .eq 36) 270 0 0 0 [] [] = true := by decide +kernel
theorem rf_f_M_gives_237 : rf_Fb rf_m_M_gives 237 238 (.iload_n 3) 0 0 0 0 [] [] = true := by decide +kernel
theorem rf_f_M_gives_238 : rf_Fb rf_m_M_gives 238 239 (.aload_n 0) 0 0 0 0 [] [] = true := by decide +kernel
theorem rf_f_M_gives_239 : rf_Fb rf_m_M_gives 239 241 (.iload 5) 0 0 0 0 [] [] = true := by decide +kernel
theorem rf_f_M_gives_241 : rf_Fb rf_m_M_gives 241 244 (.invokevirtual 141) 159 1 0 5 [] [] = true := by decide +kernel
theorem rf_f_M_gives_244 : rf_Fb rf_m_M_gives 244 247 (.if_icmp .lt 26) 270 0 0 0 [] [] = true := by decide +kernel
theorem rf_f_M_gives_247 : rf_Fb rf_m_M_gives 247 248 (.aload_n 0) 0 0 0 0 [] [] = true := by decide +kernel
theorem rf_f_M_gives_248 : rf_Fb rf_m_M_gives 248 251 (.getfield 41) 5 17 2 0 [] [] = true := by decide +kernel
theorem rf_f_M_gives_251 : rf_Fb rf_m_M_gives 251 253 (.bipush 31) 0 0 0 0 [] [] = true := by decide +kernel
theorem rf_f_M_gives_253 : rf_Fb rf_m_M_gives 253 254 (.iaload) 0 0 0 0 [] [] = true := by decide +kernel
theorem rf_f_M_gives_254 : rf_Fb rf_m_M_gives 254 257 (.ifCond .ne 16) 270 0 0 0 [] [] = true := by decide +kernel
theorem rf_f_M_gives_257 : rf_Fb rf_m_M_gives 257 258 (.aload_n 0) 0 0 0 0 [] [] = true := by decide +kernel
theorem rf_f_M_gives_258 : rf_Fb rf_m_M_gives 258 261 (.getfield 41) 5 17 2 0 [] [] = true := by decide +kernel
theorem rf_f_M_gives_261 : rf_Fb rf_m_M_gives 261 263 (.bipush 35) 0 0 0 0 [] [] = true := by decide +kernel
theorem rf_f_M_gives_263 : rf_Fb rf_m_M_gives 263 264 (.dup2) 0 0 0 0 [] [] = true := by decide +kernel
theorem rf_f_M_gives_264 : rf_Fb rf_m_M_gives 264 265 (.iaload) 0 0 0 0 [] [] = true := by decide +kernel
theorem rf_f_M_gives_265 : rf_Fb rf_m_M_gives 265 266 (.iconst 1) 0 0 0 0 [] [] = true := by decide +kernel
theorem rf_f_M_gives_266 : rf_Fb rf_m_M_gives 266 267 (.iadd) 0 0 0 0 [] [] = true := by decide +kernel
theorem rf_f_M_gives_267 : rf_Fb rf_m_M_gives 267 268 (.iastore) 0 0 0 0 [] [] = true := by decide +kernel
theorem rf_f_M_gives_268 : rf_Fb rf_m_M_gives 268 269 (.iconst 4) 0 0 0 0 [] [] = true := by decide +kernel
theorem rf_f_M_gives_269 : rf_Fb rf_m_M_gives 269 270 (.ireturn) 0 0 0 0 [] [true, false, false, true, false, true, false] = true := by decide +kernel
theorem rf_f_M_gives_270 : rf_Fb rf_m_M_gives 270 271 (.iload_n 3) 0 0 0 0 [] [] = true := by decide +kernel
theorem rf_f_M_gives_271 : rf_Fb rf_m_M_gives 271 272 (.aload_n 0) 0 0 0 0 [] [] = true := by decide +kernel
theorem rf_f_M_gives_272 : rf_Fb rf_m_M_gives 272 274 (.iload 5) 0 0 0 0 [] [] = true := by decide +kernel
theorem rf_f_M_gives_274 : rf_Fb rf_m_M_gives 274 277 (.invokevirtual 141) 159 1 0 5 [] [] = true := by decide +kernel
theorem rf_f_M_gives_277 : rf_Fb rf_m_M_gives 277 280 (.if_icmp .ge 23) 300 0 0 0 [] [] = true := by decide +kernel
theorem rf_f_M_gives_280 : rf_Fb rf_m_M_gives 280 281 (.aload_n 0) 0 0 0 0 [] [] = true := by decide +kernel
theorem rf_f_M_gives_281 : rf_Fb rf_m_M_gives 281 284 (.getfield 41) 5 17 2 0 [] [] = true := by decide +kernel
theorem rf_f_M_gives_284 : rf_Fb rf_m_M_gives 284 286 (.bipush 31) 0 0 0 0 [] [] = true := by decide +kernel
theorem rf_f_M_gives_286 : rf_Fb rf_m_M_gives 286 287 (.iaload) 0 0 0 0 [] [] = true := by decide +kernel
theorem rf_f_M_gives_287 : rf_Fb rf_m_M_gives 287 290 (.ifCond .ne 13) 300 0 0 0 [] [] = true := by decide +kernel
theorem rf_f_M_gives_290 : rf_Fb rf_m_M_gives 290 291 (.aload_n 0) 0 0 0 0 [] [] = true := by decide +kernel
theorem rf_f_M_gives_291 : rf_Fb rf_m_M_gives 291 294 (.getfield 41) 5 17 2 0 [] [] = true := by decide +kernel
theorem rf_f_M_gives_294 : rf_Fb rf_m_M_gives 294 296 (.bipush 33) 0 0 0 0 [] [] = true := by decide +kernel
theorem rf_f_M_gives_296 : rf_Fb rf_m_M_gives 296 297 (.iconst 0) 0 0 0 0 [] [] = true := by decide +kernel
theorem rf_f_M_gives_297 : rf_Fb rf_m_M_gives 297 298 (.iastore) 0 0 0 0 [] [] = true := by decide +kernel
theorem rf_f_M_gives_298 : rf_Fb rf_m_M_gives 298 299 (.iconst 5) 0 0 0 0 [] [] = true := by decide +kernel
theorem rf_f_M_gives_299 : rf_Fb rf_m_M_gives 299 300 (.ireturn) 0 0 0 0 [] [] = true := by decide +kernel
theorem rf_f_M_gives_300 : rf_Fb rf_m_M_gives 300 301 (.iconst 0) 0 0 0 0 [] [] = true := by decide +kernel
theorem rf_f_M_gives_301 : rf_Fb rf_m_M_gives 301 302 (.ireturn) 0 0 0 0 [] [] = true := by decide +kernel
set_option maxRecDepth 20000 in
set_option maxHeartbeats 2000000 in
theorem rf_e_M_gives (d : Nat) (o : Nat) (a1 : Int) (a2 : Int) (h : rf_H) : rf_call (d + 1) 156 [.inr (.inr (some o)), .inl a1, .inl a2] h = (bif rf_isO h.1 o 5 then ((rf_call d 157 [.inr (.inr (some o)), .inl a2] h).bind fun q2 => rf_kI q2 fun x3 h1 => ((rf_gR h1 5 o 17).bind fun x4 => (rf_nn x4 fun k5 => ((rf_sI h1 k5 30 0).bind fun h6 => (if x3 < (rf_w (2 * a1)) then ((rf_gR h6 5 o 17).bind fun x13 => ((rf_gR h6 5 o 17).bind fun x14 => (rf_nn x14 fun k15 => ((rf_aI h6 k15 29).bind fun x16 => ((rf_call d 158 [.inl 9, .inl (rf_w (x16 + 1))] h6).bind fun q18 => rf_kI q18 fun x19 h17 => (rf_nn x13 fun k20 => ((rf_sI h17 k20 29 x19).bind fun h21 => ((rf_gR h21 5 o 17).bind fun x22 => ((rf_gR h21 5 o 17).bind fun x23 => (rf_nn x23 fun k24 => ((rf_aI h21 k24 27).bind fun x25 => ((rf_call d 147 [.inl 0, .inl (rf_w (x25 - 2))] h21).bind fun q27 => rf_kI q27 fun x28 h26 => (rf_nn x22 fun k29 => ((rf_sI h26 k29 27 x28).bind fun h30 => some (some (.inl 1), h30))))))))))))))) else ((rf_gR h6 5 o 17).bind fun x7 => (rf_nn x7 fun k8 => ((rf_aI h6 k8 27).bind fun x9 => (if 0 < a1 then ((rf_gR h6 5 o 17).bind fun x10 => (rf_nn x10 fun k11 => ((rf_aI h6 k11 27).bind fun x12 => (if 0 < x12 then rf_j_M_gives_95 d o (rf_w (2 * a1)) x7 27 x9 1 h6 else rf_j_M_gives_95 d o (rf_w (2 * a1)) x7 27 x9 0 h6)))) else rf_j_M_gives_95 d o (rf_w (2 * a1)) x7 27 x9 0 h6))))))))) else none) := by
  show rf_den (rf_call d) (rf_mt 156) _ = _
  rw [rf_u_M_gives]
  exact ((rf_s_iconst rf_f_M_gives_0 (rf_m0 _) (rf_s_iload_n rf_f_M_gives_1 rfl (rf_m0 _) (rf_s_imul rf_f_M_gives_2 (rf_m0 _) (rf_s_istore_n (L' := [some (.inr (.inr (some o))), some (.inl a1), some (.inl a2), some (.inl (rf_w (2 * a1))), none, none, none]) rf_f_M_gives_3 rfl (rf_s_aload_n rf_f_M_gives_4 rfl (rf_m0 _) (rf_s_iload_n rf_f_M_gives_5 rfl (rf_m0 _) (rf_s_invV0S rf_f_M_gives_6 rfl rfl (rf_m0 _) fun q2 x3 h1 => (rf_s_istore (L' := [some (.inr (.inr (some o))), some (.inl a1), some (.inl a2), some (.inl (rf_w (2 * a1))), some (.inl x3), none, none]) rf_f_M_gives_9 rfl (rf_s_aload_n rf_f_M_gives_11 rfl (rf_m0 _) (rf_s_getAS rf_f_M_gives_12 (rf_m0 _) fun x4 => (rf_s_bipush rf_f_M_gives_15 (rf_m0 _) (rf_s_iconst rf_f_M_gives_17 (rf_m0 _) (rf_s_iastR rf_f_M_gives_18 (rf_m0 _) fun k5 h6 => (rf_s_iload_n rf_f_M_gives_19 rfl (rf_m0 _) (rf_s_iload rf_f_M_gives_20 rfl (rf_m0 _) (rf_s_icmp_le rf_f_M_gives_22 rfl (rf_m0 _) (rf_m0 _) (rf_s_aload_n rf_f_M_gives_68 rfl (rf_m0 _) (rf_s_getAS rf_f_M_gives_69 (rf_m0 _) fun x7 => (rf_s_bipush rf_f_M_gives_72 (rf_m0 _) (rf_s_dup2 rf_f_M_gives_74 (rf_m0 _) (rf_s_ialdR rf_f_M_gives_75 (rf_m0 _) fun k8 x9 => (rf_s_iload_n rf_f_M_gives_76 rfl (rf_m0 _) (rf_s_if_le rf_f_M_gives_77 rfl (rf_m0 _) (rf_m0 _) (rf_s_iconst rf_f_M_gives_94 rfl rfl) (rf_s_aload_n rf_f_M_gives_80 rfl (rf_m0 _) (rf_s_getAS rf_f_M_gives_81 (rf_m0 _) fun x10 => (rf_s_bipush rf_f_M_gives_84 (rf_m0 _) (rf_s_ialdR rf_f_M_gives_86 (rf_m0 _) fun k11 x12 => (rf_s_if_le rf_f_M_gives_87 rfl (rf_m0 _) (rf_m0 _) (rf_s_iconst rf_f_M_gives_94 rfl rfl) (rf_s_iconst rf_f_M_gives_90 (rf_m0 _) (rf_s_goto rf_f_M_gives_91 rfl rfl rfl)))))))))))))) (rf_s_aload_n rf_f_M_gives_25 rfl (rf_m0 _) (rf_s_getAS rf_f_M_gives_26 (rf_m0 _) fun x13 => (rf_s_bipush rf_f_M_gives_29 (rf_m0 _) (rf_s_bipush rf_f_M_gives_31 (rf_m0 _) (rf_s_aload_n rf_f_M_gives_33 rfl (rf_m0 _) (rf_s_getAS rf_f_M_gives_34 (rf_m0 _) fun x14 => (rf_s_bipush rf_f_M_gives_37 (rf_m0 _) (rf_s_ialdR rf_f_M_gives_39 (rf_m0 _) fun k15 x16 => (rf_s_iconst rf_f_M_gives_40 (rf_m0 _) (rf_s_iadd rf_f_M_gives_41 (rf_m0 _) (rf_s_invS0 rf_f_M_gives_42 rfl rfl (rf_m0 _) fun q18 x19 h17 => (rf_s_iastR rf_f_M_gives_45 (rf_m0 _) fun k20 h21 => (rf_s_aload_n rf_f_M_gives_46 rfl (rf_m0 _) (rf_s_getAS rf_f_M_gives_47 (rf_m0 _) fun x22 => (rf_s_bipush rf_f_M_gives_50 (rf_m0 _) (rf_s_iconst rf_f_M_gives_52 (rf_m0 _) (rf_s_aload_n rf_f_M_gives_53 rfl (rf_m0 _) (rf_s_getAS rf_f_M_gives_54 (rf_m0 _) fun x23 => (rf_s_bipush rf_f_M_gives_57 (rf_m0 _) (rf_s_ialdR rf_f_M_gives_59 (rf_m0 _) fun k24 x25 => (rf_s_iconst rf_f_M_gives_60 (rf_m0 _) (rf_s_isub rf_f_M_gives_61 (rf_m0 _) (rf_s_invS0 rf_f_M_gives_62 rfl rfl (rf_m0 _) fun q27 x28 h26 => (rf_s_iastR rf_f_M_gives_65 (rf_m0 _) fun k29 h30 => (rf_s_iconst rf_f_M_gives_66 (rf_m0 _) (rf_s_iret rf_f_M_gives_67)))))))))))))))))))))))))))))))))))))))))) : rf_den (rf_call d) rf_m_M_gives (0, [some (.inr (.inr (some o))), some (.inl a1), some (.inl a2), none, none, none, none], [], h) = _)
set_option maxRecDepth 20000 in
set_option maxHeartbeats 2000000 in
theorem rf_e_M_gives_95 (d : Nat) (o : Nat) (l3 : Int) (s0 : Option Nat) (s1 : Int) (s2 : Int) (s3 : Int) (h : rf_H) : rf_j_M_gives_95 d o l3 s0 s1 s2 s3 h = (rf_nn s0 fun k1 => ((rf_sI h k1 s1 (rf_w (s2 - s3))).bind fun h2 => ((rf_gR h2 5 o 17).bind fun x3 => (rf_nn x3 fun k4 => ((rf_aI h2 k4 33).bind fun x5 => ((rf_gR h2 5 o 17).bind fun x6 => (rf_nn x6 fun k7 => ((rf_aI h2 k7 36).bind fun x8 => (if x5 = x8 then rf_j_M_gives_123 d o l3 x5 1 h2 else rf_j_M_gives_123 d o l3 x5 0 h2))))))))) :=
  ((rf_s_isub rf_f_M_gives_95 (rf_m0 _) (rf_s_iastR rf_f_M_gives_96 (rf_m0 _) fun k1 h2 => (rf_s_aload_n rf_f_M_gives_97 rfl (rf_m0 _) (rf_s_getAS rf_f_M_gives_98 (rf_m0 _) fun x3 => (rf_s_bipush rf_f_M_gives_101 (rf_m0 _) (rf_s_ialdR rf_f_M_gives_103 (rf_m0 _) fun k4 x5 => (rf_s_istore (L' := [some (.inr (.inr (some o))), none, none, some (.inl l3), none, some (.inl x5), none]) rf_f_M_gives_104 rfl (rf_s_iload rf_f_M_gives_106 rfl (rf_m0 _) (rf_s_aload_n rf_f_M_gives_108 rfl (rf_m0 _) (rf_s_getAS rf_f_M_gives_109 (rf_m0 _) fun x6 => (rf_s_bipush rf_f_M_gives_112 (rf_m0 _) (rf_s_ialdR rf_f_M_gives_114 (rf_m0 _) fun k7 x8 => (rf_s_icmp_ne rf_f_M_gives_115 rfl (rf_m0 _) (rf_m0 _) (rf_s_iconst rf_f_M_gives_122 rfl rfl) (rf_s_iconst rf_f_M_gives_118 (rf_m0 _) (rf_s_goto rf_f_M_gives_119 rfl rfl rfl))))))))))))))) : rf_den (rf_call d) rf_m_M_gives (95, [some (.inr (.inr (some o))), none, none, some (.inl l3), none, none, none], [.inl s3, .inl s2, .inl s1, .inr (.inr s0)], h) = _)
set_option maxRecDepth 20000 in
set_option maxHeartbeats 2000000 in
theorem rf_e_M_gives_123 (d : Nat) (o : Nat) (l3 : Int) (l5 : Int) (s0 : Int) (h : rf_H) : rf_j_M_gives_123 d o l3 l5 s0 h = (if s0 = 0 then (bif rf_isO h.1 o 5 then ((rf_call d 159 [.inr (.inr (some o)), .inl (rf_w (l5 + 1))] h).bind fun q2 => rf_kI q2 fun x3 h1 => (if l3 < x3 then rf_j_M_gives_232 d o l3 l5 s0 h1 else ((rf_gR h1 5 o 17).bind fun x4 => (rf_nn x4 fun k5 => ((rf_aI h1 k5 36).bind fun x6 => (if (rf_w (l5 + 1)) < x6 then rf_j_M_gives_166 d o l3 l5 h1 else ((rf_gR h1 5 o 17).bind fun x7 => (rf_nn x7 fun k8 => ((rf_aI h1 k8 31).bind fun x9 => (if x9 = 0 then rf_j_M_gives_166 d o l3 l5 h1 else rf_j_M_gives_232 d o l3 l5 s0 h1)))))))))) else none) else rf_j_M_gives_232 d o l3 l5 s0 h) :=
  ((rf_s_istore (L' := [some (.inr (.inr (some o))), none, none, some (.inl l3), none, some (.inl l5), some (.inl s0)]) rf_f_M_gives_123 rfl (rf_s_iload rf_f_M_gives_125 rfl (rf_m0 _) (rf_s_if_ne rf_f_M_gives_127 rfl rfl (rf_m0 _) rfl (rf_s_iload_n rf_f_M_gives_130 rfl (rf_m0 _) (rf_s_aload_n rf_f_M_gives_131 rfl (rf_m0 _) (rf_s_iload rf_f_M_gives_132 rfl (rf_m0 _) (rf_s_iconst rf_f_M_gives_134 (rf_m0 _) (rf_s_iadd rf_f_M_gives_135 (rf_m0 _) (rf_s_invV0S rf_f_M_gives_136 rfl rfl (rf_m0 _) fun q2 x3 h1 => (rf_s_icmp_lt rf_f_M_gives_139 rfl rfl (rf_m0 _) rfl (rf_s_iload rf_f_M_gives_142 rfl (rf_m0 _) (rf_s_iconst rf_f_M_gives_144 (rf_m0 _) (rf_s_iadd rf_f_M_gives_145 (rf_m0 _) (rf_s_aload_n rf_f_M_gives_146 rfl (rf_m0 _) (rf_s_getAS rf_f_M_gives_147 (rf_m0 _) fun x4 => (rf_s_bipush rf_f_M_gives_150 (rf_m0 _) (rf_s_ialdR rf_f_M_gives_152 (rf_m0 _) fun k5 x6 => (rf_s_icmp_lt rf_f_M_gives_153 rfl rfl (rf_m0 _) rfl (rf_s_aload_n rf_f_M_gives_156 rfl (rf_m0 _) (rf_s_getAS rf_f_M_gives_157 (rf_m0 _) fun x7 => (rf_s_bipush rf_f_M_gives_160 (rf_m0 _) (rf_s_ialdR rf_f_M_gives_162 (rf_m0 _) fun k8 x9 => (rf_s_if_ne rf_f_M_gives_163 rfl rfl rfl rfl rfl))))))))))))))))))))))) : rf_den (rf_call d) rf_m_M_gives (123, [some (.inr (.inr (some o))), none, none, some (.inl l3), none, some (.inl l5), none], [.inl s0], h) = _)
set_option maxRecDepth 20000 in
set_option maxHeartbeats 2000000 in
theorem rf_e_M_gives_166 (d : Nat) (o : Nat) (l3 : Int) (l5 : Int) (h : rf_H) : rf_j_M_gives_166 d o l3 l5 h = (bif rf_isO h.1 o 5 then ((rf_call d 159 [.inr (.inr (some o)), .inl (rf_w (l5 + 1))] h).bind fun q2 => rf_kI q2 fun x3 h1 => (bif rf_isO h1.1 o 5 then ((rf_call d 145 [.inr (.inr (some o)), .inl l5] h1).bind fun q5 => rf_kI q5 fun x6 h4 => (bif rf_isO h4.1 o 5 then ((rf_call d 143 [.inr (.inr (some o)), .inl l5] h4).bind fun q8 => rf_kI q8 fun x9 h7 => (if x9 < (rf_w ((rf_w (l3 - x3)) + x6)) then ((rf_gR h7 5 o 17).bind fun x15 => (rf_nn x15 fun k16 => ((rf_sI h7 k16 36 l5).bind fun h17 => ((rf_gR h17 5 o 17).bind fun x18 => (rf_nn x18 fun k19 => ((rf_sI h17 k19 31 0).bind fun h20 => ((rf_gR h20 5 o 17).bind fun x21 => (rf_nn x21 fun k22 => ((rf_sI h20 k22 32 0).bind fun h23 => some (some (.inl 3), h23)))))))))) else ((rf_gR h7 5 o 17).bind fun x10 => (rf_nn x10 fun k11 => ((rf_aI h7 k11 33).bind fun x12 => (rf_nn x10 fun k13 => ((rf_sI h7 k13 33 (rf_w (x12 + 1))).bind fun h14 => some (some (.inl 2), h14)))))))) else none)) else none)) else none) :=
  ((rf_s_iload_n rf_f_M_gives_166 rfl (rf_m0 _) (rf_s_aload_n rf_f_M_gives_167 rfl (rf_m0 _) (rf_s_iload rf_f_M_gives_168 rfl (rf_m0 _) (rf_s_iconst rf_f_M_gives_170 (rf_m0 _) (rf_s_iadd rf_f_M_gives_171 (rf_m0 _) (rf_s_invV0S rf_f_M_gives_172 rfl rfl (rf_m0 _) fun q2 x3 h1 => (rf_s_isub rf_f_M_gives_175 (rf_m0 _) (rf_s_aload_n rf_f_M_gives_176 rfl (rf_m0 _) (rf_s_iload rf_f_M_gives_177 rfl (rf_m0 _) (rf_s_invV0S rf_f_M_gives_179 rfl rfl (rf_m0 _) fun q5 x6 h4 => (rf_s_iadd rf_f_M_gives_182 (rf_m0 _) (rf_s_aload_n rf_f_M_gives_183 rfl (rf_m0 _) (rf_s_iload rf_f_M_gives_184 rfl (rf_m0 _) (rf_s_invV0S rf_f_M_gives_186 rfl rfl (rf_m0 _) fun q8 x9 h7 => (rf_s_icmp_le rf_f_M_gives_189 rfl (rf_m0 _) (rf_m0 _) (rf_s_aload_n rf_f_M_gives_219 rfl (rf_m0 _) (rf_s_getAS rf_f_M_gives_220 (rf_m0 _) fun x10 => (rf_s_bipush rf_f_M_gives_223 (rf_m0 _) (rf_s_dup2 rf_f_M_gives_225 (rf_m0 _) (rf_s_ialdR rf_f_M_gives_226 (rf_m0 _) fun k11 x12 => (rf_s_iconst rf_f_M_gives_227 (rf_m0 _) (rf_s_iadd rf_f_M_gives_228 (rf_m0 _) (rf_s_iastR rf_f_M_gives_229 (rf_m0 _) fun k13 h14 => (rf_s_iconst rf_f_M_gives_230 (rf_m0 _) (rf_s_iret rf_f_M_gives_231)))))))))) (rf_s_aload_n rf_f_M_gives_192 rfl (rf_m0 _) (rf_s_getAS rf_f_M_gives_193 (rf_m0 _) fun x15 => (rf_s_bipush rf_f_M_gives_196 (rf_m0 _) (rf_s_iload rf_f_M_gives_198 rfl (rf_m0 _) (rf_s_iastR rf_f_M_gives_200 (rf_m0 _) fun k16 h17 => (rf_s_aload_n rf_f_M_gives_201 rfl (rf_m0 _) (rf_s_getAS rf_f_M_gives_202 (rf_m0 _) fun x18 => (rf_s_bipush rf_f_M_gives_205 (rf_m0 _) (rf_s_iconst rf_f_M_gives_207 (rf_m0 _) (rf_s_iastR rf_f_M_gives_208 (rf_m0 _) fun k19 h20 => (rf_s_aload_n rf_f_M_gives_209 rfl (rf_m0 _) (rf_s_getAS rf_f_M_gives_210 (rf_m0 _) fun x21 => (rf_s_bipush rf_f_M_gives_213 (rf_m0 _) (rf_s_iconst rf_f_M_gives_215 (rf_m0 _) (rf_s_iastR rf_f_M_gives_216 (rf_m0 _) fun k22 h23 => (rf_s_iconst rf_f_M_gives_217 (rf_m0 _) (rf_s_iret rf_f_M_gives_218)))))))))))))))))))))))))))))))) : rf_den (rf_call d) rf_m_M_gives (166, [some (.inr (.inr (some o))), none, none, some (.inl l3), none, some (.inl l5), none], [], h) = _)
set_option maxRecDepth 20000 in
set_option maxHeartbeats 2000000 in
theorem rf_e_M_gives_232 (d : Nat) (o : Nat) (l3 : Int) (l5 : Int) (l6 : Int) (h : rf_H) : rf_j_M_gives_232 d o l3 l5 l6 h = (if l6 = 0 then rf_j_M_gives_270 d o l3 l5 h else (bif rf_isO h.1 o 5 then ((rf_call d 159 [.inr (.inr (some o)), .inl l5] h).bind fun q2 => rf_kI q2 fun x3 h1 => (if l3 < x3 then rf_j_M_gives_270 d o l3 l5 h1 else ((rf_gR h1 5 o 17).bind fun x4 => (rf_nn x4 fun k5 => ((rf_aI h1 k5 31).bind fun x6 => (if x6 = 0 then ((rf_gR h1 5 o 17).bind fun x7 => (rf_nn x7 fun k8 => ((rf_aI h1 k8 35).bind fun x9 => (rf_nn x7 fun k10 => ((rf_sI h1 k10 35 (rf_w (x9 + 1))).bind fun h11 => some (some (.inl 4), h11)))))) else rf_j_M_gives_270 d o l3 l5 h1)))))) else none)) :=
  ((rf_s_iload rf_f_M_gives_232 rfl (rf_m0 _) (rf_s_if_eq rf_f_M_gives_234 rfl rfl (rf_m0 _) rfl (rf_s_iload_n rf_f_M_gives_237 rfl (rf_m0 _) (rf_s_aload_n rf_f_M_gives_238 rfl (rf_m0 _) (rf_s_iload rf_f_M_gives_239 rfl (rf_m0 _) (rf_s_invV0S rf_f_M_gives_241 rfl rfl (rf_m0 _) fun q2 x3 h1 => (rf_s_icmp_lt rf_f_M_gives_244 rfl rfl (rf_m0 _) rfl (rf_s_aload_n rf_f_M_gives_247 rfl (rf_m0 _) (rf_s_getAS rf_f_M_gives_248 (rf_m0 _) fun x4 => (rf_s_bipush rf_f_M_gives_251 (rf_m0 _) (rf_s_ialdR rf_f_M_gives_253 (rf_m0 _) fun k5 x6 => (rf_s_if_ne rf_f_M_gives_254 rfl rfl (rf_m0 _) rfl (rf_s_aload_n rf_f_M_gives_257 rfl (rf_m0 _) (rf_s_getAS rf_f_M_gives_258 (rf_m0 _) fun x7 => (rf_s_bipush rf_f_M_gives_261 (rf_m0 _) (rf_s_dup2 rf_f_M_gives_263 (rf_m0 _) (rf_s_ialdR rf_f_M_gives_264 (rf_m0 _) fun k8 x9 => (rf_s_iconst rf_f_M_gives_265 (rf_m0 _) (rf_s_iadd rf_f_M_gives_266 (rf_m0 _) (rf_s_iastR rf_f_M_gives_267 (rf_m0 _) fun k10 h11 => (rf_s_iconst rf_f_M_gives_268 (rf_m0 _) (rf_s_iret rf_f_M_gives_269)))))))))))))))))))))) : rf_den (rf_call d) rf_m_M_gives (232, [some (.inr (.inr (some o))), none, none, some (.inl l3), none, some (.inl l5), some (.inl l6)], [], h) = _)
set_option maxRecDepth 20000 in
set_option maxHeartbeats 2000000 in
theorem rf_e_M_gives_270 (d : Nat) (o : Nat) (l3 : Int) (l5 : Int) (h : rf_H) : rf_j_M_gives_270 d o l3 l5 h = (bif rf_isO h.1 o 5 then ((rf_call d 159 [.inr (.inr (some o)), .inl l5] h).bind fun q2 => rf_kI q2 fun x3 h1 => (if l3 < x3 then ((rf_gR h1 5 o 17).bind fun x4 => (rf_nn x4 fun k5 => ((rf_aI h1 k5 31).bind fun x6 => (if x6 = 0 then ((rf_gR h1 5 o 17).bind fun x7 => (rf_nn x7 fun k8 => ((rf_sI h1 k8 33 0).bind fun h9 => some (some (.inl 5), h9)))) else some (some (.inl 0), h1))))) else some (some (.inl 0), h1))) else none) :=
  ((rf_s_iload_n rf_f_M_gives_270 rfl (rf_m0 _) (rf_s_aload_n rf_f_M_gives_271 rfl (rf_m0 _) (rf_s_iload rf_f_M_gives_272 rfl (rf_m0 _) (rf_s_invV0S rf_f_M_gives_274 rfl rfl (rf_m0 _) fun q2 x3 h1 => (rf_s_icmp_ge rf_f_M_gives_277 rfl (rf_m0 _) (rf_m0 _) (rf_s_iconst rf_f_M_gives_300 (rf_m0 _) (rf_s_iret rf_f_M_gives_301)) (rf_s_aload_n rf_f_M_gives_280 rfl (rf_m0 _) (rf_s_getAS rf_f_M_gives_281 (rf_m0 _) fun x4 => (rf_s_bipush rf_f_M_gives_284 (rf_m0 _) (rf_s_ialdR rf_f_M_gives_286 (rf_m0 _) fun k5 x6 => (rf_s_if_ne rf_f_M_gives_287 rfl (rf_m0 _) (rf_m0 _) (rf_s_iconst rf_f_M_gives_300 (rf_m0 _) (rf_s_iret rf_f_M_gives_301)) (rf_s_aload_n rf_f_M_gives_290 rfl (rf_m0 _) (rf_s_getAS rf_f_M_gives_291 (rf_m0 _) fun x7 => (rf_s_bipush rf_f_M_gives_294 (rf_m0 _) (rf_s_iconst rf_f_M_gives_296 (rf_m0 _) (rf_s_iastR rf_f_M_gives_297 (rf_m0 _) fun k8 h9 => (rf_s_iconst rf_f_M_gives_298 (rf_m0 _) (rf_s_iret rf_f_M_gives_299))))))))))))))))) : rf_den (rf_call d) rf_m_M_gives (270, [some (.inr (.inr (some o))), none, none, some (.inl l3), none, some (.inl l5), none], [], h) = _)
theorem rf_u_M_gripOn : rf_mt 157 = rf_m_M_gripOn := rfl
theorem rf_f_M_gripOn_0 : rf_Fb rf_m_M_gripOn 0 1 (.iconst 0) 0 0 0 0 [] [] = true := by decide +kernel
theorem rf_f_M_gripOn_1 : rf_Fb rf_m_M_gripOn 1 2 (.aload_n 0) 0 0 0 0 [] [] = true := by decide +kernel
theorem rf_f_M_gripOn_2 : rf_Fb rf_m_M_gripOn 2 5 (.getfield 41) 5 17 2 0 [] [] = true := by decide +kernel
theorem rf_f_M_gripOn_5 : rf_Fb rf_m_M_gripOn 5 6 (.iconst 0) 0 0 0 0 [] [] = true := by decide +kernel
theorem rf_f_M_gripOn_6 : rf_Fb rf_m_M_gripOn 6 7 (.iaload) 0 0 0 0 [] [] = true := by decide +kernel
theorem rf_f_M_gripOn_7 : rf_Fb rf_m_M_gripOn 7 8 (.iconst 3) 0 0 0 0 [] [] = true := by decide +kernel
theorem rf_f_M_gripOn_8 : rf_Fb rf_m_M_gripOn 8 9 (.iload_n 1) 0 0 0 0 [] [] = true := by decide +kernel
theorem rf_f_M_gripOn_9 : rf_Fb rf_m_M_gripOn 9 10 (.isub) 0 0 0 0 [] [] = true := by decide +kernel
theorem rf_f_M_gripOn_10 : rf_Fb rf_m_M_gripOn 10 11 (.imul) 0 0 0 0 [] [] = true := by decide +kernel
theorem rf_f_M_gripOn_11 : rf_Fb rf_m_M_gripOn 11 12 (.aload_n 0) 0 0 0 0 [] [] = true := by decide +kernel
theorem rf_f_M_gripOn_12 : rf_Fb rf_m_M_gripOn 12 15 (.getfield 41) 5 17 2 0 [] [] = true := by decide +kernel
theorem rf_f_M_gripOn_15 : rf_Fb rf_m_M_gripOn 15 17 (.bipush 29) 0 0 0 0 [] [] = true := by decide +kernel
theorem rf_f_M_gripOn_17 : rf_Fb rf_m_M_gripOn 17 18 (.iaload) 0 0 0 0 [] [] = true := by decide +kernel
theorem rf_f_M_gripOn_18 : rf_Fb rf_m_M_gripOn 18 19 (.isub) 0 0 0 0 [] [] = true := by decide +kernel
theorem rf_f_M_gripOn_19 : rf_Fb rf_m_M_gripOn 19 22 (.invokestatic 128) 147 2 0 0 [] [] = true := by decide +kernel
theorem rf_f_M_gripOn_22 : rf_Fb rf_m_M_gripOn 22 23 (.istore_n 2) 0 0 0 0 [] [] = true := by decide +kernel
theorem rf_f_M_gripOn_23 : rf_Fb rf_m_M_gripOn 23 24 (.iload_n 2) 0 0 0 0 [] [] = true := by decide +kernel
theorem rf_f_M_gripOn_24 : rf_Fb rf_m_M_gripOn 24 25 (.aload_n 0) 0 0 0 0 [] [] = true := by decide +kernel
theorem rf_f_M_gripOn_25 : rf_Fb rf_m_M_gripOn 25 28 (.getfield 41) 5 17 2 0 [] [] = true := by decide +kernel
theorem rf_f_M_gripOn_28 : rf_Fb rf_m_M_gripOn 28 30 (.bipush 30) 0 0 0 0 [] [] = true := by decide +kernel
theorem rf_f_M_gripOn_30 : rf_Fb rf_m_M_gripOn 30 31 (.iaload) 0 0 0 0 [] [] = true := by decide +kernel
theorem rf_f_M_gripOn_31 : rf_Fb rf_m_M_gripOn 31 32 (.iconst 1) 0 0 0 0 [] [] = true := by decide +kernel
theorem rf_f_M_gripOn_32 : rf_Fb rf_m_M_gripOn 32 35 (.if_icmp .ne 7) 39 0 0 0 [] [] = true := by decide +kernel
theorem rf_f_M_gripOn_35 : rf_Fb rf_m_M_gripOn 35 36 (.iconst 3) 0 0 0 0 [] [] = true := by decide +kernel
theorem rf_f_M_gripOn_36 : rf_Fb rf_m_M_gripOn 36 39 (.goto 4) 40 0 0 0 [] [] = true := by decide +kernel
theorem rf_f_M_gripOn_39 : rf_Fb rf_m_M_gripOn 39 40 (.iconst 0) 0 0 0 0 [] [] = true := by decide +kernel
theorem rf_f_M_gripOn_40 : rf_Fb rf_m_M_gripOn 40 41 (.iadd) 0 0 0 0 [] [] = true := by decide +kernel
theorem rf_f_M_gripOn_41 : rf_Fb rf_m_M_gripOn 41 42 (.ireturn) 0 0 0 0 [] [] = true := by decide +kernel
set_option maxRecDepth 20000 in
set_option maxHeartbeats 2000000 in
theorem rf_e_M_gripOn (d : Nat) (o : Nat) (a1 : Int) (h : rf_H) : rf_call (d + 1) 157 [.inr (.inr (some o)), .inl a1] h = ((rf_gR h 5 o 17).bind fun x1 => (rf_nn x1 fun k2 => ((rf_aI h k2 0).bind fun x3 => ((rf_gR h 5 o 17).bind fun x4 => (rf_nn x4 fun k5 => ((rf_aI h k5 29).bind fun x6 => ((rf_call d 147 [.inl 0, .inl (rf_w ((rf_w (x3 * (rf_w (3 - a1)))) - x6))] h).bind fun q8 => rf_kI q8 fun x9 h7 => ((rf_gR h7 5 o 17).bind fun x10 => (rf_nn x10 fun k11 => ((rf_aI h7 k11 30).bind fun x12 => (if x12 = 1 then some (some (.inl (rf_w (x9 + 3))), h7) else some (some (.inl (rf_w (x9 + 0))), h7)))))))))))) := by
  show rf_den (rf_call d) (rf_mt 157) _ = _
  rw [rf_u_M_gripOn]
  exact ((rf_s_iconst rf_f_M_gripOn_0 (rf_m0 _) (rf_s_aload_n rf_f_M_gripOn_1 rfl (rf_m0 _) (rf_s_getAS rf_f_M_gripOn_2 (rf_m0 _) fun x1 => (rf_s_iconst rf_f_M_gripOn_5 (rf_m0 _) (rf_s_ialdR rf_f_M_gripOn_6 (rf_m0 _) fun k2 x3 => (rf_s_iconst rf_f_M_gripOn_7 (rf_m0 _) (rf_s_iload_n rf_f_M_gripOn_8 rfl (rf_m0 _) (rf_s_isub rf_f_M_gripOn_9 (rf_m0 _) (rf_s_imul rf_f_M_gripOn_10 (rf_m0 _) (rf_s_aload_n rf_f_M_gripOn_11 rfl (rf_m0 _) (rf_s_getAS rf_f_M_gripOn_12 (rf_m0 _) fun x4 => (rf_s_bipush rf_f_M_gripOn_15 (rf_m0 _) (rf_s_ialdR rf_f_M_gripOn_17 (rf_m0 _) fun k5 x6 => (rf_s_isub rf_f_M_gripOn_18 (rf_m0 _) (rf_s_invS0 rf_f_M_gripOn_19 rfl rfl (rf_m0 _) fun q8 x9 h7 => (rf_s_istore_n (L' := [some (.inr (.inr (some o))), some (.inl a1), some (.inl x9)]) rf_f_M_gripOn_22 rfl (rf_s_iload_n rf_f_M_gripOn_23 rfl (rf_m0 _) (rf_s_aload_n rf_f_M_gripOn_24 rfl (rf_m0 _) (rf_s_getAS rf_f_M_gripOn_25 (rf_m0 _) fun x10 => (rf_s_bipush rf_f_M_gripOn_28 (rf_m0 _) (rf_s_ialdR rf_f_M_gripOn_30 (rf_m0 _) fun k11 x12 => (rf_s_iconst rf_f_M_gripOn_31 (rf_m0 _) (rf_s_icmp_ne rf_f_M_gripOn_32 rfl (rf_m0 _) (rf_m0 _) (rf_s_iconst rf_f_M_gripOn_39 (rf_m0 _) (rf_s_iadd rf_f_M_gripOn_40 (rf_m0 _) (rf_s_iret rf_f_M_gripOn_41))) (rf_s_iconst rf_f_M_gripOn_35 (rf_m0 _) (rf_s_goto rf_f_M_gripOn_36 rfl (rf_m0 _) (rf_s_iadd rf_f_M_gripOn_40 (rf_m0 _) (rf_s_iret rf_f_M_gripOn_41))))))))))))))))))))))))))) : rf_den (rf_call d) rf_m_M_gripOn (0, [some (.inr (.inr (some o))), some (.inl a1), none], [], h) = _)
theorem rf_u_M_lesser : rf_mt 158 = rf_m_M_lesser := rfl
theorem rf_f_M_lesser_0 : rf_Fb rf_m_M_lesser 0 1 (.iload_n 0) 0 0 0 0 [] [] = true := by decide +kernel
theorem rf_f_M_lesser_1 : rf_Fb rf_m_M_lesser 1 2 (.iload_n 1) 0 0 0 0 [] [] = true := by decide +kernel
theorem rf_f_M_lesser_2 : rf_Fb rf_m_M_lesser 2 5 (.if_icmp .ge 7) 9 0 0 0 [] [] = true := by decide +kernel
theorem rf_f_M_lesser_5 : rf_Fb rf_m_M_lesser 5 6 (.iload_n 0) 0 0 0 0 [] [] = true := by decide +kernel
theorem rf_f_M_lesser_6 : rf_Fb rf_m_M_lesser 6 9 (.goto 4) 10 0 0 0 [] [] = true := by decide +kernel
theorem rf_f_M_lesser_9 : rf_Fb rf_m_M_lesser 9 10 (.iload_n 1) 0 0 0 0 [] [] = true := by decide +kernel
theorem rf_f_M_lesser_10 : rf_Fb rf_m_M_lesser 10 11 (.ireturn) 0 0 0 0 [] [] = true := by decide +kernel
set_option maxRecDepth 20000 in
set_option maxHeartbeats 2000000 in
theorem rf_e_M_lesser (d : Nat) (a1 : Int) (a2 : Int) (h : rf_H) : rf_call (d + 1) 158 [.inl a1, .inl a2] h = (if a1 < a2 then some (some (.inl a1), h) else some (some (.inl a2), h)) := by
  show rf_den (rf_call d) (rf_mt 158) _ = _
  rw [rf_u_M_lesser]
  exact ((rf_s_iload_n rf_f_M_lesser_0 rfl (rf_m0 _) (rf_s_iload_n rf_f_M_lesser_1 rfl (rf_m0 _) (rf_s_icmp_ge rf_f_M_lesser_2 rfl (rf_m0 _) (rf_m0 _) (rf_s_iload_n rf_f_M_lesser_9 rfl (rf_m0 _) (rf_s_iret rf_f_M_lesser_10)) (rf_s_iload_n rf_f_M_lesser_5 rfl (rf_m0 _) (rf_s_goto rf_f_M_lesser_6 rfl (rf_m0 _) (rf_s_iret rf_f_M_lesser_10)))))) : rf_den (rf_call d) rf_m_M_lesser (0, [some (.inl a1), some (.inl a2)], [], h) = _)
noncomputable def rf_j_M_loadOf_4 (d : Nat) (o : Nat) (l1 : Int) (l2 : Int) (l3 : Int) (h : rf_H) : Option rf_R := rf_den (rf_call d) rf_m_M_loadOf (4, [some (.inr (.inr (some o))), some (.inl l1), some (.inl l2), some (.inl l3)], [], h)
theorem rf_u_M_loadOf : rf_mt 159 = rf_m_M_loadOf := rfl
theorem rf_f_M_loadOf_0 : rf_Fb rf_m_M_loadOf 0 1 (.iconst 0) 0 0 0 0 [] [] = true := by decide +kernel
theorem rf_f_M_loadOf_1 : rf_Fb rf_m_M_loadOf 1 2 (.istore_n 2) 0 0 0 0 [] [] = true := by decide +kernel
theorem rf_f_M_loadOf_2 : rf_Fb rf_m_M_loadOf 2 3 (.iconst 0) 0 0 0 0 [] [] = true := by decide +kernel
theorem rf_f_M_loadOf_3 : rf_Fb rf_m_M_loadOf 3 4 (.istore_n 3) 0 0 0 0 [] [true, true, true, true] = true := by decide +kernel
theorem rf_f_M_loadOf_4 : rf_Fb rf_m_M_loadOf 4 5 (.iload_n 3) 0 0 0 0 [] [] = true := by decide +kernel
theorem rf_f_M_loadOf_5 : rf_Fb rf_m_M_loadOf 5 6 (.iload_n 1) 0 0 0 0 [] [] = true := by decide +kernel
theorem rf_f_M_loadOf_6 : rf_Fb rf_m_M_loadOf 6 9 (.if_icmp .ge 17) 23 0 0 0 [] [] = true := by decide +kernel
theorem rf_f_M_loadOf_9 : rf_Fb rf_m_M_loadOf 9 10 (.iload_n 2) 0 0 0 0 [] [] = true := by decide +kernel
theorem rf_f_M_loadOf_10 : rf_Fb rf_m_M_loadOf 10 11 (.aload_n 0) 0 0 0 0 [] [] = true := by decide +kernel
theorem rf_f_M_loadOf_11 : rf_Fb rf_m_M_loadOf 11 12 (.iload_n 3) 0 0 0 0 [] [] = true := by decide +kernel
theorem rf_f_M_loadOf_12 : rf_Fb rf_m_M_loadOf 12 15 (.invokevirtual 132) 146 1 0 5 [] [] = true := by decide +kernel
theorem rf_f_M_loadOf_15 : rf_Fb rf_m_M_loadOf 15 16 (.iadd) 0 0 0 0 [] [] = true := by decide +kernel
theorem rf_f_M_loadOf_16 : rf_Fb rf_m_M_loadOf 16 17 (.istore_n 2) 0 0 0 0 [] [] = true := by decide +kernel
theorem rf_f_M_loadOf_17 : rf_Fb rf_m_M_loadOf 17 20 (.iinc 3 1) 0 0 0 0 [] [] = true := by decide +kernel
theorem rf_f_M_loadOf_20 : rf_Fb rf_m_M_loadOf 20 23 (.goto (-16)) 4 0 0 0 [] [] = true := by decide +kernel
theorem rf_f_M_loadOf_23 : rf_Fb rf_m_M_loadOf 23 24 (.iload_n 2) 0 0 0 0 [] [] = true := by decide +kernel
theorem rf_f_M_loadOf_24 : rf_Fb rf_m_M_loadOf 24 25 (.ireturn) 0 0 0 0 [] [] = true := by decide +kernel
set_option maxRecDepth 20000 in
set_option maxHeartbeats 2000000 in
theorem rf_e_M_loadOf (d : Nat) (o : Nat) (a1 : Int) (h : rf_H) : rf_call (d + 1) 159 [.inr (.inr (some o)), .inl a1] h = rf_j_M_loadOf_4 d o a1 0 0 h := by
  show rf_den (rf_call d) (rf_mt 159) _ = _
  rw [rf_u_M_loadOf]
  exact ((rf_s_iconst rf_f_M_loadOf_0 (rf_m0 _) (rf_s_istore_n (L' := [some (.inr (.inr (some o))), some (.inl a1), some (.inl 0), none]) rf_f_M_loadOf_1 rfl (rf_s_iconst rf_f_M_loadOf_2 (rf_m0 _) (rf_s_istore_n rf_f_M_loadOf_3 rfl rfl)))) : rf_den (rf_call d) rf_m_M_loadOf (0, [some (.inr (.inr (some o))), some (.inl a1), none, none], [], h) = _)
set_option maxRecDepth 20000 in
set_option maxHeartbeats 2000000 in
theorem rf_e_M_loadOf_4 (d : Nat) (o : Nat) (l1 : Int) (l2 : Int) (l3 : Int) (h : rf_H) : rf_j_M_loadOf_4 d o l1 l2 l3 h = (if l3 < l1 then (bif rf_isO h.1 o 5 then ((rf_call d 146 [.inr (.inr (some o)), .inl l3] h).bind fun q2 => rf_kI q2 fun x3 h1 => rf_j_M_loadOf_4 d o l1 (rf_w (l2 + x3)) (rf_w (l3 + 1)) h1) else none) else some (some (.inl l2), h)) :=
  ((rf_s_iload_n rf_f_M_loadOf_4 rfl (rf_m0 _) (rf_s_iload_n rf_f_M_loadOf_5 rfl (rf_m0 _) (rf_s_icmp_ge rf_f_M_loadOf_6 rfl (rf_m0 _) (rf_m0 _) (rf_s_iload_n rf_f_M_loadOf_23 rfl (rf_m0 _) (rf_s_iret rf_f_M_loadOf_24)) (rf_s_iload_n rf_f_M_loadOf_9 rfl (rf_m0 _) (rf_s_aload_n rf_f_M_loadOf_10 rfl (rf_m0 _) (rf_s_iload_n rf_f_M_loadOf_11 rfl (rf_m0 _) (rf_s_invV0S rf_f_M_loadOf_12 rfl rfl (rf_m0 _) fun q2 x3 h1 => (rf_s_iadd rf_f_M_loadOf_15 (rf_m0 _) (rf_s_istore_n (L' := [some (.inr (.inr (some o))), some (.inl l1), some (.inl (rf_w (l2 + x3))), some (.inl l3)]) rf_f_M_loadOf_16 rfl (rf_s_iinc (L' := [some (.inr (.inr (some o))), some (.inl l1), some (.inl (rf_w (l2 + x3))), some (.inl (rf_w (l3 + 1)))]) rf_f_M_loadOf_17 rfl rfl (rf_s_goto rf_f_M_loadOf_20 rfl rfl rfl))))))))))) : rf_den (rf_call d) rf_m_M_loadOf (4, [some (.inr (.inr (some o))), some (.inl l1), some (.inl l2), some (.inl l3)], [], h) = _)
noncomputable def rf_j_M_undo_35 (d : Nat) (o : Nat) (l1 : Int) (l2 : Int) (l3 : Int) (h : rf_H) : Option rf_R := rf_den (rf_call d) rf_m_M_undo (35, [some (.inr (.inr (some o))), some (.inl l1), some (.inl l2), some (.inl l3)], [], h)
theorem rf_u_M_undo : rf_mt 160 = rf_m_M_undo := rfl
theorem rf_f_M_undo_0 : rf_Fb rf_m_M_undo 0 1 (.iload_n 1) 0 0 0 0 [] [] = true := by decide +kernel
theorem rf_f_M_undo_1 : rf_Fb rf_m_M_undo 1 2 (.i2l) 0 0 0 0 [] [] = true := by decide +kernel
theorem rf_f_M_undo_2 : rf_Fb rf_m_M_undo 2 3 (.lconst 0) 0 0 0 0 [] [] = true := by decide +kernel
theorem rf_f_M_undo_3 : rf_Fb rf_m_M_undo 3 4 (.aload_n 0) 0 0 0 0 [] [] = true := by decide +kernel
theorem rf_f_M_undo_4 : rf_Fb rf_m_M_undo 4 7 (.getfield 22) 5 4 2 0 [] [] = true := by decide +kernel
theorem rf_f_M_undo_7 : rf_Fb rf_m_M_undo 7 9 (.bipush 37) 0 0 0 0 [] [] = true := by decide +kernel
theorem rf_f_M_undo_9 : rf_Fb rf_m_M_undo 9 10 (.iaload) 0 0 0 0 [] [] = true := by decide +kernel
theorem rf_f_M_undo_10 : rf_Fb rf_m_M_undo 10 11 (.i2l) 0 0 0 0 [] [] = true := by decide +kernel
theorem rf_f_M_undo_11 : rf_Fb rf_m_M_undo 11 14 (.invokestatic 63) 118 3 0 0 [] [] = true := by decide +kernel
theorem rf_f_M_undo_14 : rf_Fb rf_m_M_undo 14 17 (.ifCond .ne 5) 19 0 0 0 [] [] = true := by decide +kernel
theorem rf_f_M_undo_17 : rf_Fb rf_m_M_undo 17 18 (.iconst (-1)) 0 0 0 0 [] [] = true := by decide +kernel
theorem rf_f_M_undo_18 : rf_Fb rf_m_M_undo 18 19 (.ireturn) 0 0 0 0 [] [] = true := by decide +kernel
theorem rf_f_M_undo_19 : rf_Fb rf_m_M_undo 19 20 (.aload_n 0) 0 0 0 0 [] [] = true := by decide +kernel
theorem rf_f_M_undo_20 : rf_Fb rf_m_M_undo 20 23 (.getfield 22) 5 4 2 0 [] [] = true := by decide +kernel
theorem rf_f_M_undo_23 : rf_Fb rf_m_M_undo 23 25 (.bipush 37) 0 0 0 0 [] [] = true := by decide +kernel
theorem rf_f_M_undo_25 : rf_Fb rf_m_M_undo 25 26 (.iaload) 0 0 0 0 [] [] = true := by decide +kernel
theorem rf_f_M_undo_26 : rf_Fb rf_m_M_undo 26 27 (.iload_n 1) 0 0 0 0 [] [] = true := by decide +kernel
theorem rf_f_M_undo_27 : rf_Fb rf_m_M_undo 27 28 (.isub) 0 0 0 0 [] [] = true := by decide +kernel
theorem rf_f_M_undo_28 : rf_Fb rf_m_M_undo 28 29 (.istore_n 2) 0 0 0 0 [] [] = true := by decide +kernel
theorem rf_f_M_undo_29 : rf_Fb rf_m_M_undo 29 30 (.iload_n 2) 0 0 0 0 [] [] = true := by decide +kernel
theorem rf_f_M_undo_30 : rf_Fb rf_m_M_undo 30 33 (.ifCond .le 40) 70 0 0 0 [] [] = true := by decide +kernel
theorem rf_f_M_undo_33 : rf_Fb rf_m_M_undo 33 34 (.iconst 0) 0 0 0 0 [] [] = true := by decide +kernel
theorem rf_f_M_undo_34 : rf_Fb rf_m_M_undo 34 35 (.istore_n 3) 0 0 0 0 [] [true, true, true, true] = true := by decide +kernel
theorem rf_f_M_undo_35 : rf_Fb rf_m_M_undo 35 36 (.iload_n 3) 0 0 0 0 [] [] = true := by decide +kernel
theorem rf_f_M_undo_36 : rf_Fb rf_m_M_undo 36 38 (.bipush 10) 0 0 0 0 [] [] = true := by decide +kernel
theorem rf_f_M_undo_38 : rf_Fb rf_m_M_undo 38 41 (.if_icmp .ge 32) 70 0 0 0 [] [] = true := by decide +kernel
theorem rf_f_M_undo_41 : rf_Fb rf_m_M_undo 41 42 (.aload_n 0) 0 0 0 0 [] [] = true := by decide +kernel
theorem rf_f_M_undo_42 : rf_Fb rf_m_M_undo 42 45 (.getfield 22) 5 4 2 0 [] [] = true := by decide +kernel
theorem rf_f_M_undo_45 : rf_Fb rf_m_M_undo 45 47 (.bipush 27) 0 0 0 0 [] [] = true := by decide +kernel
theorem rf_f_M_undo_47 : rf_Fb rf_m_M_undo 47 48 (.iload_n 3) 0 0 0 0 [] [] = true := by decide +kernel
theorem rf_f_M_undo_48 : rf_Fb rf_m_M_undo 48 49 (.iadd) 0 0 0 0 [] [] = true := by decide +kernel
theorem rf_f_M_undo_49 : rf_Fb rf_m_M_undo 49 50 (.aload_n 0) 0 0 0 0 [] [] = true := by decide +kernel
theorem rf_f_M_undo_50 : rf_Fb rf_m_M_undo 50 53 (.getfield 22) 5 4 2 0 [] [] = true := by decide +kernel
theorem rf_f_M_undo_53 : rf_Fb rf_m_M_undo 53 55 (.bipush 38) 0 0 0 0 [] [] = true := by decide +kernel
theorem rf_f_M_undo_55 : rf_Fb rf_m_M_undo 55 57 (.bipush 10) 0 0 0 0 [] [] = true := by decide +kernel
theorem rf_f_M_undo_57 : rf_Fb rf_m_M_undo 57 58 (.iload_n 1) 0 0 0 0 [] [] = true := by decide +kernel
theorem rf_f_M_undo_58 : rf_Fb rf_m_M_undo 58 59 (.imul) 0 0 0 0 [] [] = true := by decide +kernel
theorem rf_f_M_undo_59 : rf_Fb rf_m_M_undo 59 60 (.iadd) 0 0 0 0 [] [] = true := by decide +kernel
theorem rf_f_M_undo_60 : rf_Fb rf_m_M_undo 60 61 (.iload_n 3) 0 0 0 0 [] [] = true := by decide +kernel
theorem rf_f_M_undo_61 : rf_Fb rf_m_M_undo 61 62 (.iadd) 0 0 0 0 [] [] = true := by decide +kernel
theorem rf_f_M_undo_62 : rf_Fb rf_m_M_undo 62 63 (.iaload) 0 0 0 0 [] [] = true := by decide +kernel
theorem rf_f_M_undo_63 : rf_Fb rf_m_M_undo 63 64 (.iastore) 0 0 0 0 [] [] = true := by decide +kernel
theorem rf_f_M_undo_64 : rf_Fb rf_m_M_undo 64 67 (.iinc 3 1) 0 0 0 0 [] [] = true := by decide +kernel
theorem rf_f_M_undo_67 : rf_Fb rf_m_M_undo 67 70 (.goto (-32)) 35 0 0 0 [] [] = true := by decide +kernel
theorem rf_f_M_undo_70 : rf_Fb rf_m_M_undo 70 71 (.aload_n 0) 0 0 0 0 [] [] = true := by decide +kernel
theorem rf_f_M_undo_71 : rf_Fb rf_m_M_undo 71 74 (.getfield 22) 5 4 2 0 [] [] = true := by decide +kernel
theorem rf_f_M_undo_74 : rf_Fb rf_m_M_undo 74 76 (.bipush 37) 0 0 0 0 [] [] = true := by decide +kernel
theorem rf_f_M_undo_76 : rf_Fb rf_m_M_undo 76 77 (.iload_n 1) 0 0 0 0 [] [] = true := by decide +kernel
theorem rf_f_M_undo_77 : rf_Fb rf_m_M_undo 77 78 (.iastore) 0 0 0 0 [] [] = true := by decide +kernel
theorem rf_f_M_undo_78 : rf_Fb rf_m_M_undo 78 79 (.iload_n 2) 0 0 0 0 [] [] = true := by decide +kernel
theorem rf_f_M_undo_79 : rf_Fb rf_m_M_undo 79 80 (.ireturn) 0 0 0 0 [] [] = true := by decide +kernel
set_option maxRecDepth 20000 in
set_option maxHeartbeats 2000000 in
theorem rf_e_M_undo (d : Nat) (o : Nat) (a1 : Int) (h : rf_H) : rf_call (d + 1) 160 [.inr (.inr (some o)), .inl a1] h = ((rf_gR h 5 o 4).bind fun x1 => (rf_nn x1 fun k2 => ((rf_aI h k2 37).bind fun x3 => ((rf_call d 118 [.inr (.inl a1), .inr (.inl 0), .inr (.inl x3)] h).bind fun q5 => rf_kI q5 fun x6 h4 => (if x6 = 0 then some (some (.inl (-1)), h4) else ((rf_gR h4 5 o 4).bind fun x7 => (rf_nn x7 fun k8 => ((rf_aI h4 k8 37).bind fun x9 => (if 0 < (rf_w (x9 - a1)) then rf_j_M_undo_35 d o a1 (rf_w (x9 - a1)) 0 h4 else ((rf_gR h4 5 o 4).bind fun x10 => (rf_nn x10 fun k11 => ((rf_sI h4 k11 37 a1).bind fun h12 => some (some (.inl (rf_w (x9 - a1))), h12))))))))))))) := by
  show rf_den (rf_call d) (rf_mt 160) _ = _
  rw [rf_u_M_undo]
  exact ((rf_s_iload_n rf_f_M_undo_0 rfl (rf_m0 _) (rf_s_i2l rf_f_M_undo_1 (rf_m0 _) (rf_s_lconst rf_f_M_undo_2 (rf_m0 _) (rf_s_aload_n rf_f_M_undo_3 rfl (rf_m0 _) (rf_s_getAS rf_f_M_undo_4 (rf_m0 _) fun x1 => (rf_s_bipush rf_f_M_undo_7 (rf_m0 _) (rf_s_ialdR rf_f_M_undo_9 (rf_m0 _) fun k2 x3 => (rf_s_i2l rf_f_M_undo_10 (rf_m0 _) (rf_s_invS0 rf_f_M_undo_11 rfl rfl (rf_m0 _) fun q5 x6 h4 => (rf_s_if_ne rf_f_M_undo_14 rfl (rf_m0 _) (rf_m0 _) (rf_s_aload_n rf_f_M_undo_19 rfl (rf_m0 _) (rf_s_getAS rf_f_M_undo_20 (rf_m0 _) fun x7 => (rf_s_bipush rf_f_M_undo_23 (rf_m0 _) (rf_s_ialdR rf_f_M_undo_25 (rf_m0 _) fun k8 x9 => (rf_s_iload_n rf_f_M_undo_26 rfl (rf_m0 _) (rf_s_isub rf_f_M_undo_27 (rf_m0 _) (rf_s_istore_n (L' := [some (.inr (.inr (some o))), some (.inl a1), some (.inl (rf_w (x9 - a1))), none]) rf_f_M_undo_28 rfl (rf_s_iload_n rf_f_M_undo_29 rfl (rf_m0 _) (rf_s_if_le rf_f_M_undo_30 rfl (rf_m0 _) (rf_m0 _) (rf_s_aload_n rf_f_M_undo_70 rfl (rf_m0 _) (rf_s_getAS rf_f_M_undo_71 (rf_m0 _) fun x10 => (rf_s_bipush rf_f_M_undo_74 (rf_m0 _) (rf_s_iload_n rf_f_M_undo_76 rfl (rf_m0 _) (rf_s_iastR rf_f_M_undo_77 (rf_m0 _) fun k11 h12 => (rf_s_iload_n rf_f_M_undo_78 rfl (rf_m0 _) (rf_s_iret rf_f_M_undo_79))))))) (rf_s_iconst rf_f_M_undo_33 (rf_m0 _) (rf_s_istore_n rf_f_M_undo_34 rfl rfl))))))))))) (rf_s_iconst rf_f_M_undo_17 (rf_m0 _) (rf_s_iret rf_f_M_undo_18)))))))))))) : rf_den (rf_call d) rf_m_M_undo (0, [some (.inr (.inr (some o))), some (.inl a1), none, none], [], h) = _)
set_option maxRecDepth 20000 in
set_option maxHeartbeats 2000000 in
theorem rf_e_M_undo_35 (d : Nat) (o : Nat) (l1 : Int) (l2 : Int) (l3 : Int) (h : rf_H) : rf_j_M_undo_35 d o l1 l2 l3 h = (if l3 < 10 then ((rf_gR h 5 o 4).bind fun x4 => ((rf_gR h 5 o 4).bind fun x5 => (rf_nn x5 fun k6 => ((rf_aI h k6 (rf_w ((rf_w (38 + (rf_w (10 * l1)))) + l3))).bind fun x7 => (rf_nn x4 fun k8 => ((rf_sI h k8 (rf_w (27 + l3)) x7).bind fun h9 => rf_j_M_undo_35 d o l1 l2 (rf_w (l3 + 1)) h9)))))) else ((rf_gR h 5 o 4).bind fun x1 => (rf_nn x1 fun k2 => ((rf_sI h k2 37 l1).bind fun h3 => some (some (.inl l2), h3))))) :=
  ((rf_s_iload_n rf_f_M_undo_35 rfl (rf_m0 _) (rf_s_bipush rf_f_M_undo_36 (rf_m0 _) (rf_s_icmp_ge rf_f_M_undo_38 rfl (rf_m0 _) (rf_m0 _) (rf_s_aload_n rf_f_M_undo_70 rfl (rf_m0 _) (rf_s_getAS rf_f_M_undo_71 (rf_m0 _) fun x1 => (rf_s_bipush rf_f_M_undo_74 (rf_m0 _) (rf_s_iload_n rf_f_M_undo_76 rfl (rf_m0 _) (rf_s_iastR rf_f_M_undo_77 (rf_m0 _) fun k2 h3 => (rf_s_iload_n rf_f_M_undo_78 rfl (rf_m0 _) (rf_s_iret rf_f_M_undo_79))))))) (rf_s_aload_n rf_f_M_undo_41 rfl (rf_m0 _) (rf_s_getAS rf_f_M_undo_42 (rf_m0 _) fun x4 => (rf_s_bipush rf_f_M_undo_45 (rf_m0 _) (rf_s_iload_n rf_f_M_undo_47 rfl (rf_m0 _) (rf_s_iadd rf_f_M_undo_48 (rf_m0 _) (rf_s_aload_n rf_f_M_undo_49 rfl (rf_m0 _) (rf_s_getAS rf_f_M_undo_50 (rf_m0 _) fun x5 => (rf_s_bipush rf_f_M_undo_53 (rf_m0 _) (rf_s_bipush rf_f_M_undo_55 (rf_m0 _) (rf_s_iload_n rf_f_M_undo_57 rfl (rf_m0 _) (rf_s_imul rf_f_M_undo_58 (rf_m0 _) (rf_s_iadd rf_f_M_undo_59 (rf_m0 _) (rf_s_iload_n rf_f_M_undo_60 rfl (rf_m0 _) (rf_s_iadd rf_f_M_undo_61 (rf_m0 _) (rf_s_ialdR rf_f_M_undo_62 (rf_m0 _) fun k6 x7 => (rf_s_iastR rf_f_M_undo_63 (rf_m0 _) fun k8 h9 => (rf_s_iinc (L' := [some (.inr (.inr (some o))), some (.inl l1), some (.inl l2), some (.inl (rf_w (l3 + 1)))]) rf_f_M_undo_64 rfl rfl (rf_s_goto rf_f_M_undo_67 rfl rfl rfl))))))))))))))))))))) : rf_den (rf_call d) rf_m_M_undo (35, [some (.inr (.inr (some o))), some (.inl l1), some (.inl l2), some (.inl l3)], [], h) = _)
