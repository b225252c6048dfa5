noncomputable def rf_j_M_keep_26 (d : Nat) (o : Nat) (l1 : Int) (l2 : Int) (h : rf_H) : Option rf_R := rf_den (rf_call d) rf_m_M_keep (26, [some (.inr (.inr (some o))), some (.inl l1), some (.inl l2)], [], h)
theorem rf_u_M_keep : rf_mt 161 = rf_m_M_keep := rfl
theorem rf_f_M_keep_0 : rf_Fb rf_m_M_keep 0 1 (.iload_n 1) 0 0 0 0 [] [] = true := by decide +kernel
theorem rf_f_M_keep_1 : rf_Fb rf_m_M_keep 1 2 (.i2l) 0 0 0 0 [] [] = true := by decide +kernel
theorem rf_f_M_keep_2 : rf_Fb rf_m_M_keep 2 3 (.lconst 0) 0 0 0 0 [] [] = true := by decide +kernel
theorem rf_f_M_keep_3 : rf_Fb rf_m_M_keep 3 6 (.ldc2_w 175) 0 0 0 2 [] [] = true := by decide +kernel
theorem rf_f_M_keep_6 : rf_Fb rf_m_M_keep 6 9 (.invokestatic 63) 118 3 0 0 [] [] = true := by decide +kernel
theorem rf_f_M_keep_9 : rf_Fb rf_m_M_keep 9 12 (.ifCond .ne 5) 14 0 0 0 [] [] = true := by decide +kernel
theorem rf_f_M_keep_12 : rf_Fb rf_m_M_keep 12 13 (.iconst (-1)) 0 0 0 0 [] [] = true := by decide +kernel
theorem rf_f_M_keep_13 : rf_Fb rf_m_M_keep 13 14 (.ireturn) 0 0 0 0 [] [] = true := by decide +kernel
theorem rf_f_M_keep_14 : rf_Fb rf_m_M_keep 14 15 (.aload_n 0) 0 0 0 0 [] [] = true := by decide +kernel
theorem rf_f_M_keep_15 : rf_Fb rf_m_M_keep 15 18 (.invokevirtual 162) 150 0 0 5 [] [] = true := by decide +kernel
theorem rf_f_M_keep_18 : rf_Fb rf_m_M_keep 18 21 (.ifCond .ne 6) 24 0 0 0 [] [] = true := by decide +kernel
theorem rf_f_M_keep_21 : rf_Fb rf_m_M_keep 21 23 (.bipush (-4)) 0 0 0 0 [] [] = true := by decide +kernel
theorem rf_f_M_keep_23 : rf_Fb rf_m_M_keep 23 24 (.ireturn) 0 0 0 0 [] [] = true := by decide +kernel
theorem rf_f_M_keep_24 : rf_Fb rf_m_M_keep 24 25 (.iconst 0) 0 0 0 0 [] [] = true := by decide +kernel
theorem rf_f_M_keep_25 : rf_Fb rf_m_M_keep 25 26 (.istore_n 2) 0 0 0 0 [] [true, true, true] = true := by decide +kernel
theorem rf_f_M_keep_26 : rf_Fb rf_m_M_keep 26 27 (.iload_n 2) 0 0 0 0 [] [] = true := by decide +kernel
theorem rf_f_M_keep_27 : rf_Fb rf_m_M_keep 27 30 (.sipush 638) 0 0 0 0 [] [] = true := by decide +kernel
theorem rf_f_M_keep_30 : rf_Fb rf_m_M_keep 30 33 (.if_icmp .ge 27) 57 0 0 0 [] [] = true := by decide +kernel
theorem rf_f_M_keep_33 : rf_Fb rf_m_M_keep 33 34 (.aload_n 0) 0 0 0 0 [] [] = true := by decide +kernel
theorem rf_f_M_keep_34 : rf_Fb rf_m_M_keep 34 37 (.getfield 25) 5 5 2 0 [] [] = true := by decide +kernel
theorem rf_f_M_keep_37 : rf_Fb rf_m_M_keep 37 40 (.sipush 638) 0 0 0 0 [] [] = true := by decide +kernel
theorem rf_f_M_keep_40 : rf_Fb rf_m_M_keep 40 41 (.iload_n 1) 0 0 0 0 [] [] = true := by decide +kernel
theorem rf_f_M_keep_41 : rf_Fb rf_m_M_keep 41 42 (.imul) 0 0 0 0 [] [] = true := by decide +kernel
theorem rf_f_M_keep_42 : rf_Fb rf_m_M_keep 42 43 (.iload_n 2) 0 0 0 0 [] [] = true := by decide +kernel
theorem rf_f_M_keep_43 : rf_Fb rf_m_M_keep 43 44 (.iadd) 0 0 0 0 [] [] = true := by decide +kernel
theorem rf_f_M_keep_44 : rf_Fb rf_m_M_keep 44 45 (.aload_n 0) 0 0 0 0 [] [] = true := by decide +kernel
theorem rf_f_M_keep_45 : rf_Fb rf_m_M_keep 45 48 (.getfield 22) 5 4 2 0 [] [] = true := by decide +kernel
theorem rf_f_M_keep_48 : rf_Fb rf_m_M_keep 48 49 (.iload_n 2) 0 0 0 0 [] [] = true := by decide +kernel
theorem rf_f_M_keep_49 : rf_Fb rf_m_M_keep 49 50 (.iaload) 0 0 0 0 [] [] = true := by decide +kernel
theorem rf_f_M_keep_50 : rf_Fb rf_m_M_keep 50 51 (.iastore) 0 0 0 0 [] [] = true := by decide +kernel
theorem rf_f_M_keep_51 : rf_Fb rf_m_M_keep 51 54 (.iinc 2 1) 0 0 0 0 [] [] = true := by decide +kernel
theorem rf_f_M_keep_54 : rf_Fb rf_m_M_keep 54 57 (.goto (-28)) 26 0 0 0 [] [] = true := by decide +kernel
theorem rf_f_M_keep_57 : rf_Fb rf_m_M_keep 57 58 (.aload_n 0) 0 0 0 0 [] [] = true := by decide +kernel
theorem rf_f_M_keep_58 : rf_Fb rf_m_M_keep 58 61 (.getfield 28) 5 6 2 0 [] [] = true := by decide +kernel
theorem rf_f_M_keep_61 : rf_Fb rf_m_M_keep 61 62 (.iload_n 1) 0 0 0 0 [] [] = true := by decide +kernel
theorem rf_f_M_keep_62 : rf_Fb rf_m_M_keep 62 63 (.iconst 1) 0 0 0 0 [] [] = true := by decide +kernel
theorem rf_f_M_keep_63 : rf_Fb rf_m_M_keep 63 64 (.bastore) 0 0 0 0 [] [] = true := by decide +kernel
theorem rf_f_M_keep_64 : rf_Fb rf_m_M_keep 64 65 (.aload_n 0) 0 0 0 0 [] [] = true := by decide +kernel
theorem rf_f_M_keep_65 : rf_Fb rf_m_M_keep 65 68 (.getfield 22) 5 4 2 0 [] [] = true := by decide +kernel
theorem rf_f_M_keep_68 : rf_Fb rf_m_M_keep 68 70 (.bipush 37) 0 0 0 0 [] [] = true := by decide +kernel
theorem rf_f_M_keep_70 : rf_Fb rf_m_M_keep 70 71 (.iaload) 0 0 0 0 [] [] = true := by decide +kernel
theorem rf_f_M_keep_71 : rf_Fb rf_m_M_keep 71 72 (.ireturn) 0 0 0 0 [] [] = true := by decide +kernel
set_option maxRecDepth 20000 in
set_option maxHeartbeats 2000000 in
theorem rf_e_M_keep (d : Nat) (o : Nat) (a1 : Int) (h : rf_H) : rf_call (d + 1) 161 [.inr (.inr (some o)), .inl a1] h = ((rf_call d 118 [.inr (.inl a1), .inr (.inl 0), .inr (.inl 2)] h).bind fun q2 => rf_kI q2 fun x3 h1 => (if x3 = 0 then some (some (.inl (-1)), h1) else (bif rf_isO h1.1 o 5 then ((rf_call d 150 [.inr (.inr (some o))] h1).bind fun q5 => rf_kI q5 fun x6 h4 => (if x6 = 0 then some (some (.inl (-4)), h4) else rf_j_M_keep_26 d o a1 0 h4)) else none))) := by
  show rf_den (rf_call d) (rf_mt 161) _ = _
  rw [rf_u_M_keep]
  exact ((rf_s_iload_n rf_f_M_keep_0 rfl (rf_m0 _) (rf_s_i2l rf_f_M_keep_1 (rf_m0 _) (rf_s_lconst rf_f_M_keep_2 (rf_m0 _) (rf_s_ldc2_w rf_f_M_keep_3 (rf_m0 _) (rf_s_invS0 rf_f_M_keep_6 rfl rfl (rf_m0 _) fun q2 x3 h1 => (rf_s_if_ne rf_f_M_keep_9 rfl (rf_m0 _) (rf_m0 _) (rf_s_aload_n rf_f_M_keep_14 rfl (rf_m0 _) (rf_s_invV0S rf_f_M_keep_15 rfl rfl (rf_m0 _) fun q5 x6 h4 => (rf_s_if_ne rf_f_M_keep_18 rfl (rf_m0 _) (rf_m0 _) (rf_s_iconst rf_f_M_keep_24 (rf_m0 _) (rf_s_istore_n rf_f_M_keep_25 rfl rfl)) (rf_s_bipush rf_f_M_keep_21 (rf_m0 _) (rf_s_iret rf_f_M_keep_23))))) (rf_s_iconst rf_f_M_keep_12 (rf_m0 _) (rf_s_iret rf_f_M_keep_13)))))))) : rf_den (rf_call d) rf_m_M_keep (0, [some (.inr (.inr (some o))), some (.inl a1), none], [], h) = _)
set_option maxRecDepth 20000 in
set_option maxHeartbeats 2000000 in
theorem rf_e_M_keep_26 (d : Nat) (o : Nat) (l1 : Int) (l2 : Int) (h : rf_H) : rf_j_M_keep_26 d o l1 l2 h = (if l2 < 638 then ((rf_gR h 5 o 5).bind fun x7 => ((rf_gR h 5 o 4).bind fun x8 => (rf_nn x8 fun k9 => ((rf_aI h k9 l2).bind fun x10 => (rf_nn x7 fun k11 => ((rf_sI h k11 (rf_w ((rf_w (638 * l1)) + l2)) x10).bind fun h12 => rf_j_M_keep_26 d o l1 (rf_w (l2 + 1)) h12)))))) else ((rf_gR h 5 o 6).bind fun x1 => (rf_nn x1 fun k2 => ((rf_sZ h k2 l1 1).bind fun h3 => ((rf_gR h3 5 o 4).bind fun x4 => (rf_nn x4 fun k5 => ((rf_aI h3 k5 37).bind fun x6 => some (some (.inl x6), h3)))))))) :=
  ((rf_s_iload_n rf_f_M_keep_26 rfl (rf_m0 _) (rf_s_sipush rf_f_M_keep_27 (rf_m0 _) (rf_s_icmp_ge rf_f_M_keep_30 rfl (rf_m0 _) (rf_m0 _) (rf_s_aload_n rf_f_M_keep_57 rfl (rf_m0 _) (rf_s_getAS rf_f_M_keep_58 (rf_m0 _) fun x1 => (rf_s_iload_n rf_f_M_keep_61 rfl (rf_m0 _) (rf_s_iconst rf_f_M_keep_62 (rf_m0 _) (rf_s_bastR (by decide) rf_f_M_keep_63 (rf_m0 _) fun k2 h3 => (rf_s_aload_n rf_f_M_keep_64 rfl (rf_m0 _) (rf_s_getAS rf_f_M_keep_65 (rf_m0 _) fun x4 => (rf_s_bipush rf_f_M_keep_68 (rf_m0 _) (rf_s_ialdR rf_f_M_keep_70 (rf_m0 _) fun k5 x6 => (rf_s_iret rf_f_M_keep_71)))))))))) (rf_s_aload_n rf_f_M_keep_33 rfl (rf_m0 _) (rf_s_getAS rf_f_M_keep_34 (rf_m0 _) fun x7 => (rf_s_sipush rf_f_M_keep_37 (rf_m0 _) (rf_s_iload_n rf_f_M_keep_40 rfl (rf_m0 _) (rf_s_imul rf_f_M_keep_41 (rf_m0 _) (rf_s_iload_n rf_f_M_keep_42 rfl (rf_m0 _) (rf_s_iadd rf_f_M_keep_43 (rf_m0 _) (rf_s_aload_n rf_f_M_keep_44 rfl (rf_m0 _) (rf_s_getAS rf_f_M_keep_45 (rf_m0 _) fun x8 => (rf_s_iload_n rf_f_M_keep_48 rfl (rf_m0 _) (rf_s_ialdR rf_f_M_keep_49 (rf_m0 _) fun k9 x10 => (rf_s_iastR rf_f_M_keep_50 (rf_m0 _) fun k11 h12 => (rf_s_iinc (L' := [some (.inr (.inr (some o))), some (.inl l1), some (.inl (rf_w (l2 + 1)))]) rf_f_M_keep_51 rfl rfl (rf_s_goto rf_f_M_keep_54 rfl rfl rfl))))))))))))))))) : rf_den (rf_call d) rf_m_M_keep (26, [some (.inr (.inr (some o))), some (.inl l1), some (.inl l2)], [], h) = _)
noncomputable def rf_j_M_on_31 (d : Nat) (o : Nat) (l1 : Int) (l2 : Int) (h : rf_H) : Option rf_R := rf_den (rf_call d) rf_m_M_on (31, [some (.inr (.inr (some o))), some (.inl l1), some (.inl l2)], [], h)
theorem rf_u_M_on : rf_mt 162 = rf_m_M_on := rfl
theorem rf_f_M_on_0 : rf_Fb rf_m_M_on 0 1 (.iload_n 1) 0 0 0 0 [] [] = true := by decide +kernel
theorem rf_f_M_on_1 : rf_Fb rf_m_M_on 1 2 (.i2l) 0 0 0 0 [] [] = true := by decide +kernel
theorem rf_f_M_on_2 : rf_Fb rf_m_M_on 2 3 (.lconst 0) 0 0 0 0 [] [] = true := by decide +kernel
theorem rf_f_M_on_3 : rf_Fb rf_m_M_on 3 6 (.ldc2_w 175) 0 0 0 2 [] [] = true := by decide +kernel
theorem rf_f_M_on_6 : rf_Fb rf_m_M_on 6 9 (.invokestatic 63) 118 3 0 0 [] [] = true := by decide +kernel
theorem rf_f_M_on_9 : rf_Fb rf_m_M_on 9 12 (.ifCond .ne 5) 14 0 0 0 [] [] = true := by decide +kernel
theorem rf_f_M_on_12 : rf_Fb rf_m_M_on 12 13 (.iconst (-1)) 0 0 0 0 [] [] = true := by decide +kernel
theorem rf_f_M_on_13 : rf_Fb rf_m_M_on 13 14 (.ireturn) 0 0 0 0 [] [] = true := by decide +kernel
theorem rf_f_M_on_14 : rf_Fb rf_m_M_on 14 15 (.aload_n 0) 0 0 0 0 [] [] = true := by decide +kernel
theorem rf_f_M_on_15 : rf_Fb rf_m_M_on 15 18 (.getfield 28) 5 6 2 0 [] [] = true := by decide +kernel
theorem rf_f_M_on_18 : rf_Fb rf_m_M_on 18 19 (.iload_n 1) 0 0 0 0 [] [] = true := by decide +kernel
theorem rf_f_M_on_19 : rf_Fb rf_m_M_on 19 20 (.baload) 0 0 0 0 [] [] = true := by decide +kernel
theorem rf_f_M_on_20 : rf_Fb rf_m_M_on 20 23 (.ifCond .ne 9) 29 0 0 0 [] [] = true := by decide +kernel
theorem rf_f_M_on_23 : rf_Fb rf_m_M_on 23 24 (.aload_n 0) 0 0 0 0 [] [] = true := by decide +kernel
theorem rf_f_M_on_24 : rf_Fb rf_m_M_on 24 25 (.iconst 1) 0 0 0 0 [] [] = true := by decide +kernel
theorem rf_f_M_on_25 : rf_Fb rf_m_M_on 25 28 (.invokevirtual 73) 119 1 0 5 [] [] = true := by decide +kernel
theorem rf_f_M_on_28 : rf_Fb rf_m_M_on 28 29 (.ireturn) 0 0 0 0 [] [] = true := by decide +kernel
theorem rf_f_M_on_29 : rf_Fb rf_m_M_on 29 30 (.iconst 0) 0 0 0 0 [] [] = true := by decide +kernel
theorem rf_f_M_on_30 : rf_Fb rf_m_M_on 30 31 (.istore_n 2) 0 0 0 0 [] [true, true, true] = true := by decide +kernel
theorem rf_f_M_on_31 : rf_Fb rf_m_M_on 31 32 (.iload_n 2) 0 0 0 0 [] [] = true := by decide +kernel
theorem rf_f_M_on_32 : rf_Fb rf_m_M_on 32 35 (.sipush 638) 0 0 0 0 [] [] = true := by decide +kernel
theorem rf_f_M_on_35 : rf_Fb rf_m_M_on 35 38 (.if_icmp .ge 27) 62 0 0 0 [] [] = true := by decide +kernel
theorem rf_f_M_on_38 : rf_Fb rf_m_M_on 38 39 (.aload_n 0) 0 0 0 0 [] [] = true := by decide +kernel
theorem rf_f_M_on_39 : rf_Fb rf_m_M_on 39 42 (.getfield 22) 5 4 2 0 [] [] = true := by decide +kernel
theorem rf_f_M_on_42 : rf_Fb rf_m_M_on 42 43 (.iload_n 2) 0 0 0 0 [] [] = true := by decide +kernel
theorem rf_f_M_on_43 : rf_Fb rf_m_M_on 43 44 (.aload_n 0) 0 0 0 0 [] [] = true := by decide +kernel
theorem rf_f_M_on_44 : rf_Fb rf_m_M_on 44 47 (.getfield 25) 5 5 2 0 [] [] = true := by decide +kernel
theorem rf_f_M_on_47 : rf_Fb rf_m_M_on 47 50 (.sipush 638) 0 0 0 0 [] [] = true := by decide +kernel
theorem rf_f_M_on_50 : rf_Fb rf_m_M_on 50 51 (.iload_n 1) 0 0 0 0 [] [] = true := by decide +kernel
theorem rf_f_M_on_51 : rf_Fb rf_m_M_on 51 52 (.imul) 0 0 0 0 [] [] = true := by decide +kernel
theorem rf_f_M_on_52 : rf_Fb rf_m_M_on 52 53 (.iload_n 2) 0 0 0 0 [] [] = true := by decide +kernel
theorem rf_f_M_on_53 : rf_Fb rf_m_M_on 53 54 (.iadd) 0 0 0 0 [] [] = true := by decide +kernel
theorem rf_f_M_on_54 : rf_Fb rf_m_M_on 54 55 (.iaload) 0 0 0 0 [] [] = true := by decide +kernel
theorem rf_f_M_on_55 : rf_Fb rf_m_M_on 55 56 (.iastore) 0 0 0 0 [] [] = true := by decide +kernel
theorem rf_f_M_on_56 : rf_Fb rf_m_M_on 56 59 (.iinc 2 1) 0 0 0 0 [] [] = true := by decide +kernel
theorem rf_f_M_on_59 : rf_Fb rf_m_M_on 59 62 (.goto (-28)) 31 0 0 0 [] [] = true := by decide +kernel
theorem rf_f_M_on_62 : rf_Fb rf_m_M_on 62 63 (.aload_n 0) 0 0 0 0 [] [] = true := by decide +kernel
theorem rf_f_M_on_63 : rf_Fb rf_m_M_on 63 66 (.getfield 22) 5 4 2 0 [] [] = true := by decide +kernel
theorem rf_f_M_on_66 : rf_Fb rf_m_M_on 66 68 (.bipush 37) 0 0 0 0 [] [] = true := by decide +kernel
theorem rf_f_M_on_68 : rf_Fb rf_m_M_on 68 69 (.iaload) 0 0 0 0 [] [] = true := by decide +kernel
theorem rf_f_M_on_69 : rf_Fb rf_m_M_on 69 70 (.ireturn) 0 0 0 0 [] [] = true := by decide +kernel
set_option maxRecDepth 20000 in
set_option maxHeartbeats 2000000 in
theorem rf_e_M_on (d : Nat) (o : Nat) (a1 : Int) (h : rf_H) : rf_call (d + 1) 162 [.inr (.inr (some o)), .inl a1] h = ((rf_call d 118 [.inr (.inl a1), .inr (.inl 0), .inr (.inl 2)] h).bind fun q2 => rf_kI q2 fun x3 h1 => (if x3 = 0 then some (some (.inl (-1)), h1) else ((rf_gR h1 5 o 6).bind fun x4 => (rf_nn x4 fun k5 => ((rf_aZ h1 k5 a1).bind fun x6 => (if x6 = 0 then (bif rf_isO h1.1 o 5 then ((rf_call d 119 [.inr (.inr (some o)), .inl 1] h1).bind fun q8 => rf_kI q8 fun x9 h7 => some (some (.inl x9), h7)) else none) else rf_j_M_on_31 d o a1 0 h1)))))) := by
  show rf_den (rf_call d) (rf_mt 162) _ = _
  rw [rf_u_M_on]
  exact ((rf_s_iload_n rf_f_M_on_0 rfl (rf_m0 _) (rf_s_i2l rf_f_M_on_1 (rf_m0 _) (rf_s_lconst rf_f_M_on_2 (rf_m0 _) (rf_s_ldc2_w rf_f_M_on_3 (rf_m0 _) (rf_s_invS0 rf_f_M_on_6 rfl rfl (rf_m0 _) fun q2 x3 h1 => (rf_s_if_ne rf_f_M_on_9 rfl (rf_m0 _) (rf_m0 _) (rf_s_aload_n rf_f_M_on_14 rfl (rf_m0 _) (rf_s_getAS rf_f_M_on_15 (rf_m0 _) fun x4 => (rf_s_iload_n rf_f_M_on_18 rfl (rf_m0 _) (rf_s_baldR rf_f_M_on_19 (rf_m0 _) fun k5 x6 => (rf_s_if_ne rf_f_M_on_20 rfl (rf_m0 _) (rf_m0 _) (rf_s_iconst rf_f_M_on_29 (rf_m0 _) (rf_s_istore_n rf_f_M_on_30 rfl rfl)) (rf_s_aload_n rf_f_M_on_23 rfl (rf_m0 _) (rf_s_iconst rf_f_M_on_24 (rf_m0 _) (rf_s_invV0S rf_f_M_on_25 rfl rfl (rf_m0 _) fun q8 x9 h7 => (rf_s_iret rf_f_M_on_28))))))))) (rf_s_iconst rf_f_M_on_12 (rf_m0 _) (rf_s_iret rf_f_M_on_13)))))))) : rf_den (rf_call d) rf_m_M_on (0, [some (.inr (.inr (some o))), some (.inl a1), none], [], h) = _)
set_option maxRecDepth 20000 in
set_option maxHeartbeats 2000000 in
theorem rf_e_M_on_31 (d : Nat) (o : Nat) (l1 : Int) (l2 : Int) (h : rf_H) : rf_j_M_on_31 d o l1 l2 h = (if l2 < 638 then ((rf_gR h 5 o 4).bind fun x4 => ((rf_gR h 5 o 5).bind fun x5 => (rf_nn x5 fun k6 => ((rf_aI h k6 (rf_w ((rf_w (638 * l1)) + l2))).bind fun x7 => (rf_nn x4 fun k8 => ((rf_sI h k8 l2 x7).bind fun h9 => rf_j_M_on_31 d o l1 (rf_w (l2 + 1)) h9)))))) else ((rf_gR h 5 o 4).bind fun x1 => (rf_nn x1 fun k2 => ((rf_aI h k2 37).bind fun x3 => some (some (.inl x3), h))))) :=
  ((rf_s_iload_n rf_f_M_on_31 rfl (rf_m0 _) (rf_s_sipush rf_f_M_on_32 (rf_m0 _) (rf_s_icmp_ge rf_f_M_on_35 rfl (rf_m0 _) (rf_m0 _) (rf_s_aload_n rf_f_M_on_62 rfl (rf_m0 _) (rf_s_getAS rf_f_M_on_63 (rf_m0 _) fun x1 => (rf_s_bipush rf_f_M_on_66 (rf_m0 _) (rf_s_ialdR rf_f_M_on_68 (rf_m0 _) fun k2 x3 => (rf_s_iret rf_f_M_on_69))))) (rf_s_aload_n rf_f_M_on_38 rfl (rf_m0 _) (rf_s_getAS rf_f_M_on_39 (rf_m0 _) fun x4 => (rf_s_iload_n rf_f_M_on_42 rfl (rf_m0 _) (rf_s_aload_n rf_f_M_on_43 rfl (rf_m0 _) (rf_s_getAS rf_f_M_on_44 (rf_m0 _) fun x5 => (rf_s_sipush rf_f_M_on_47 (rf_m0 _) (rf_s_iload_n rf_f_M_on_50 rfl (rf_m0 _) (rf_s_imul rf_f_M_on_51 (rf_m0 _) (rf_s_iload_n rf_f_M_on_52 rfl (rf_m0 _) (rf_s_iadd rf_f_M_on_53 (rf_m0 _) (rf_s_ialdR rf_f_M_on_54 (rf_m0 _) fun k6 x7 => (rf_s_iastR rf_f_M_on_55 (rf_m0 _) fun k8 h9 => (rf_s_iinc (L' := [some (.inr (.inr (some o))), some (.inl l1), some (.inl (rf_w (l2 + 1)))]) rf_f_M_on_56 rfl rfl (rf_s_goto rf_f_M_on_59 rfl rfl rfl))))))))))))))))) : rf_den (rf_call d) rf_m_M_on (31, [some (.inr (.inr (some o))), some (.inl l1), some (.inl l2)], [], h) = _)
theorem rf_u_M_grip : rf_mt 163 = rf_m_M_grip := rfl
theorem rf_f_M_grip_0 : rf_Fb rf_m_M_grip 0 1 (.aload_n 0) 0 0 0 0 [] [] = true := by decide +kernel
theorem rf_f_M_grip_1 : rf_Fb rf_m_M_grip 1 4 (.invokevirtual 162) 150 0 0 5 [] [] = true := by decide +kernel
theorem rf_f_M_grip_4 : rf_Fb rf_m_M_grip 4 7 (.ifCond .ne 6) 10 0 0 0 [] [] = true := by decide +kernel
theorem rf_f_M_grip_7 : rf_Fb rf_m_M_grip 7 9 (.bipush (-4)) 0 0 0 0 [] [] = true := by decide +kernel
theorem rf_f_M_grip_9 : rf_Fb rf_m_M_grip 9 10 (.ireturn) 0 0 0 0 [] [] = true := by decide +kernel
theorem rf_f_M_grip_10 : rf_Fb rf_m_M_grip 10 11 (.aload_n 0) 0 0 0 0 [] [] = true := by decide +kernel
theorem rf_f_M_grip_11 : rf_Fb rf_m_M_grip 11 14 (.invokevirtual 153) 142 0 3 5 [] [] = true := by decide +kernel
theorem rf_f_M_grip_14 : rf_Fb rf_m_M_grip 14 15 (.aload_n 0) 0 0 0 0 [] [] = true := by decide +kernel
theorem rf_f_M_grip_15 : rf_Fb rf_m_M_grip 15 16 (.aload_n 0) 0 0 0 0 [] [] = true := by decide +kernel
theorem rf_f_M_grip_16 : rf_Fb rf_m_M_grip 16 19 (.invokevirtual 156) 154 0 0 5 [] [] = true := by decide +kernel
theorem rf_f_M_grip_19 : rf_Fb rf_m_M_grip 19 22 (.invokevirtual 135) 157 1 0 5 [] [] = true := by decide +kernel
theorem rf_f_M_grip_22 : rf_Fb rf_m_M_grip 22 23 (.istore_n 1) 0 0 0 0 [] [] = true := by decide +kernel
theorem rf_f_M_grip_23 : rf_Fb rf_m_M_grip 23 24 (.aload_n 0) 0 0 0 0 [] [] = true := by decide +kernel
theorem rf_f_M_grip_24 : rf_Fb rf_m_M_grip 24 27 (.getfield 41) 5 17 2 0 [] [] = true := by decide +kernel
theorem rf_f_M_grip_27 : rf_Fb rf_m_M_grip 27 29 (.bipush 30) 0 0 0 0 [] [] = true := by decide +kernel
theorem rf_f_M_grip_29 : rf_Fb rf_m_M_grip 29 30 (.iconst 1) 0 0 0 0 [] [] = true := by decide +kernel
theorem rf_f_M_grip_30 : rf_Fb rf_m_M_grip 30 31 (.iastore) 0 0 0 0 [] [] = true := by decide +kernel
theorem rf_f_M_grip_31 : rf_Fb rf_m_M_grip 31 32 (.aload_n 0) 0 0 0 0 [] [] = true := by decide +kernel
theorem rf_f_M_grip_32 : rf_Fb rf_m_M_grip 32 33 (.iload_n 1) 0 0 0 0 [] [] = true := by decide +kernel
theorem rf_f_M_grip_33 : rf_Fb rf_m_M_grip 33 34 (.aload_n 0) 0 0 0 0 [] [] = true := by decide +kernel
theorem rf_f_M_grip_34 : rf_Fb rf_m_M_grip 34 35 (.aload_n 0) 0 0 0 0 [] [] = true := by decide +kernel
theorem rf_f_M_grip_35 : rf_Fb rf_m_M_grip 35 38 (.invokevirtual 156) 154 0 0 5 [] [] = true := by decide +kernel
theorem rf_f_M_grip_38 : rf_Fb rf_m_M_grip 38 41 (.invokevirtual 135) 157 1 0 5 [] [] = true := by decide +kernel
theorem rf_f_M_grip_41 : rf_Fb rf_m_M_grip 41 44 (.invokevirtual 177) 164 2 0 5 [] [] = true := by decide +kernel
theorem rf_f_M_grip_44 : rf_Fb rf_m_M_grip 44 45 (.ireturn) 0 0 0 0 [] [] = true := by decide +kernel
set_option maxRecDepth 20000 in
set_option maxHeartbeats 2000000 in
theorem rf_e_M_grip (d : Nat) (o : Nat) (h : rf_H) : rf_call (d + 1) 163 [.inr (.inr (some o))] h = (bif rf_isO h.1 o 5 then ((rf_call d 150 [.inr (.inr (some o))] h).bind fun q2 => rf_kI q2 fun x3 h1 => (if x3 = 0 then some (some (.inl (-4)), h1) else (bif rf_isO h1.1 o 5 then ((rf_call d 142 [.inr (.inr (some o))] h1).bind fun q5 => rf_kV q5 fun h4 => (bif rf_isO h4.1 o 5 then ((rf_call d 154 [.inr (.inr (some o))] h4).bind fun q7 => rf_kI q7 fun x8 h6 => (bif rf_isO h6.1 o 5 then ((rf_call d 157 [.inr (.inr (some o)), .inl x8] h6).bind fun q10 => rf_kI q10 fun x11 h9 => ((rf_gR h9 5 o 17).bind fun x12 => (rf_nn x12 fun k13 => ((rf_sI h9 k13 30 1).bind fun h14 => (bif rf_isO h14.1 o 5 then ((rf_call d 154 [.inr (.inr (some o))] h14).bind fun q16 => rf_kI q16 fun x17 h15 => (bif rf_isO h15.1 o 5 then ((rf_call d 157 [.inr (.inr (some o)), .inl x17] h15).bind fun q19 => rf_kI q19 fun x20 h18 => (bif rf_isO h18.1 o 5 then ((rf_call d 164 [.inr (.inr (some o)), .inl x11, .inl x20] h18).bind fun q22 => rf_kI q22 fun x23 h21 => some (some (.inl x23), h21)) else none)) else none)) else none))))) else none)) else none)) else none))) else none) := by
  show rf_den (rf_call d) (rf_mt 163) _ = _
  rw [rf_u_M_grip]
  exact ((rf_s_aload_n rf_f_M_grip_0 rfl (rf_m0 _) (rf_s_invV0S rf_f_M_grip_1 rfl rfl (rf_m0 _) fun q2 x3 h1 => (rf_s_if_ne rf_f_M_grip_4 rfl (rf_m0 _) (rf_m0 _) (rf_s_aload_n rf_f_M_grip_10 rfl (rf_m0 _) (rf_s_invV3S rf_f_M_grip_11 rfl rfl (rf_m0 _) fun q5 h4 => (rf_s_aload_n rf_f_M_grip_14 rfl (rf_m0 _) (rf_s_aload_n rf_f_M_grip_15 rfl (rf_m0 _) (rf_s_invV0S rf_f_M_grip_16 rfl rfl (rf_m0 _) fun q7 x8 h6 => (rf_s_invV0S rf_f_M_grip_19 rfl rfl (rf_m0 _) fun q10 x11 h9 => (rf_s_istore_n (L' := [some (.inr (.inr (some o))), some (.inl x11)]) rf_f_M_grip_22 rfl (rf_s_aload_n rf_f_M_grip_23 rfl (rf_m0 _) (rf_s_getAS rf_f_M_grip_24 (rf_m0 _) fun x12 => (rf_s_bipush rf_f_M_grip_27 (rf_m0 _) (rf_s_iconst rf_f_M_grip_29 (rf_m0 _) (rf_s_iastR rf_f_M_grip_30 (rf_m0 _) fun k13 h14 => (rf_s_aload_n rf_f_M_grip_31 rfl (rf_m0 _) (rf_s_iload_n rf_f_M_grip_32 rfl (rf_m0 _) (rf_s_aload_n rf_f_M_grip_33 rfl (rf_m0 _) (rf_s_aload_n rf_f_M_grip_34 rfl (rf_m0 _) (rf_s_invV0S rf_f_M_grip_35 rfl rfl (rf_m0 _) fun q16 x17 h15 => (rf_s_invV0S rf_f_M_grip_38 rfl rfl (rf_m0 _) fun q19 x20 h18 => (rf_s_invV0S rf_f_M_grip_41 rfl rfl (rf_m0 _) fun q22 x23 h21 => (rf_s_iret rf_f_M_grip_44)))))))))))))))))))) (rf_s_bipush rf_f_M_grip_7 (rf_m0 _) (rf_s_iret rf_f_M_grip_9))))) : rf_den (rf_call d) rf_m_M_grip (0, [some (.inr (.inr (some o))), none], [], h) = _)
theorem rf_u_M_answers : rf_mt 164 = rf_m_M_answers := rfl
theorem rf_f_M_answers_0 : rf_Fb rf_m_M_answers 0 1 (.aload_n 0) 0 0 0 0 [] [] = true := by decide +kernel
theorem rf_f_M_answers_1 : rf_Fb rf_m_M_answers 1 2 (.iload_n 2) 0 0 0 0 [] [] = true := by decide +kernel
theorem rf_f_M_answers_2 : rf_Fb rf_m_M_answers 2 5 (.putfield 58) 5 9 0 0 [] [] = true := by decide +kernel
theorem rf_f_M_answers_5 : rf_Fb rf_m_M_answers 5 6 (.iload_n 1) 0 0 0 0 [] [] = true := by decide +kernel
theorem rf_f_M_answers_6 : rf_Fb rf_m_M_answers 6 7 (.ireturn) 0 0 0 0 [] [] = true := by decide +kernel
set_option maxRecDepth 20000 in
set_option maxHeartbeats 2000000 in
theorem rf_e_M_answers (d : Nat) (o : Nat) (a1 : Int) (a2 : Int) (h : rf_H) : rf_call (d + 1) 164 [.inr (.inr (some o)), .inl a1, .inl a2] h = ((rf_pI h 5 o 9 a2).bind fun h1 => some (some (.inl a1), h1)) := by
  show rf_den (rf_call d) (rf_mt 164) _ = _
  rw [rf_u_M_answers]
  exact ((rf_s_aload_n rf_f_M_answers_0 rfl (rf_m0 _) (rf_s_iload_n rf_f_M_answers_1 rfl (rf_m0 _) (rf_s_putIS rf_f_M_answers_2 (rf_m0 _) fun h1 => (rf_s_iload_n rf_f_M_answers_5 rfl (rf_m0 _) (rf_s_iret rf_f_M_answers_6))))) : rf_den (rf_call d) rf_m_M_answers (0, [some (.inr (.inr (some o))), some (.inl a1), some (.inl a2)], [], h) = _)
theorem rf_u_M_load : rf_mt 165 = rf_m_M_load := rfl
theorem rf_f_M_load_0 : rf_Fb rf_m_M_load 0 1 (.aload_n 0) 0 0 0 0 [] [] = true := by decide +kernel
theorem rf_f_M_load_1 : rf_Fb rf_m_M_load 1 4 (.invokevirtual 153) 142 0 3 5 [] [] = true := by decide +kernel
theorem rf_f_M_load_4 : rf_Fb rf_m_M_load 4 5 (.iload_n 1) 0 0 0 0 [] [] = true := by decide +kernel
theorem rf_f_M_load_5 : rf_Fb rf_m_M_load 5 6 (.i2l) 0 0 0 0 [] [] = true := by decide +kernel
theorem rf_f_M_load_6 : rf_Fb rf_m_M_load 6 7 (.lconst 0) 0 0 0 0 [] [] = true := by decide +kernel
theorem rf_f_M_load_7 : rf_Fb rf_m_M_load 7 8 (.aload_n 0) 0 0 0 0 [] [] = true := by decide +kernel
theorem rf_f_M_load_8 : rf_Fb rf_m_M_load 8 11 (.getfield 22) 5 4 2 0 [] [] = true := by decide +kernel
theorem rf_f_M_load_11 : rf_Fb rf_m_M_load 11 13 (.bipush 36) 0 0 0 0 [] [] = true := by decide +kernel
theorem rf_f_M_load_13 : rf_Fb rf_m_M_load 13 14 (.iaload) 0 0 0 0 [] [] = true := by decide +kernel
theorem rf_f_M_load_14 : rf_Fb rf_m_M_load 14 15 (.i2l) 0 0 0 0 [] [] = true := by decide +kernel
theorem rf_f_M_load_15 : rf_Fb rf_m_M_load 15 18 (.invokestatic 63) 118 3 0 0 [] [] = true := by decide +kernel
theorem rf_f_M_load_18 : rf_Fb rf_m_M_load 18 21 (.ifCond .eq 11) 29 0 0 0 [] [] = true := by decide +kernel
theorem rf_f_M_load_21 : rf_Fb rf_m_M_load 21 22 (.aload_n 0) 0 0 0 0 [] [] = true := by decide +kernel
theorem rf_f_M_load_22 : rf_Fb rf_m_M_load 22 23 (.iload_n 1) 0 0 0 0 [] [] = true := by decide +kernel
theorem rf_f_M_load_23 : rf_Fb rf_m_M_load 23 26 (.invokevirtual 141) 159 1 0 5 [] [] = true := by decide +kernel
theorem rf_f_M_load_26 : rf_Fb rf_m_M_load 26 29 (.goto 4) 30 0 0 0 [] [] = true := by decide +kernel
theorem rf_f_M_load_29 : rf_Fb rf_m_M_load 29 30 (.iconst (-1)) 0 0 0 0 [] [] = true := by decide +kernel
theorem rf_f_M_load_30 : rf_Fb rf_m_M_load 30 31 (.ireturn) 0 0 0 0 [] [] = true := by decide +kernel
set_option maxRecDepth 20000 in
set_option maxHeartbeats 2000000 in
theorem rf_e_M_load (d : Nat) (o : Nat) (a1 : Int) (h : rf_H) : rf_call (d + 1) 165 [.inr (.inr (some o)), .inl a1] h = (bif rf_isO h.1 o 5 then ((rf_call d 142 [.inr (.inr (some o))] h).bind fun q2 => rf_kV q2 fun h1 => ((rf_gR h1 5 o 4).bind fun x3 => (rf_nn x3 fun k4 => ((rf_aI h1 k4 36).bind fun x5 => ((rf_call d 118 [.inr (.inl a1), .inr (.inl 0), .inr (.inl x5)] h1).bind fun q7 => rf_kI q7 fun x8 h6 => (if x8 = 0 then some (some (.inl (-1)), h6) else (bif rf_isO h6.1 o 5 then ((rf_call d 159 [.inr (.inr (some o)), .inl a1] h6).bind fun q10 => rf_kI q10 fun x11 h9 => some (some (.inl x11), h9)) else none))))))) else none) := by
  show rf_den (rf_call d) (rf_mt 165) _ = _
  rw [rf_u_M_load]
  exact ((rf_s_aload_n rf_f_M_load_0 rfl (rf_m0 _) (rf_s_invV3S rf_f_M_load_1 rfl rfl (rf_m0 _) fun q2 h1 => (rf_s_iload_n rf_f_M_load_4 rfl (rf_m0 _) (rf_s_i2l rf_f_M_load_5 (rf_m0 _) (rf_s_lconst rf_f_M_load_6 (rf_m0 _) (rf_s_aload_n rf_f_M_load_7 rfl (rf_m0 _) (rf_s_getAS rf_f_M_load_8 (rf_m0 _) fun x3 => (rf_s_bipush rf_f_M_load_11 (rf_m0 _) (rf_s_ialdR rf_f_M_load_13 (rf_m0 _) fun k4 x5 => (rf_s_i2l rf_f_M_load_14 (rf_m0 _) (rf_s_invS0 rf_f_M_load_15 rfl rfl (rf_m0 _) fun q7 x8 h6 => (rf_s_if_eq rf_f_M_load_18 rfl (rf_m0 _) (rf_m0 _) (rf_s_iconst rf_f_M_load_29 (rf_m0 _) (rf_s_iret rf_f_M_load_30)) (rf_s_aload_n rf_f_M_load_21 rfl (rf_m0 _) (rf_s_iload_n rf_f_M_load_22 rfl (rf_m0 _) (rf_s_invV0S rf_f_M_load_23 rfl rfl (rf_m0 _) fun q10 x11 h9 => (rf_s_goto rf_f_M_load_26 rfl (rf_m0 _) (rf_s_iret rf_f_M_load_30))))))))))))))))) : rf_den (rf_call d) rf_m_M_load (0, [some (.inr (.inr (some o))), some (.inl a1)], [], h) = _)
theorem rf_u_M_steam : rf_mt 166 = rf_m_M_steam := rfl
theorem rf_f_M_steam_0 : rf_Fb rf_m_M_steam 0 1 (.aload_n 0) 0 0 0 0 [] [] = true := by decide +kernel
theorem rf_f_M_steam_1 : rf_Fb rf_m_M_steam 1 4 (.invokevirtual 162) 150 0 0 5 [] [] = true := by decide +kernel
theorem rf_f_M_steam_4 : rf_Fb rf_m_M_steam 4 7 (.ifCond .ne 6) 10 0 0 0 [] [] = true := by decide +kernel
theorem rf_f_M_steam_7 : rf_Fb rf_m_M_steam 7 9 (.bipush (-4)) 0 0 0 0 [] [] = true := by decide +kernel
theorem rf_f_M_steam_9 : rf_Fb rf_m_M_steam 9 10 (.ireturn) 0 0 0 0 [] [] = true := by decide +kernel
theorem rf_f_M_steam_10 : rf_Fb rf_m_M_steam 10 11 (.aload_n 0) 0 0 0 0 [] [] = true := by decide +kernel
theorem rf_f_M_steam_11 : rf_Fb rf_m_M_steam 11 14 (.invokevirtual 153) 142 0 3 5 [] [] = true := by decide +kernel
theorem rf_f_M_steam_14 : rf_Fb rf_m_M_steam 14 15 (.aload_n 0) 0 0 0 0 [] [] = true := by decide +kernel
theorem rf_f_M_steam_15 : rf_Fb rf_m_M_steam 15 16 (.aload_n 0) 0 0 0 0 [] [] = true := by decide +kernel
theorem rf_f_M_steam_16 : rf_Fb rf_m_M_steam 16 19 (.invokevirtual 156) 154 0 0 5 [] [] = true := by decide +kernel
theorem rf_f_M_steam_19 : rf_Fb rf_m_M_steam 19 22 (.invokevirtual 135) 157 1 0 5 [] [] = true := by decide +kernel
theorem rf_f_M_steam_22 : rf_Fb rf_m_M_steam 22 23 (.istore_n 1) 0 0 0 0 [] [] = true := by decide +kernel
theorem rf_f_M_steam_23 : rf_Fb rf_m_M_steam 23 24 (.aload_n 0) 0 0 0 0 [] [] = true := by decide +kernel
theorem rf_f_M_steam_24 : rf_Fb rf_m_M_steam 24 26 (.bipush 9) 0 0 0 0 [] [] = true := by decide +kernel
theorem rf_f_M_steam_26 : rf_Fb rf_m_M_steam 26 27 (.iload_n 1) 0 0 0 0 [] [] = true := by decide +kernel
theorem rf_f_M_steam_27 : rf_Fb rf_m_M_steam 27 28 (.iconst 2) 0 0 0 0 [] [] = true := by decide +kernel
theorem rf_f_M_steam_28 : rf_Fb rf_m_M_steam 28 29 (.idiv) 0 0 0 0 [] [] = true := by decide +kernel
theorem rf_f_M_steam_29 : rf_Fb rf_m_M_steam 29 32 (.invokestatic 138) 158 2 0 0 [] [] = true := by decide +kernel
theorem rf_f_M_steam_32 : rf_Fb rf_m_M_steam 32 33 (.aload_n 0) 0 0 0 0 [] [] = true := by decide +kernel
theorem rf_f_M_steam_33 : rf_Fb rf_m_M_steam 33 34 (.aload_n 0) 0 0 0 0 [] [] = true := by decide +kernel
theorem rf_f_M_steam_34 : rf_Fb rf_m_M_steam 34 37 (.getfield 41) 5 17 2 0 [] [] = true := by decide +kernel
theorem rf_f_M_steam_37 : rf_Fb rf_m_M_steam 37 39 (.bipush 33) 0 0 0 0 [] [] = true := by decide +kernel
theorem rf_f_M_steam_39 : rf_Fb rf_m_M_steam 39 40 (.iaload) 0 0 0 0 [] [] = true := by decide +kernel
theorem rf_f_M_steam_40 : rf_Fb rf_m_M_steam 40 41 (.iconst 1) 0 0 0 0 [] [] = true := by decide +kernel
theorem rf_f_M_steam_41 : rf_Fb rf_m_M_steam 41 42 (.iadd) 0 0 0 0 [] [] = true := by decide +kernel
theorem rf_f_M_steam_42 : rf_Fb rf_m_M_steam 42 43 (.aload_n 0) 0 0 0 0 [] [] = true := by decide +kernel
theorem rf_f_M_steam_43 : rf_Fb rf_m_M_steam 43 46 (.getfield 41) 5 17 2 0 [] [] = true := by decide +kernel
theorem rf_f_M_steam_46 : rf_Fb rf_m_M_steam 46 48 (.bipush 36) 0 0 0 0 [] [] = true := by decide +kernel
theorem rf_f_M_steam_48 : rf_Fb rf_m_M_steam 48 49 (.iaload) 0 0 0 0 [] [] = true := by decide +kernel
theorem rf_f_M_steam_49 : rf_Fb rf_m_M_steam 49 52 (.invokestatic 138) 158 2 0 0 [] [] = true := by decide +kernel
theorem rf_f_M_steam_52 : rf_Fb rf_m_M_steam 52 55 (.invokevirtual 141) 159 1 0 5 [] [] = true := by decide +kernel
theorem rf_f_M_steam_55 : rf_Fb rf_m_M_steam 55 58 (.invokestatic 180) 167 1 0 0 [] [] = true := by decide +kernel
theorem rf_f_M_steam_58 : rf_Fb rf_m_M_steam 58 61 (.invokevirtual 177) 164 2 0 5 [] [] = true := by decide +kernel
theorem rf_f_M_steam_61 : rf_Fb rf_m_M_steam 61 62 (.ireturn) 0 0 0 0 [] [] = true := by decide +kernel
set_option maxRecDepth 20000 in
set_option maxHeartbeats 2000000 in
theorem rf_e_M_steam (d : Nat) (o : Nat) (h : rf_H) : rf_call (d + 1) 166 [.inr (.inr (some o))] h = (bif rf_isO h.1 o 5 then ((rf_call d 150 [.inr (.inr (some o))] h).bind fun q2 => rf_kI q2 fun x3 h1 => (if x3 = 0 then some (some (.inl (-4)), h1) else (bif rf_isO h1.1 o 5 then ((rf_call d 142 [.inr (.inr (some o))] h1).bind fun q5 => rf_kV q5 fun h4 => (bif rf_isO h4.1 o 5 then ((rf_call d 154 [.inr (.inr (some o))] h4).bind fun q7 => rf_kI q7 fun x8 h6 => (bif rf_isO h6.1 o 5 then ((rf_call d 157 [.inr (.inr (some o)), .inl x8] h6).bind fun q10 => rf_kI q10 fun x11 h9 => ((rf_call d 158 [.inl 9, .inl (rf_w (Int.tdiv x11 2))] h9).bind fun q13 => rf_kI q13 fun x14 h12 => ((rf_gR h12 5 o 17).bind fun x15 => (rf_nn x15 fun k16 => ((rf_aI h12 k16 33).bind fun x17 => ((rf_gR h12 5 o 17).bind fun x18 => (rf_nn x18 fun k19 => ((rf_aI h12 k19 36).bind fun x20 => ((rf_call d 158 [.inl (rf_w (x17 + 1)), .inl x20] h12).bind fun q22 => rf_kI q22 fun x23 h21 => (bif rf_isO h21.1 o 5 then ((rf_call d 159 [.inr (.inr (some o)), .inl x23] h21).bind fun q25 => rf_kI q25 fun x26 h24 => ((rf_call d 167 [.inl x26] h24).bind fun q28 => rf_kI q28 fun x29 h27 => (bif rf_isO h27.1 o 5 then ((rf_call d 164 [.inr (.inr (some o)), .inl x14, .inl x29] h27).bind fun q31 => rf_kI q31 fun x32 h30 => some (some (.inl x32), h30)) else none))) else none)))))))))) else none)) else none)) else none))) else none) := by
  show rf_den (rf_call d) (rf_mt 166) _ = _
  rw [rf_u_M_steam]
  exact ((rf_s_aload_n rf_f_M_steam_0 rfl (rf_m0 _) (rf_s_invV0S rf_f_M_steam_1 rfl rfl (rf_m0 _) fun q2 x3 h1 => (rf_s_if_ne rf_f_M_steam_4 rfl (rf_m0 _) (rf_m0 _) (rf_s_aload_n rf_f_M_steam_10 rfl (rf_m0 _) (rf_s_invV3S rf_f_M_steam_11 rfl rfl (rf_m0 _) fun q5 h4 => (rf_s_aload_n rf_f_M_steam_14 rfl (rf_m0 _) (rf_s_aload_n rf_f_M_steam_15 rfl (rf_m0 _) (rf_s_invV0S rf_f_M_steam_16 rfl rfl (rf_m0 _) fun q7 x8 h6 => (rf_s_invV0S rf_f_M_steam_19 rfl rfl (rf_m0 _) fun q10 x11 h9 => (rf_s_istore_n (L' := [some (.inr (.inr (some o))), some (.inl x11)]) rf_f_M_steam_22 rfl (rf_s_aload_n rf_f_M_steam_23 rfl (rf_m0 _) (rf_s_bipush rf_f_M_steam_24 (rf_m0 _) (rf_s_iload_n rf_f_M_steam_26 rfl (rf_m0 _) (rf_s_iconst rf_f_M_steam_27 (rf_m0 _) (rf_s_idiv rf_f_M_steam_28 (by decide) (rf_m0 _) (rf_s_invS0 rf_f_M_steam_29 rfl rfl (rf_m0 _) fun q13 x14 h12 => (rf_s_aload_n rf_f_M_steam_32 rfl (rf_m0 _) (rf_s_aload_n rf_f_M_steam_33 rfl (rf_m0 _) (rf_s_getAS rf_f_M_steam_34 (rf_m0 _) fun x15 => (rf_s_bipush rf_f_M_steam_37 (rf_m0 _) (rf_s_ialdR rf_f_M_steam_39 (rf_m0 _) fun k16 x17 => (rf_s_iconst rf_f_M_steam_40 (rf_m0 _) (rf_s_iadd rf_f_M_steam_41 (rf_m0 _) (rf_s_aload_n rf_f_M_steam_42 rfl (rf_m0 _) (rf_s_getAS rf_f_M_steam_43 (rf_m0 _) fun x18 => (rf_s_bipush rf_f_M_steam_46 (rf_m0 _) (rf_s_ialdR rf_f_M_steam_48 (rf_m0 _) fun k19 x20 => (rf_s_invS0 rf_f_M_steam_49 rfl rfl (rf_m0 _) fun q22 x23 h21 => (rf_s_invV0S rf_f_M_steam_52 rfl rfl (rf_m0 _) fun q25 x26 h24 => (rf_s_invS0 rf_f_M_steam_55 rfl rfl (rf_m0 _) fun q28 x29 h27 => (rf_s_invV0S rf_f_M_steam_58 rfl rfl (rf_m0 _) fun q31 x32 h30 => (rf_s_iret rf_f_M_steam_61))))))))))))))))))))))))))))) (rf_s_bipush rf_f_M_steam_7 (rf_m0 _) (rf_s_iret rf_f_M_steam_9))))) : rf_den (rf_call d) rf_m_M_steam (0, [some (.inr (.inr (some o))), none], [], h) = _)
theorem rf_u_M_enough : rf_mt 167 = rf_m_M_enough := rfl
theorem rf_f_M_enough_0 : rf_Fb rf_m_M_enough 0 1 (.iload_n 0) 0 0 0 0 [] [] = true := by decide +kernel
theorem rf_f_M_enough_1 : rf_Fb rf_m_M_enough 1 3 (.bipush 18) 0 0 0 0 [] [] = true := by decide +kernel
theorem rf_f_M_enough_3 : rf_Fb rf_m_M_enough 3 6 (.if_icmp .le 8) 11 0 0 0 [] [] = true := by decide +kernel
theorem rf_f_M_enough_6 : rf_Fb rf_m_M_enough 6 8 (.bipush (-9)) 0 0 0 0 [] [] = true := by decide +kernel
theorem rf_f_M_enough_8 : rf_Fb rf_m_M_enough 8 11 (.goto 8) 16 0 0 0 [] [] = true := by decide +kernel
theorem rf_f_M_enough_11 : rf_Fb rf_m_M_enough 11 12 (.iload_n 0) 0 0 0 0 [] [] = true := by decide +kernel
theorem rf_f_M_enough_12 : rf_Fb rf_m_M_enough 12 13 (.iconst 1) 0 0 0 0 [] [] = true := by decide +kernel
theorem rf_f_M_enough_13 : rf_Fb rf_m_M_enough 13 14 (.iadd) 0 0 0 0 [] [] = true := by decide +kernel
theorem rf_f_M_enough_14 : rf_Fb rf_m_M_enough 14 15 (.iconst 2) 0 0 0 0 [] [] = true := by decide +kernel
theorem rf_f_M_enough_15 : rf_Fb rf_m_M_enough 15 16 (.idiv) 0 0 0 0 [] [] = true := by decide +kernel
theorem rf_f_M_enough_16 : rf_Fb rf_m_M_enough 16 17 (.ireturn) 0 0 0 0 [] [] = true := by decide +kernel
set_option maxRecDepth 20000 in
set_option maxHeartbeats 2000000 in
theorem rf_e_M_enough (d : Nat) (a1 : Int) (h : rf_H) : rf_call (d + 1) 167 [.inl a1] h = (if 18 < a1 then some (some (.inl (-9)), h) else some (some (.inl (rf_w (Int.tdiv (rf_w (a1 + 1)) 2))), h)) := by
  show rf_den (rf_call d) (rf_mt 167) _ = _
  rw [rf_u_M_enough]
  exact ((rf_s_iload_n rf_f_M_enough_0 rfl (rf_m0 _) (rf_s_bipush rf_f_M_enough_1 (rf_m0 _) (rf_s_icmp_le rf_f_M_enough_3 rfl (rf_m0 _) (rf_m0 _) (rf_s_iload_n rf_f_M_enough_11 rfl (rf_m0 _) (rf_s_iconst rf_f_M_enough_12 (rf_m0 _) (rf_s_iadd rf_f_M_enough_13 (rf_m0 _) (rf_s_iconst rf_f_M_enough_14 (rf_m0 _) (rf_s_idiv rf_f_M_enough_15 (by decide) (rf_m0 _) (rf_s_iret rf_f_M_enough_16)))))) (rf_s_bipush rf_f_M_enough_6 (rf_m0 _) (rf_s_goto rf_f_M_enough_8 rfl (rf_m0 _) (rf_s_iret rf_f_M_enough_16)))))) : rf_den (rf_call d) rf_m_M_enough (0, [some (.inl a1)], [], h) = _)
theorem rf_u_M_would : rf_mt 168 = rf_m_M_would := rfl
theorem rf_f_M_would_0 : rf_Fb rf_m_M_would 0 1 (.iload_n 1) 0 0 0 0 [] [] = true := by decide +kernel
theorem rf_f_M_would_1 : rf_Fb rf_m_M_would 1 2 (.i2l) 0 0 0 0 [] [] = true := by decide +kernel
theorem rf_f_M_would_2 : rf_Fb rf_m_M_would 2 3 (.lconst 0) 0 0 0 0 [] [] = true := by decide +kernel
theorem rf_f_M_would_3 : rf_Fb rf_m_M_would 3 6 (.ldc2_w 165) 0 0 0 9 [] [] = true := by decide +kernel
theorem rf_f_M_would_6 : rf_Fb rf_m_M_would 6 9 (.invokestatic 63) 118 3 0 0 [] [] = true := by decide +kernel
theorem rf_f_M_would_9 : rf_Fb rf_m_M_would 9 12 (.ifCond .ne 5) 14 0 0 0 [] [] = true := by decide +kernel
theorem rf_f_M_would_12 : rf_Fb rf_m_M_would 12 13 (.iconst (-1)) 0 0 0 0 [] [] = true := by decide +kernel
theorem rf_f_M_would_13 : rf_Fb rf_m_M_would 13 14 (.ireturn) 0 0 0 0 [] [] = true := by decide +kernel
theorem rf_f_M_would_14 : rf_Fb rf_m_M_would 14 15 (.aload_n 0) 0 0 0 0 [] [] = true := by decide +kernel
theorem rf_f_M_would_15 : rf_Fb rf_m_M_would 15 18 (.invokevirtual 162) 150 0 0 5 [] [] = true := by decide +kernel
theorem rf_f_M_would_18 : rf_Fb rf_m_M_would 18 21 (.ifCond .ne 6) 24 0 0 0 [] [] = true := by decide +kernel
theorem rf_f_M_would_21 : rf_Fb rf_m_M_would 21 23 (.bipush (-4)) 0 0 0 0 [] [] = true := by decide +kernel
theorem rf_f_M_would_23 : rf_Fb rf_m_M_would 23 24 (.ireturn) 0 0 0 0 [] [] = true := by decide +kernel
theorem rf_f_M_would_24 : rf_Fb rf_m_M_would 24 25 (.aload_n 0) 0 0 0 0 [] [] = true := by decide +kernel
theorem rf_f_M_would_25 : rf_Fb rf_m_M_would 25 28 (.invokevirtual 153) 142 0 3 5 [] [] = true := by decide +kernel
theorem rf_f_M_would_28 : rf_Fb rf_m_M_would 28 29 (.aload_n 0) 0 0 0 0 [] [] = true := by decide +kernel
theorem rf_f_M_would_29 : rf_Fb rf_m_M_would 29 30 (.iload_n 1) 0 0 0 0 [] [] = true := by decide +kernel
theorem rf_f_M_would_30 : rf_Fb rf_m_M_would 30 31 (.aload_n 0) 0 0 0 0 [] [] = true := by decide +kernel
theorem rf_f_M_would_31 : rf_Fb rf_m_M_would 31 34 (.invokevirtual 156) 154 0 0 5 [] [] = true := by decide +kernel
theorem rf_f_M_would_34 : rf_Fb rf_m_M_would 34 37 (.invokevirtual 150) 156 2 0 5 [] [] = true := by decide +kernel
theorem rf_f_M_would_37 : rf_Fb rf_m_M_would 37 38 (.ireturn) 0 0 0 0 [] [] = true := by decide +kernel
set_option maxRecDepth 20000 in
set_option maxHeartbeats 2000000 in
theorem rf_e_M_would (d : Nat) (o : Nat) (a1 : Int) (h : rf_H) : rf_call (d + 1) 168 [.inr (.inr (some o)), .inl a1] h = ((rf_call d 118 [.inr (.inl a1), .inr (.inl 0), .inr (.inl 9)] h).bind fun q2 => rf_kI q2 fun x3 h1 => (if x3 = 0 then some (some (.inl (-1)), h1) else (bif rf_isO h1.1 o 5 then ((rf_call d 150 [.inr (.inr (some o))] h1).bind fun q5 => rf_kI q5 fun x6 h4 => (if x6 = 0 then some (some (.inl (-4)), h4) else (bif rf_isO h4.1 o 5 then ((rf_call d 142 [.inr (.inr (some o))] h4).bind fun q8 => rf_kV q8 fun h7 => (bif rf_isO h7.1 o 5 then ((rf_call d 154 [.inr (.inr (some o))] h7).bind fun q10 => rf_kI q10 fun x11 h9 => (bif rf_isO h9.1 o 5 then ((rf_call d 156 [.inr (.inr (some o)), .inl a1, .inl x11] h9).bind fun q13 => rf_kI q13 fun x14 h12 => some (some (.inl x14), h12)) else none)) else none)) else none))) else none))) := by
  show rf_den (rf_call d) (rf_mt 168) _ = _
  rw [rf_u_M_would]
  exact ((rf_s_iload_n rf_f_M_would_0 rfl (rf_m0 _) (rf_s_i2l rf_f_M_would_1 (rf_m0 _) (rf_s_lconst rf_f_M_would_2 (rf_m0 _) (rf_s_ldc2_w rf_f_M_would_3 (rf_m0 _) (rf_s_invS0 rf_f_M_would_6 rfl rfl (rf_m0 _) fun q2 x3 h1 => (rf_s_if_ne rf_f_M_would_9 rfl (rf_m0 _) (rf_m0 _) (rf_s_aload_n rf_f_M_would_14 rfl (rf_m0 _) (rf_s_invV0S rf_f_M_would_15 rfl rfl (rf_m0 _) fun q5 x6 h4 => (rf_s_if_ne rf_f_M_would_18 rfl (rf_m0 _) (rf_m0 _) (rf_s_aload_n rf_f_M_would_24 rfl (rf_m0 _) (rf_s_invV3S rf_f_M_would_25 rfl rfl (rf_m0 _) fun q8 h7 => (rf_s_aload_n rf_f_M_would_28 rfl (rf_m0 _) (rf_s_iload_n rf_f_M_would_29 rfl (rf_m0 _) (rf_s_aload_n rf_f_M_would_30 rfl (rf_m0 _) (rf_s_invV0S rf_f_M_would_31 rfl rfl (rf_m0 _) fun q10 x11 h9 => (rf_s_invV0S rf_f_M_would_34 rfl rfl (rf_m0 _) fun q13 x14 h12 => (rf_s_iret rf_f_M_would_37)))))))) (rf_s_bipush rf_f_M_would_21 (rf_m0 _) (rf_s_iret rf_f_M_would_23))))) (rf_s_iconst rf_f_M_would_12 (rf_m0 _) (rf_s_iret rf_f_M_would_13)))))))) : rf_den (rf_call d) rf_m_M_would (0, [some (.inr (.inr (some o))), some (.inl a1)], [], h) = _)
noncomputable def rf_j_M_worst_11 (d : Nat) (o : Nat) (l1 : Int) (l2 : Int) (l3 : Int) (h : rf_H) : Option rf_R := rf_den (rf_call d) rf_m_M_worst (11, [some (.inr (.inr (some o))), some (.inl l1), some (.inl l2), some (.inl l3), none, none, none], [], h)
noncomputable def rf_j_M_worst_71 (d : Nat) (o : Nat) (l1 : Int) (l2 : Int) (l3 : Int) (s0 : Int) (h : rf_H) : Option rf_R := rf_den (rf_call d) rf_m_M_worst (71, [some (.inr (.inr (some o))), some (.inl l1), some (.inl l2), some (.inl l3), none, none, none], [.inl s0], h)
theorem rf_u_M_worst : rf_mt 169 = rf_m_M_worst := rfl
theorem rf_f_M_worst_0 : rf_Fb rf_m_M_worst 0 1 (.aload_n 0) 0 0 0 0 [] [] = true := by decide +kernel
theorem rf_f_M_worst_1 : rf_Fb rf_m_M_worst 1 4 (.invokevirtual 153) 142 0 3 5 [] [] = true := by decide +kernel
theorem rf_f_M_worst_4 : rf_Fb rf_m_M_worst 4 5 (.iconst 0) 0 0 0 0 [] [] = true := by decide +kernel
theorem rf_f_M_worst_5 : rf_Fb rf_m_M_worst 5 6 (.istore_n 1) 0 0 0 0 [] [] = true := by decide +kernel
theorem rf_f_M_worst_6 : rf_Fb rf_m_M_worst 6 8 (.bipush (-9)) 0 0 0 0 [] [] = true := by decide +kernel
theorem rf_f_M_worst_8 : rf_Fb rf_m_M_worst 8 9 (.istore_n 2) 0 0 0 0 [] [] = true := by decide +kernel
theorem rf_f_M_worst_9 : rf_Fb rf_m_M_worst 9 10 (.iconst 0) 0 0 0 0 [] [] = true := by decide +kernel
theorem rf_f_M_worst_10 : rf_Fb rf_m_M_worst 10 11 (.istore_n 3) 0 0 0 0 [] [true, true, true, true, false, false, false] = true := by decide +kernel
theorem rf_f_M_worst_11 : rf_Fb rf_m_M_worst 11 12 (.iload_n 3) 0 0 0 0 [] [] = true := by decide +kernel
theorem rf_f_M_worst_12 : rf_Fb rf_m_M_worst 12 13 (.aload_n 0) 0 0 0 0 [] [] = true := by decide +kernel
theorem rf_f_M_worst_13 : rf_Fb rf_m_M_worst 13 16 (.getfield 41) 5 17 2 0 [] [] = true := by decide +kernel
theorem rf_f_M_worst_16 : rf_Fb rf_m_M_worst 16 18 (.bipush 36) 0 0 0 0 [] [] = true := by decide +kernel
theorem rf_f_M_worst_18 : rf_Fb rf_m_M_worst 18 19 (.iaload) 0 0 0 0 [] [] = true := by decide +kernel
theorem rf_f_M_worst_19 : rf_Fb rf_m_M_worst 19 22 (.if_icmp .ge 79) 98 0 0 0 [] [] = true := by decide +kernel
theorem rf_f_M_worst_22 : rf_Fb rf_m_M_worst 22 23 (.aload_n 0) 0 0 0 0 [] [] = true := by decide +kernel
theorem rf_f_M_worst_23 : rf_Fb rf_m_M_worst 23 24 (.iload_n 3) 0 0 0 0 [] [] = true := by decide +kernel
theorem rf_f_M_worst_24 : rf_Fb rf_m_M_worst 24 25 (.iconst 1) 0 0 0 0 [] [] = true := by decide +kernel
theorem rf_f_M_worst_25 : rf_Fb rf_m_M_worst 25 26 (.iadd) 0 0 0 0 [] [] = true := by decide +kernel
theorem rf_f_M_worst_26 : rf_Fb rf_m_M_worst 26 29 (.invokevirtual 141) 159 1 0 5 [] [] = true := by decide +kernel
theorem rf_f_M_worst_29 : rf_Fb rf_m_M_worst 29 31 (.istore 4) 0 0 0 0 [] [] = true := by decide +kernel
theorem rf_f_M_worst_31 : rf_Fb rf_m_M_worst 31 33 (.iload 4) 0 0 0 0 [] [] = true := by decide +kernel
theorem rf_f_M_worst_33 : rf_Fb rf_m_M_worst 33 36 (.invokestatic 180) 167 1 0 0 [] [] = true := by decide +kernel
theorem rf_f_M_worst_36 : rf_Fb rf_m_M_worst 36 38 (.istore 5) 0 0 0 0 [] [] = true := by decide +kernel
theorem rf_f_M_worst_38 : rf_Fb rf_m_M_worst 38 40 (.iload 5) 0 0 0 0 [] [] = true := by decide +kernel
theorem rf_f_M_worst_40 : rf_Fb rf_m_M_worst 40 42 (.bipush (-9)) 0 0 0 0 [] [] = true := by decide +kernel
theorem rf_f_M_worst_42 : rf_Fb rf_m_M_worst 42 45 (.if_icmp .ne 7) 49 0 0 0 [] [] = true := by decide +kernel
theorem rf_f_M_worst_45 : rf_Fb rf_m_M_worst 45 46 (.iconst 0) 0 0 0 0 [] [] = true := by decide +kernel
theorem rf_f_M_worst_46 : rf_Fb rf_m_M_worst 46 49 (.goto 25) 71 0 0 0 [] [] = true := by decide +kernel
theorem rf_f_M_worst_49 : rf_Fb rf_m_M_worst 49 50 (.iconst 2) 0 0 0 0 [] [] = true := by decide +kernel
theorem rf_f_M_worst_50 : rf_Fb rf_m_M_worst 50 52 (.iload 5) 0 0 0 0 [] [] = true := by decide +kernel
theorem rf_f_M_worst_52 : rf_Fb rf_m_M_worst 52 53 (.imul) 0 0 0 0 [] [] = true := by decide +kernel
theorem rf_f_M_worst_53 : rf_Fb rf_m_M_worst 53 55 (.iload 4) 0 0 0 0 [] [] = true := by decide +kernel
theorem rf_f_M_worst_55 : rf_Fb rf_m_M_worst 55 56 (.isub) 0 0 0 0 [] [] = true := by decide +kernel
theorem rf_f_M_worst_56 : rf_Fb rf_m_M_worst 56 57 (.aload_n 0) 0 0 0 0 [] [] = true := by decide +kernel
theorem rf_f_M_worst_57 : rf_Fb rf_m_M_worst 57 58 (.iload_n 3) 0 0 0 0 [] [] = true := by decide +kernel
theorem rf_f_M_worst_58 : rf_Fb rf_m_M_worst 58 61 (.invokevirtual 144) 145 1 0 5 [] [] = true := by decide +kernel
theorem rf_f_M_worst_61 : rf_Fb rf_m_M_worst 61 62 (.iadd) 0 0 0 0 [] [] = true := by decide +kernel
theorem rf_f_M_worst_62 : rf_Fb rf_m_M_worst 62 63 (.aload_n 0) 0 0 0 0 [] [] = true := by decide +kernel
theorem rf_f_M_worst_63 : rf_Fb rf_m_M_worst 63 64 (.iload_n 3) 0 0 0 0 [] [] = true := by decide +kernel
theorem rf_f_M_worst_64 : rf_Fb rf_m_M_worst 64 67 (.invokevirtual 147) 143 1 0 5 [] [] = true := by decide +kernel
theorem rf_f_M_worst_67 : rf_Fb rf_m_M_worst 67 68 (.isub) 0 0 0 0 [] [] = true := by decide +kernel
theorem rf_f_M_worst_68 : rf_Fb rf_m_M_worst 68 70 (.bipush 100) 0 0 0 0 [] [] = true := by decide +kernel
theorem rf_f_M_worst_70 : rf_Fb rf_m_M_worst 70 71 (.iadd) 0 0 0 0 [] [true, true, true, true, false, false, false] = true := by decide +kernel
theorem rf_f_M_worst_71 : rf_Fb rf_m_M_worst 71 73 (.istore 6) 0 0 0 0 [] [] = true := by decide +kernel
theorem rf_f_M_worst_73 : rf_Fb rf_m_M_worst 73 75 (.iload 6) 0 0 0 0 [] [] = true := by decide +kernel
theorem rf_f_M_worst_75 : rf_Fb rf_m_M_worst 75 76 (.iload_n 1) 0 0 0 0 [] [] = true := by decide +kernel
theorem rf_f_M_worst_76 : rf_Fb rf_m_M_worst 76 79 (.if_icmp .le 7) 83 0 0 0 [] [] = true := by decide +kernel
theorem rf_f_M_worst_79 : rf_Fb rf_m_M_worst 79 80 (.iload_n 3) 0 0 0 0 [] [] = true := by decide +kernel
theorem rf_f_M_worst_80 : rf_Fb rf_m_M_worst 80 83 (.goto 4) 84 0 0 0 [] [] = true := by decide +kernel
theorem rf_f_M_worst_83 : rf_Fb rf_m_M_worst 83 84 (.iload_n 2) 0 0 0 0 [] [] = true := by decide +kernel
theorem rf_f_M_worst_84 : rf_Fb rf_m_M_worst 84 85 (.istore_n 2) 0 0 0 0 [] [] = true := by decide +kernel
theorem rf_f_M_worst_85 : rf_Fb rf_m_M_worst 85 86 (.iload_n 1) 0 0 0 0 [] [] = true := by decide +kernel
theorem rf_f_M_worst_86 : rf_Fb rf_m_M_worst 86 88 (.iload 6) 0 0 0 0 [] [] = true := by decide +kernel
theorem rf_f_M_worst_88 : rf_Fb rf_m_M_worst 88 91 (.invokestatic 128) 147 2 0 0 [] [] = true := by decide +kernel
theorem rf_f_M_worst_91 : rf_Fb rf_m_M_worst 91 92 (.istore_n 1) 0 0 0 0 [] [] = true := by decide +kernel
theorem rf_f_M_worst_92 : rf_Fb rf_m_M_worst 92 95 (.iinc 3 1) 0 0 0 0 [] [] = true := by decide +kernel
theorem rf_f_M_worst_95 : rf_Fb rf_m_M_worst 95 98 (.goto (-84)) 11 0 0 0 [] [] = true := by decide +kernel
theorem rf_f_M_worst_98 : rf_Fb rf_m_M_worst 98 99 (.iload_n 2) 0 0 0 0 [] [] = true := by decide +kernel
theorem rf_f_M_worst_99 : rf_Fb rf_m_M_worst 99 101 (.bipush (-9)) 0 0 0 0 [] [] = true := by decide +kernel
theorem rf_f_M_worst_101 : rf_Fb rf_m_M_worst 101 104 (.if_icmp .ne 8) 109 0 0 0 [] [] = true := by decide +kernel
theorem rf_f_M_worst_104 : rf_Fb rf_m_M_worst 104 106 (.bipush (-9)) 0 0 0 0 [] [] = true := by decide +kernel
theorem rf_f_M_worst_106 : rf_Fb rf_m_M_worst 106 109 (.goto 9) 115 0 0 0 [] [] = true := by decide +kernel
theorem rf_f_M_worst_109 : rf_Fb rf_m_M_worst 109 110 (.aload_n 0) 0 0 0 0 [] [] = true := by decide +kernel
theorem rf_f_M_worst_110 : rf_Fb rf_m_M_worst 110 111 (.iload_n 2) 0 0 0 0 [] [] = true := by decide +kernel
theorem rf_f_M_worst_111 : rf_Fb rf_m_M_worst 111 112 (.iload_n 1) 0 0 0 0 [] [] = true := by decide +kernel
theorem rf_f_M_worst_112 : rf_Fb rf_m_M_worst 112 115 (.invokevirtual 177) 164 2 0 5 [] [] = true := by decide +kernel
theorem rf_f_M_worst_115 : rf_Fb rf_m_M_worst 115 116 (.ireturn) 0 0 0 0 [] [] = true := by decide +kernel
set_option maxRecDepth 20000 in
set_option maxHeartbeats 2000000 in
theorem rf_e_M_worst (d : Nat) (o : Nat) (h : rf_H) : rf_call (d + 1) 169 [.inr (.inr (some o))] h = (bif rf_isO h.1 o 5 then ((rf_call d 142 [.inr (.inr (some o))] h).bind fun q2 => rf_kV q2 fun h1 => rf_j_M_worst_11 d o 0 (-9) 0 h1) else none) := by
  show rf_den (rf_call d) (rf_mt 169) _ = _
  rw [rf_u_M_worst]
  exact ((rf_s_aload_n rf_f_M_worst_0 rfl (rf_m0 _) (rf_s_invV3S rf_f_M_worst_1 rfl rfl (rf_m0 _) fun q2 h1 => (rf_s_iconst rf_f_M_worst_4 (rf_m0 _) (rf_s_istore_n (L' := [some (.inr (.inr (some o))), some (.inl 0), none, none, none, none, none]) rf_f_M_worst_5 rfl (rf_s_bipush rf_f_M_worst_6 (rf_m0 _) (rf_s_istore_n (L' := [some (.inr (.inr (some o))), some (.inl 0), some (.inl (-9)), none, none, none, none]) rf_f_M_worst_8 rfl (rf_s_iconst rf_f_M_worst_9 (rf_m0 _) (rf_s_istore_n rf_f_M_worst_10 rfl rfl)))))))) : rf_den (rf_call d) rf_m_M_worst (0, [some (.inr (.inr (some o))), none, none, none, none, none, none], [], h) = _)
set_option maxRecDepth 20000 in
set_option maxHeartbeats 2000000 in
theorem rf_e_M_worst_11 (d : Nat) (o : Nat) (l1 : Int) (l2 : Int) (l3 : Int) (h : rf_H) : rf_j_M_worst_11 d o l1 l2 l3 h = ((rf_gR h 5 o 17).bind fun x1 => (rf_nn x1 fun k2 => ((rf_aI h k2 36).bind fun x3 => (if l3 < x3 then (bif rf_isO h.1 o 5 then ((rf_call d 159 [.inr (.inr (some o)), .inl (rf_w (l3 + 1))] h).bind fun q8 => rf_kI q8 fun x9 h7 => ((rf_call d 167 [.inl x9] h7).bind fun q11 => rf_kI q11 fun x12 h10 => (if x12 = (-9) then rf_j_M_worst_71 d o l1 l2 l3 0 h10 else (bif rf_isO h10.1 o 5 then ((rf_call d 145 [.inr (.inr (some o)), .inl l3] h10).bind fun q14 => rf_kI q14 fun x15 h13 => (bif rf_isO h13.1 o 5 then ((rf_call d 143 [.inr (.inr (some o)), .inl l3] h13).bind fun q17 => rf_kI q17 fun x18 h16 => rf_j_M_worst_71 d o l1 l2 l3 (rf_w ((rf_w ((rf_w ((rf_w ((rf_w (2 * x12)) - x9)) + x15)) - x18)) + 100)) h16) else none)) else none)))) else none) else (if l2 = (-9) then some (some (.inl (-9)), h) else (bif rf_isO h.1 o 5 then ((rf_call d 164 [.inr (.inr (some o)), .inl l2, .inl l1] h).bind fun q5 => rf_kI q5 fun x6 h4 => some (some (.inl x6), h4)) else none)))))) :=
  ((rf_s_iload_n rf_f_M_worst_11 rfl (rf_m0 _) (rf_s_aload_n rf_f_M_worst_12 rfl (rf_m0 _) (rf_s_getAS rf_f_M_worst_13 (rf_m0 _) fun x1 => (rf_s_bipush rf_f_M_worst_16 (rf_m0 _) (rf_s_ialdR rf_f_M_worst_18 (rf_m0 _) fun k2 x3 => (rf_s_icmp_ge rf_f_M_worst_19 rfl (rf_m0 _) (rf_m0 _) (rf_s_iload_n rf_f_M_worst_98 rfl (rf_m0 _) (rf_s_bipush rf_f_M_worst_99 (rf_m0 _) (rf_s_icmp_ne rf_f_M_worst_101 rfl (rf_m0 _) (rf_m0 _) (rf_s_aload_n rf_f_M_worst_109 rfl (rf_m0 _) (rf_s_iload_n rf_f_M_worst_110 rfl (rf_m0 _) (rf_s_iload_n rf_f_M_worst_111 rfl (rf_m0 _) (rf_s_invV0S rf_f_M_worst_112 rfl rfl (rf_m0 _) fun q5 x6 h4 => (rf_s_iret rf_f_M_worst_115))))) (rf_s_bipush rf_f_M_worst_104 (rf_m0 _) (rf_s_goto rf_f_M_worst_106 rfl (rf_m0 _) (rf_s_iret rf_f_M_worst_115)))))) (rf_s_aload_n rf_f_M_worst_22 rfl (rf_m0 _) (rf_s_iload_n rf_f_M_worst_23 rfl (rf_m0 _) (rf_s_iconst rf_f_M_worst_24 (rf_m0 _) (rf_s_iadd rf_f_M_worst_25 (rf_m0 _) (rf_s_invV0S rf_f_M_worst_26 rfl rfl (rf_m0 _) fun q8 x9 h7 => (rf_s_istore (L' := [some (.inr (.inr (some o))), some (.inl l1), some (.inl l2), some (.inl l3), some (.inl x9), none, none]) rf_f_M_worst_29 rfl (rf_s_iload rf_f_M_worst_31 rfl (rf_m0 _) (rf_s_invS0 rf_f_M_worst_33 rfl rfl (rf_m0 _) fun q11 x12 h10 => (rf_s_istore (L' := [some (.inr (.inr (some o))), some (.inl l1), some (.inl l2), some (.inl l3), some (.inl x9), some (.inl x12), none]) rf_f_M_worst_36 rfl (rf_s_iload rf_f_M_worst_38 rfl (rf_m0 _) (rf_s_bipush rf_f_M_worst_40 (rf_m0 _) (rf_s_icmp_ne rf_f_M_worst_42 rfl (rf_m0 _) (rf_m0 _) (rf_s_iconst rf_f_M_worst_49 (rf_m0 _) (rf_s_iload rf_f_M_worst_50 rfl (rf_m0 _) (rf_s_imul rf_f_M_worst_52 (rf_m0 _) (rf_s_iload rf_f_M_worst_53 rfl (rf_m0 _) (rf_s_isub rf_f_M_worst_55 (rf_m0 _) (rf_s_aload_n rf_f_M_worst_56 rfl (rf_m0 _) (rf_s_iload_n rf_f_M_worst_57 rfl (rf_m0 _) (rf_s_invV0S rf_f_M_worst_58 rfl rfl (rf_m0 _) fun q14 x15 h13 => (rf_s_iadd rf_f_M_worst_61 (rf_m0 _) (rf_s_aload_n rf_f_M_worst_62 rfl (rf_m0 _) (rf_s_iload_n rf_f_M_worst_63 rfl (rf_m0 _) (rf_s_invV0S rf_f_M_worst_64 rfl rfl (rf_m0 _) fun q17 x18 h16 => (rf_s_isub rf_f_M_worst_67 (rf_m0 _) (rf_s_bipush rf_f_M_worst_68 (rf_m0 _) (rf_s_iadd rf_f_M_worst_70 rfl rfl))))))))))))))) (rf_s_iconst rf_f_M_worst_45 (rf_m0 _) (rf_s_goto rf_f_M_worst_46 rfl rfl rfl)))))))))))))))))))) : rf_den (rf_call d) rf_m_M_worst (11, [some (.inr (.inr (some o))), some (.inl l1), some (.inl l2), some (.inl l3), none, none, none], [], h) = _)
set_option maxRecDepth 20000 in
set_option maxHeartbeats 2000000 in
theorem rf_e_M_worst_71 (d : Nat) (o : Nat) (l1 : Int) (l2 : Int) (l3 : Int) (s0 : Int) (h : rf_H) : rf_j_M_worst_71 d o l1 l2 l3 s0 h = (if l1 < s0 then ((rf_call d 147 [.inl l1, .inl s0] h).bind fun q5 => rf_kI q5 fun x6 h4 => rf_j_M_worst_11 d o x6 l3 (rf_w (l3 + 1)) h4) else ((rf_call d 147 [.inl l1, .inl s0] h).bind fun q2 => rf_kI q2 fun x3 h1 => rf_j_M_worst_11 d o x3 l2 (rf_w (l3 + 1)) h1)) :=
  ((rf_s_istore (L' := [some (.inr (.inr (some o))), some (.inl l1), some (.inl l2), some (.inl l3), none, none, some (.inl s0)]) rf_f_M_worst_71 rfl (rf_s_iload rf_f_M_worst_73 rfl (rf_m0 _) (rf_s_iload_n rf_f_M_worst_75 rfl (rf_m0 _) (rf_s_icmp_le rf_f_M_worst_76 rfl (rf_m0 _) (rf_m0 _) (rf_s_iload_n rf_f_M_worst_83 rfl (rf_m0 _) (rf_s_istore_n (L' := [some (.inr (.inr (some o))), some (.inl l1), some (.inl l2), some (.inl l3), none, none, some (.inl s0)]) rf_f_M_worst_84 rfl (rf_s_iload_n rf_f_M_worst_85 rfl (rf_m0 _) (rf_s_iload rf_f_M_worst_86 rfl (rf_m0 _) (rf_s_invS0 rf_f_M_worst_88 rfl rfl (rf_m0 _) fun q2 x3 h1 => (rf_s_istore_n (L' := [some (.inr (.inr (some o))), some (.inl x3), some (.inl l2), some (.inl l3), none, none, some (.inl s0)]) rf_f_M_worst_91 rfl (rf_s_iinc (L' := [some (.inr (.inr (some o))), some (.inl x3), some (.inl l2), some (.inl (rf_w (l3 + 1))), none, none, some (.inl s0)]) rf_f_M_worst_92 rfl rfl (rf_s_goto rf_f_M_worst_95 rfl rfl rfl)))))))) (rf_s_iload_n rf_f_M_worst_79 rfl (rf_m0 _) (rf_s_goto rf_f_M_worst_80 rfl (rf_m0 _) (rf_s_istore_n (L' := [some (.inr (.inr (some o))), some (.inl l1), some (.inl l3), some (.inl l3), none, none, some (.inl s0)]) rf_f_M_worst_84 rfl (rf_s_iload_n rf_f_M_worst_85 rfl (rf_m0 _) (rf_s_iload rf_f_M_worst_86 rfl (rf_m0 _) (rf_s_invS0 rf_f_M_worst_88 rfl rfl (rf_m0 _) fun q5 x6 h4 => (rf_s_istore_n (L' := [some (.inr (.inr (some o))), some (.inl x6), some (.inl l3), some (.inl l3), none, none, some (.inl s0)]) rf_f_M_worst_91 rfl (rf_s_iinc (L' := [some (.inr (.inr (some o))), some (.inl x6), some (.inl l3), some (.inl (rf_w (l3 + 1))), none, none, some (.inl s0)]) rf_f_M_worst_92 rfl rfl (rf_s_goto rf_f_M_worst_95 rfl rfl rfl))))))))))))) : rf_den (rf_call d) rf_m_M_worst (71, [some (.inr (.inr (some o))), some (.inl l1), some (.inl l2), some (.inl l3), none, none, none], [.inl s0], h) = _)
noncomputable def rf_j_M_run_43 (d : Nat) (o : Nat) (l1 : Int) (l3 : Int) (h : rf_H) : Option rf_R := rf_den (rf_call d) rf_m_M_run (43, [some (.inr (.inr (some o))), some (.inl l1), none, some (.inl l3), none], [], h)
theorem rf_u_M_run : rf_mt 170 = rf_m_M_run := rfl
theorem rf_f_M_run_0 : rf_Fb rf_m_M_run 0 1 (.iload_n 1) 0 0 0 0 [] [] = true := by decide +kernel
theorem rf_f_M_run_1 : rf_Fb rf_m_M_run 1 4 (.invokestatic 69) 117 1 0 0 [] [] = true := by decide +kernel
theorem rf_f_M_run_4 : rf_Fb rf_m_M_run 4 7 (.ifCond .ne 5) 9 0 0 0 [] [] = true := by decide +kernel
theorem rf_f_M_run_7 : rf_Fb rf_m_M_run 7 8 (.iconst (-1)) 0 0 0 0 [] [] = true := by decide +kernel
theorem rf_f_M_run_8 : rf_Fb rf_m_M_run 8 9 (.ireturn) 0 0 0 0 [] [] = true := by decide +kernel
theorem rf_f_M_run_9 : rf_Fb rf_m_M_run 9 10 (.aload_n 0) 0 0 0 0 [] [] = true := by decide +kernel
theorem rf_f_M_run_10 : rf_Fb rf_m_M_run 10 13 (.invokevirtual 162) 150 0 0 5 [] [] = true := by decide +kernel
theorem rf_f_M_run_13 : rf_Fb rf_m_M_run 13 16 (.ifCond .ne 6) 19 0 0 0 [] [] = true := by decide +kernel
theorem rf_f_M_run_16 : rf_Fb rf_m_M_run 16 18 (.bipush (-4)) 0 0 0 0 [] [] = true := by decide +kernel
theorem rf_f_M_run_18 : rf_Fb rf_m_M_run 18 19 (.ireturn) 0 0 0 0 [] [] = true := by decide +kernel
theorem rf_f_M_run_19 : rf_Fb rf_m_M_run 19 20 (.aload_n 0) 0 0 0 0 [] [] = true := by decide +kernel
theorem rf_f_M_run_20 : rf_Fb rf_m_M_run 20 21 (.iload_n 1) 0 0 0 0 [] [] = true := by decide +kernel
theorem rf_f_M_run_21 : rf_Fb rf_m_M_run 21 23 (.bipush 12) 0 0 0 0 [] [] = true := by decide +kernel
theorem rf_f_M_run_23 : rf_Fb rf_m_M_run 23 26 (.invokevirtual 186) 171 2 0 5 [] [] = true := by decide +kernel
theorem rf_f_M_run_26 : rf_Fb rf_m_M_run 26 27 (.istore_n 2) 0 0 0 0 [] [] = true := by decide +kernel
theorem rf_f_M_run_27 : rf_Fb rf_m_M_run 27 28 (.iload_n 2) 0 0 0 0 [] [] = true := by decide +kernel
theorem rf_f_M_run_28 : rf_Fb rf_m_M_run 28 31 (.ifCond .le 9) 37 0 0 0 [] [] = true := by decide +kernel
theorem rf_f_M_run_31 : rf_Fb rf_m_M_run 31 32 (.aload_n 0) 0 0 0 0 [] [] = true := by decide +kernel
theorem rf_f_M_run_32 : rf_Fb rf_m_M_run 32 33 (.iload_n 2) 0 0 0 0 [] [] = true := by decide +kernel
theorem rf_f_M_run_33 : rf_Fb rf_m_M_run 33 36 (.invokevirtual 73) 119 1 0 5 [] [] = true := by decide +kernel
theorem rf_f_M_run_36 : rf_Fb rf_m_M_run 36 37 (.ireturn) 0 0 0 0 [] [] = true := by decide +kernel
theorem rf_f_M_run_37 : rf_Fb rf_m_M_run 37 38 (.aload_n 0) 0 0 0 0 [] [] = true := by decide +kernel
theorem rf_f_M_run_38 : rf_Fb rf_m_M_run 38 41 (.invokevirtual 153) 142 0 3 5 [] [] = true := by decide +kernel
theorem rf_f_M_run_41 : rf_Fb rf_m_M_run 41 42 (.iconst 0) 0 0 0 0 [] [] = true := by decide +kernel
theorem rf_f_M_run_42 : rf_Fb rf_m_M_run 42 43 (.istore_n 3) 0 0 0 0 [] [true, true, false, true, false] = true := by decide +kernel
theorem rf_f_M_run_43 : rf_Fb rf_m_M_run 43 44 (.iload_n 3) 0 0 0 0 [] [] = true := by decide +kernel
theorem rf_f_M_run_44 : rf_Fb rf_m_M_run 44 45 (.aload_n 0) 0 0 0 0 [] [] = true := by decide +kernel
theorem rf_f_M_run_45 : rf_Fb rf_m_M_run 45 48 (.getfield 7) 5 0 2 0 [] [] = true := by decide +kernel
theorem rf_f_M_run_48 : rf_Fb rf_m_M_run 48 49 (.iload_n 1) 0 0 0 0 [] [] = true := by decide +kernel
theorem rf_f_M_run_49 : rf_Fb rf_m_M_run 49 50 (.iaload) 0 0 0 0 [] [] = true := by decide +kernel
theorem rf_f_M_run_50 : rf_Fb rf_m_M_run 50 53 (.if_icmp .ge 42) 92 0 0 0 [] [] = true := by decide +kernel
theorem rf_f_M_run_53 : rf_Fb rf_m_M_run 53 54 (.aload_n 0) 0 0 0 0 [] [] = true := by decide +kernel
theorem rf_f_M_run_54 : rf_Fb rf_m_M_run 54 57 (.getfield 13) 5 1 2 0 [] [] = true := by decide +kernel
theorem rf_f_M_run_57 : rf_Fb rf_m_M_run 57 59 (.bipush 40) 0 0 0 0 [] [] = true := by decide +kernel
theorem rf_f_M_run_59 : rf_Fb rf_m_M_run 59 60 (.iload_n 1) 0 0 0 0 [] [] = true := by decide +kernel
theorem rf_f_M_run_60 : rf_Fb rf_m_M_run 60 61 (.imul) 0 0 0 0 [] [] = true := by decide +kernel
theorem rf_f_M_run_61 : rf_Fb rf_m_M_run 61 62 (.iload_n 3) 0 0 0 0 [] [] = true := by decide +kernel
theorem rf_f_M_run_62 : rf_Fb rf_m_M_run 62 63 (.iadd) 0 0 0 0 [] [] = true := by decide +kernel
theorem rf_f_M_run_63 : rf_Fb rf_m_M_run 63 64 (.iaload) 0 0 0 0 [] [] = true := by decide +kernel
theorem rf_f_M_run_64 : rf_Fb rf_m_M_run 64 66 (.istore 4) 0 0 0 0 [] [] = true := by decide +kernel
theorem rf_f_M_run_66 : rf_Fb rf_m_M_run 66 67 (.aload_n 0) 0 0 0 0 [] [] = true := by decide +kernel
theorem rf_f_M_run_67 : rf_Fb rf_m_M_run 67 69 (.iload 4) 0 0 0 0 [] [] = true := by decide +kernel
theorem rf_f_M_run_69 : rf_Fb rf_m_M_run 69 72 (.invokevirtual 169) 152 1 0 5 [] [] = true := by decide +kernel
theorem rf_f_M_run_72 : rf_Fb rf_m_M_run 72 75 (.ifCond .eq 14) 86 0 0 0 [] [] = true := by decide +kernel
theorem rf_f_M_run_75 : rf_Fb rf_m_M_run 75 76 (.aload_n 0) 0 0 0 0 [] [] = true := by decide +kernel
theorem rf_f_M_run_76 : rf_Fb rf_m_M_run 76 78 (.iload 4) 0 0 0 0 [] [] = true := by decide +kernel
theorem rf_f_M_run_78 : rf_Fb rf_m_M_run 78 79 (.aload_n 0) 0 0 0 0 [] [] = true := by decide +kernel
theorem rf_f_M_run_79 : rf_Fb rf_m_M_run 79 82 (.invokevirtual 156) 154 0 0 5 [] [] = true := by decide +kernel
theorem rf_f_M_run_82 : rf_Fb rf_m_M_run 82 85 (.invokevirtual 159) 155 2 0 5 [] [] = true := by decide +kernel
theorem rf_f_M_run_85 : rf_Fb rf_m_M_run 85 86 (.pop) 0 0 0 0 [] [] = true := by decide +kernel
theorem rf_f_M_run_86 : rf_Fb rf_m_M_run 86 89 (.iinc 3 1) 0 0 0 0 [] [] = true := by decide +kernel
theorem rf_f_M_run_89 : rf_Fb rf_m_M_run 89 92 (.goto (-46)) 43 0 0 0 [] [] = true := by decide +kernel
theorem rf_f_M_run_92 : rf_Fb rf_m_M_run 92 93 (.aload_n 0) 0 0 0 0 [] [] = true := by decide +kernel
theorem rf_f_M_run_93 : rf_Fb rf_m_M_run 93 94 (.aload_n 0) 0 0 0 0 [] [] = true := by decide +kernel
theorem rf_f_M_run_94 : rf_Fb rf_m_M_run 94 97 (.getfield 41) 5 17 2 0 [] [] = true := by decide +kernel
theorem rf_f_M_run_97 : rf_Fb rf_m_M_run 97 99 (.bipush 35) 0 0 0 0 [] [] = true := by decide +kernel
theorem rf_f_M_run_99 : rf_Fb rf_m_M_run 99 100 (.iaload) 0 0 0 0 [] [] = true := by decide +kernel
theorem rf_f_M_run_100 : rf_Fb rf_m_M_run 100 101 (.aload_n 0) 0 0 0 0 [] [] = true := by decide +kernel
theorem rf_f_M_run_101 : rf_Fb rf_m_M_run 101 104 (.getfield 22) 5 4 2 0 [] [] = true := by decide +kernel
theorem rf_f_M_run_104 : rf_Fb rf_m_M_run 104 106 (.bipush 35) 0 0 0 0 [] [] = true := by decide +kernel
theorem rf_f_M_run_106 : rf_Fb rf_m_M_run 106 107 (.iaload) 0 0 0 0 [] [] = true := by decide +kernel
theorem rf_f_M_run_107 : rf_Fb rf_m_M_run 107 108 (.isub) 0 0 0 0 [] [] = true := by decide +kernel
theorem rf_f_M_run_108 : rf_Fb rf_m_M_run 108 109 (.aload_n 0) 0 0 0 0 [] [] = true := by decide +kernel
theorem rf_f_M_run_109 : rf_Fb rf_m_M_run 109 112 (.getfield 41) 5 17 2 0 [] [] = true := by decide +kernel
theorem rf_f_M_run_112 : rf_Fb rf_m_M_run 112 114 (.bipush 36) 0 0 0 0 [] [] = true := by decide +kernel
theorem rf_f_M_run_114 : rf_Fb rf_m_M_run 114 115 (.iaload) 0 0 0 0 [] [] = true := by decide +kernel
theorem rf_f_M_run_115 : rf_Fb rf_m_M_run 115 118 (.invokevirtual 177) 164 2 0 5 [] [] = true := by decide +kernel
theorem rf_f_M_run_118 : rf_Fb rf_m_M_run 118 119 (.ireturn) 0 0 0 0 [] [] = true := by decide +kernel
set_option maxRecDepth 20000 in
set_option maxHeartbeats 2000000 in
theorem rf_e_M_run (d : Nat) (o : Nat) (a1 : Int) (h : rf_H) : rf_call (d + 1) 170 [.inr (.inr (some o)), .inl a1] h = ((rf_call d 117 [.inl a1] h).bind fun q2 => rf_kI q2 fun x3 h1 => (if x3 = 0 then some (some (.inl (-1)), h1) else (bif rf_isO h1.1 o 5 then ((rf_call d 150 [.inr (.inr (some o))] h1).bind fun q5 => rf_kI q5 fun x6 h4 => (if x6 = 0 then some (some (.inl (-4)), h4) else (bif rf_isO h4.1 o 5 then ((rf_call d 171 [.inr (.inr (some o)), .inl a1, .inl 12] h4).bind fun q8 => rf_kI q8 fun x9 h7 => (if 0 < x9 then (bif rf_isO h7.1 o 5 then ((rf_call d 119 [.inr (.inr (some o)), .inl x9] h7).bind fun q13 => rf_kI q13 fun x14 h12 => some (some (.inl x14), h12)) else none) else (bif rf_isO h7.1 o 5 then ((rf_call d 142 [.inr (.inr (some o))] h7).bind fun q11 => rf_kV q11 fun h10 => rf_j_M_run_43 d o a1 0 h10) else none))) else none))) else none))) := by
  show rf_den (rf_call d) (rf_mt 170) _ = _
  rw [rf_u_M_run]
  exact ((rf_s_iload_n rf_f_M_run_0 rfl (rf_m0 _) (rf_s_invS0 rf_f_M_run_1 rfl rfl (rf_m0 _) fun q2 x3 h1 => (rf_s_if_ne rf_f_M_run_4 rfl (rf_m0 _) (rf_m0 _) (rf_s_aload_n rf_f_M_run_9 rfl (rf_m0 _) (rf_s_invV0S rf_f_M_run_10 rfl rfl (rf_m0 _) fun q5 x6 h4 => (rf_s_if_ne rf_f_M_run_13 rfl (rf_m0 _) (rf_m0 _) (rf_s_aload_n rf_f_M_run_19 rfl (rf_m0 _) (rf_s_iload_n rf_f_M_run_20 rfl (rf_m0 _) (rf_s_bipush rf_f_M_run_21 (rf_m0 _) (rf_s_invV0S rf_f_M_run_23 rfl rfl (rf_m0 _) fun q8 x9 h7 => (rf_s_istore_n (L' := [some (.inr (.inr (some o))), some (.inl a1), some (.inl x9), none, none]) rf_f_M_run_26 rfl (rf_s_iload_n rf_f_M_run_27 rfl (rf_m0 _) (rf_s_if_le rf_f_M_run_28 rfl (rf_m0 _) (rf_m0 _) (rf_s_aload_n rf_f_M_run_37 rfl (rf_m0 _) (rf_s_invV3S rf_f_M_run_38 rfl rfl (rf_m0 _) fun q11 h10 => (rf_s_iconst rf_f_M_run_41 (rf_m0 _) (rf_s_istore_n rf_f_M_run_42 rfl rfl)))) (rf_s_aload_n rf_f_M_run_31 rfl (rf_m0 _) (rf_s_iload_n rf_f_M_run_32 rfl (rf_m0 _) (rf_s_invV0S rf_f_M_run_33 rfl rfl (rf_m0 _) fun q13 x14 h12 => (rf_s_iret rf_f_M_run_36))))))))))) (rf_s_bipush rf_f_M_run_16 (rf_m0 _) (rf_s_iret rf_f_M_run_18))))) (rf_s_iconst rf_f_M_run_7 (rf_m0 _) (rf_s_iret rf_f_M_run_8))))) : rf_den (rf_call d) rf_m_M_run (0, [some (.inr (.inr (some o))), some (.inl a1), none, none, none], [], h) = _)
set_option maxRecDepth 20000 in
set_option maxHeartbeats 2000000 in
theorem rf_e_M_run_43 (d : Nat) (o : Nat) (l1 : Int) (l3 : Int) (h : rf_H) : rf_j_M_run_43 d o l1 l3 h = ((rf_gR h 5 o 0).bind fun x1 => (rf_nn x1 fun k2 => ((rf_aI h k2 l1).bind fun x3 => (if l3 < x3 then ((rf_gR h 5 o 1).bind fun x16 => (rf_nn x16 fun k17 => ((rf_aI h k17 (rf_w ((rf_w (40 * l1)) + l3))).bind fun x18 => (bif rf_isO h.1 o 5 then ((rf_call d 152 [.inr (.inr (some o)), .inl x18] h).bind fun q20 => rf_kI q20 fun x21 h19 => (if x21 = 0 then rf_j_M_run_43 d o l1 (rf_w (l3 + 1)) h19 else (bif rf_isO h19.1 o 5 then ((rf_call d 154 [.inr (.inr (some o))] h19).bind fun q23 => rf_kI q23 fun x24 h22 => (bif rf_isO h22.1 o 5 then ((rf_call d 155 [.inr (.inr (some o)), .inl x18, .inl x24] h22).bind fun q26 => rf_kI q26 fun x27 h25 => rf_j_M_run_43 d o l1 (rf_w (l3 + 1)) h25) else none)) else none))) else none)))) else ((rf_gR h 5 o 17).bind fun x4 => (rf_nn x4 fun k5 => ((rf_aI h k5 35).bind fun x6 => ((rf_gR h 5 o 4).bind fun x7 => (rf_nn x7 fun k8 => ((rf_aI h k8 35).bind fun x9 => ((rf_gR h 5 o 17).bind fun x10 => (rf_nn x10 fun k11 => ((rf_aI h k11 36).bind fun x12 => (bif rf_isO h.1 o 5 then ((rf_call d 164 [.inr (.inr (some o)), .inl (rf_w (x6 - x9)), .inl x12] h).bind fun q14 => rf_kI q14 fun x15 h13 => some (some (.inl x15), h13)) else none)))))))))))))) :=
  ((rf_s_iload_n rf_f_M_run_43 rfl (rf_m0 _) (rf_s_aload_n rf_f_M_run_44 rfl (rf_m0 _) (rf_s_getAS rf_f_M_run_45 (rf_m0 _) fun x1 => (rf_s_iload_n rf_f_M_run_48 rfl (rf_m0 _) (rf_s_ialdR rf_f_M_run_49 (rf_m0 _) fun k2 x3 => (rf_s_icmp_ge rf_f_M_run_50 rfl (rf_m0 _) (rf_m0 _) (rf_s_aload_n rf_f_M_run_92 rfl (rf_m0 _) (rf_s_aload_n rf_f_M_run_93 rfl (rf_m0 _) (rf_s_getAS rf_f_M_run_94 (rf_m0 _) fun x4 => (rf_s_bipush rf_f_M_run_97 (rf_m0 _) (rf_s_ialdR rf_f_M_run_99 (rf_m0 _) fun k5 x6 => (rf_s_aload_n rf_f_M_run_100 rfl (rf_m0 _) (rf_s_getAS rf_f_M_run_101 (rf_m0 _) fun x7 => (rf_s_bipush rf_f_M_run_104 (rf_m0 _) (rf_s_ialdR rf_f_M_run_106 (rf_m0 _) fun k8 x9 => (rf_s_isub rf_f_M_run_107 (rf_m0 _) (rf_s_aload_n rf_f_M_run_108 rfl (rf_m0 _) (rf_s_getAS rf_f_M_run_109 (rf_m0 _) fun x10 => (rf_s_bipush rf_f_M_run_112 (rf_m0 _) (rf_s_ialdR rf_f_M_run_114 (rf_m0 _) fun k11 x12 => (rf_s_invV0S rf_f_M_run_115 rfl rfl (rf_m0 _) fun q14 x15 h13 => (rf_s_iret rf_f_M_run_118)))))))))))))))) (rf_s_aload_n rf_f_M_run_53 rfl (rf_m0 _) (rf_s_getAS rf_f_M_run_54 (rf_m0 _) fun x16 => (rf_s_bipush rf_f_M_run_57 (rf_m0 _) (rf_s_iload_n rf_f_M_run_59 rfl (rf_m0 _) (rf_s_imul rf_f_M_run_60 (rf_m0 _) (rf_s_iload_n rf_f_M_run_61 rfl (rf_m0 _) (rf_s_iadd rf_f_M_run_62 (rf_m0 _) (rf_s_ialdR rf_f_M_run_63 (rf_m0 _) fun k17 x18 => (rf_s_istore (L' := [some (.inr (.inr (some o))), some (.inl l1), none, some (.inl l3), some (.inl x18)]) rf_f_M_run_64 rfl (rf_s_aload_n rf_f_M_run_66 rfl (rf_m0 _) (rf_s_iload rf_f_M_run_67 rfl (rf_m0 _) (rf_s_invV0S rf_f_M_run_69 rfl rfl (rf_m0 _) fun q20 x21 h19 => (rf_s_if_eq rf_f_M_run_72 rfl (rf_m0 _) (rf_m0 _) (rf_s_iinc (L' := [some (.inr (.inr (some o))), some (.inl l1), none, some (.inl (rf_w (l3 + 1))), some (.inl x18)]) rf_f_M_run_86 rfl rfl (rf_s_goto rf_f_M_run_89 rfl rfl rfl)) (rf_s_aload_n rf_f_M_run_75 rfl (rf_m0 _) (rf_s_iload rf_f_M_run_76 rfl (rf_m0 _) (rf_s_aload_n rf_f_M_run_78 rfl (rf_m0 _) (rf_s_invV0S rf_f_M_run_79 rfl rfl (rf_m0 _) fun q23 x24 h22 => (rf_s_invV0S rf_f_M_run_82 rfl rfl (rf_m0 _) fun q26 x27 h25 => (rf_s_popI rf_f_M_run_85 (rf_m0 _) (rf_s_iinc (L' := [some (.inr (.inr (some o))), some (.inl l1), none, some (.inl (rf_w (l3 + 1))), some (.inl x18)]) rf_f_M_run_86 rfl rfl (rf_s_goto rf_f_M_run_89 rfl rfl rfl))))))))))))))))))))))))))) : rf_den (rf_call d) rf_m_M_run (43, [some (.inr (.inr (some o))), some (.inl l1), none, some (.inl l3), none], [], h) = _)
theorem rf_u_M_isPlan : rf_mt 171 = rf_m_M_isPlan := rfl
theorem rf_f_M_isPlan_0 : rf_Fb rf_m_M_isPlan 0 1 (.aload_n 0) 0 0 0 0 [] [] = true := by decide +kernel
theorem rf_f_M_isPlan_1 : rf_Fb rf_m_M_isPlan 1 4 (.getfield 7) 5 0 2 0 [] [] = true := by decide +kernel
theorem rf_f_M_isPlan_4 : rf_Fb rf_m_M_isPlan 4 5 (.iload_n 1) 0 0 0 0 [] [] = true := by decide +kernel
theorem rf_f_M_isPlan_5 : rf_Fb rf_m_M_isPlan 5 6 (.iaload) 0 0 0 0 [] [] = true := by decide +kernel
theorem rf_f_M_isPlan_6 : rf_Fb rf_m_M_isPlan 6 9 (.ifCond .ge 7) 13 0 0 0 [] [] = true := by decide +kernel
theorem rf_f_M_isPlan_9 : rf_Fb rf_m_M_isPlan 9 10 (.iconst 1) 0 0 0 0 [] [] = true := by decide +kernel
theorem rf_f_M_isPlan_10 : rf_Fb rf_m_M_isPlan 10 13 (.goto 30) 40 0 0 0 [] [] = true := by decide +kernel
theorem rf_f_M_isPlan_13 : rf_Fb rf_m_M_isPlan 13 14 (.aload_n 0) 0 0 0 0 [] [] = true := by decide +kernel
theorem rf_f_M_isPlan_14 : rf_Fb rf_m_M_isPlan 14 17 (.getfield 7) 5 0 2 0 [] [] = true := by decide +kernel
theorem rf_f_M_isPlan_17 : rf_Fb rf_m_M_isPlan 17 18 (.iload_n 1) 0 0 0 0 [] [] = true := by decide +kernel
theorem rf_f_M_isPlan_18 : rf_Fb rf_m_M_isPlan 18 19 (.iaload) 0 0 0 0 [] [] = true := by decide +kernel
theorem rf_f_M_isPlan_19 : rf_Fb rf_m_M_isPlan 19 20 (.iload_n 2) 0 0 0 0 [] [] = true := by decide +kernel
theorem rf_f_M_isPlan_20 : rf_Fb rf_m_M_isPlan 20 23 (.if_icmp .le 7) 27 0 0 0 [] [] = true := by decide +kernel
theorem rf_f_M_isPlan_23 : rf_Fb rf_m_M_isPlan 23 24 (.iconst 5) 0 0 0 0 [] [] = true := by decide +kernel
theorem rf_f_M_isPlan_24 : rf_Fb rf_m_M_isPlan 24 27 (.goto 16) 40 0 0 0 [] [] = true := by decide +kernel
theorem rf_f_M_isPlan_27 : rf_Fb rf_m_M_isPlan 27 28 (.aload_n 0) 0 0 0 0 [] [] = true := by decide +kernel
theorem rf_f_M_isPlan_28 : rf_Fb rf_m_M_isPlan 28 29 (.iload_n 1) 0 0 0 0 [] [] = true := by decide +kernel
theorem rf_f_M_isPlan_29 : rf_Fb rf_m_M_isPlan 29 32 (.invokevirtual 183) 172 1 0 5 [] [] = true := by decide +kernel
theorem rf_f_M_isPlan_32 : rf_Fb rf_m_M_isPlan 32 35 (.ifCond .eq 7) 39 0 0 0 [] [] = true := by decide +kernel
theorem rf_f_M_isPlan_35 : rf_Fb rf_m_M_isPlan 35 36 (.iconst 0) 0 0 0 0 [] [] = true := by decide +kernel
theorem rf_f_M_isPlan_36 : rf_Fb rf_m_M_isPlan 36 39 (.goto 4) 40 0 0 0 [] [] = true := by decide +kernel
theorem rf_f_M_isPlan_39 : rf_Fb rf_m_M_isPlan 39 40 (.iconst 3) 0 0 0 0 [] [] = true := by decide +kernel
theorem rf_f_M_isPlan_40 : rf_Fb rf_m_M_isPlan 40 41 (.ireturn) 0 0 0 0 [] [] = true := by decide +kernel
set_option maxRecDepth 20000 in
set_option maxHeartbeats 2000000 in
theorem rf_e_M_isPlan (d : Nat) (o : Nat) (a1 : Int) (a2 : Int) (h : rf_H) : rf_call (d + 1) 171 [.inr (.inr (some o)), .inl a1, .inl a2] h = ((rf_gR h 5 o 0).bind fun x1 => (rf_nn x1 fun k2 => ((rf_aI h k2 a1).bind fun x3 => (if x3 < 0 then some (some (.inl 1), h) else ((rf_gR h 5 o 0).bind fun x4 => (rf_nn x4 fun k5 => ((rf_aI h k5 a1).bind fun x6 => (if a2 < x6 then some (some (.inl 5), h) else (bif rf_isO h.1 o 5 then ((rf_call d 172 [.inr (.inr (some o)), .inl a1] h).bind fun q8 => rf_kI q8 fun x9 h7 => (if x9 = 0 then some (some (.inl 3), h7) else some (some (.inl 0), h7))) else none))))))))) := by
  show rf_den (rf_call d) (rf_mt 171) _ = _
  rw [rf_u_M_isPlan]
  exact ((rf_s_aload_n rf_f_M_isPlan_0 rfl (rf_m0 _) (rf_s_getAS rf_f_M_isPlan_1 (rf_m0 _) fun x1 => (rf_s_iload_n rf_f_M_isPlan_4 rfl (rf_m0 _) (rf_s_ialdR rf_f_M_isPlan_5 (rf_m0 _) fun k2 x3 => (rf_s_if_ge rf_f_M_isPlan_6 rfl (rf_m0 _) (rf_m0 _) (rf_s_aload_n rf_f_M_isPlan_13 rfl (rf_m0 _) (rf_s_getAS rf_f_M_isPlan_14 (rf_m0 _) fun x4 => (rf_s_iload_n rf_f_M_isPlan_17 rfl (rf_m0 _) (rf_s_ialdR rf_f_M_isPlan_18 (rf_m0 _) fun k5 x6 => (rf_s_iload_n rf_f_M_isPlan_19 rfl (rf_m0 _) (rf_s_icmp_le rf_f_M_isPlan_20 rfl (rf_m0 _) (rf_m0 _) (rf_s_aload_n rf_f_M_isPlan_27 rfl (rf_m0 _) (rf_s_iload_n rf_f_M_isPlan_28 rfl (rf_m0 _) (rf_s_invV0S rf_f_M_isPlan_29 rfl rfl (rf_m0 _) fun q8 x9 h7 => (rf_s_if_eq rf_f_M_isPlan_32 rfl (rf_m0 _) (rf_m0 _) (rf_s_iconst rf_f_M_isPlan_39 (rf_m0 _) (rf_s_iret rf_f_M_isPlan_40)) (rf_s_iconst rf_f_M_isPlan_35 (rf_m0 _) (rf_s_goto rf_f_M_isPlan_36 rfl (rf_m0 _) (rf_s_iret rf_f_M_isPlan_40))))))) (rf_s_iconst rf_f_M_isPlan_23 (rf_m0 _) (rf_s_goto rf_f_M_isPlan_24 rfl (rf_m0 _) (rf_s_iret rf_f_M_isPlan_40))))))))) (rf_s_iconst rf_f_M_isPlan_9 (rf_m0 _) (rf_s_goto rf_f_M_isPlan_10 rfl (rf_m0 _) (rf_s_iret rf_f_M_isPlan_40)))))))) : rf_den (rf_call d) rf_m_M_isPlan (0, [some (.inr (.inr (some o))), some (.inl a1), some (.inl a2)], [], h) = _)
noncomputable def rf_j_M_areThings_4 (d : Nat) (o : Nat) (l1 : Int) (l2 : Int) (l3 : Int) (h : rf_H) : Option rf_R := rf_den (rf_call d) rf_m_M_areThings (4, [some (.inr (.inr (some o))), some (.inl l1), some (.inl l2), some (.inl l3)], [], h)
theorem rf_u_M_areThings : rf_mt 172 = rf_m_M_areThings := rfl
theorem rf_f_M_areThings_0 : rf_Fb rf_m_M_areThings 0 1 (.iconst 1) 0 0 0 0 [] [] = true := by decide +kernel
theorem rf_f_M_areThings_1 : rf_Fb rf_m_M_areThings 1 2 (.istore_n 2) 0 0 0 0 [] [] = true := by decide +kernel
theorem rf_f_M_areThings_2 : rf_Fb rf_m_M_areThings 2 3 (.iconst 0) 0 0 0 0 [] [] = true := by decide +kernel
theorem rf_f_M_areThings_3 : rf_Fb rf_m_M_areThings 3 4 (.istore_n 3) 0 0 0 0 [] [true, true, true, true] = true := by decide +kernel
theorem rf_f_M_areThings_4 : rf_Fb rf_m_M_areThings 4 5 (.iload_n 3) 0 0 0 0 [] [] = true := by decide +kernel
theorem rf_f_M_areThings_5 : rf_Fb rf_m_M_areThings 5 6 (.aload_n 0) 0 0 0 0 [] [] = true := by decide +kernel
theorem rf_f_M_areThings_6 : rf_Fb rf_m_M_areThings 6 9 (.getfield 7) 5 0 2 0 [] [] = true := by decide +kernel
theorem rf_f_M_areThings_9 : rf_Fb rf_m_M_areThings 9 10 (.iload_n 1) 0 0 0 0 [] [] = true := by decide +kernel
theorem rf_f_M_areThings_10 : rf_Fb rf_m_M_areThings 10 11 (.iaload) 0 0 0 0 [] [] = true := by decide +kernel
theorem rf_f_M_areThings_11 : rf_Fb rf_m_M_areThings 11 14 (.if_icmp .ge 41) 52 0 0 0 [] [] = true := by decide +kernel
theorem rf_f_M_areThings_14 : rf_Fb rf_m_M_areThings 14 15 (.iload_n 2) 0 0 0 0 [] [] = true := by decide +kernel
theorem rf_f_M_areThings_15 : rf_Fb rf_m_M_areThings 15 18 (.ifCond .eq 29) 44 0 0 0 [] [] = true := by decide +kernel
theorem rf_f_M_areThings_18 : rf_Fb rf_m_M_areThings 18 19 (.aload_n 0) 0 0 0 0 [] [] = true := by decide +kernel
theorem rf_f_M_areThings_19 : rf_Fb rf_m_M_areThings 19 22 (.getfield 13) 5 1 2 0 [] [] = true := by decide +kernel
theorem rf_f_M_areThings_22 : rf_Fb rf_m_M_areThings 22 24 (.bipush 40) 0 0 0 0 [] [] = true := by decide +kernel
theorem rf_f_M_areThings_24 : rf_Fb rf_m_M_areThings 24 25 (.iload_n 1) 0 0 0 0 [] [] = true := by decide +kernel
theorem rf_f_M_areThings_25 : rf_Fb rf_m_M_areThings 25 26 (.imul) 0 0 0 0 [] [] = true := by decide +kernel
theorem rf_f_M_areThings_26 : rf_Fb rf_m_M_areThings 26 27 (.iload_n 3) 0 0 0 0 [] [] = true := by decide +kernel
theorem rf_f_M_areThings_27 : rf_Fb rf_m_M_areThings 27 28 (.iadd) 0 0 0 0 [] [] = true := by decide +kernel
theorem rf_f_M_areThings_28 : rf_Fb rf_m_M_areThings 28 29 (.iaload) 0 0 0 0 [] [] = true := by decide +kernel
theorem rf_f_M_areThings_29 : rf_Fb rf_m_M_areThings 29 30 (.i2l) 0 0 0 0 [] [] = true := by decide +kernel
theorem rf_f_M_areThings_30 : rf_Fb rf_m_M_areThings 30 31 (.lconst 0) 0 0 0 0 [] [] = true := by decide +kernel
theorem rf_f_M_areThings_31 : rf_Fb rf_m_M_areThings 31 34 (.ldc2_w 167) 0 0 0 14 [] [] = true := by decide +kernel
theorem rf_f_M_areThings_34 : rf_Fb rf_m_M_areThings 34 37 (.invokestatic 63) 118 3 0 0 [] [] = true := by decide +kernel
theorem rf_f_M_areThings_37 : rf_Fb rf_m_M_areThings 37 40 (.ifCond .eq 7) 44 0 0 0 [] [] = true := by decide +kernel
theorem rf_f_M_areThings_40 : rf_Fb rf_m_M_areThings 40 41 (.iconst 1) 0 0 0 0 [] [] = true := by decide +kernel
theorem rf_f_M_areThings_41 : rf_Fb rf_m_M_areThings 41 44 (.goto 4) 45 0 0 0 [] [] = true := by decide +kernel
theorem rf_f_M_areThings_44 : rf_Fb rf_m_M_areThings 44 45 (.iconst 0) 0 0 0 0 [] [] = true := by decide +kernel
theorem rf_f_M_areThings_45 : rf_Fb rf_m_M_areThings 45 46 (.istore_n 2) 0 0 0 0 [] [] = true := by decide +kernel
theorem rf_f_M_areThings_46 : rf_Fb rf_m_M_areThings 46 49 (.iinc 3 1) 0 0 0 0 [] [] = true := by decide +kernel
theorem rf_f_M_areThings_49 : rf_Fb rf_m_M_areThings 49 52 (.goto (-45)) 4 0 0 0 [] [] = true := by decide +kernel
theorem rf_f_M_areThings_52 : rf_Fb rf_m_M_areThings 52 53 (.iload_n 2) 0 0 0 0 [] [] = true := by decide +kernel
theorem rf_f_M_areThings_53 : rf_Fb rf_m_M_areThings 53 54 (.ireturn) 0 0 1 0 [] [] = true := by decide +kernel
set_option maxRecDepth 20000 in
set_option maxHeartbeats 2000000 in
theorem rf_e_M_areThings (d : Nat) (o : Nat) (a1 : Int) (h : rf_H) : rf_call (d + 1) 172 [.inr (.inr (some o)), .inl a1] h = rf_j_M_areThings_4 d o a1 1 0 h := by
  show rf_den (rf_call d) (rf_mt 172) _ = _
  rw [rf_u_M_areThings]
  exact ((rf_s_iconst rf_f_M_areThings_0 (rf_m0 _) (rf_s_istore_n (L' := [some (.inr (.inr (some o))), some (.inl a1), some (.inl 1), none]) rf_f_M_areThings_1 rfl (rf_s_iconst rf_f_M_areThings_2 (rf_m0 _) (rf_s_istore_n rf_f_M_areThings_3 rfl rfl)))) : rf_den (rf_call d) rf_m_M_areThings (0, [some (.inr (.inr (some o))), some (.inl a1), none, none], [], h) = _)
set_option maxRecDepth 20000 in
set_option maxHeartbeats 2000000 in
theorem rf_e_M_areThings_4 (d : Nat) (o : Nat) (l1 : Int) (l2 : Int) (l3 : Int) (h : rf_H) : rf_j_M_areThings_4 d o l1 l2 l3 h = ((rf_gR h 5 o 0).bind fun x1 => (rf_nn x1 fun k2 => ((rf_aI h k2 l1).bind fun x3 => (if l3 < x3 then (if l2 = 0 then rf_j_M_areThings_4 d o l1 0 (rf_w (l3 + 1)) h else ((rf_gR h 5 o 1).bind fun x4 => (rf_nn x4 fun k5 => ((rf_aI h k5 (rf_w ((rf_w (40 * l1)) + l3))).bind fun x6 => ((rf_call d 118 [.inr (.inl x6), .inr (.inl 0), .inr (.inl 14)] h).bind fun q8 => rf_kI q8 fun x9 h7 => (if x9 = 0 then rf_j_M_areThings_4 d o l1 0 (rf_w (l3 + 1)) h7 else rf_j_M_areThings_4 d o l1 1 (rf_w (l3 + 1)) h7)))))) else (if l2 = 0 ∨ l2 = 1 then some (some (.inl l2), h) else none))))) :=
  ((rf_s_iload_n rf_f_M_areThings_4 rfl (rf_m0 _) (rf_s_aload_n rf_f_M_areThings_5 rfl (rf_m0 _) (rf_s_getAS rf_f_M_areThings_6 (rf_m0 _) fun x1 => (rf_s_iload_n rf_f_M_areThings_9 rfl (rf_m0 _) (rf_s_ialdR rf_f_M_areThings_10 (rf_m0 _) fun k2 x3 => (rf_s_icmp_ge rf_f_M_areThings_11 rfl (rf_m0 _) (rf_m0 _) (rf_s_iload_n rf_f_M_areThings_52 rfl (rf_m0 _) (rf_s_zret rf_f_M_areThings_53)) (rf_s_iload_n rf_f_M_areThings_14 rfl (rf_m0 _) (rf_s_if_eq rf_f_M_areThings_15 rfl (rf_m0 _) (rf_m0 _) (rf_s_iconst rf_f_M_areThings_44 (rf_m0 _) (rf_s_istore_n (L' := [some (.inr (.inr (some o))), some (.inl l1), some (.inl 0), some (.inl l3)]) rf_f_M_areThings_45 rfl (rf_s_iinc (L' := [some (.inr (.inr (some o))), some (.inl l1), some (.inl 0), some (.inl (rf_w (l3 + 1)))]) rf_f_M_areThings_46 rfl rfl (rf_s_goto rf_f_M_areThings_49 rfl rfl rfl)))) (rf_s_aload_n rf_f_M_areThings_18 rfl (rf_m0 _) (rf_s_getAS rf_f_M_areThings_19 (rf_m0 _) fun x4 => (rf_s_bipush rf_f_M_areThings_22 (rf_m0 _) (rf_s_iload_n rf_f_M_areThings_24 rfl (rf_m0 _) (rf_s_imul rf_f_M_areThings_25 (rf_m0 _) (rf_s_iload_n rf_f_M_areThings_26 rfl (rf_m0 _) (rf_s_iadd rf_f_M_areThings_27 (rf_m0 _) (rf_s_ialdR rf_f_M_areThings_28 (rf_m0 _) fun k5 x6 => (rf_s_i2l rf_f_M_areThings_29 (rf_m0 _) (rf_s_lconst rf_f_M_areThings_30 (rf_m0 _) (rf_s_ldc2_w rf_f_M_areThings_31 (rf_m0 _) (rf_s_invS0 rf_f_M_areThings_34 rfl rfl (rf_m0 _) fun q8 x9 h7 => (rf_s_if_eq rf_f_M_areThings_37 rfl (rf_m0 _) (rf_m0 _) (rf_s_iconst rf_f_M_areThings_44 (rf_m0 _) (rf_s_istore_n (L' := [some (.inr (.inr (some o))), some (.inl l1), some (.inl 0), some (.inl l3)]) rf_f_M_areThings_45 rfl (rf_s_iinc (L' := [some (.inr (.inr (some o))), some (.inl l1), some (.inl 0), some (.inl (rf_w (l3 + 1)))]) rf_f_M_areThings_46 rfl rfl (rf_s_goto rf_f_M_areThings_49 rfl rfl rfl)))) (rf_s_iconst rf_f_M_areThings_40 (rf_m0 _) (rf_s_goto rf_f_M_areThings_41 rfl (rf_m0 _) (rf_s_istore_n (L' := [some (.inr (.inr (some o))), some (.inl l1), some (.inl 1), some (.inl l3)]) rf_f_M_areThings_45 rfl (rf_s_iinc (L' := [some (.inr (.inr (some o))), some (.inl l1), some (.inl 1), some (.inl (rf_w (l3 + 1)))]) rf_f_M_areThings_46 rfl rfl (rf_s_goto rf_f_M_areThings_49 rfl rfl rfl)))))))))))))))))))))))))) : rf_den (rf_call d) rf_m_M_areThings (4, [some (.inr (.inr (some o))), some (.inl l1), some (.inl l2), some (.inl l3)], [], h) = _)
noncomputable def rf_j_M_shortest_33 (d : Nat) (o : Nat) (l1 : Int) (l2 : Int) (l3 : Int) (h : rf_H) : Option rf_R := rf_den (rf_call d) rf_m_M_shortest (33, [some (.inr (.inr (some o))), some (.inl l1), some (.inl l2), some (.inl l3), none], [], h)
noncomputable def rf_j_M_shortest_70 (d : Nat) (o : Nat) (l2 : Int) (l3 : Int) (l4 : Int) (h : rf_H) : Option rf_R := rf_den (rf_call d) rf_m_M_shortest (70, [some (.inr (.inr (some o))), none, some (.inl l2), some (.inl l3), some (.inl l4)], [], h)
theorem rf_u_M_shortest : rf_mt 173 = rf_m_M_shortest := rfl
theorem rf_f_M_shortest_0 : rf_Fb rf_m_M_shortest 0 1 (.iload_n 1) 0 0 0 0 [] [] = true := by decide +kernel
theorem rf_f_M_shortest_1 : rf_Fb rf_m_M_shortest 1 2 (.i2l) 0 0 0 0 [] [] = true := by decide +kernel
theorem rf_f_M_shortest_2 : rf_Fb rf_m_M_shortest 2 3 (.lconst 0) 0 0 0 0 [] [] = true := by decide +kernel
theorem rf_f_M_shortest_3 : rf_Fb rf_m_M_shortest 3 6 (.ldc2_w 202) 0 0 0 4 [] [] = true := by decide +kernel
theorem rf_f_M_shortest_6 : rf_Fb rf_m_M_shortest 6 9 (.invokestatic 63) 118 3 0 0 [] [] = true := by decide +kernel
theorem rf_f_M_shortest_9 : rf_Fb rf_m_M_shortest 9 12 (.ifCond .eq 10) 19 0 0 0 [] [] = true := by decide +kernel
theorem rf_f_M_shortest_12 : rf_Fb rf_m_M_shortest 12 13 (.iload_n 2) 0 0 0 0 [] [] = true := by decide +kernel
theorem rf_f_M_shortest_13 : rf_Fb rf_m_M_shortest 13 16 (.invokestatic 69) 117 1 0 0 [] [] = true := by decide +kernel
theorem rf_f_M_shortest_16 : rf_Fb rf_m_M_shortest 16 19 (.ifCond .ne 5) 21 0 0 0 [] [] = true := by decide +kernel
theorem rf_f_M_shortest_19 : rf_Fb rf_m_M_shortest 19 20 (.iconst (-1)) 0 0 0 0 [] [] = true := by decide +kernel
theorem rf_f_M_shortest_20 : rf_Fb rf_m_M_shortest 20 21 (.ireturn) 0 0 0 0 [] [] = true := by decide +kernel
theorem rf_f_M_shortest_21 : rf_Fb rf_m_M_shortest 21 22 (.aload_n 0) 0 0 0 0 [] [] = true := by decide +kernel
theorem rf_f_M_shortest_22 : rf_Fb rf_m_M_shortest 22 25 (.invokevirtual 162) 150 0 0 5 [] [] = true := by decide +kernel
theorem rf_f_M_shortest_25 : rf_Fb rf_m_M_shortest 25 28 (.ifCond .ne 6) 31 0 0 0 [] [] = true := by decide +kernel
theorem rf_f_M_shortest_28 : rf_Fb rf_m_M_shortest 28 30 (.bipush (-4)) 0 0 0 0 [] [] = true := by decide +kernel
theorem rf_f_M_shortest_30 : rf_Fb rf_m_M_shortest 30 31 (.ireturn) 0 0 0 0 [] [] = true := by decide +kernel
theorem rf_f_M_shortest_31 : rf_Fb rf_m_M_shortest 31 32 (.iconst 1) 0 0 0 0 [] [] = true := by decide +kernel
theorem rf_f_M_shortest_32 : rf_Fb rf_m_M_shortest 32 33 (.istore_n 3) 0 0 0 0 [] [true, true, true, true, false] = true := by decide +kernel
theorem rf_f_M_shortest_33 : rf_Fb rf_m_M_shortest 33 34 (.iload_n 3) 0 0 0 0 [] [] = true := by decide +kernel
theorem rf_f_M_shortest_34 : rf_Fb rf_m_M_shortest 34 35 (.iload_n 1) 0 0 0 0 [] [] = true := by decide +kernel
theorem rf_f_M_shortest_35 : rf_Fb rf_m_M_shortest 35 38 (.if_icmp .gt 74) 109 0 0 0 [] [] = true := by decide +kernel
theorem rf_f_M_shortest_38 : rf_Fb rf_m_M_shortest 38 39 (.aload_n 0) 0 0 0 0 [] [] = true := by decide +kernel
theorem rf_f_M_shortest_39 : rf_Fb rf_m_M_shortest 39 42 (.invokevirtual 153) 142 0 3 5 [] [] = true := by decide +kernel
theorem rf_f_M_shortest_42 : rf_Fb rf_m_M_shortest 42 43 (.aload_n 0) 0 0 0 0 [] [] = true := by decide +kernel
theorem rf_f_M_shortest_43 : rf_Fb rf_m_M_shortest 43 44 (.iconst 0) 0 0 0 0 [] [] = true := by decide +kernel
theorem rf_f_M_shortest_44 : rf_Fb rf_m_M_shortest 44 47 (.invokevirtual 199) 174 1 3 5 [] [] = true := by decide +kernel
theorem rf_f_M_shortest_47 : rf_Fb rf_m_M_shortest 47 48 (.aload_n 0) 0 0 0 0 [] [] = true := by decide +kernel
theorem rf_f_M_shortest_48 : rf_Fb rf_m_M_shortest 48 49 (.iload_n 3) 0 0 0 0 [] [] = true := by decide +kernel
theorem rf_f_M_shortest_49 : rf_Fb rf_m_M_shortest 49 50 (.iconst 1) 0 0 0 0 [] [] = true := by decide +kernel
theorem rf_f_M_shortest_50 : rf_Fb rf_m_M_shortest 50 53 (.invokevirtual 204) 175 2 3 5 [] [] = true := by decide +kernel
theorem rf_f_M_shortest_53 : rf_Fb rf_m_M_shortest 53 54 (.aload_n 0) 0 0 0 0 [] [] = true := by decide +kernel
theorem rf_f_M_shortest_54 : rf_Fb rf_m_M_shortest 54 57 (.getfield 189) 5 20 0 0 [] [] = true := by decide +kernel
theorem rf_f_M_shortest_57 : rf_Fb rf_m_M_shortest 57 60 (.ifCond .le 46) 103 0 0 0 [] [] = true := by decide +kernel
theorem rf_f_M_shortest_60 : rf_Fb rf_m_M_shortest 60 61 (.aload_n 0) 0 0 0 0 [] [] = true := by decide +kernel
theorem rf_f_M_shortest_61 : rf_Fb rf_m_M_shortest 61 64 (.getfield 7) 5 0 2 0 [] [] = true := by decide +kernel
theorem rf_f_M_shortest_64 : rf_Fb rf_m_M_shortest 64 65 (.iload_n 2) 0 0 0 0 [] [] = true := by decide +kernel
theorem rf_f_M_shortest_65 : rf_Fb rf_m_M_shortest 65 66 (.iload_n 3) 0 0 0 0 [] [] = true := by decide +kernel
theorem rf_f_M_shortest_66 : rf_Fb rf_m_M_shortest 66 67 (.iastore) 0 0 0 0 [] [] = true := by decide +kernel
theorem rf_f_M_shortest_67 : rf_Fb rf_m_M_shortest 67 68 (.iconst 0) 0 0 0 0 [] [] = true := by decide +kernel
theorem rf_f_M_shortest_68 : rf_Fb rf_m_M_shortest 68 70 (.istore 4) 0 0 0 0 [] [true, false, true, true, true] = true := by decide +kernel
theorem rf_f_M_shortest_70 : rf_Fb rf_m_M_shortest 70 72 (.iload 4) 0 0 0 0 [] [] = true := by decide +kernel
theorem rf_f_M_shortest_72 : rf_Fb rf_m_M_shortest 72 73 (.iload_n 3) 0 0 0 0 [] [] = true := by decide +kernel
theorem rf_f_M_shortest_73 : rf_Fb rf_m_M_shortest 73 76 (.if_icmp .ge 28) 101 0 0 0 [] [] = true := by decide +kernel
theorem rf_f_M_shortest_76 : rf_Fb rf_m_M_shortest 76 77 (.aload_n 0) 0 0 0 0 [] [] = true := by decide +kernel
theorem rf_f_M_shortest_77 : rf_Fb rf_m_M_shortest 77 80 (.getfield 13) 5 1 2 0 [] [] = true := by decide +kernel
theorem rf_f_M_shortest_80 : rf_Fb rf_m_M_shortest 80 82 (.bipush 40) 0 0 0 0 [] [] = true := by decide +kernel
theorem rf_f_M_shortest_82 : rf_Fb rf_m_M_shortest 82 83 (.iload_n 2) 0 0 0 0 [] [] = true := by decide +kernel
theorem rf_f_M_shortest_83 : rf_Fb rf_m_M_shortest 83 84 (.imul) 0 0 0 0 [] [] = true := by decide +kernel
theorem rf_f_M_shortest_84 : rf_Fb rf_m_M_shortest 84 86 (.iload 4) 0 0 0 0 [] [] = true := by decide +kernel
theorem rf_f_M_shortest_86 : rf_Fb rf_m_M_shortest 86 87 (.iadd) 0 0 0 0 [] [] = true := by decide +kernel
theorem rf_f_M_shortest_87 : rf_Fb rf_m_M_shortest 87 88 (.aload_n 0) 0 0 0 0 [] [] = true := by decide +kernel
theorem rf_f_M_shortest_88 : rf_Fb rf_m_M_shortest 88 91 (.getfield 47) 5 19 2 0 [] [] = true := by decide +kernel
theorem rf_f_M_shortest_91 : rf_Fb rf_m_M_shortest 91 93 (.iload 4) 0 0 0 0 [] [] = true := by decide +kernel
theorem rf_f_M_shortest_93 : rf_Fb rf_m_M_shortest 93 94 (.iaload) 0 0 0 0 [] [] = true := by decide +kernel
theorem rf_f_M_shortest_94 : rf_Fb rf_m_M_shortest 94 95 (.iastore) 0 0 0 0 [] [] = true := by decide +kernel
theorem rf_f_M_shortest_95 : rf_Fb rf_m_M_shortest 95 98 (.iinc 4 1) 0 0 0 0 [] [] = true := by decide +kernel
theorem rf_f_M_shortest_98 : rf_Fb rf_m_M_shortest 98 101 (.goto (-28)) 70 0 0 0 [] [] = true := by decide +kernel
theorem rf_f_M_shortest_101 : rf_Fb rf_m_M_shortest 101 102 (.iload_n 3) 0 0 0 0 [] [] = true := by decide +kernel
theorem rf_f_M_shortest_102 : rf_Fb rf_m_M_shortest 102 103 (.ireturn) 0 0 0 0 [] [] = true := by decide +kernel
theorem rf_f_M_shortest_103 : rf_Fb rf_m_M_shortest 103 106 (.iinc 3 1) 0 0 0 0 [] [] = true := by decide +kernel
theorem rf_f_M_shortest_106 : rf_Fb rf_m_M_shortest 106 109 (.goto (-73)) 33 0 0 0 [] [] = true := by decide +kernel
theorem rf_f_M_shortest_109 : rf_Fb rf_m_M_shortest 109 111 (.bipush (-9)) 0 0 0 0 [] [] = true := by decide +kernel
theorem rf_f_M_shortest_111 : rf_Fb rf_m_M_shortest 111 112 (.ireturn) 0 0 0 0 [] [] = true := by decide +kernel
set_option maxRecDepth 20000 in
set_option maxHeartbeats 2000000 in
theorem rf_e_M_shortest (d : Nat) (o : Nat) (a1 : Int) (a2 : Int) (h : rf_H) : rf_call (d + 1) 173 [.inr (.inr (some o)), .inl a1, .inl a2] h = ((rf_call d 118 [.inr (.inl a1), .inr (.inl 0), .inr (.inl 4)] h).bind fun q2 => rf_kI q2 fun x3 h1 => (if x3 = 0 then some (some (.inl (-1)), h1) else ((rf_call d 117 [.inl a2] h1).bind fun q5 => rf_kI q5 fun x6 h4 => (if x6 = 0 then some (some (.inl (-1)), h4) else (bif rf_isO h4.1 o 5 then ((rf_call d 150 [.inr (.inr (some o))] h4).bind fun q8 => rf_kI q8 fun x9 h7 => (if x9 = 0 then some (some (.inl (-4)), h7) else rf_j_M_shortest_33 d o a1 a2 1 h7)) else none))))) := by
  show rf_den (rf_call d) (rf_mt 173) _ = _
  rw [rf_u_M_shortest]
  exact ((rf_s_iload_n rf_f_M_shortest_0 rfl (rf_m0 _) (rf_s_i2l rf_f_M_shortest_1 (rf_m0 _) (rf_s_lconst rf_f_M_shortest_2 (rf_m0 _) (rf_s_ldc2_w rf_f_M_shortest_3 (rf_m0 _) (rf_s_invS0 rf_f_M_shortest_6 rfl rfl (rf_m0 _) fun q2 x3 h1 => (rf_s_if_eq rf_f_M_shortest_9 rfl (rf_m0 _) (rf_m0 _) (rf_s_iconst rf_f_M_shortest_19 (rf_m0 _) (rf_s_iret rf_f_M_shortest_20)) (rf_s_iload_n rf_f_M_shortest_12 rfl (rf_m0 _) (rf_s_invS0 rf_f_M_shortest_13 rfl rfl (rf_m0 _) fun q5 x6 h4 => (rf_s_if_ne rf_f_M_shortest_16 rfl (rf_m0 _) (rf_m0 _) (rf_s_aload_n rf_f_M_shortest_21 rfl (rf_m0 _) (rf_s_invV0S rf_f_M_shortest_22 rfl rfl (rf_m0 _) fun q8 x9 h7 => (rf_s_if_ne rf_f_M_shortest_25 rfl (rf_m0 _) (rf_m0 _) (rf_s_iconst rf_f_M_shortest_31 (rf_m0 _) (rf_s_istore_n rf_f_M_shortest_32 rfl rfl)) (rf_s_bipush rf_f_M_shortest_28 (rf_m0 _) (rf_s_iret rf_f_M_shortest_30))))) (rf_s_iconst rf_f_M_shortest_19 (rf_m0 _) (rf_s_iret rf_f_M_shortest_20))))))))))) : rf_den (rf_call d) rf_m_M_shortest (0, [some (.inr (.inr (some o))), some (.inl a1), some (.inl a2), none, none], [], h) = _)
set_option maxRecDepth 20000 in
set_option maxHeartbeats 2000000 in
theorem rf_e_M_shortest_33 (d : Nat) (o : Nat) (l1 : Int) (l2 : Int) (l3 : Int) (h : rf_H) : rf_j_M_shortest_33 d o l1 l2 l3 h = (if l1 < l3 then some (some (.inl (-9)), h) else (bif rf_isO h.1 o 5 then ((rf_call d 142 [.inr (.inr (some o))] h).bind fun q2 => rf_kV q2 fun h1 => (bif rf_isO h1.1 o 5 then ((rf_call d 174 [.inr (.inr (some o)), .inl 0] h1).bind fun q4 => rf_kV q4 fun h3 => (bif rf_isO h3.1 o 5 then ((rf_call d 175 [.inr (.inr (some o)), .inl l3, .inl 1] h3).bind fun q6 => rf_kV q6 fun h5 => ((rf_gI h5 5 o 20).bind fun x7 => (if 0 < x7 then ((rf_gR h5 5 o 0).bind fun x8 => (rf_nn x8 fun k9 => ((rf_sI h5 k9 l2 l3).bind fun h10 => rf_j_M_shortest_70 d o l2 l3 0 h10))) else rf_j_M_shortest_33 d o l1 l2 (rf_w (l3 + 1)) h5))) else none)) else none)) else none)) :=
  ((rf_s_iload_n rf_f_M_shortest_33 rfl (rf_m0 _) (rf_s_iload_n rf_f_M_shortest_34 rfl (rf_m0 _) (rf_s_icmp_gt rf_f_M_shortest_35 rfl (rf_m0 _) (rf_m0 _) (rf_s_bipush rf_f_M_shortest_109 (rf_m0 _) (rf_s_iret rf_f_M_shortest_111)) (rf_s_aload_n rf_f_M_shortest_38 rfl (rf_m0 _) (rf_s_invV3S rf_f_M_shortest_39 rfl rfl (rf_m0 _) fun q2 h1 => (rf_s_aload_n rf_f_M_shortest_42 rfl (rf_m0 _) (rf_s_iconst rf_f_M_shortest_43 (rf_m0 _) (rf_s_invV3S rf_f_M_shortest_44 rfl rfl (rf_m0 _) fun q4 h3 => (rf_s_aload_n rf_f_M_shortest_47 rfl (rf_m0 _) (rf_s_iload_n rf_f_M_shortest_48 rfl (rf_m0 _) (rf_s_iconst rf_f_M_shortest_49 (rf_m0 _) (rf_s_invV3S rf_f_M_shortest_50 rfl rfl (rf_m0 _) fun q6 h5 => (rf_s_aload_n rf_f_M_shortest_53 rfl (rf_m0 _) (rf_s_getIS rf_f_M_shortest_54 (rf_m0 _) fun x7 => (rf_s_if_le rf_f_M_shortest_57 rfl (rf_m0 _) (rf_m0 _) (rf_s_iinc (L' := [some (.inr (.inr (some o))), some (.inl l1), some (.inl l2), some (.inl (rf_w (l3 + 1))), none]) rf_f_M_shortest_103 rfl rfl (rf_s_goto rf_f_M_shortest_106 rfl rfl rfl)) (rf_s_aload_n rf_f_M_shortest_60 rfl (rf_m0 _) (rf_s_getAS rf_f_M_shortest_61 (rf_m0 _) fun x8 => (rf_s_iload_n rf_f_M_shortest_64 rfl (rf_m0 _) (rf_s_iload_n rf_f_M_shortest_65 rfl (rf_m0 _) (rf_s_iastR rf_f_M_shortest_66 (rf_m0 _) fun k9 h10 => (rf_s_iconst rf_f_M_shortest_67 (rf_m0 _) (rf_s_istore rf_f_M_shortest_68 rfl rfl)))))))))))))))))))))) : rf_den (rf_call d) rf_m_M_shortest (33, [some (.inr (.inr (some o))), some (.inl l1), some (.inl l2), some (.inl l3), none], [], h) = _)
set_option maxRecDepth 20000 in
set_option maxHeartbeats 2000000 in
theorem rf_e_M_shortest_70 (d : Nat) (o : Nat) (l2 : Int) (l3 : Int) (l4 : Int) (h : rf_H) : rf_j_M_shortest_70 d o l2 l3 l4 h = (if l4 < l3 then ((rf_gR h 5 o 1).bind fun x1 => ((rf_gR h 5 o 19).bind fun x2 => (rf_nn x2 fun k3 => ((rf_aI h k3 l4).bind fun x4 => (rf_nn x1 fun k5 => ((rf_sI h k5 (rf_w ((rf_w (40 * l2)) + l4)) x4).bind fun h6 => rf_j_M_shortest_70 d o l2 l3 (rf_w (l4 + 1)) h6)))))) else some (some (.inl l3), h)) :=
  ((rf_s_iload rf_f_M_shortest_70 rfl (rf_m0 _) (rf_s_iload_n rf_f_M_shortest_72 rfl (rf_m0 _) (rf_s_icmp_ge rf_f_M_shortest_73 rfl (rf_m0 _) (rf_m0 _) (rf_s_iload_n rf_f_M_shortest_101 rfl (rf_m0 _) (rf_s_iret rf_f_M_shortest_102)) (rf_s_aload_n rf_f_M_shortest_76 rfl (rf_m0 _) (rf_s_getAS rf_f_M_shortest_77 (rf_m0 _) fun x1 => (rf_s_bipush rf_f_M_shortest_80 (rf_m0 _) (rf_s_iload_n rf_f_M_shortest_82 rfl (rf_m0 _) (rf_s_imul rf_f_M_shortest_83 (rf_m0 _) (rf_s_iload rf_f_M_shortest_84 rfl (rf_m0 _) (rf_s_iadd rf_f_M_shortest_86 (rf_m0 _) (rf_s_aload_n rf_f_M_shortest_87 rfl (rf_m0 _) (rf_s_getAS rf_f_M_shortest_88 (rf_m0 _) fun x2 => (rf_s_iload rf_f_M_shortest_91 rfl (rf_m0 _) (rf_s_ialdR rf_f_M_shortest_93 (rf_m0 _) fun k3 x4 => (rf_s_iastR rf_f_M_shortest_94 (rf_m0 _) fun k5 h6 => (rf_s_iinc (L' := [some (.inr (.inr (some o))), none, some (.inl l2), some (.inl l3), some (.inl (rf_w (l4 + 1)))]) rf_f_M_shortest_95 rfl rfl (rf_s_goto rf_f_M_shortest_98 rfl rfl rfl))))))))))))))))) : rf_den (rf_call d) rf_m_M_shortest (70, [some (.inr (.inr (some o))), none, some (.inl l2), some (.inl l3), some (.inl l4)], [], h) = _)
noncomputable def rf_j_M_lies_I_V_2 (d : Nat) (o : Nat) (l1 : Int) (l2 : Int) (h : rf_H) : Option rf_R := rf_den (rf_call d) rf_m_M_lies_I_V (2, [some (.inr (.inr (some o))), some (.inl l1), some (.inl l2)], [], h)
theorem rf_u_M_lies_I_V : rf_mt 174 = rf_m_M_lies_I_V := rfl
theorem rf_f_M_lies_I_V_0 : rf_Fb rf_m_M_lies_I_V 0 1 (.iconst 0) 0 0 0 0 [] [] = true := by decide +kernel
theorem rf_f_M_lies_I_V_1 : rf_Fb rf_m_M_lies_I_V 1 2 (.istore_n 2) 0 0 0 0 [] [true, true, true] = true := by decide +kernel
theorem rf_f_M_lies_I_V_2 : rf_Fb rf_m_M_lies_I_V 2 3 (.iload_n 2) 0 0 0 0 [] [] = true := by decide +kernel
theorem rf_f_M_lies_I_V_3 : rf_Fb rf_m_M_lies_I_V 3 5 (.bipush 37) 0 0 0 0 [] [] = true := by decide +kernel
theorem rf_f_M_lies_I_V_5 : rf_Fb rf_m_M_lies_I_V 5 8 (.if_icmp .ge 26) 31 0 0 0 [] [] = true := by decide +kernel
theorem rf_f_M_lies_I_V_8 : rf_Fb rf_m_M_lies_I_V 8 9 (.aload_n 0) 0 0 0 0 [] [] = true := by decide +kernel
theorem rf_f_M_lies_I_V_9 : rf_Fb rf_m_M_lies_I_V 9 12 (.getfield 44) 5 18 2 0 [] [] = true := by decide +kernel
theorem rf_f_M_lies_I_V_12 : rf_Fb rf_m_M_lies_I_V 12 14 (.bipush 37) 0 0 0 0 [] [] = true := by decide +kernel
theorem rf_f_M_lies_I_V_14 : rf_Fb rf_m_M_lies_I_V 14 15 (.iload_n 1) 0 0 0 0 [] [] = true := by decide +kernel
theorem rf_f_M_lies_I_V_15 : rf_Fb rf_m_M_lies_I_V 15 16 (.imul) 0 0 0 0 [] [] = true := by decide +kernel
theorem rf_f_M_lies_I_V_16 : rf_Fb rf_m_M_lies_I_V 16 17 (.iload_n 2) 0 0 0 0 [] [] = true := by decide +kernel
theorem rf_f_M_lies_I_V_17 : rf_Fb rf_m_M_lies_I_V 17 18 (.iadd) 0 0 0 0 [] [] = true := by decide +kernel
theorem rf_f_M_lies_I_V_18 : rf_Fb rf_m_M_lies_I_V 18 19 (.aload_n 0) 0 0 0 0 [] [] = true := by decide +kernel
theorem rf_f_M_lies_I_V_19 : rf_Fb rf_m_M_lies_I_V 19 22 (.getfield 41) 5 17 2 0 [] [] = true := by decide +kernel
theorem rf_f_M_lies_I_V_22 : rf_Fb rf_m_M_lies_I_V 22 23 (.iload_n 2) 0 0 0 0 [] [] = true := by decide +kernel
theorem rf_f_M_lies_I_V_23 : rf_Fb rf_m_M_lies_I_V 23 24 (.iaload) 0 0 0 0 [] [] = true := by decide +kernel
theorem rf_f_M_lies_I_V_24 : rf_Fb rf_m_M_lies_I_V 24 25 (.iastore) 0 0 0 0 [] [] = true := by decide +kernel
theorem rf_f_M_lies_I_V_25 : rf_Fb rf_m_M_lies_I_V 25 28 (.iinc 2 1) 0 0 0 0 [] [] = true := by decide +kernel
theorem rf_f_M_lies_I_V_28 : rf_Fb rf_m_M_lies_I_V 28 31 (.goto (-26)) 2 0 0 0 [] [] = true := by decide +kernel
theorem rf_f_M_lies_I_V_31 : rf_Fb rf_m_M_lies_I_V 31 32 (.return_) 0 0 0 0 [] [] = true := by decide +kernel
set_option maxRecDepth 20000 in
set_option maxHeartbeats 2000000 in
theorem rf_e_M_lies_I_V (d : Nat) (o : Nat) (a1 : Int) (h : rf_H) : rf_call (d + 1) 174 [.inr (.inr (some o)), .inl a1] h = rf_j_M_lies_I_V_2 d o a1 0 h := by
  show rf_den (rf_call d) (rf_mt 174) _ = _
  rw [rf_u_M_lies_I_V]
  exact ((rf_s_iconst rf_f_M_lies_I_V_0 (rf_m0 _) (rf_s_istore_n rf_f_M_lies_I_V_1 rfl rfl)) : rf_den (rf_call d) rf_m_M_lies_I_V (0, [some (.inr (.inr (some o))), some (.inl a1), none], [], h) = _)
set_option maxRecDepth 20000 in
set_option maxHeartbeats 2000000 in
theorem rf_e_M_lies_I_V_2 (d : Nat) (o : Nat) (l1 : Int) (l2 : Int) (h : rf_H) : rf_j_M_lies_I_V_2 d o l1 l2 h = (if l2 < 37 then ((rf_gR h 5 o 18).bind fun x1 => ((rf_gR h 5 o 17).bind fun x2 => (rf_nn x2 fun k3 => ((rf_aI h k3 l2).bind fun x4 => (rf_nn x1 fun k5 => ((rf_sI h k5 (rf_w ((rf_w (37 * l1)) + l2)) x4).bind fun h6 => rf_j_M_lies_I_V_2 d o l1 (rf_w (l2 + 1)) h6)))))) else some (none, h)) :=
  ((rf_s_iload_n rf_f_M_lies_I_V_2 rfl (rf_m0 _) (rf_s_bipush rf_f_M_lies_I_V_3 (rf_m0 _) (rf_s_icmp_ge rf_f_M_lies_I_V_5 rfl (rf_m0 _) (rf_m0 _) (rf_s_vret rf_f_M_lies_I_V_31) (rf_s_aload_n rf_f_M_lies_I_V_8 rfl (rf_m0 _) (rf_s_getAS rf_f_M_lies_I_V_9 (rf_m0 _) fun x1 => (rf_s_bipush rf_f_M_lies_I_V_12 (rf_m0 _) (rf_s_iload_n rf_f_M_lies_I_V_14 rfl (rf_m0 _) (rf_s_imul rf_f_M_lies_I_V_15 (rf_m0 _) (rf_s_iload_n rf_f_M_lies_I_V_16 rfl (rf_m0 _) (rf_s_iadd rf_f_M_lies_I_V_17 (rf_m0 _) (rf_s_aload_n rf_f_M_lies_I_V_18 rfl (rf_m0 _) (rf_s_getAS rf_f_M_lies_I_V_19 (rf_m0 _) fun x2 => (rf_s_iload_n rf_f_M_lies_I_V_22 rfl (rf_m0 _) (rf_s_ialdR rf_f_M_lies_I_V_23 (rf_m0 _) fun k3 x4 => (rf_s_iastR rf_f_M_lies_I_V_24 (rf_m0 _) fun k5 h6 => (rf_s_iinc (L' := [some (.inr (.inr (some o))), some (.inl l1), some (.inl (rf_w (l2 + 1)))]) rf_f_M_lies_I_V_25 rfl rfl (rf_s_goto rf_f_M_lies_I_V_28 rfl rfl rfl))))))))))))))))) : rf_den (rf_call d) rf_m_M_lies_I_V (2, [some (.inr (.inr (some o))), some (.inl l1), some (.inl l2)], [], h) = _)
noncomputable def rf_j_M_plans_38 (d : Nat) (o : Nat) (l1 : Int) (l2 : Int) (l3 : Int) (l4 : Int) (l5 : Int) (h : rf_H) : Option rf_R := rf_den (rf_call d) rf_m_M_plans (38, [some (.inr (.inr (some o))), some (.inl l1), some (.inl l2), some (.inl l3), some (.inl l4), some (.inl l5)], [], h)
noncomputable def rf_j_M_plans_58 (d : Nat) (o : Nat) (l1 : Int) (l2 : Int) (l3 : Int) (l4 : Int) (l5 : Int) (h : rf_H) : Option rf_R := rf_den (rf_call d) rf_m_M_plans (58, [some (.inr (.inr (some o))), some (.inl l1), some (.inl l2), some (.inl l3), some (.inl l4), some (.inl l5)], [], h)
noncomputable def rf_j_M_plans_89 (d : Nat) (o : Nat) (l1 : Int) (l2 : Int) (l3 : Int) (l4 : Int) (l5 : Int) (s0 : Option Nat) (s1 : Int) (s2 : Int) (h : rf_H) : Option rf_R := rf_den (rf_call d) rf_m_M_plans (89, [some (.inr (.inr (some o))), some (.inl l1), some (.inl l2), some (.inl l3), some (.inl l4), some (.inl l5)], [.inl s2, .inl s1, .inr (.inr s0)], h)
noncomputable def rf_j_M_plans_173 (d : Nat) (o : Nat) (l1 : Int) (l2 : Int) (l3 : Int) (l4 : Int) (l5 : Int) (s0 : Option Nat) (s1 : Int) (s2 : Int) (h : rf_H) : Option rf_R := rf_den (rf_call d) rf_m_M_plans (173, [some (.inr (.inr (some o))), some (.inl l1), some (.inl l2), some (.inl l3), some (.inl l4), some (.inl l5)], [.inl s2, .inl s1, .inr (.inr s0)], h)
theorem rf_u_M_plans : rf_mt 175 = rf_m_M_plans := rfl
theorem rf_f_M_plans_0 : rf_Fb rf_m_M_plans 0 1 (.aload_n 0) 0 0 0 0 [] [] = true := by decide +kernel
theorem rf_f_M_plans_1 : rf_Fb rf_m_M_plans 1 4 (.getfield 44) 5 18 2 0 [] [] = true := by decide +kernel
theorem rf_f_M_plans_4 : rf_Fb rf_m_M_plans 4 6 (.bipush 35) 0 0 0 0 [] [] = true := by decide +kernel
theorem rf_f_M_plans_6 : rf_Fb rf_m_M_plans 6 7 (.iaload) 0 0 0 0 [] [] = true := by decide +kernel
theorem rf_f_M_plans_7 : rf_Fb rf_m_M_plans 7 8 (.istore_n 3) 0 0 0 0 [] [] = true := by decide +kernel
theorem rf_f_M_plans_8 : rf_Fb rf_m_M_plans 8 9 (.aload_n 0) 0 0 0 0 [] [] = true := by decide +kernel
theorem rf_f_M_plans_9 : rf_Fb rf_m_M_plans 9 12 (.getfield 44) 5 18 2 0 [] [] = true := by decide +kernel
theorem rf_f_M_plans_12 : rf_Fb rf_m_M_plans 12 14 (.bipush 36) 0 0 0 0 [] [] = true := by decide +kernel
theorem rf_f_M_plans_14 : rf_Fb rf_m_M_plans 14 15 (.iaload) 0 0 0 0 [] [] = true := by decide +kernel
theorem rf_f_M_plans_15 : rf_Fb rf_m_M_plans 15 17 (.istore 4) 0 0 0 0 [] [] = true := by decide +kernel
theorem rf_f_M_plans_17 : rf_Fb rf_m_M_plans 17 18 (.aload_n 0) 0 0 0 0 [] [] = true := by decide +kernel
theorem rf_f_M_plans_18 : rf_Fb rf_m_M_plans 18 19 (.iconst 0) 0 0 0 0 [] [] = true := by decide +kernel
theorem rf_f_M_plans_19 : rf_Fb rf_m_M_plans 19 22 (.putfield 189) 5 20 0 0 [] [] = true := by decide +kernel
theorem rf_f_M_plans_22 : rf_Fb rf_m_M_plans 22 23 (.aload_n 0) 0 0 0 0 [] [] = true := by decide +kernel
theorem rf_f_M_plans_23 : rf_Fb rf_m_M_plans 23 24 (.iconst 0) 0 0 0 0 [] [] = true := by decide +kernel
theorem rf_f_M_plans_24 : rf_Fb rf_m_M_plans 24 27 (.putfield 192) 5 21 0 0 [] [] = true := by decide +kernel
theorem rf_f_M_plans_27 : rf_Fb rf_m_M_plans 27 28 (.iconst 0) 0 0 0 0 [] [] = true := by decide +kernel
theorem rf_f_M_plans_28 : rf_Fb rf_m_M_plans 28 30 (.istore 5) 0 0 0 0 [] [] = true := by decide +kernel
theorem rf_f_M_plans_30 : rf_Fb rf_m_M_plans 30 31 (.aload_n 0) 0 0 0 0 [] [] = true := by decide +kernel
theorem rf_f_M_plans_31 : rf_Fb rf_m_M_plans 31 34 (.getfield 47) 5 19 2 0 [] [] = true := by decide +kernel
theorem rf_f_M_plans_34 : rf_Fb rf_m_M_plans 34 35 (.iconst 0) 0 0 0 0 [] [] = true := by decide +kernel
theorem rf_f_M_plans_35 : rf_Fb rf_m_M_plans 35 37 (.bipush (-9)) 0 0 0 0 [] [] = true := by decide +kernel
theorem rf_f_M_plans_37 : rf_Fb rf_m_M_plans 37 38 (.iastore) 0 0 0 0 [] [true, true, true, true, true, true] = true := by decide +kernel
theorem rf_f_M_plans_38 : rf_Fb rf_m_M_plans 38 40 (.iload 5) 0 0 0 0 [] [] = true := by decide +kernel
theorem rf_f_M_plans_40 : rf_Fb rf_m_M_plans 40 43 (.ifCond .lt 198) 238 0 0 0 [] [] = true := by decide +kernel
theorem rf_f_M_plans_43 : rf_Fb rf_m_M_plans 43 44 (.iload_n 1) 0 0 0 0 [] [] = true := by decide +kernel
theorem rf_f_M_plans_44 : rf_Fb rf_m_M_plans 44 47 (.ifCond .le 194) 238 0 0 0 [] [] = true := by decide +kernel
theorem rf_f_M_plans_47 : rf_Fb rf_m_M_plans 47 48 (.iload_n 2) 0 0 0 0 [] [] = true := by decide +kernel
theorem rf_f_M_plans_48 : rf_Fb rf_m_M_plans 48 51 (.ifCond .eq 10) 58 0 0 0 [] [] = true := by decide +kernel
theorem rf_f_M_plans_51 : rf_Fb rf_m_M_plans 51 52 (.aload_n 0) 0 0 0 0 [] [] = true := by decide +kernel
theorem rf_f_M_plans_52 : rf_Fb rf_m_M_plans 52 55 (.getfield 189) 5 20 0 0 [] [] = true := by decide +kernel
theorem rf_f_M_plans_55 : rf_Fb rf_m_M_plans 55 58 (.ifCond .gt 183) 238 0 0 0 [] [true, true, true, true, true, true] = true := by decide +kernel
theorem rf_f_M_plans_58 : rf_Fb rf_m_M_plans 58 59 (.aload_n 0) 0 0 0 0 [] [] = true := by decide +kernel
theorem rf_f_M_plans_59 : rf_Fb rf_m_M_plans 59 62 (.getfield 47) 5 19 2 0 [] [] = true := by decide +kernel
theorem rf_f_M_plans_62 : rf_Fb rf_m_M_plans 62 64 (.iload 5) 0 0 0 0 [] [] = true := by decide +kernel
theorem rf_f_M_plans_64 : rf_Fb rf_m_M_plans 64 65 (.aload_n 0) 0 0 0 0 [] [] = true := by decide +kernel
theorem rf_f_M_plans_65 : rf_Fb rf_m_M_plans 65 68 (.getfield 47) 5 19 2 0 [] [] = true := by decide +kernel
theorem rf_f_M_plans_68 : rf_Fb rf_m_M_plans 68 70 (.iload 5) 0 0 0 0 [] [] = true := by decide +kernel
theorem rf_f_M_plans_70 : rf_Fb rf_m_M_plans 70 71 (.iaload) 0 0 0 0 [] [] = true := by decide +kernel
theorem rf_f_M_plans_71 : rf_Fb rf_m_M_plans 71 73 (.bipush (-9)) 0 0 0 0 [] [] = true := by decide +kernel
theorem rf_f_M_plans_73 : rf_Fb rf_m_M_plans 73 76 (.if_icmp .ne 7) 80 0 0 0 [] [] = true := by decide +kernel
theorem rf_f_M_plans_76 : rf_Fb rf_m_M_plans 76 77 (.iconst 0) 0 0 0 0 [] [] = true := by decide +kernel
theorem rf_f_M_plans_77 : rf_Fb rf_m_M_plans 77 80 (.goto 12) 89 0 0 0 [] [] = true := by decide +kernel
theorem rf_f_M_plans_80 : rf_Fb rf_m_M_plans 80 81 (.aload_n 0) 0 0 0 0 [] [] = true := by decide +kernel
theorem rf_f_M_plans_81 : rf_Fb rf_m_M_plans 81 84 (.getfield 47) 5 19 2 0 [] [] = true := by decide +kernel
theorem rf_f_M_plans_84 : rf_Fb rf_m_M_plans 84 86 (.iload 5) 0 0 0 0 [] [] = true := by decide +kernel
theorem rf_f_M_plans_86 : rf_Fb rf_m_M_plans 86 87 (.iaload) 0 0 0 0 [] [] = true := by decide +kernel
theorem rf_f_M_plans_87 : rf_Fb rf_m_M_plans 87 88 (.iconst 1) 0 0 0 0 [] [] = true := by decide +kernel
theorem rf_f_M_plans_88 : rf_Fb rf_m_M_plans 88 89 (.iadd) 0 0 0 0 [] [true, true, true, true, true, true] = true := by decide +kernel
theorem rf_f_M_plans_89 : rf_Fb rf_m_M_plans 89 90 (.iastore) 0 0 0 0 [] [] = true := by decide +kernel
theorem rf_f_M_plans_90 : rf_Fb rf_m_M_plans 90 91 (.aload_n 0) 0 0 0 0 [] [] = true := by decide +kernel
theorem rf_f_M_plans_91 : rf_Fb rf_m_M_plans 91 94 (.getfield 47) 5 19 2 0 [] [] = true := by decide +kernel
theorem rf_f_M_plans_94 : rf_Fb rf_m_M_plans 94 96 (.iload 5) 0 0 0 0 [] [] = true := by decide +kernel
theorem rf_f_M_plans_96 : rf_Fb rf_m_M_plans 96 97 (.iaload) 0 0 0 0 [] [] = true := by decide +kernel
theorem rf_f_M_plans_97 : rf_Fb rf_m_M_plans 97 99 (.bipush 15) 0 0 0 0 [] [] = true := by decide +kernel
theorem rf_f_M_plans_99 : rf_Fb rf_m_M_plans 99 102 (.if_icmp .ne 9) 108 0 0 0 [] [] = true := by decide +kernel
theorem rf_f_M_plans_102 : rf_Fb rf_m_M_plans 102 105 (.iinc 5 (-1)) 0 0 0 0 [] [] = true := by decide +kernel
theorem rf_f_M_plans_105 : rf_Fb rf_m_M_plans 105 108 (.goto (-67)) 38 0 0 0 [] [] = true := by decide +kernel
theorem rf_f_M_plans_108 : rf_Fb rf_m_M_plans 108 109 (.aload_n 0) 0 0 0 0 [] [] = true := by decide +kernel
theorem rf_f_M_plans_109 : rf_Fb rf_m_M_plans 109 111 (.iload 5) 0 0 0 0 [] [] = true := by decide +kernel
theorem rf_f_M_plans_111 : rf_Fb rf_m_M_plans 111 114 (.invokevirtual 195) 176 1 3 5 [] [] = true := by decide +kernel
theorem rf_f_M_plans_114 : rf_Fb rf_m_M_plans 114 115 (.aload_n 0) 0 0 0 0 [] [] = true := by decide +kernel
theorem rf_f_M_plans_115 : rf_Fb rf_m_M_plans 115 116 (.aload_n 0) 0 0 0 0 [] [] = true := by decide +kernel
theorem rf_f_M_plans_116 : rf_Fb rf_m_M_plans 116 119 (.getfield 47) 5 19 2 0 [] [] = true := by decide +kernel
theorem rf_f_M_plans_119 : rf_Fb rf_m_M_plans 119 121 (.iload 5) 0 0 0 0 [] [] = true := by decide +kernel
theorem rf_f_M_plans_121 : rf_Fb rf_m_M_plans 121 122 (.iaload) 0 0 0 0 [] [] = true := by decide +kernel
theorem rf_f_M_plans_122 : rf_Fb rf_m_M_plans 122 125 (.invokevirtual 169) 152 1 0 5 [] [] = true := by decide +kernel
theorem rf_f_M_plans_125 : rf_Fb rf_m_M_plans 125 128 (.ifCond .eq (-87)) 38 0 0 0 [] [] = true := by decide +kernel
theorem rf_f_M_plans_128 : rf_Fb rf_m_M_plans 128 129 (.aload_n 0) 0 0 0 0 [] [] = true := by decide +kernel
theorem rf_f_M_plans_129 : rf_Fb rf_m_M_plans 129 130 (.aload_n 0) 0 0 0 0 [] [] = true := by decide +kernel
theorem rf_f_M_plans_130 : rf_Fb rf_m_M_plans 130 133 (.getfield 47) 5 19 2 0 [] [] = true := by decide +kernel
theorem rf_f_M_plans_133 : rf_Fb rf_m_M_plans 133 135 (.iload 5) 0 0 0 0 [] [] = true := by decide +kernel
theorem rf_f_M_plans_135 : rf_Fb rf_m_M_plans 135 136 (.iaload) 0 0 0 0 [] [] = true := by decide +kernel
theorem rf_f_M_plans_136 : rf_Fb rf_m_M_plans 136 137 (.aload_n 0) 0 0 0 0 [] [] = true := by decide +kernel
theorem rf_f_M_plans_137 : rf_Fb rf_m_M_plans 137 140 (.invokevirtual 156) 154 0 0 5 [] [] = true := by decide +kernel
theorem rf_f_M_plans_140 : rf_Fb rf_m_M_plans 140 143 (.invokevirtual 159) 155 2 0 5 [] [] = true := by decide +kernel
theorem rf_f_M_plans_143 : rf_Fb rf_m_M_plans 143 144 (.pop) 0 0 0 0 [] [] = true := by decide +kernel
theorem rf_f_M_plans_144 : rf_Fb rf_m_M_plans 144 146 (.iload 5) 0 0 0 0 [] [] = true := by decide +kernel
theorem rf_f_M_plans_146 : rf_Fb rf_m_M_plans 146 147 (.iconst 1) 0 0 0 0 [] [] = true := by decide +kernel
theorem rf_f_M_plans_147 : rf_Fb rf_m_M_plans 147 148 (.iadd) 0 0 0 0 [] [] = true := by decide +kernel
theorem rf_f_M_plans_148 : rf_Fb rf_m_M_plans 148 149 (.iload_n 1) 0 0 0 0 [] [] = true := by decide +kernel
theorem rf_f_M_plans_149 : rf_Fb rf_m_M_plans 149 152 (.if_icmp .ne 68) 217 0 0 0 [] [] = true := by decide +kernel
theorem rf_f_M_plans_152 : rf_Fb rf_m_M_plans 152 153 (.aload_n 0) 0 0 0 0 [] [] = true := by decide +kernel
theorem rf_f_M_plans_153 : rf_Fb rf_m_M_plans 153 154 (.dup) 0 0 0 0 [] [] = true := by decide +kernel
theorem rf_f_M_plans_154 : rf_Fb rf_m_M_plans 154 157 (.getfield 189) 5 20 0 0 [] [] = true := by decide +kernel
theorem rf_f_M_plans_157 : rf_Fb rf_m_M_plans 157 158 (.aload_n 0) 0 0 0 0 [] [] = true := by decide +kernel
theorem rf_f_M_plans_158 : rf_Fb rf_m_M_plans 158 161 (.getfield 41) 5 17 2 0 [] [] = true := by decide +kernel
theorem rf_f_M_plans_161 : rf_Fb rf_m_M_plans 161 163 (.bipush 35) 0 0 0 0 [] [] = true := by decide +kernel
theorem rf_f_M_plans_163 : rf_Fb rf_m_M_plans 163 164 (.iaload) 0 0 0 0 [] [] = true := by decide +kernel
theorem rf_f_M_plans_164 : rf_Fb rf_m_M_plans 164 165 (.iload_n 3) 0 0 0 0 [] [] = true := by decide +kernel
theorem rf_f_M_plans_165 : rf_Fb rf_m_M_plans 165 168 (.if_icmp .le 7) 172 0 0 0 [] [] = true := by decide +kernel
theorem rf_f_M_plans_168 : rf_Fb rf_m_M_plans 168 169 (.iconst 1) 0 0 0 0 [] [] = true := by decide +kernel
theorem rf_f_M_plans_169 : rf_Fb rf_m_M_plans 169 172 (.goto 4) 173 0 0 0 [] [] = true := by decide +kernel
theorem rf_f_M_plans_172 : rf_Fb rf_m_M_plans 172 173 (.iconst 0) 0 0 0 0 [] [true, true, true, true, true, true] = true := by decide +kernel
theorem rf_f_M_plans_173 : rf_Fb rf_m_M_plans 173 174 (.iadd) 0 0 0 0 [] [] = true := by decide +kernel
theorem rf_f_M_plans_174 : rf_Fb rf_m_M_plans 174 177 (.putfield 189) 5 20 0 0 [] [] = true := by decide +kernel
theorem rf_f_M_plans_177 : rf_Fb rf_m_M_plans 177 178 (.aload_n 0) 0 0 0 0 [] [] = true := by decide +kernel
theorem rf_f_M_plans_178 : rf_Fb rf_m_M_plans 178 179 (.dup) 0 0 0 0 [] [] = true := by decide +kernel
theorem rf_f_M_plans_179 : rf_Fb rf_m_M_plans 179 182 (.getfield 192) 5 21 0 0 [] [] = true := by decide +kernel
theorem rf_f_M_plans_182 : rf_Fb rf_m_M_plans 182 183 (.aload_n 0) 0 0 0 0 [] [] = true := by decide +kernel
theorem rf_f_M_plans_183 : rf_Fb rf_m_M_plans 183 186 (.getfield 41) 5 17 2 0 [] [] = true := by decide +kernel
theorem rf_f_M_plans_186 : rf_Fb rf_m_M_plans 186 188 (.bipush 35) 0 0 0 0 [] [] = true := by decide +kernel
theorem rf_f_M_plans_188 : rf_Fb rf_m_M_plans 188 189 (.iaload) 0 0 0 0 [] [] = true := by decide +kernel
theorem rf_f_M_plans_189 : rf_Fb rf_m_M_plans 189 190 (.iload_n 3) 0 0 0 0 [] [] = true := by decide +kernel
theorem rf_f_M_plans_190 : rf_Fb rf_m_M_plans 190 193 (.if_icmp .le 19) 209 0 0 0 [] [] = true := by decide +kernel
theorem rf_f_M_plans_193 : rf_Fb rf_m_M_plans 193 194 (.aload_n 0) 0 0 0 0 [] [] = true := by decide +kernel
theorem rf_f_M_plans_194 : rf_Fb rf_m_M_plans 194 197 (.getfield 41) 5 17 2 0 [] [] = true := by decide +kernel
theorem rf_f_M_plans_197 : rf_Fb rf_m_M_plans 197 199 (.bipush 36) 0 0 0 0 [] [] = true := by decide +kernel
theorem rf_f_M_plans_199 : rf_Fb rf_m_M_plans 199 200 (.iaload) 0 0 0 0 [] [] = true := by decide +kernel
theorem rf_f_M_plans_200 : rf_Fb rf_m_M_plans 200 202 (.iload 4) 0 0 0 0 [] [] = true := by decide +kernel
theorem rf_f_M_plans_202 : rf_Fb rf_m_M_plans 202 205 (.if_icmp .ne 7) 209 0 0 0 [] [] = true := by decide +kernel
theorem rf_f_M_plans_205 : rf_Fb rf_m_M_plans 205 206 (.iconst 1) 0 0 0 0 [] [] = true := by decide +kernel
theorem rf_f_M_plans_206 : rf_Fb rf_m_M_plans 206 209 (.goto 4) 210 0 0 0 [] [] = true := by decide +kernel
theorem rf_f_M_plans_209 : rf_Fb rf_m_M_plans 209 210 (.iconst 0) 0 0 0 0 [] [] = true := by decide +kernel
theorem rf_f_M_plans_210 : rf_Fb rf_m_M_plans 210 211 (.iadd) 0 0 0 0 [] [] = true := by decide +kernel
theorem rf_f_M_plans_211 : rf_Fb rf_m_M_plans 211 214 (.putfield 192) 5 21 0 0 [] [] = true := by decide +kernel
theorem rf_f_M_plans_214 : rf_Fb rf_m_M_plans 214 217 (.goto (-176)) 38 0 0 0 [] [] = true := by decide +kernel
theorem rf_f_M_plans_217 : rf_Fb rf_m_M_plans 217 220 (.iinc 5 1) 0 0 0 0 [] [] = true := by decide +kernel
theorem rf_f_M_plans_220 : rf_Fb rf_m_M_plans 220 221 (.aload_n 0) 0 0 0 0 [] [] = true := by decide +kernel
theorem rf_f_M_plans_221 : rf_Fb rf_m_M_plans 221 223 (.iload 5) 0 0 0 0 [] [] = true := by decide +kernel
theorem rf_f_M_plans_223 : rf_Fb rf_m_M_plans 223 226 (.invokevirtual 199) 174 1 3 5 [] [] = true := by decide +kernel
theorem rf_f_M_plans_226 : rf_Fb rf_m_M_plans 226 227 (.aload_n 0) 0 0 0 0 [] [] = true := by decide +kernel
theorem rf_f_M_plans_227 : rf_Fb rf_m_M_plans 227 230 (.getfield 47) 5 19 2 0 [] [] = true := by decide +kernel
theorem rf_f_M_plans_230 : rf_Fb rf_m_M_plans 230 232 (.iload 5) 0 0 0 0 [] [] = true := by decide +kernel
theorem rf_f_M_plans_232 : rf_Fb rf_m_M_plans 232 234 (.bipush (-9)) 0 0 0 0 [] [] = true := by decide +kernel
theorem rf_f_M_plans_234 : rf_Fb rf_m_M_plans 234 235 (.iastore) 0 0 0 0 [] [] = true := by decide +kernel
theorem rf_f_M_plans_235 : rf_Fb rf_m_M_plans 235 238 (.goto (-197)) 38 0 0 0 [] [] = true := by decide +kernel
theorem rf_f_M_plans_238 : rf_Fb rf_m_M_plans 238 239 (.return_) 0 0 0 0 [] [] = true := by decide +kernel
set_option maxRecDepth 20000 in
set_option maxHeartbeats 2000000 in
theorem rf_e_M_plans (d : Nat) (o : Nat) (a1 : Int) (a2 : Int) (h : rf_H) : rf_call (d + 1) 175 [.inr (.inr (some o)), .inl a1, .inl a2] h = ((rf_gR h 5 o 18).bind fun x1 => (rf_nn x1 fun k2 => ((rf_aI h k2 35).bind fun x3 => ((rf_gR h 5 o 18).bind fun x4 => (rf_nn x4 fun k5 => ((rf_aI h k5 36).bind fun x6 => ((rf_pI h 5 o 20 0).bind fun h7 => ((rf_pI h7 5 o 21 0).bind fun h8 => ((rf_gR h8 5 o 19).bind fun x9 => (rf_nn x9 fun k10 => ((rf_sI h8 k10 0 (-9)).bind fun h11 => rf_j_M_plans_38 d o a1 a2 x3 x6 0 h11))))))))))) := by
  show rf_den (rf_call d) (rf_mt 175) _ = _
  rw [rf_u_M_plans]
  exact ((rf_s_aload_n rf_f_M_plans_0 rfl (rf_m0 _) (rf_s_getAS rf_f_M_plans_1 (rf_m0 _) fun x1 => (rf_s_bipush rf_f_M_plans_4 (rf_m0 _) (rf_s_ialdR rf_f_M_plans_6 (rf_m0 _) fun k2 x3 => (rf_s_istore_n (L' := [some (.inr (.inr (some o))), some (.inl a1), some (.inl a2), some (.inl x3), none, none]) rf_f_M_plans_7 rfl (rf_s_aload_n rf_f_M_plans_8 rfl (rf_m0 _) (rf_s_getAS rf_f_M_plans_9 (rf_m0 _) fun x4 => (rf_s_bipush rf_f_M_plans_12 (rf_m0 _) (rf_s_ialdR rf_f_M_plans_14 (rf_m0 _) fun k5 x6 => (rf_s_istore (L' := [some (.inr (.inr (some o))), some (.inl a1), some (.inl a2), some (.inl x3), some (.inl x6), none]) rf_f_M_plans_15 rfl (rf_s_aload_n rf_f_M_plans_17 rfl (rf_m0 _) (rf_s_iconst rf_f_M_plans_18 (rf_m0 _) (rf_s_putIS rf_f_M_plans_19 (rf_m0 _) fun h7 => (rf_s_aload_n rf_f_M_plans_22 rfl (rf_m0 _) (rf_s_iconst rf_f_M_plans_23 (rf_m0 _) (rf_s_putIS rf_f_M_plans_24 (rf_m0 _) fun h8 => (rf_s_iconst rf_f_M_plans_27 (rf_m0 _) (rf_s_istore (L' := [some (.inr (.inr (some o))), some (.inl a1), some (.inl a2), some (.inl x3), some (.inl x6), some (.inl 0)]) rf_f_M_plans_28 rfl (rf_s_aload_n rf_f_M_plans_30 rfl (rf_m0 _) (rf_s_getAS rf_f_M_plans_31 (rf_m0 _) fun x9 => (rf_s_iconst rf_f_M_plans_34 (rf_m0 _) (rf_s_bipush rf_f_M_plans_35 (rf_m0 _) (rf_s_iastR rf_f_M_plans_37 rfl fun k10 h11 => rfl))))))))))))))))))))))) : rf_den (rf_call d) rf_m_M_plans (0, [some (.inr (.inr (some o))), some (.inl a1), some (.inl a2), none, none, none], [], h) = _)
set_option maxRecDepth 20000 in
set_option maxHeartbeats 2000000 in
theorem rf_e_M_plans_38 (d : Nat) (o : Nat) (l1 : Int) (l2 : Int) (l3 : Int) (l4 : Int) (l5 : Int) (h : rf_H) : rf_j_M_plans_38 d o l1 l2 l3 l4 l5 h = (if l5 < 0 then some (none, h) else (if 0 < l1 then (if l2 = 0 then rf_j_M_plans_58 d o l1 l2 l3 l4 l5 h else ((rf_gI h 5 o 20).bind fun x1 => (if 0 < x1 then some (none, h) else rf_j_M_plans_58 d o l1 l2 l3 l4 l5 h))) else some (none, h))) :=
  ((rf_s_iload rf_f_M_plans_38 rfl (rf_m0 _) (rf_s_if_lt rf_f_M_plans_40 rfl (rf_m0 _) (rf_m0 _) (rf_s_vret rf_f_M_plans_238) (rf_s_iload_n rf_f_M_plans_43 rfl (rf_m0 _) (rf_s_if_le rf_f_M_plans_44 rfl (rf_m0 _) (rf_m0 _) (rf_s_vret rf_f_M_plans_238) (rf_s_iload_n rf_f_M_plans_47 rfl (rf_m0 _) (rf_s_if_eq rf_f_M_plans_48 rfl rfl (rf_m0 _) rfl (rf_s_aload_n rf_f_M_plans_51 rfl (rf_m0 _) (rf_s_getIS rf_f_M_plans_52 (rf_m0 _) fun x1 => (rf_s_if_gt rf_f_M_plans_55 rfl (rf_m0 _) rfl (rf_s_vret rf_f_M_plans_238) rfl))))))))) : rf_den (rf_call d) rf_m_M_plans (38, [some (.inr (.inr (some o))), some (.inl l1), some (.inl l2), some (.inl l3), some (.inl l4), some (.inl l5)], [], h) = _)
set_option maxRecDepth 20000 in
set_option maxHeartbeats 2000000 in
theorem rf_e_M_plans_58 (d : Nat) (o : Nat) (l1 : Int) (l2 : Int) (l3 : Int) (l4 : Int) (l5 : Int) (h : rf_H) : rf_j_M_plans_58 d o l1 l2 l3 l4 l5 h = ((rf_gR h 5 o 19).bind fun x1 => ((rf_gR h 5 o 19).bind fun x2 => (rf_nn x2 fun k3 => ((rf_aI h k3 l5).bind fun x4 => (if x4 = (-9) then rf_j_M_plans_89 d o l1 l2 l3 l4 l5 x1 l5 0 h else ((rf_gR h 5 o 19).bind fun x5 => (rf_nn x5 fun k6 => ((rf_aI h k6 l5).bind fun x7 => rf_j_M_plans_89 d o l1 l2 l3 l4 l5 x1 l5 (rf_w (x7 + 1)) h)))))))) :=
  ((rf_s_aload_n rf_f_M_plans_58 rfl (rf_m0 _) (rf_s_getAS rf_f_M_plans_59 (rf_m0 _) fun x1 => (rf_s_iload rf_f_M_plans_62 rfl (rf_m0 _) (rf_s_aload_n rf_f_M_plans_64 rfl (rf_m0 _) (rf_s_getAS rf_f_M_plans_65 (rf_m0 _) fun x2 => (rf_s_iload rf_f_M_plans_68 rfl (rf_m0 _) (rf_s_ialdR rf_f_M_plans_70 (rf_m0 _) fun k3 x4 => (rf_s_bipush rf_f_M_plans_71 (rf_m0 _) (rf_s_icmp_ne rf_f_M_plans_73 rfl (rf_m0 _) (rf_m0 _) (rf_s_aload_n rf_f_M_plans_80 rfl (rf_m0 _) (rf_s_getAS rf_f_M_plans_81 (rf_m0 _) fun x5 => (rf_s_iload rf_f_M_plans_84 rfl (rf_m0 _) (rf_s_ialdR rf_f_M_plans_86 (rf_m0 _) fun k6 x7 => (rf_s_iconst rf_f_M_plans_87 (rf_m0 _) (rf_s_iadd rf_f_M_plans_88 rfl rfl)))))) (rf_s_iconst rf_f_M_plans_76 (rf_m0 _) (rf_s_goto rf_f_M_plans_77 rfl rfl rfl))))))))))) : rf_den (rf_call d) rf_m_M_plans (58, [some (.inr (.inr (some o))), some (.inl l1), some (.inl l2), some (.inl l3), some (.inl l4), some (.inl l5)], [], h) = _)
set_option maxRecDepth 20000 in
set_option maxHeartbeats 2000000 in
theorem rf_e_M_plans_89 (d : Nat) (o : Nat) (l1 : Int) (l2 : Int) (l3 : Int) (l4 : Int) (l5 : Int) (s0 : Option Nat) (s1 : Int) (s2 : Int) (h : rf_H) : rf_j_M_plans_89 d o l1 l2 l3 l4 l5 s0 s1 s2 h = (rf_nn s0 fun k1 => ((rf_sI h k1 s1 s2).bind fun h2 => ((rf_gR h2 5 o 19).bind fun x3 => (rf_nn x3 fun k4 => ((rf_aI h2 k4 l5).bind fun x5 => (if x5 = 15 then rf_j_M_plans_38 d o l1 l2 l3 l4 (rf_w (l5 + (-1))) h2 else (bif rf_isO h2.1 o 5 then ((rf_call d 176 [.inr (.inr (some o)), .inl l5] h2).bind fun q7 => rf_kV q7 fun h6 => ((rf_gR h6 5 o 19).bind fun x8 => (rf_nn x8 fun k9 => ((rf_aI h6 k9 l5).bind fun x10 => (bif rf_isO h6.1 o 5 then ((rf_call d 152 [.inr (.inr (some o)), .inl x10] h6).bind fun q12 => rf_kI q12 fun x13 h11 => (if x13 = 0 then rf_j_M_plans_38 d o l1 l2 l3 l4 l5 h11 else ((rf_gR h11 5 o 19).bind fun x14 => (rf_nn x14 fun k15 => ((rf_aI h11 k15 l5).bind fun x16 => (bif rf_isO h11.1 o 5 then ((rf_call d 154 [.inr (.inr (some o))] h11).bind fun q18 => rf_kI q18 fun x19 h17 => (bif rf_isO h17.1 o 5 then ((rf_call d 155 [.inr (.inr (some o)), .inl x16, .inl x19] h17).bind fun q21 => rf_kI q21 fun x22 h20 => (if (rf_w (l5 + 1)) = l1 then ((rf_gI h20 5 o 20).bind fun x28 => ((rf_gR h20 5 o 17).bind fun x29 => (rf_nn x29 fun k30 => ((rf_aI h20 k30 35).bind fun x31 => (if l3 < x31 then rf_j_M_plans_173 d o l1 l2 l3 l4 l5 (some o) x28 1 h20 else rf_j_M_plans_173 d o l1 l2 l3 l4 l5 (some o) x28 0 h20))))) else (bif rf_isO h20.1 o 5 then ((rf_call d 174 [.inr (.inr (some o)), .inl (rf_w (l5 + 1))] h20).bind fun q24 => rf_kV q24 fun h23 => ((rf_gR h23 5 o 19).bind fun x25 => (rf_nn x25 fun k26 => ((rf_sI h23 k26 (rf_w (l5 + 1)) (-9)).bind fun h27 => rf_j_M_plans_38 d o l1 l2 l3 l4 (rf_w (l5 + 1)) h27)))) else none))) else none)) else none)))))) else none))))) else none))))))) :=
  ((rf_s_iastR rf_f_M_plans_89 (rf_m0 _) fun k1 h2 => (rf_s_aload_n rf_f_M_plans_90 rfl (rf_m0 _) (rf_s_getAS rf_f_M_plans_91 (rf_m0 _) fun x3 => (rf_s_iload rf_f_M_plans_94 rfl (rf_m0 _) (rf_s_ialdR rf_f_M_plans_96 (rf_m0 _) fun k4 x5 => (rf_s_bipush rf_f_M_plans_97 (rf_m0 _) (rf_s_icmp_ne rf_f_M_plans_99 rfl (rf_m0 _) (rf_m0 _) (rf_s_aload_n rf_f_M_plans_108 rfl (rf_m0 _) (rf_s_iload rf_f_M_plans_109 rfl (rf_m0 _) (rf_s_invV3S rf_f_M_plans_111 rfl rfl (rf_m0 _) fun q7 h6 => (rf_s_aload_n rf_f_M_plans_114 rfl (rf_m0 _) (rf_s_aload_n rf_f_M_plans_115 rfl (rf_m0 _) (rf_s_getAS rf_f_M_plans_116 (rf_m0 _) fun x8 => (rf_s_iload rf_f_M_plans_119 rfl (rf_m0 _) (rf_s_ialdR rf_f_M_plans_121 (rf_m0 _) fun k9 x10 => (rf_s_invV0S rf_f_M_plans_122 rfl rfl (rf_m0 _) fun q12 x13 h11 => (rf_s_if_eq rf_f_M_plans_125 rfl rfl (rf_m0 _) rfl (rf_s_aload_n rf_f_M_plans_128 rfl (rf_m0 _) (rf_s_aload_n rf_f_M_plans_129 rfl (rf_m0 _) (rf_s_getAS rf_f_M_plans_130 (rf_m0 _) fun x14 => (rf_s_iload rf_f_M_plans_133 rfl (rf_m0 _) (rf_s_ialdR rf_f_M_plans_135 (rf_m0 _) fun k15 x16 => (rf_s_aload_n rf_f_M_plans_136 rfl (rf_m0 _) (rf_s_invV0S rf_f_M_plans_137 rfl rfl (rf_m0 _) fun q18 x19 h17 => (rf_s_invV0S rf_f_M_plans_140 rfl rfl (rf_m0 _) fun q21 x22 h20 => (rf_s_popI rf_f_M_plans_143 (rf_m0 _) (rf_s_iload rf_f_M_plans_144 rfl (rf_m0 _) (rf_s_iconst rf_f_M_plans_146 (rf_m0 _) (rf_s_iadd rf_f_M_plans_147 (rf_m0 _) (rf_s_iload_n rf_f_M_plans_148 rfl (rf_m0 _) (rf_s_icmp_ne rf_f_M_plans_149 rfl (rf_m0 _) (rf_m0 _) (rf_s_iinc (L' := [some (.inr (.inr (some o))), some (.inl l1), some (.inl l2), some (.inl l3), some (.inl l4), some (.inl (rf_w (l5 + 1)))]) rf_f_M_plans_217 rfl rfl (rf_s_aload_n rf_f_M_plans_220 rfl (rf_m0 _) (rf_s_iload rf_f_M_plans_221 rfl (rf_m0 _) (rf_s_invV3S rf_f_M_plans_223 rfl rfl (rf_m0 _) fun q24 h23 => (rf_s_aload_n rf_f_M_plans_226 rfl (rf_m0 _) (rf_s_getAS rf_f_M_plans_227 (rf_m0 _) fun x25 => (rf_s_iload rf_f_M_plans_230 rfl (rf_m0 _) (rf_s_bipush rf_f_M_plans_232 (rf_m0 _) (rf_s_iastR rf_f_M_plans_234 (rf_m0 _) fun k26 h27 => (rf_s_goto rf_f_M_plans_235 rfl rfl rfl)))))))))) (rf_s_aload_n rf_f_M_plans_152 rfl (rf_m0 _) (rf_s_dupA rf_f_M_plans_153 (rf_m0 _) (rf_s_getIS rf_f_M_plans_154 (rf_m0 _) fun x28 => (rf_s_aload_n rf_f_M_plans_157 rfl (rf_m0 _) (rf_s_getAS rf_f_M_plans_158 (rf_m0 _) fun x29 => (rf_s_bipush rf_f_M_plans_161 (rf_m0 _) (rf_s_ialdR rf_f_M_plans_163 (rf_m0 _) fun k30 x31 => (rf_s_iload_n rf_f_M_plans_164 rfl (rf_m0 _) (rf_s_icmp_le rf_f_M_plans_165 rfl (rf_m0 _) (rf_m0 _) (rf_s_iconst rf_f_M_plans_172 rfl rfl) (rf_s_iconst rf_f_M_plans_168 (rf_m0 _) (rf_s_goto rf_f_M_plans_169 rfl rfl rfl))))))))))))))))))))))))))))))))))) (rf_s_iinc (L' := [some (.inr (.inr (some o))), some (.inl l1), some (.inl l2), some (.inl l3), some (.inl l4), some (.inl (rf_w (l5 + (-1))))]) rf_f_M_plans_102 rfl rfl (rf_s_goto rf_f_M_plans_105 rfl rfl rfl))))))))) : rf_den (rf_call d) rf_m_M_plans (89, [some (.inr (.inr (some o))), some (.inl l1), some (.inl l2), some (.inl l3), some (.inl l4), some (.inl l5)], [.inl s2, .inl s1, .inr (.inr s0)], h) = _)
set_option maxRecDepth 20000 in
set_option maxHeartbeats 2000000 in
theorem rf_e_M_plans_173 (d : Nat) (o : Nat) (l1 : Int) (l2 : Int) (l3 : Int) (l4 : Int) (l5 : Int) (s0 : Option Nat) (s1 : Int) (s2 : Int) (h : rf_H) : rf_j_M_plans_173 d o l1 l2 l3 l4 l5 s0 s1 s2 h = (rf_nn s0 fun k1 => ((rf_pI h 5 k1 20 (rf_w (s1 + s2))).bind fun h2 => ((rf_gI h2 5 o 21).bind fun x3 => ((rf_gR h2 5 o 17).bind fun x4 => (rf_nn x4 fun k5 => ((rf_aI h2 k5 35).bind fun x6 => (if l3 < x6 then ((rf_gR h2 5 o 17).bind fun x8 => (rf_nn x8 fun k9 => ((rf_aI h2 k9 36).bind fun x10 => (if x10 = l4 then ((rf_pI h2 5 o 21 (rf_w (x3 + 1))).bind fun h12 => rf_j_M_plans_38 d o l1 l2 l3 l4 l5 h12) else ((rf_pI h2 5 o 21 (rf_w (x3 + 0))).bind fun h11 => rf_j_M_plans_38 d o l1 l2 l3 l4 l5 h11))))) else ((rf_pI h2 5 o 21 (rf_w (x3 + 0))).bind fun h7 => rf_j_M_plans_38 d o l1 l2 l3 l4 l5 h7)))))))) :=
  ((rf_s_iadd rf_f_M_plans_173 (rf_m0 _) (rf_s_putIR rf_f_M_plans_174 (rf_m0 _) fun k1 h2 => (rf_s_aload_n rf_f_M_plans_177 rfl (rf_m0 _) (rf_s_dupA rf_f_M_plans_178 (rf_m0 _) (rf_s_getIS rf_f_M_plans_179 (rf_m0 _) fun x3 => (rf_s_aload_n rf_f_M_plans_182 rfl (rf_m0 _) (rf_s_getAS rf_f_M_plans_183 (rf_m0 _) fun x4 => (rf_s_bipush rf_f_M_plans_186 (rf_m0 _) (rf_s_ialdR rf_f_M_plans_188 (rf_m0 _) fun k5 x6 => (rf_s_iload_n rf_f_M_plans_189 rfl (rf_m0 _) (rf_s_icmp_le rf_f_M_plans_190 rfl (rf_m0 _) (rf_m0 _) (rf_s_iconst rf_f_M_plans_209 (rf_m0 _) (rf_s_iadd rf_f_M_plans_210 (rf_m0 _) (rf_s_putIS rf_f_M_plans_211 (rf_m0 _) fun h7 => (rf_s_goto rf_f_M_plans_214 rfl rfl rfl)))) (rf_s_aload_n rf_f_M_plans_193 rfl (rf_m0 _) (rf_s_getAS rf_f_M_plans_194 (rf_m0 _) fun x8 => (rf_s_bipush rf_f_M_plans_197 (rf_m0 _) (rf_s_ialdR rf_f_M_plans_199 (rf_m0 _) fun k9 x10 => (rf_s_iload rf_f_M_plans_200 rfl (rf_m0 _) (rf_s_icmp_ne rf_f_M_plans_202 rfl (rf_m0 _) (rf_m0 _) (rf_s_iconst rf_f_M_plans_209 (rf_m0 _) (rf_s_iadd rf_f_M_plans_210 (rf_m0 _) (rf_s_putIS rf_f_M_plans_211 (rf_m0 _) fun h11 => (rf_s_goto rf_f_M_plans_214 rfl rfl rfl)))) (rf_s_iconst rf_f_M_plans_205 (rf_m0 _) (rf_s_goto rf_f_M_plans_206 rfl (rf_m0 _) (rf_s_iadd rf_f_M_plans_210 (rf_m0 _) (rf_s_putIS rf_f_M_plans_211 (rf_m0 _) fun h12 => (rf_s_goto rf_f_M_plans_214 rfl rfl rfl)))))))))))))))))))))) : rf_den (rf_call d) rf_m_M_plans (173, [some (.inr (.inr (some o))), some (.inl l1), some (.inl l2), some (.inl l3), some (.inl l4), some (.inl l5)], [.inl s2, .inl s1, .inr (.inr s0)], h) = _)
noncomputable def rf_j_M_stands_2 (d : Nat) (o : Nat) (l1 : Int) (l2 : Int) (h : rf_H) : Option rf_R := rf_den (rf_call d) rf_m_M_stands (2, [some (.inr (.inr (some o))), some (.inl l1), some (.inl l2)], [], h)
theorem rf_u_M_stands : rf_mt 176 = rf_m_M_stands := rfl
theorem rf_f_M_stands_0 : rf_Fb rf_m_M_stands 0 1 (.iconst 0) 0 0 0 0 [] [] = true := by decide +kernel
theorem rf_f_M_stands_1 : rf_Fb rf_m_M_stands 1 2 (.istore_n 2) 0 0 0 0 [] [true, true, true] = true := by decide +kernel
theorem rf_f_M_stands_2 : rf_Fb rf_m_M_stands 2 3 (.iload_n 2) 0 0 0 0 [] [] = true := by decide +kernel
theorem rf_f_M_stands_3 : rf_Fb rf_m_M_stands 3 5 (.bipush 37) 0 0 0 0 [] [] = true := by decide +kernel
theorem rf_f_M_stands_5 : rf_Fb rf_m_M_stands 5 8 (.if_icmp .ge 26) 31 0 0 0 [] [] = true := by decide +kernel
theorem rf_f_M_stands_8 : rf_Fb rf_m_M_stands 8 9 (.aload_n 0) 0 0 0 0 [] [] = true := by decide +kernel
theorem rf_f_M_stands_9 : rf_Fb rf_m_M_stands 9 12 (.getfield 41) 5 17 2 0 [] [] = true := by decide +kernel
theorem rf_f_M_stands_12 : rf_Fb rf_m_M_stands 12 13 (.iload_n 2) 0 0 0 0 [] [] = true := by decide +kernel
theorem rf_f_M_stands_13 : rf_Fb rf_m_M_stands 13 14 (.aload_n 0) 0 0 0 0 [] [] = true := by decide +kernel
theorem rf_f_M_stands_14 : rf_Fb rf_m_M_stands 14 17 (.getfield 44) 5 18 2 0 [] [] = true := by decide +kernel
theorem rf_f_M_stands_17 : rf_Fb rf_m_M_stands 17 19 (.bipush 37) 0 0 0 0 [] [] = true := by decide +kernel
theorem rf_f_M_stands_19 : rf_Fb rf_m_M_stands 19 20 (.iload_n 1) 0 0 0 0 [] [] = true := by decide +kernel
theorem rf_f_M_stands_20 : rf_Fb rf_m_M_stands 20 21 (.imul) 0 0 0 0 [] [] = true := by decide +kernel
theorem rf_f_M_stands_21 : rf_Fb rf_m_M_stands 21 22 (.iload_n 2) 0 0 0 0 [] [] = true := by decide +kernel
theorem rf_f_M_stands_22 : rf_Fb rf_m_M_stands 22 23 (.iadd) 0 0 0 0 [] [] = true := by decide +kernel
theorem rf_f_M_stands_23 : rf_Fb rf_m_M_stands 23 24 (.iaload) 0 0 0 0 [] [] = true := by decide +kernel
theorem rf_f_M_stands_24 : rf_Fb rf_m_M_stands 24 25 (.iastore) 0 0 0 0 [] [] = true := by decide +kernel
theorem rf_f_M_stands_25 : rf_Fb rf_m_M_stands 25 28 (.iinc 2 1) 0 0 0 0 [] [] = true := by decide +kernel
theorem rf_f_M_stands_28 : rf_Fb rf_m_M_stands 28 31 (.goto (-26)) 2 0 0 0 [] [] = true := by decide +kernel
theorem rf_f_M_stands_31 : rf_Fb rf_m_M_stands 31 32 (.return_) 0 0 0 0 [] [] = true := by decide +kernel
set_option maxRecDepth 20000 in
set_option maxHeartbeats 2000000 in
theorem rf_e_M_stands (d : Nat) (o : Nat) (a1 : Int) (h : rf_H) : rf_call (d + 1) 176 [.inr (.inr (some o)), .inl a1] h = rf_j_M_stands_2 d o a1 0 h := by
  show rf_den (rf_call d) (rf_mt 176) _ = _
  rw [rf_u_M_stands]
  exact ((rf_s_iconst rf_f_M_stands_0 (rf_m0 _) (rf_s_istore_n rf_f_M_stands_1 rfl rfl)) : rf_den (rf_call d) rf_m_M_stands (0, [some (.inr (.inr (some o))), some (.inl a1), none], [], h) = _)
set_option maxRecDepth 20000 in
set_option maxHeartbeats 2000000 in
theorem rf_e_M_stands_2 (d : Nat) (o : Nat) (l1 : Int) (l2 : Int) (h : rf_H) : rf_j_M_stands_2 d o l1 l2 h = (if l2 < 37 then ((rf_gR h 5 o 17).bind fun x1 => ((rf_gR h 5 o 18).bind fun x2 => (rf_nn x2 fun k3 => ((rf_aI h k3 (rf_w ((rf_w (37 * l1)) + l2))).bind fun x4 => (rf_nn x1 fun k5 => ((rf_sI h k5 l2 x4).bind fun h6 => rf_j_M_stands_2 d o l1 (rf_w (l2 + 1)) h6)))))) else some (none, h)) :=
  ((rf_s_iload_n rf_f_M_stands_2 rfl (rf_m0 _) (rf_s_bipush rf_f_M_stands_3 (rf_m0 _) (rf_s_icmp_ge rf_f_M_stands_5 rfl (rf_m0 _) (rf_m0 _) (rf_s_vret rf_f_M_stands_31) (rf_s_aload_n rf_f_M_stands_8 rfl (rf_m0 _) (rf_s_getAS rf_f_M_stands_9 (rf_m0 _) fun x1 => (rf_s_iload_n rf_f_M_stands_12 rfl (rf_m0 _) (rf_s_aload_n rf_f_M_stands_13 rfl (rf_m0 _) (rf_s_getAS rf_f_M_stands_14 (rf_m0 _) fun x2 => (rf_s_bipush rf_f_M_stands_17 (rf_m0 _) (rf_s_iload_n rf_f_M_stands_19 rfl (rf_m0 _) (rf_s_imul rf_f_M_stands_20 (rf_m0 _) (rf_s_iload_n rf_f_M_stands_21 rfl (rf_m0 _) (rf_s_iadd rf_f_M_stands_22 (rf_m0 _) (rf_s_ialdR rf_f_M_stands_23 (rf_m0 _) fun k3 x4 => (rf_s_iastR rf_f_M_stands_24 (rf_m0 _) fun k5 h6 => (rf_s_iinc (L' := [some (.inr (.inr (some o))), some (.inl l1), some (.inl (rf_w (l2 + 1)))]) rf_f_M_stands_25 rfl rfl (rf_s_goto rf_f_M_stands_28 rfl rfl rfl))))))))))))))))) : rf_den (rf_call d) rf_m_M_stands (2, [some (.inr (.inr (some o))), some (.inl l1), some (.inl l2)], [], h) = _)
theorem rf_u_M_ways : rf_mt 177 = rf_m_M_ways := rfl
theorem rf_f_M_ways_0 : rf_Fb rf_m_M_ways 0 1 (.iload_n 1) 0 0 0 0 [] [] = true := by decide +kernel
theorem rf_f_M_ways_1 : rf_Fb rf_m_M_ways 1 2 (.i2l) 0 0 0 0 [] [] = true := by decide +kernel
theorem rf_f_M_ways_2 : rf_Fb rf_m_M_ways 2 3 (.lconst 0) 0 0 0 0 [] [] = true := by decide +kernel
theorem rf_f_M_ways_3 : rf_Fb rf_m_M_ways 3 6 (.ldc2_w 202) 0 0 0 4 [] [] = true := by decide +kernel
theorem rf_f_M_ways_6 : rf_Fb rf_m_M_ways 6 9 (.invokestatic 63) 118 3 0 0 [] [] = true := by decide +kernel
theorem rf_f_M_ways_9 : rf_Fb rf_m_M_ways 9 12 (.ifCond .ne 5) 14 0 0 0 [] [] = true := by decide +kernel
theorem rf_f_M_ways_12 : rf_Fb rf_m_M_ways 12 13 (.iconst (-1)) 0 0 0 0 [] [] = true := by decide +kernel
theorem rf_f_M_ways_13 : rf_Fb rf_m_M_ways 13 14 (.ireturn) 0 0 0 0 [] [] = true := by decide +kernel
theorem rf_f_M_ways_14 : rf_Fb rf_m_M_ways 14 15 (.aload_n 0) 0 0 0 0 [] [] = true := by decide +kernel
theorem rf_f_M_ways_15 : rf_Fb rf_m_M_ways 15 18 (.invokevirtual 162) 150 0 0 5 [] [] = true := by decide +kernel
theorem rf_f_M_ways_18 : rf_Fb rf_m_M_ways 18 21 (.ifCond .ne 6) 24 0 0 0 [] [] = true := by decide +kernel
theorem rf_f_M_ways_21 : rf_Fb rf_m_M_ways 21 23 (.bipush (-4)) 0 0 0 0 [] [] = true := by decide +kernel
theorem rf_f_M_ways_23 : rf_Fb rf_m_M_ways 23 24 (.ireturn) 0 0 0 0 [] [] = true := by decide +kernel
theorem rf_f_M_ways_24 : rf_Fb rf_m_M_ways 24 25 (.aload_n 0) 0 0 0 0 [] [] = true := by decide +kernel
theorem rf_f_M_ways_25 : rf_Fb rf_m_M_ways 25 28 (.invokevirtual 153) 142 0 3 5 [] [] = true := by decide +kernel
theorem rf_f_M_ways_28 : rf_Fb rf_m_M_ways 28 29 (.aload_n 0) 0 0 0 0 [] [] = true := by decide +kernel
theorem rf_f_M_ways_29 : rf_Fb rf_m_M_ways 29 30 (.iconst 0) 0 0 0 0 [] [] = true := by decide +kernel
theorem rf_f_M_ways_30 : rf_Fb rf_m_M_ways 30 33 (.invokevirtual 199) 174 1 3 5 [] [] = true := by decide +kernel
theorem rf_f_M_ways_33 : rf_Fb rf_m_M_ways 33 34 (.aload_n 0) 0 0 0 0 [] [] = true := by decide +kernel
theorem rf_f_M_ways_34 : rf_Fb rf_m_M_ways 34 35 (.iload_n 1) 0 0 0 0 [] [] = true := by decide +kernel
theorem rf_f_M_ways_35 : rf_Fb rf_m_M_ways 35 36 (.iconst 0) 0 0 0 0 [] [] = true := by decide +kernel
theorem rf_f_M_ways_36 : rf_Fb rf_m_M_ways 36 39 (.invokevirtual 204) 175 2 3 5 [] [] = true := by decide +kernel
theorem rf_f_M_ways_39 : rf_Fb rf_m_M_ways 39 40 (.aload_n 0) 0 0 0 0 [] [] = true := by decide +kernel
theorem rf_f_M_ways_40 : rf_Fb rf_m_M_ways 40 41 (.aload_n 0) 0 0 0 0 [] [] = true := by decide +kernel
theorem rf_f_M_ways_41 : rf_Fb rf_m_M_ways 41 44 (.getfield 189) 5 20 0 0 [] [] = true := by decide +kernel
theorem rf_f_M_ways_44 : rf_Fb rf_m_M_ways 44 45 (.aload_n 0) 0 0 0 0 [] [] = true := by decide +kernel
theorem rf_f_M_ways_45 : rf_Fb rf_m_M_ways 45 48 (.getfield 192) 5 21 0 0 [] [] = true := by decide +kernel
theorem rf_f_M_ways_48 : rf_Fb rf_m_M_ways 48 51 (.invokevirtual 177) 164 2 0 5 [] [] = true := by decide +kernel
theorem rf_f_M_ways_51 : rf_Fb rf_m_M_ways 51 52 (.ireturn) 0 0 0 0 [] [] = true := by decide +kernel
set_option maxRecDepth 20000 in
set_option maxHeartbeats 2000000 in
theorem rf_e_M_ways (d : Nat) (o : Nat) (a1 : Int) (h : rf_H) : rf_call (d + 1) 177 [.inr (.inr (some o)), .inl a1] h = ((rf_call d 118 [.inr (.inl a1), .inr (.inl 0), .inr (.inl 4)] h).bind fun q2 => rf_kI q2 fun x3 h1 => (if x3 = 0 then some (some (.inl (-1)), h1) else (bif rf_isO h1.1 o 5 then ((rf_call d 150 [.inr (.inr (some o))] h1).bind fun q5 => rf_kI q5 fun x6 h4 => (if x6 = 0 then some (some (.inl (-4)), h4) else (bif rf_isO h4.1 o 5 then ((rf_call d 142 [.inr (.inr (some o))] h4).bind fun q8 => rf_kV q8 fun h7 => (bif rf_isO h7.1 o 5 then ((rf_call d 174 [.inr (.inr (some o)), .inl 0] h7).bind fun q10 => rf_kV q10 fun h9 => (bif rf_isO h9.1 o 5 then ((rf_call d 175 [.inr (.inr (some o)), .inl a1, .inl 0] h9).bind fun q12 => rf_kV q12 fun h11 => ((rf_gI h11 5 o 20).bind fun x13 => ((rf_gI h11 5 o 21).bind fun x14 => (bif rf_isO h11.1 o 5 then ((rf_call d 164 [.inr (.inr (some o)), .inl x13, .inl x14] h11).bind fun q16 => rf_kI q16 fun x17 h15 => some (some (.inl x17), h15)) else none)))) else none)) else none)) else none))) else none))) := by
  show rf_den (rf_call d) (rf_mt 177) _ = _
  rw [rf_u_M_ways]
  exact ((rf_s_iload_n rf_f_M_ways_0 rfl (rf_m0 _) (rf_s_i2l rf_f_M_ways_1 (rf_m0 _) (rf_s_lconst rf_f_M_ways_2 (rf_m0 _) (rf_s_ldc2_w rf_f_M_ways_3 (rf_m0 _) (rf_s_invS0 rf_f_M_ways_6 rfl rfl (rf_m0 _) fun q2 x3 h1 => (rf_s_if_ne rf_f_M_ways_9 rfl (rf_m0 _) (rf_m0 _) (rf_s_aload_n rf_f_M_ways_14 rfl (rf_m0 _) (rf_s_invV0S rf_f_M_ways_15 rfl rfl (rf_m0 _) fun q5 x6 h4 => (rf_s_if_ne rf_f_M_ways_18 rfl (rf_m0 _) (rf_m0 _) (rf_s_aload_n rf_f_M_ways_24 rfl (rf_m0 _) (rf_s_invV3S rf_f_M_ways_25 rfl rfl (rf_m0 _) fun q8 h7 => (rf_s_aload_n rf_f_M_ways_28 rfl (rf_m0 _) (rf_s_iconst rf_f_M_ways_29 (rf_m0 _) (rf_s_invV3S rf_f_M_ways_30 rfl rfl (rf_m0 _) fun q10 h9 => (rf_s_aload_n rf_f_M_ways_33 rfl (rf_m0 _) (rf_s_iload_n rf_f_M_ways_34 rfl (rf_m0 _) (rf_s_iconst rf_f_M_ways_35 (rf_m0 _) (rf_s_invV3S rf_f_M_ways_36 rfl rfl (rf_m0 _) fun q12 h11 => (rf_s_aload_n rf_f_M_ways_39 rfl (rf_m0 _) (rf_s_aload_n rf_f_M_ways_40 rfl (rf_m0 _) (rf_s_getIS rf_f_M_ways_41 (rf_m0 _) fun x13 => (rf_s_aload_n rf_f_M_ways_44 rfl (rf_m0 _) (rf_s_getIS rf_f_M_ways_45 (rf_m0 _) fun x14 => (rf_s_invV0S rf_f_M_ways_48 rfl rfl (rf_m0 _) fun q16 x17 h15 => (rf_s_iret rf_f_M_ways_51)))))))))))))))) (rf_s_bipush rf_f_M_ways_21 (rf_m0 _) (rf_s_iret rf_f_M_ways_23))))) (rf_s_iconst rf_f_M_ways_12 (rf_m0 _) (rf_s_iret rf_f_M_ways_13)))))))) : rf_den (rf_call d) rf_m_M_ways (0, [some (.inr (.inr (some o))), some (.inl a1)], [], h) = _)
noncomputable def rf_j_M_stay_26 (d : Nat) (o : Nat) (l1 : Int) (l2 : Int) (h : rf_H) : Option rf_R := rf_den (rf_call d) rf_m_M_stay (26, [some (.inr (.inr (some o))), some (.inl l1), some (.inl l2), none], [], h)
noncomputable def rf_j_M_stay_39 (d : Nat) (o : Nat) (l1 : Int) (l2 : Int) (l3 : Int) (h : rf_H) : Option rf_R := rf_den (rf_call d) rf_m_M_stay (39, [some (.inr (.inr (some o))), some (.inl l1), some (.inl l2), some (.inl l3)], [], h)
theorem rf_u_M_stay : rf_mt 178 = rf_m_M_stay := rfl
theorem rf_f_M_stay_0 : rf_Fb rf_m_M_stay 0 1 (.iload_n 1) 0 0 0 0 [] [] = true := by decide +kernel
theorem rf_f_M_stay_1 : rf_Fb rf_m_M_stay 1 2 (.i2l) 0 0 0 0 [] [] = true := by decide +kernel
theorem rf_f_M_stay_2 : rf_Fb rf_m_M_stay 2 3 (.lconst 0) 0 0 0 0 [] [] = true := by decide +kernel
theorem rf_f_M_stay_3 : rf_Fb rf_m_M_stay 3 6 (.ldc2_w 202) 0 0 0 4 [] [] = true := by decide +kernel
theorem rf_f_M_stay_6 : rf_Fb rf_m_M_stay 6 9 (.invokestatic 63) 118 3 0 0 [] [] = true := by decide +kernel
theorem rf_f_M_stay_9 : rf_Fb rf_m_M_stay 9 12 (.ifCond .ne 5) 14 0 0 0 [] [] = true := by decide +kernel
theorem rf_f_M_stay_12 : rf_Fb rf_m_M_stay 12 13 (.iconst (-1)) 0 0 0 0 [] [] = true := by decide +kernel
theorem rf_f_M_stay_13 : rf_Fb rf_m_M_stay 13 14 (.ireturn) 0 0 0 0 [] [] = true := by decide +kernel
theorem rf_f_M_stay_14 : rf_Fb rf_m_M_stay 14 15 (.aload_n 0) 0 0 0 0 [] [] = true := by decide +kernel
theorem rf_f_M_stay_15 : rf_Fb rf_m_M_stay 15 18 (.invokevirtual 162) 150 0 0 5 [] [] = true := by decide +kernel
theorem rf_f_M_stay_18 : rf_Fb rf_m_M_stay 18 21 (.ifCond .ne 6) 24 0 0 0 [] [] = true := by decide +kernel
theorem rf_f_M_stay_21 : rf_Fb rf_m_M_stay 21 23 (.bipush (-4)) 0 0 0 0 [] [] = true := by decide +kernel
theorem rf_f_M_stay_23 : rf_Fb rf_m_M_stay 23 24 (.ireturn) 0 0 0 0 [] [] = true := by decide +kernel
theorem rf_f_M_stay_24 : rf_Fb rf_m_M_stay 24 25 (.iconst 0) 0 0 0 0 [] [] = true := by decide +kernel
theorem rf_f_M_stay_25 : rf_Fb rf_m_M_stay 25 26 (.istore_n 2) 0 0 0 0 [] [true, true, true, false] = true := by decide +kernel
theorem rf_f_M_stay_26 : rf_Fb rf_m_M_stay 26 27 (.iload_n 2) 0 0 0 0 [] [] = true := by decide +kernel
theorem rf_f_M_stay_27 : rf_Fb rf_m_M_stay 27 28 (.aload_n 0) 0 0 0 0 [] [] = true := by decide +kernel
theorem rf_f_M_stay_28 : rf_Fb rf_m_M_stay 28 31 (.getfield 22) 5 4 2 0 [] [] = true := by decide +kernel
theorem rf_f_M_stay_31 : rf_Fb rf_m_M_stay 31 33 (.bipush 36) 0 0 0 0 [] [] = true := by decide +kernel
theorem rf_f_M_stay_33 : rf_Fb rf_m_M_stay 33 34 (.iaload) 0 0 0 0 [] [] = true := by decide +kernel
theorem rf_f_M_stay_34 : rf_Fb rf_m_M_stay 34 37 (.if_icmp .gt 81) 115 0 0 0 [] [] = true := by decide +kernel
theorem rf_f_M_stay_37 : rf_Fb rf_m_M_stay 37 38 (.iconst 1) 0 0 0 0 [] [] = true := by decide +kernel
theorem rf_f_M_stay_38 : rf_Fb rf_m_M_stay 38 39 (.istore_n 3) 0 0 0 0 [] [true, true, true, true] = true := by decide +kernel
theorem rf_f_M_stay_39 : rf_Fb rf_m_M_stay 39 40 (.iload_n 3) 0 0 0 0 [] [] = true := by decide +kernel
theorem rf_f_M_stay_40 : rf_Fb rf_m_M_stay 40 41 (.iload_n 1) 0 0 0 0 [] [] = true := by decide +kernel
theorem rf_f_M_stay_41 : rf_Fb rf_m_M_stay 41 44 (.if_icmp .gt 68) 109 0 0 0 [] [] = true := by decide +kernel
theorem rf_f_M_stay_44 : rf_Fb rf_m_M_stay 44 45 (.aload_n 0) 0 0 0 0 [] [] = true := by decide +kernel
theorem rf_f_M_stay_45 : rf_Fb rf_m_M_stay 45 48 (.invokevirtual 153) 142 0 3 5 [] [] = true := by decide +kernel
theorem rf_f_M_stay_48 : rf_Fb rf_m_M_stay 48 49 (.aload_n 0) 0 0 0 0 [] [] = true := by decide +kernel
theorem rf_f_M_stay_49 : rf_Fb rf_m_M_stay 49 52 (.getfield 41) 5 17 2 0 [] [] = true := by decide +kernel
theorem rf_f_M_stay_52 : rf_Fb rf_m_M_stay 52 54 (.bipush 36) 0 0 0 0 [] [] = true := by decide +kernel
theorem rf_f_M_stay_54 : rf_Fb rf_m_M_stay 54 55 (.dup2) 0 0 0 0 [] [] = true := by decide +kernel
theorem rf_f_M_stay_55 : rf_Fb rf_m_M_stay 55 56 (.iaload) 0 0 0 0 [] [] = true := by decide +kernel
theorem rf_f_M_stay_56 : rf_Fb rf_m_M_stay 56 57 (.iload_n 2) 0 0 0 0 [] [] = true := by decide +kernel
theorem rf_f_M_stay_57 : rf_Fb rf_m_M_stay 57 58 (.isub) 0 0 0 0 [] [] = true := by decide +kernel
theorem rf_f_M_stay_58 : rf_Fb rf_m_M_stay 58 59 (.iastore) 0 0 0 0 [] [] = true := by decide +kernel
theorem rf_f_M_stay_59 : rf_Fb rf_m_M_stay 59 60 (.aload_n 0) 0 0 0 0 [] [] = true := by decide +kernel
theorem rf_f_M_stay_60 : rf_Fb rf_m_M_stay 60 63 (.getfield 41) 5 17 2 0 [] [] = true := by decide +kernel
theorem rf_f_M_stay_63 : rf_Fb rf_m_M_stay 63 65 (.bipush 33) 0 0 0 0 [] [] = true := by decide +kernel
theorem rf_f_M_stay_65 : rf_Fb rf_m_M_stay 65 66 (.aload_n 0) 0 0 0 0 [] [] = true := by decide +kernel
theorem rf_f_M_stay_66 : rf_Fb rf_m_M_stay 66 69 (.getfield 41) 5 17 2 0 [] [] = true := by decide +kernel
theorem rf_f_M_stay_69 : rf_Fb rf_m_M_stay 69 71 (.bipush 33) 0 0 0 0 [] [] = true := by decide +kernel
theorem rf_f_M_stay_71 : rf_Fb rf_m_M_stay 71 72 (.iaload) 0 0 0 0 [] [] = true := by decide +kernel
theorem rf_f_M_stay_72 : rf_Fb rf_m_M_stay 72 73 (.aload_n 0) 0 0 0 0 [] [] = true := by decide +kernel
theorem rf_f_M_stay_73 : rf_Fb rf_m_M_stay 73 76 (.getfield 41) 5 17 2 0 [] [] = true := by decide +kernel
theorem rf_f_M_stay_76 : rf_Fb rf_m_M_stay 76 78 (.bipush 36) 0 0 0 0 [] [] = true := by decide +kernel
theorem rf_f_M_stay_78 : rf_Fb rf_m_M_stay 78 79 (.iaload) 0 0 0 0 [] [] = true := by decide +kernel
theorem rf_f_M_stay_79 : rf_Fb rf_m_M_stay 79 82 (.invokestatic 138) 158 2 0 0 [] [] = true := by decide +kernel
theorem rf_f_M_stay_82 : rf_Fb rf_m_M_stay 82 83 (.iastore) 0 0 0 0 [] [] = true := by decide +kernel
theorem rf_f_M_stay_83 : rf_Fb rf_m_M_stay 83 84 (.aload_n 0) 0 0 0 0 [] [] = true := by decide +kernel
theorem rf_f_M_stay_84 : rf_Fb rf_m_M_stay 84 85 (.iconst 0) 0 0 0 0 [] [] = true := by decide +kernel
theorem rf_f_M_stay_85 : rf_Fb rf_m_M_stay 85 88 (.invokevirtual 199) 174 1 3 5 [] [] = true := by decide +kernel
theorem rf_f_M_stay_88 : rf_Fb rf_m_M_stay 88 89 (.aload_n 0) 0 0 0 0 [] [] = true := by decide +kernel
theorem rf_f_M_stay_89 : rf_Fb rf_m_M_stay 89 90 (.iload_n 3) 0 0 0 0 [] [] = true := by decide +kernel
theorem rf_f_M_stay_90 : rf_Fb rf_m_M_stay 90 91 (.iconst 1) 0 0 0 0 [] [] = true := by decide +kernel
theorem rf_f_M_stay_91 : rf_Fb rf_m_M_stay 91 94 (.invokevirtual 204) 175 2 3 5 [] [] = true := by decide +kernel
theorem rf_f_M_stay_94 : rf_Fb rf_m_M_stay 94 95 (.aload_n 0) 0 0 0 0 [] [] = true := by decide +kernel
theorem rf_f_M_stay_95 : rf_Fb rf_m_M_stay 95 98 (.getfield 189) 5 20 0 0 [] [] = true := by decide +kernel
theorem rf_f_M_stay_98 : rf_Fb rf_m_M_stay 98 101 (.ifCond .le 5) 103 0 0 0 [] [] = true := by decide +kernel
theorem rf_f_M_stay_101 : rf_Fb rf_m_M_stay 101 102 (.iload_n 2) 0 0 0 0 [] [] = true := by decide +kernel
theorem rf_f_M_stay_102 : rf_Fb rf_m_M_stay 102 103 (.ireturn) 0 0 0 0 [] [] = true := by decide +kernel
theorem rf_f_M_stay_103 : rf_Fb rf_m_M_stay 103 106 (.iinc 3 1) 0 0 0 0 [] [] = true := by decide +kernel
theorem rf_f_M_stay_106 : rf_Fb rf_m_M_stay 106 109 (.goto (-67)) 39 0 0 0 [] [] = true := by decide +kernel
theorem rf_f_M_stay_109 : rf_Fb rf_m_M_stay 109 112 (.iinc 2 1) 0 0 0 0 [] [] = true := by decide +kernel
theorem rf_f_M_stay_112 : rf_Fb rf_m_M_stay 112 115 (.goto (-86)) 26 0 0 0 [] [] = true := by decide +kernel
theorem rf_f_M_stay_115 : rf_Fb rf_m_M_stay 115 117 (.bipush (-9)) 0 0 0 0 [] [] = true := by decide +kernel
theorem rf_f_M_stay_117 : rf_Fb rf_m_M_stay 117 118 (.ireturn) 0 0 0 0 [] [] = true := by decide +kernel
set_option maxRecDepth 20000 in
set_option maxHeartbeats 2000000 in
theorem rf_e_M_stay (d : Nat) (o : Nat) (a1 : Int) (h : rf_H) : rf_call (d + 1) 178 [.inr (.inr (some o)), .inl a1] h = ((rf_call d 118 [.inr (.inl a1), .inr (.inl 0), .inr (.inl 4)] h).bind fun q2 => rf_kI q2 fun x3 h1 => (if x3 = 0 then some (some (.inl (-1)), h1) else (bif rf_isO h1.1 o 5 then ((rf_call d 150 [.inr (.inr (some o))] h1).bind fun q5 => rf_kI q5 fun x6 h4 => (if x6 = 0 then some (some (.inl (-4)), h4) else rf_j_M_stay_26 d o a1 0 h4)) else none))) := by
  show rf_den (rf_call d) (rf_mt 178) _ = _
  rw [rf_u_M_stay]
  exact ((rf_s_iload_n rf_f_M_stay_0 rfl (rf_m0 _) (rf_s_i2l rf_f_M_stay_1 (rf_m0 _) (rf_s_lconst rf_f_M_stay_2 (rf_m0 _) (rf_s_ldc2_w rf_f_M_stay_3 (rf_m0 _) (rf_s_invS0 rf_f_M_stay_6 rfl rfl (rf_m0 _) fun q2 x3 h1 => (rf_s_if_ne rf_f_M_stay_9 rfl (rf_m0 _) (rf_m0 _) (rf_s_aload_n rf_f_M_stay_14 rfl (rf_m0 _) (rf_s_invV0S rf_f_M_stay_15 rfl rfl (rf_m0 _) fun q5 x6 h4 => (rf_s_if_ne rf_f_M_stay_18 rfl (rf_m0 _) (rf_m0 _) (rf_s_iconst rf_f_M_stay_24 (rf_m0 _) (rf_s_istore_n rf_f_M_stay_25 rfl rfl)) (rf_s_bipush rf_f_M_stay_21 (rf_m0 _) (rf_s_iret rf_f_M_stay_23))))) (rf_s_iconst rf_f_M_stay_12 (rf_m0 _) (rf_s_iret rf_f_M_stay_13)))))))) : rf_den (rf_call d) rf_m_M_stay (0, [some (.inr (.inr (some o))), some (.inl a1), none, none], [], h) = _)
set_option maxRecDepth 20000 in
set_option maxHeartbeats 2000000 in
theorem rf_e_M_stay_26 (d : Nat) (o : Nat) (l1 : Int) (l2 : Int) (h : rf_H) : rf_j_M_stay_26 d o l1 l2 h = ((rf_gR h 5 o 4).bind fun x1 => (rf_nn x1 fun k2 => ((rf_aI h k2 36).bind fun x3 => (if x3 < l2 then some (some (.inl (-9)), h) else rf_j_M_stay_39 d o l1 l2 1 h)))) :=
  ((rf_s_iload_n rf_f_M_stay_26 rfl (rf_m0 _) (rf_s_aload_n rf_f_M_stay_27 rfl (rf_m0 _) (rf_s_getAS rf_f_M_stay_28 (rf_m0 _) fun x1 => (rf_s_bipush rf_f_M_stay_31 (rf_m0 _) (rf_s_ialdR rf_f_M_stay_33 (rf_m0 _) fun k2 x3 => (rf_s_icmp_gt rf_f_M_stay_34 rfl (rf_m0 _) (rf_m0 _) (rf_s_bipush rf_f_M_stay_115 (rf_m0 _) (rf_s_iret rf_f_M_stay_117)) (rf_s_iconst rf_f_M_stay_37 (rf_m0 _) (rf_s_istore_n rf_f_M_stay_38 rfl rfl)))))))) : rf_den (rf_call d) rf_m_M_stay (26, [some (.inr (.inr (some o))), some (.inl l1), some (.inl l2), none], [], h) = _)
set_option maxRecDepth 20000 in
set_option maxHeartbeats 2000000 in
theorem rf_e_M_stay_39 (d : Nat) (o : Nat) (l1 : Int) (l2 : Int) (l3 : Int) (h : rf_H) : rf_j_M_stay_39 d o l1 l2 l3 h = (if l1 < l3 then rf_j_M_stay_26 d o l1 (rf_w (l2 + 1)) h else (bif rf_isO h.1 o 5 then ((rf_call d 142 [.inr (.inr (some o))] h).bind fun q2 => rf_kV q2 fun h1 => ((rf_gR h1 5 o 17).bind fun x3 => (rf_nn x3 fun k4 => ((rf_aI h1 k4 36).bind fun x5 => (rf_nn x3 fun k6 => ((rf_sI h1 k6 36 (rf_w (x5 - l2))).bind fun h7 => ((rf_gR h7 5 o 17).bind fun x8 => ((rf_gR h7 5 o 17).bind fun x9 => (rf_nn x9 fun k10 => ((rf_aI h7 k10 33).bind fun x11 => ((rf_gR h7 5 o 17).bind fun x12 => (rf_nn x12 fun k13 => ((rf_aI h7 k13 36).bind fun x14 => ((rf_call d 158 [.inl x11, .inl x14] h7).bind fun q16 => rf_kI q16 fun x17 h15 => (rf_nn x8 fun k18 => ((rf_sI h15 k18 33 x17).bind fun h19 => (bif rf_isO h19.1 o 5 then ((rf_call d 174 [.inr (.inr (some o)), .inl 0] h19).bind fun q21 => rf_kV q21 fun h20 => (bif rf_isO h20.1 o 5 then ((rf_call d 175 [.inr (.inr (some o)), .inl l3, .inl 1] h20).bind fun q23 => rf_kV q23 fun h22 => ((rf_gI h22 5 o 20).bind fun x24 => (if 0 < x24 then some (some (.inl l2), h22) else rf_j_M_stay_39 d o l1 l2 (rf_w (l3 + 1)) h22))) else none)) else none))))))))))))))))) else none)) :=
  ((rf_s_iload_n rf_f_M_stay_39 rfl (rf_m0 _) (rf_s_iload_n rf_f_M_stay_40 rfl (rf_m0 _) (rf_s_icmp_gt rf_f_M_stay_41 rfl (rf_m0 _) (rf_m0 _) (rf_s_iinc (L' := [some (.inr (.inr (some o))), some (.inl l1), some (.inl (rf_w (l2 + 1))), some (.inl l3)]) rf_f_M_stay_109 rfl rfl (rf_s_goto rf_f_M_stay_112 rfl rfl rfl)) (rf_s_aload_n rf_f_M_stay_44 rfl (rf_m0 _) (rf_s_invV3S rf_f_M_stay_45 rfl rfl (rf_m0 _) fun q2 h1 => (rf_s_aload_n rf_f_M_stay_48 rfl (rf_m0 _) (rf_s_getAS rf_f_M_stay_49 (rf_m0 _) fun x3 => (rf_s_bipush rf_f_M_stay_52 (rf_m0 _) (rf_s_dup2 rf_f_M_stay_54 (rf_m0 _) (rf_s_ialdR rf_f_M_stay_55 (rf_m0 _) fun k4 x5 => (rf_s_iload_n rf_f_M_stay_56 rfl (rf_m0 _) (rf_s_isub rf_f_M_stay_57 (rf_m0 _) (rf_s_iastR rf_f_M_stay_58 (rf_m0 _) fun k6 h7 => (rf_s_aload_n rf_f_M_stay_59 rfl (rf_m0 _) (rf_s_getAS rf_f_M_stay_60 (rf_m0 _) fun x8 => (rf_s_bipush rf_f_M_stay_63 (rf_m0 _) (rf_s_aload_n rf_f_M_stay_65 rfl (rf_m0 _) (rf_s_getAS rf_f_M_stay_66 (rf_m0 _) fun x9 => (rf_s_bipush rf_f_M_stay_69 (rf_m0 _) (rf_s_ialdR rf_f_M_stay_71 (rf_m0 _) fun k10 x11 => (rf_s_aload_n rf_f_M_stay_72 rfl (rf_m0 _) (rf_s_getAS rf_f_M_stay_73 (rf_m0 _) fun x12 => (rf_s_bipush rf_f_M_stay_76 (rf_m0 _) (rf_s_ialdR rf_f_M_stay_78 (rf_m0 _) fun k13 x14 => (rf_s_invS0 rf_f_M_stay_79 rfl rfl (rf_m0 _) fun q16 x17 h15 => (rf_s_iastR rf_f_M_stay_82 (rf_m0 _) fun k18 h19 => (rf_s_aload_n rf_f_M_stay_83 rfl (rf_m0 _) (rf_s_iconst rf_f_M_stay_84 (rf_m0 _) (rf_s_invV3S rf_f_M_stay_85 rfl rfl (rf_m0 _) fun q21 h20 => (rf_s_aload_n rf_f_M_stay_88 rfl (rf_m0 _) (rf_s_iload_n rf_f_M_stay_89 rfl (rf_m0 _) (rf_s_iconst rf_f_M_stay_90 (rf_m0 _) (rf_s_invV3S rf_f_M_stay_91 rfl rfl (rf_m0 _) fun q23 h22 => (rf_s_aload_n rf_f_M_stay_94 rfl (rf_m0 _) (rf_s_getIS rf_f_M_stay_95 (rf_m0 _) fun x24 => (rf_s_if_le rf_f_M_stay_98 rfl (rf_m0 _) (rf_m0 _) (rf_s_iinc (L' := [some (.inr (.inr (some o))), some (.inl l1), some (.inl l2), some (.inl (rf_w (l3 + 1)))]) rf_f_M_stay_103 rfl rfl (rf_s_goto rf_f_M_stay_106 rfl rfl rfl)) (rf_s_iload_n rf_f_M_stay_101 rfl (rf_m0 _) (rf_s_iret rf_f_M_stay_102)))))))))))))))))))))))))))))))))))))) : rf_den (rf_call d) rf_m_M_stay (39, [some (.inr (.inr (some o))), some (.inl l1), some (.inl l2), some (.inl l3)], [], h) = _)
noncomputable def rf_j_M_bad_22 (d : Nat) (o : Nat) (l1 : Int) (l2 : Int) (l3 : Int) (h : rf_H) : Option rf_R := rf_den (rf_call d) rf_m_M_bad (22, [some (.inr (.inr (some o))), some (.inl l1), some (.inl l2), some (.inl l3), none], [], h)
theorem rf_u_M_bad : rf_mt 179 = rf_m_M_bad := rfl
theorem rf_f_M_bad_0 : rf_Fb rf_m_M_bad 0 1 (.aload_n 0) 0 0 0 0 [] [] = true := by decide +kernel
theorem rf_f_M_bad_1 : rf_Fb rf_m_M_bad 1 4 (.invokevirtual 162) 150 0 0 5 [] [] = true := by decide +kernel
theorem rf_f_M_bad_4 : rf_Fb rf_m_M_bad 4 7 (.ifCond .ne 6) 10 0 0 0 [] [] = true := by decide +kernel
theorem rf_f_M_bad_7 : rf_Fb rf_m_M_bad 7 9 (.bipush (-4)) 0 0 0 0 [] [] = true := by decide +kernel
theorem rf_f_M_bad_9 : rf_Fb rf_m_M_bad 9 10 (.ireturn) 0 0 0 0 [] [] = true := by decide +kernel
theorem rf_f_M_bad_10 : rf_Fb rf_m_M_bad 10 11 (.aload_n 0) 0 0 0 0 [] [] = true := by decide +kernel
theorem rf_f_M_bad_11 : rf_Fb rf_m_M_bad 11 14 (.invokevirtual 153) 142 0 3 5 [] [] = true := by decide +kernel
theorem rf_f_M_bad_14 : rf_Fb rf_m_M_bad 14 17 (.sipush 1000) 0 0 0 0 [] [] = true := by decide +kernel
theorem rf_f_M_bad_17 : rf_Fb rf_m_M_bad 17 18 (.istore_n 1) 0 0 0 0 [] [] = true := by decide +kernel
theorem rf_f_M_bad_18 : rf_Fb rf_m_M_bad 18 19 (.iconst 0) 0 0 0 0 [] [] = true := by decide +kernel
theorem rf_f_M_bad_19 : rf_Fb rf_m_M_bad 19 20 (.istore_n 2) 0 0 0 0 [] [] = true := by decide +kernel
theorem rf_f_M_bad_20 : rf_Fb rf_m_M_bad 20 21 (.iconst 0) 0 0 0 0 [] [] = true := by decide +kernel
theorem rf_f_M_bad_21 : rf_Fb rf_m_M_bad 21 22 (.istore_n 3) 0 0 0 0 [] [true, true, true, true, false] = true := by decide +kernel
theorem rf_f_M_bad_22 : rf_Fb rf_m_M_bad 22 23 (.iload_n 3) 0 0 0 0 [] [] = true := by decide +kernel
theorem rf_f_M_bad_23 : rf_Fb rf_m_M_bad 23 24 (.aload_n 0) 0 0 0 0 [] [] = true := by decide +kernel
theorem rf_f_M_bad_24 : rf_Fb rf_m_M_bad 24 27 (.getfield 41) 5 17 2 0 [] [] = true := by decide +kernel
theorem rf_f_M_bad_27 : rf_Fb rf_m_M_bad 27 28 (.iconst 2) 0 0 0 0 [] [] = true := by decide +kernel
theorem rf_f_M_bad_28 : rf_Fb rf_m_M_bad 28 29 (.iaload) 0 0 0 0 [] [] = true := by decide +kernel
theorem rf_f_M_bad_29 : rf_Fb rf_m_M_bad 29 32 (.if_icmp .ge 65) 94 0 0 0 [] [] = true := by decide +kernel
theorem rf_f_M_bad_32 : rf_Fb rf_m_M_bad 32 33 (.aload_n 0) 0 0 0 0 [] [] = true := by decide +kernel
theorem rf_f_M_bad_33 : rf_Fb rf_m_M_bad 33 34 (.aload_n 0) 0 0 0 0 [] [] = true := by decide +kernel
theorem rf_f_M_bad_34 : rf_Fb rf_m_M_bad 34 37 (.getfield 41) 5 17 2 0 [] [] = true := by decide +kernel
theorem rf_f_M_bad_37 : rf_Fb rf_m_M_bad 37 38 (.iconst 3) 0 0 0 0 [] [] = true := by decide +kernel
theorem rf_f_M_bad_38 : rf_Fb rf_m_M_bad 38 39 (.aload_n 0) 0 0 0 0 [] [] = true := by decide +kernel
theorem rf_f_M_bad_39 : rf_Fb rf_m_M_bad 39 42 (.getfield 41) 5 17 2 0 [] [] = true := by decide +kernel
theorem rf_f_M_bad_42 : rf_Fb rf_m_M_bad 42 44 (.bipush 34) 0 0 0 0 [] [] = true := by decide +kernel
theorem rf_f_M_bad_44 : rf_Fb rf_m_M_bad 44 45 (.iaload) 0 0 0 0 [] [] = true := by decide +kernel
theorem rf_f_M_bad_45 : rf_Fb rf_m_M_bad 45 46 (.iload_n 3) 0 0 0 0 [] [] = true := by decide +kernel
theorem rf_f_M_bad_46 : rf_Fb rf_m_M_bad 46 47 (.iadd) 0 0 0 0 [] [] = true := by decide +kernel
theorem rf_f_M_bad_47 : rf_Fb rf_m_M_bad 47 48 (.aload_n 0) 0 0 0 0 [] [] = true := by decide +kernel
theorem rf_f_M_bad_48 : rf_Fb rf_m_M_bad 48 51 (.getfield 41) 5 17 2 0 [] [] = true := by decide +kernel
theorem rf_f_M_bad_51 : rf_Fb rf_m_M_bad 51 52 (.iconst 2) 0 0 0 0 [] [] = true := by decide +kernel
theorem rf_f_M_bad_52 : rf_Fb rf_m_M_bad 52 53 (.iaload) 0 0 0 0 [] [] = true := by decide +kernel
theorem rf_f_M_bad_53 : rf_Fb rf_m_M_bad 53 54 (.irem) 0 0 0 0 [] [] = true := by decide +kernel
theorem rf_f_M_bad_54 : rf_Fb rf_m_M_bad 54 55 (.iadd) 0 0 0 0 [] [] = true := by decide +kernel
theorem rf_f_M_bad_55 : rf_Fb rf_m_M_bad 55 56 (.iaload) 0 0 0 0 [] [] = true := by decide +kernel
theorem rf_f_M_bad_56 : rf_Fb rf_m_M_bad 56 59 (.invokevirtual 135) 157 1 0 5 [] [] = true := by decide +kernel
theorem rf_f_M_bad_59 : rf_Fb rf_m_M_bad 59 61 (.istore 4) 0 0 0 0 [] [] = true := by decide +kernel
theorem rf_f_M_bad_61 : rf_Fb rf_m_M_bad 61 63 (.iload 4) 0 0 0 0 [] [] = true := by decide +kernel
theorem rf_f_M_bad_63 : rf_Fb rf_m_M_bad 63 64 (.iload_n 1) 0 0 0 0 [] [] = true := by decide +kernel
theorem rf_f_M_bad_64 : rf_Fb rf_m_M_bad 64 67 (.if_icmp .ge 15) 79 0 0 0 [] [] = true := by decide +kernel
theorem rf_f_M_bad_67 : rf_Fb rf_m_M_bad 67 68 (.aload_n 0) 0 0 0 0 [] [] = true := by decide +kernel
theorem rf_f_M_bad_68 : rf_Fb rf_m_M_bad 68 71 (.getfield 41) 5 17 2 0 [] [] = true := by decide +kernel
theorem rf_f_M_bad_71 : rf_Fb rf_m_M_bad 71 73 (.bipush 34) 0 0 0 0 [] [] = true := by decide +kernel
theorem rf_f_M_bad_73 : rf_Fb rf_m_M_bad 73 74 (.iaload) 0 0 0 0 [] [] = true := by decide +kernel
theorem rf_f_M_bad_74 : rf_Fb rf_m_M_bad 74 75 (.iload_n 3) 0 0 0 0 [] [] = true := by decide +kernel
theorem rf_f_M_bad_75 : rf_Fb rf_m_M_bad 75 76 (.iadd) 0 0 0 0 [] [] = true := by decide +kernel
theorem rf_f_M_bad_76 : rf_Fb rf_m_M_bad 76 79 (.goto 4) 80 0 0 0 [] [] = true := by decide +kernel
theorem rf_f_M_bad_79 : rf_Fb rf_m_M_bad 79 80 (.iload_n 2) 0 0 0 0 [] [] = true := by decide +kernel
theorem rf_f_M_bad_80 : rf_Fb rf_m_M_bad 80 81 (.istore_n 2) 0 0 0 0 [] [] = true := by decide +kernel
theorem rf_f_M_bad_81 : rf_Fb rf_m_M_bad 81 82 (.iload_n 1) 0 0 0 0 [] [] = true := by decide +kernel
theorem rf_f_M_bad_82 : rf_Fb rf_m_M_bad 82 84 (.iload 4) 0 0 0 0 [] [] = true := by decide +kernel
theorem rf_f_M_bad_84 : rf_Fb rf_m_M_bad 84 87 (.invokestatic 138) 158 2 0 0 [] [] = true := by decide +kernel
theorem rf_f_M_bad_87 : rf_Fb rf_m_M_bad 87 88 (.istore_n 1) 0 0 0 0 [] [] = true := by decide +kernel
theorem rf_f_M_bad_88 : rf_Fb rf_m_M_bad 88 91 (.iinc 3 1) 0 0 0 0 [] [] = true := by decide +kernel
theorem rf_f_M_bad_91 : rf_Fb rf_m_M_bad 91 94 (.goto (-69)) 22 0 0 0 [] [] = true := by decide +kernel
theorem rf_f_M_bad_94 : rf_Fb rf_m_M_bad 94 95 (.aload_n 0) 0 0 0 0 [] [] = true := by decide +kernel
theorem rf_f_M_bad_95 : rf_Fb rf_m_M_bad 95 96 (.iload_n 2) 0 0 0 0 [] [] = true := by decide +kernel
theorem rf_f_M_bad_96 : rf_Fb rf_m_M_bad 96 97 (.iload_n 1) 0 0 0 0 [] [] = true := by decide +kernel
theorem rf_f_M_bad_97 : rf_Fb rf_m_M_bad 97 100 (.invokevirtual 177) 164 2 0 5 [] [] = true := by decide +kernel
theorem rf_f_M_bad_100 : rf_Fb rf_m_M_bad 100 101 (.ireturn) 0 0 0 0 [] [] = true := by decide +kernel
set_option maxRecDepth 20000 in
set_option maxHeartbeats 2000000 in
theorem rf_e_M_bad (d : Nat) (o : Nat) (h : rf_H) : rf_call (d + 1) 179 [.inr (.inr (some o))] h = (bif rf_isO h.1 o 5 then ((rf_call d 150 [.inr (.inr (some o))] h).bind fun q2 => rf_kI q2 fun x3 h1 => (if x3 = 0 then some (some (.inl (-4)), h1) else (bif rf_isO h1.1 o 5 then ((rf_call d 142 [.inr (.inr (some o))] h1).bind fun q5 => rf_kV q5 fun h4 => rf_j_M_bad_22 d o 1000 0 0 h4) else none))) else none) := by
  show rf_den (rf_call d) (rf_mt 179) _ = _
  rw [rf_u_M_bad]
  exact ((rf_s_aload_n rf_f_M_bad_0 rfl (rf_m0 _) (rf_s_invV0S rf_f_M_bad_1 rfl rfl (rf_m0 _) fun q2 x3 h1 => (rf_s_if_ne rf_f_M_bad_4 rfl (rf_m0 _) (rf_m0 _) (rf_s_aload_n rf_f_M_bad_10 rfl (rf_m0 _) (rf_s_invV3S rf_f_M_bad_11 rfl rfl (rf_m0 _) fun q5 h4 => (rf_s_sipush rf_f_M_bad_14 (rf_m0 _) (rf_s_istore_n (L' := [some (.inr (.inr (some o))), some (.inl 1000), none, none, none]) rf_f_M_bad_17 rfl (rf_s_iconst rf_f_M_bad_18 (rf_m0 _) (rf_s_istore_n (L' := [some (.inr (.inr (some o))), some (.inl 1000), some (.inl 0), none, none]) rf_f_M_bad_19 rfl (rf_s_iconst rf_f_M_bad_20 (rf_m0 _) (rf_s_istore_n rf_f_M_bad_21 rfl rfl)))))))) (rf_s_bipush rf_f_M_bad_7 (rf_m0 _) (rf_s_iret rf_f_M_bad_9))))) : rf_den (rf_call d) rf_m_M_bad (0, [some (.inr (.inr (some o))), none, none, none, none], [], h) = _)
set_option maxRecDepth 20000 in
set_option maxHeartbeats 2000000 in
theorem rf_e_M_bad_22 (d : Nat) (o : Nat) (l1 : Int) (l2 : Int) (l3 : Int) (h : rf_H) : rf_j_M_bad_22 d o l1 l2 l3 h = ((rf_gR h 5 o 17).bind fun x1 => (rf_nn x1 fun k2 => ((rf_aI h k2 2).bind fun x3 => (if l3 < x3 then ((rf_gR h 5 o 17).bind fun x7 => ((rf_gR h 5 o 17).bind fun x8 => (rf_nn x8 fun k9 => ((rf_aI h k9 34).bind fun x10 => ((rf_gR h 5 o 17).bind fun x11 => (rf_nn x11 fun k12 => ((rf_aI h k12 2).bind fun x13 => (if x13 = 0 then none else (rf_nn x7 fun k14 => ((rf_aI h k14 (rf_w (3 + (Int.tmod (rf_w (x10 + l3)) x13)))).bind fun x15 => (bif rf_isO h.1 o 5 then ((rf_call d 157 [.inr (.inr (some o)), .inl x15] h).bind fun q17 => rf_kI q17 fun x18 h16 => (if x18 < l1 then ((rf_gR h16 5 o 17).bind fun x22 => (rf_nn x22 fun k23 => ((rf_aI h16 k23 34).bind fun x24 => ((rf_call d 158 [.inl l1, .inl x18] h16).bind fun q26 => rf_kI q26 fun x27 h25 => rf_j_M_bad_22 d o x27 (rf_w (x24 + l3)) (rf_w (l3 + 1)) h25)))) else ((rf_call d 158 [.inl l1, .inl x18] h16).bind fun q20 => rf_kI q20 fun x21 h19 => rf_j_M_bad_22 d o x21 l2 (rf_w (l3 + 1)) h19))) else none))))))))))) else (bif rf_isO h.1 o 5 then ((rf_call d 164 [.inr (.inr (some o)), .inl l2, .inl l1] h).bind fun q5 => rf_kI q5 fun x6 h4 => some (some (.inl x6), h4)) else none))))) :=
  ((rf_s_iload_n rf_f_M_bad_22 rfl (rf_m0 _) (rf_s_aload_n rf_f_M_bad_23 rfl (rf_m0 _) (rf_s_getAS rf_f_M_bad_24 (rf_m0 _) fun x1 => (rf_s_iconst rf_f_M_bad_27 (rf_m0 _) (rf_s_ialdR rf_f_M_bad_28 (rf_m0 _) fun k2 x3 => (rf_s_icmp_ge rf_f_M_bad_29 rfl (rf_m0 _) (rf_m0 _) (rf_s_aload_n rf_f_M_bad_94 rfl (rf_m0 _) (rf_s_iload_n rf_f_M_bad_95 rfl (rf_m0 _) (rf_s_iload_n rf_f_M_bad_96 rfl (rf_m0 _) (rf_s_invV0S rf_f_M_bad_97 rfl rfl (rf_m0 _) fun q5 x6 h4 => (rf_s_iret rf_f_M_bad_100))))) (rf_s_aload_n rf_f_M_bad_32 rfl (rf_m0 _) (rf_s_aload_n rf_f_M_bad_33 rfl (rf_m0 _) (rf_s_getAS rf_f_M_bad_34 (rf_m0 _) fun x7 => (rf_s_iconst rf_f_M_bad_37 (rf_m0 _) (rf_s_aload_n rf_f_M_bad_38 rfl (rf_m0 _) (rf_s_getAS rf_f_M_bad_39 (rf_m0 _) fun x8 => (rf_s_bipush rf_f_M_bad_42 (rf_m0 _) (rf_s_ialdR rf_f_M_bad_44 (rf_m0 _) fun k9 x10 => (rf_s_iload_n rf_f_M_bad_45 rfl (rf_m0 _) (rf_s_iadd rf_f_M_bad_46 (rf_m0 _) (rf_s_aload_n rf_f_M_bad_47 rfl (rf_m0 _) (rf_s_getAS rf_f_M_bad_48 (rf_m0 _) fun x11 => (rf_s_iconst rf_f_M_bad_51 (rf_m0 _) (rf_s_ialdR rf_f_M_bad_52 (rf_m0 _) fun k12 x13 => (rf_s_iremZ rf_f_M_bad_53 (rf_m0 _) (rf_s_iadd rf_f_M_bad_54 (rf_m0 _) (rf_s_ialdR rf_f_M_bad_55 (rf_m0 _) fun k14 x15 => (rf_s_invV0S rf_f_M_bad_56 rfl rfl (rf_m0 _) fun q17 x18 h16 => (rf_s_istore (L' := [some (.inr (.inr (some o))), some (.inl l1), some (.inl l2), some (.inl l3), some (.inl x18)]) rf_f_M_bad_59 rfl (rf_s_iload rf_f_M_bad_61 rfl (rf_m0 _) (rf_s_iload_n rf_f_M_bad_63 rfl (rf_m0 _) (rf_s_icmp_ge rf_f_M_bad_64 rfl (rf_m0 _) (rf_m0 _) (rf_s_iload_n rf_f_M_bad_79 rfl (rf_m0 _) (rf_s_istore_n (L' := [some (.inr (.inr (some o))), some (.inl l1), some (.inl l2), some (.inl l3), some (.inl x18)]) rf_f_M_bad_80 rfl (rf_s_iload_n rf_f_M_bad_81 rfl (rf_m0 _) (rf_s_iload rf_f_M_bad_82 rfl (rf_m0 _) (rf_s_invS0 rf_f_M_bad_84 rfl rfl (rf_m0 _) fun q20 x21 h19 => (rf_s_istore_n (L' := [some (.inr (.inr (some o))), some (.inl x21), some (.inl l2), some (.inl l3), some (.inl x18)]) rf_f_M_bad_87 rfl (rf_s_iinc (L' := [some (.inr (.inr (some o))), some (.inl x21), some (.inl l2), some (.inl (rf_w (l3 + 1))), some (.inl x18)]) rf_f_M_bad_88 rfl rfl (rf_s_goto rf_f_M_bad_91 rfl rfl rfl)))))))) (rf_s_aload_n rf_f_M_bad_67 rfl (rf_m0 _) (rf_s_getAS rf_f_M_bad_68 (rf_m0 _) fun x22 => (rf_s_bipush rf_f_M_bad_71 (rf_m0 _) (rf_s_ialdR rf_f_M_bad_73 (rf_m0 _) fun k23 x24 => (rf_s_iload_n rf_f_M_bad_74 rfl (rf_m0 _) (rf_s_iadd rf_f_M_bad_75 (rf_m0 _) (rf_s_goto rf_f_M_bad_76 rfl (rf_m0 _) (rf_s_istore_n (L' := [some (.inr (.inr (some o))), some (.inl l1), some (.inl (rf_w (x24 + l3))), some (.inl l3), some (.inl x18)]) rf_f_M_bad_80 rfl (rf_s_iload_n rf_f_M_bad_81 rfl (rf_m0 _) (rf_s_iload rf_f_M_bad_82 rfl (rf_m0 _) (rf_s_invS0 rf_f_M_bad_84 rfl rfl (rf_m0 _) fun q26 x27 h25 => (rf_s_istore_n (L' := [some (.inr (.inr (some o))), some (.inl x27), some (.inl (rf_w (x24 + l3))), some (.inl l3), some (.inl x18)]) rf_f_M_bad_87 rfl (rf_s_iinc (L' := [some (.inr (.inr (some o))), some (.inl x27), some (.inl (rf_w (x24 + l3))), some (.inl (rf_w (l3 + 1))), some (.inl x18)]) rf_f_M_bad_88 rfl rfl (rf_s_goto rf_f_M_bad_91 rfl rfl rfl)))))))))))))))))))))))))))))))))))))))))) : rf_den (rf_call d) rf_m_M_bad (22, [some (.inr (.inr (some o))), some (.inl l1), some (.inl l2), some (.inl l3), none], [], h) = _)
noncomputable def rf_j_M_odds_78 (d : Nat) (o : Nat) (l1 : Int) (l2 : Int) (l3 : Int) (l5 : Int) (l7 : Int) (l9 : Int) (l10 : Int) (h : rf_H) : Option rf_R := rf_den (rf_call d) rf_m_M_odds (78, [some (.inr (.inr (some o))), some (.inl l1), some (.inl l2), some (.inl l3), none, some (.inr (.inl l5)), none, some (.inr (.inl l7)), none, some (.inl l9), some (.inl l10), none, none, none, none, none, none], [], h)
noncomputable def rf_j_M_odds_112 (d : Nat) (o : Nat) (l1 : Int) (l2 : Int) (l3 : Int) (l5 : Int) (l7 : Int) (l9 : Int) (l10 : Int) (h : rf_H) : Option rf_R := rf_den (rf_call d) rf_m_M_odds (112, [some (.inr (.inr (some o))), some (.inl l1), some (.inl l2), some (.inl l3), none, some (.inr (.inl l5)), none, some (.inr (.inl l7)), none, some (.inl l9), some (.inl l10), none, none, none, none, none, none], [], h)
noncomputable def rf_j_M_odds_133 (d : Nat) (o : Nat) (l1 : Int) (l2 : Int) (l3 : Int) (l5 : Int) (l7 : Int) (l9 : Int) (l10 : Int) (l11 : Int) (l12 : Int) (l14 : Int) (h : rf_H) : Option rf_R := rf_den (rf_call d) rf_m_M_odds (133, [some (.inr (.inr (some o))), some (.inl l1), some (.inl l2), some (.inl l3), none, some (.inr (.inl l5)), none, some (.inr (.inl l7)), none, some (.inl l9), some (.inl l10), some (.inl l11), some (.inr (.inl l12)), none, some (.inl l14), none, none], [], h)
noncomputable def rf_j_M_odds_186 (d : Nat) (o : Nat) (l1 : Int) (l2 : Int) (l3 : Int) (l5 : Int) (l7 : Int) (l9 : Int) (l10 : Int) (l11 : Int) (l14 : Int) (l15 : Int) (s0 : Int) (s1 : Int) (h : rf_H) : Option rf_R := rf_den (rf_call d) rf_m_M_odds (186, [some (.inr (.inr (some o))), some (.inl l1), some (.inl l2), some (.inl l3), none, some (.inr (.inl l5)), none, some (.inr (.inl l7)), none, some (.inl l9), some (.inl l10), some (.inl l11), none, none, some (.inl l14), some (.inl l15), none], [.inr (.inl s1), .inr (.inl s0)], h)
theorem rf_u_M_odds : rf_mt 180 = rf_m_M_odds := rfl
theorem rf_f_M_odds_0 : rf_Fb rf_m_M_odds 0 1 (.iload_n 1) 0 0 0 0 [] [] = true := by decide +kernel
theorem rf_f_M_odds_1 : rf_Fb rf_m_M_odds 1 4 (.invokestatic 69) 117 1 0 0 [] [] = true := by decide +kernel
theorem rf_f_M_odds_4 : rf_Fb rf_m_M_odds 4 7 (.ifCond .eq 29) 33 0 0 0 [] [] = true := by decide +kernel
theorem rf_f_M_odds_7 : rf_Fb rf_m_M_odds 7 8 (.iload_n 2) 0 0 0 0 [] [] = true := by decide +kernel
theorem rf_f_M_odds_8 : rf_Fb rf_m_M_odds 8 9 (.i2l) 0 0 0 0 [] [] = true := by decide +kernel
theorem rf_f_M_odds_9 : rf_Fb rf_m_M_odds 9 10 (.lconst 0) 0 0 0 0 [] [] = true := by decide +kernel
theorem rf_f_M_odds_10 : rf_Fb rf_m_M_odds 10 13 (.ldc2_w 208) 0 0 0 12 [] [] = true := by decide +kernel
theorem rf_f_M_odds_13 : rf_Fb rf_m_M_odds 13 16 (.invokestatic 63) 118 3 0 0 [] [] = true := by decide +kernel
theorem rf_f_M_odds_16 : rf_Fb rf_m_M_odds 16 19 (.ifCond .eq 17) 33 0 0 0 [] [] = true := by decide +kernel
theorem rf_f_M_odds_19 : rf_Fb rf_m_M_odds 19 20 (.iload_n 3) 0 0 0 0 [] [] = true := by decide +kernel
theorem rf_f_M_odds_20 : rf_Fb rf_m_M_odds 20 21 (.i2l) 0 0 0 0 [] [] = true := by decide +kernel
theorem rf_f_M_odds_21 : rf_Fb rf_m_M_odds 21 22 (.lconst 0) 0 0 0 0 [] [] = true := by decide +kernel
theorem rf_f_M_odds_22 : rf_Fb rf_m_M_odds 22 24 (.bipush 12) 0 0 0 0 [] [] = true := by decide +kernel
theorem rf_f_M_odds_24 : rf_Fb rf_m_M_odds 24 25 (.iload_n 2) 0 0 0 0 [] [] = true := by decide +kernel
theorem rf_f_M_odds_25 : rf_Fb rf_m_M_odds 25 26 (.isub) 0 0 0 0 [] [] = true := by decide +kernel
theorem rf_f_M_odds_26 : rf_Fb rf_m_M_odds 26 27 (.i2l) 0 0 0 0 [] [] = true := by decide +kernel
theorem rf_f_M_odds_27 : rf_Fb rf_m_M_odds 27 30 (.invokestatic 63) 118 3 0 0 [] [] = true := by decide +kernel
theorem rf_f_M_odds_30 : rf_Fb rf_m_M_odds 30 33 (.ifCond .ne 5) 35 0 0 0 [] [] = true := by decide +kernel
theorem rf_f_M_odds_33 : rf_Fb rf_m_M_odds 33 34 (.iconst (-1)) 0 0 0 0 [] [] = true := by decide +kernel
theorem rf_f_M_odds_34 : rf_Fb rf_m_M_odds 34 35 (.ireturn) 0 0 0 0 [] [] = true := by decide +kernel
theorem rf_f_M_odds_35 : rf_Fb rf_m_M_odds 35 36 (.aload_n 0) 0 0 0 0 [] [] = true := by decide +kernel
theorem rf_f_M_odds_36 : rf_Fb rf_m_M_odds 36 39 (.invokevirtual 162) 150 0 0 5 [] [] = true := by decide +kernel
theorem rf_f_M_odds_39 : rf_Fb rf_m_M_odds 39 42 (.ifCond .ne 6) 45 0 0 0 [] [] = true := by decide +kernel
theorem rf_f_M_odds_42 : rf_Fb rf_m_M_odds 42 44 (.bipush (-4)) 0 0 0 0 [] [] = true := by decide +kernel
theorem rf_f_M_odds_44 : rf_Fb rf_m_M_odds 44 45 (.ireturn) 0 0 0 0 [] [] = true := by decide +kernel
theorem rf_f_M_odds_45 : rf_Fb rf_m_M_odds 45 46 (.aload_n 0) 0 0 0 0 [] [] = true := by decide +kernel
theorem rf_f_M_odds_46 : rf_Fb rf_m_M_odds 46 47 (.iload_n 1) 0 0 0 0 [] [] = true := by decide +kernel
theorem rf_f_M_odds_47 : rf_Fb rf_m_M_odds 47 49 (.bipush 6) 0 0 0 0 [] [] = true := by decide +kernel
theorem rf_f_M_odds_49 : rf_Fb rf_m_M_odds 49 52 (.invokevirtual 186) 171 2 0 5 [] [] = true := by decide +kernel
theorem rf_f_M_odds_52 : rf_Fb rf_m_M_odds 52 54 (.istore 4) 0 0 0 0 [] [] = true := by decide +kernel
theorem rf_f_M_odds_54 : rf_Fb rf_m_M_odds 54 56 (.iload 4) 0 0 0 0 [] [] = true := by decide +kernel
theorem rf_f_M_odds_56 : rf_Fb rf_m_M_odds 56 59 (.ifCond .le 10) 66 0 0 0 [] [] = true := by decide +kernel
theorem rf_f_M_odds_59 : rf_Fb rf_m_M_odds 59 60 (.aload_n 0) 0 0 0 0 [] [] = true := by decide +kernel
theorem rf_f_M_odds_60 : rf_Fb rf_m_M_odds 60 62 (.iload 4) 0 0 0 0 [] [] = true := by decide +kernel
theorem rf_f_M_odds_62 : rf_Fb rf_m_M_odds 62 65 (.invokevirtual 73) 119 1 0 5 [] [] = true := by decide +kernel
theorem rf_f_M_odds_65 : rf_Fb rf_m_M_odds 65 66 (.ireturn) 0 0 0 0 [] [] = true := by decide +kernel
theorem rf_f_M_odds_66 : rf_Fb rf_m_M_odds 66 67 (.lconst 0) 0 0 0 0 [] [] = true := by decide +kernel
theorem rf_f_M_odds_67 : rf_Fb rf_m_M_odds 67 69 (.lstore 5) 0 0 0 0 [] [] = true := by decide +kernel
theorem rf_f_M_odds_69 : rf_Fb rf_m_M_odds 69 70 (.lconst 1) 0 0 0 1 [] [] = true := by decide +kernel
theorem rf_f_M_odds_70 : rf_Fb rf_m_M_odds 70 72 (.lstore 7) 0 0 0 0 [] [] = true := by decide +kernel
theorem rf_f_M_odds_72 : rf_Fb rf_m_M_odds 72 73 (.iconst 1) 0 0 0 0 [] [] = true := by decide +kernel
theorem rf_f_M_odds_73 : rf_Fb rf_m_M_odds 73 75 (.istore 9) 0 0 0 0 [] [] = true := by decide +kernel
theorem rf_f_M_odds_75 : rf_Fb rf_m_M_odds 75 76 (.iconst 0) 0 0 0 0 [] [] = true := by decide +kernel
theorem rf_f_M_odds_76 : rf_Fb rf_m_M_odds 76 78 (.istore 10) 0 0 0 0 [] [true, true, true, true, false, true, false, true, false, true, true, false, false, false, false, false, false] = true := by decide +kernel
theorem rf_f_M_odds_78 : rf_Fb rf_m_M_odds 78 80 (.iload 10) 0 0 0 0 [] [] = true := by decide +kernel
theorem rf_f_M_odds_80 : rf_Fb rf_m_M_odds 80 81 (.aload_n 0) 0 0 0 0 [] [] = true := by decide +kernel
theorem rf_f_M_odds_81 : rf_Fb rf_m_M_odds 81 84 (.getfield 7) 5 0 2 0 [] [] = true := by decide +kernel
theorem rf_f_M_odds_84 : rf_Fb rf_m_M_odds 84 85 (.iload_n 1) 0 0 0 0 [] [] = true := by decide +kernel
theorem rf_f_M_odds_85 : rf_Fb rf_m_M_odds 85 86 (.iaload) 0 0 0 0 [] [] = true := by decide +kernel
theorem rf_f_M_odds_86 : rf_Fb rf_m_M_odds 86 89 (.if_icmp .ge 23) 109 0 0 0 [] [] = true := by decide +kernel
theorem rf_f_M_odds_89 : rf_Fb rf_m_M_odds 89 91 (.lload 7) 0 0 0 0 [] [] = true := by decide +kernel
theorem rf_f_M_odds_91 : rf_Fb rf_m_M_odds 91 94 (.ldc2_w 208) 0 0 0 12 [] [] = true := by decide +kernel
theorem rf_f_M_odds_94 : rf_Fb rf_m_M_odds 94 95 (.lmul) 0 0 0 0 [] [] = true := by decide +kernel
theorem rf_f_M_odds_95 : rf_Fb rf_m_M_odds 95 97 (.lstore 7) 0 0 0 0 [] [] = true := by decide +kernel
theorem rf_f_M_odds_97 : rf_Fb rf_m_M_odds 97 99 (.iload 9) 0 0 0 0 [] [] = true := by decide +kernel
theorem rf_f_M_odds_99 : rf_Fb rf_m_M_odds 99 100 (.iconst 3) 0 0 0 0 [] [] = true := by decide +kernel
theorem rf_f_M_odds_100 : rf_Fb rf_m_M_odds 100 101 (.imul) 0 0 0 0 [] [] = true := by decide +kernel
theorem rf_f_M_odds_101 : rf_Fb rf_m_M_odds 101 103 (.istore 9) 0 0 0 0 [] [] = true := by decide +kernel
theorem rf_f_M_odds_103 : rf_Fb rf_m_M_odds 103 106 (.iinc 10 1) 0 0 0 0 [] [] = true := by decide +kernel
theorem rf_f_M_odds_106 : rf_Fb rf_m_M_odds 106 109 (.goto (-28)) 78 0 0 0 [] [] = true := by decide +kernel
theorem rf_f_M_odds_109 : rf_Fb rf_m_M_odds 109 110 (.iconst 0) 0 0 0 0 [] [] = true := by decide +kernel
theorem rf_f_M_odds_110 : rf_Fb rf_m_M_odds 110 112 (.istore 10) 0 0 0 0 [] [true, true, true, true, false, true, false, true, false, true, true, false, false, false, false, false, false] = true := by decide +kernel
theorem rf_f_M_odds_112 : rf_Fb rf_m_M_odds 112 114 (.iload 10) 0 0 0 0 [] [] = true := by decide +kernel
theorem rf_f_M_odds_114 : rf_Fb rf_m_M_odds 114 116 (.iload 9) 0 0 0 0 [] [] = true := by decide +kernel
theorem rf_f_M_odds_116 : rf_Fb rf_m_M_odds 116 119 (.if_icmp .ge 145) 261 0 0 0 [] [] = true := by decide +kernel
theorem rf_f_M_odds_119 : rf_Fb rf_m_M_odds 119 121 (.iload 10) 0 0 0 0 [] [] = true := by decide +kernel
theorem rf_f_M_odds_121 : rf_Fb rf_m_M_odds 121 123 (.istore 11) 0 0 0 0 [] [] = true := by decide +kernel
theorem rf_f_M_odds_123 : rf_Fb rf_m_M_odds 123 124 (.lconst 1) 0 0 0 1 [] [] = true := by decide +kernel
theorem rf_f_M_odds_124 : rf_Fb rf_m_M_odds 124 126 (.lstore 12) 0 0 0 0 [] [] = true := by decide +kernel
theorem rf_f_M_odds_126 : rf_Fb rf_m_M_odds 126 127 (.aload_n 0) 0 0 0 0 [] [] = true := by decide +kernel
theorem rf_f_M_odds_127 : rf_Fb rf_m_M_odds 127 130 (.invokevirtual 153) 142 0 3 5 [] [] = true := by decide +kernel
theorem rf_f_M_odds_130 : rf_Fb rf_m_M_odds 130 131 (.iconst 0) 0 0 0 0 [] [] = true := by decide +kernel
theorem rf_f_M_odds_131 : rf_Fb rf_m_M_odds 131 133 (.istore 14) 0 0 0 0 [] [true, true, true, true, false, true, false, true, false, true, true, true, true, false, true, false, false] = true := by decide +kernel
theorem rf_f_M_odds_133 : rf_Fb rf_m_M_odds 133 135 (.iload 14) 0 0 0 0 [] [] = true := by decide +kernel
theorem rf_f_M_odds_135 : rf_Fb rf_m_M_odds 135 136 (.aload_n 0) 0 0 0 0 [] [] = true := by decide +kernel
theorem rf_f_M_odds_136 : rf_Fb rf_m_M_odds 136 139 (.getfield 7) 5 0 2 0 [] [] = true := by decide +kernel
theorem rf_f_M_odds_139 : rf_Fb rf_m_M_odds 139 140 (.iload_n 1) 0 0 0 0 [] [] = true := by decide +kernel
theorem rf_f_M_odds_140 : rf_Fb rf_m_M_odds 140 141 (.iaload) 0 0 0 0 [] [] = true := by decide +kernel
theorem rf_f_M_odds_141 : rf_Fb rf_m_M_odds 141 144 (.if_icmp .ge 86) 227 0 0 0 [] [] = true := by decide +kernel
theorem rf_f_M_odds_144 : rf_Fb rf_m_M_odds 144 146 (.iload 11) 0 0 0 0 [] [] = true := by decide +kernel
theorem rf_f_M_odds_146 : rf_Fb rf_m_M_odds 146 147 (.iconst 3) 0 0 0 0 [] [] = true := by decide +kernel
theorem rf_f_M_odds_147 : rf_Fb rf_m_M_odds 147 148 (.irem) 0 0 0 0 [] [] = true := by decide +kernel
theorem rf_f_M_odds_148 : rf_Fb rf_m_M_odds 148 150 (.istore 15) 0 0 0 0 [] [] = true := by decide +kernel
theorem rf_f_M_odds_150 : rf_Fb rf_m_M_odds 150 152 (.iload 11) 0 0 0 0 [] [] = true := by decide +kernel
theorem rf_f_M_odds_152 : rf_Fb rf_m_M_odds 152 153 (.iconst 3) 0 0 0 0 [] [] = true := by decide +kernel
theorem rf_f_M_odds_153 : rf_Fb rf_m_M_odds 153 154 (.idiv) 0 0 0 0 [] [] = true := by decide +kernel
theorem rf_f_M_odds_154 : rf_Fb rf_m_M_odds 154 156 (.istore 11) 0 0 0 0 [] [] = true := by decide +kernel
theorem rf_f_M_odds_156 : rf_Fb rf_m_M_odds 156 158 (.lload 12) 0 0 0 0 [] [] = true := by decide +kernel
theorem rf_f_M_odds_158 : rf_Fb rf_m_M_odds 158 160 (.iload 15) 0 0 0 0 [] [] = true := by decide +kernel
theorem rf_f_M_odds_160 : rf_Fb rf_m_M_odds 160 163 (.ifCond .ne 8) 168 0 0 0 [] [] = true := by decide +kernel
theorem rf_f_M_odds_163 : rf_Fb rf_m_M_odds 163 164 (.iload_n 2) 0 0 0 0 [] [] = true := by decide +kernel
theorem rf_f_M_odds_164 : rf_Fb rf_m_M_odds 164 165 (.i2l) 0 0 0 0 [] [] = true := by decide +kernel
theorem rf_f_M_odds_165 : rf_Fb rf_m_M_odds 165 168 (.goto 21) 186 0 0 0 [] [] = true := by decide +kernel
theorem rf_f_M_odds_168 : rf_Fb rf_m_M_odds 168 170 (.iload 15) 0 0 0 0 [] [] = true := by decide +kernel
theorem rf_f_M_odds_170 : rf_Fb rf_m_M_odds 170 171 (.iconst 1) 0 0 0 0 [] [] = true := by decide +kernel
theorem rf_f_M_odds_171 : rf_Fb rf_m_M_odds 171 174 (.if_icmp .ne 8) 179 0 0 0 [] [] = true := by decide +kernel
theorem rf_f_M_odds_174 : rf_Fb rf_m_M_odds 174 175 (.iload_n 3) 0 0 0 0 [] [] = true := by decide +kernel
theorem rf_f_M_odds_175 : rf_Fb rf_m_M_odds 175 176 (.i2l) 0 0 0 0 [] [] = true := by decide +kernel
theorem rf_f_M_odds_176 : rf_Fb rf_m_M_odds 176 179 (.goto 10) 186 0 0 0 [] [] = true := by decide +kernel
theorem rf_f_M_odds_179 : rf_Fb rf_m_M_odds 179 181 (.bipush 12) 0 0 0 0 [] [] = true := by decide +kernel
theorem rf_f_M_odds_181 : rf_Fb rf_m_M_odds 181 182 (.iload_n 2) 0 0 0 0 [] [] = true := by decide +kernel
theorem rf_f_M_odds_182 : rf_Fb rf_m_M_odds 182 183 (.isub) 0 0 0 0 [] [] = true := by decide +kernel
theorem rf_f_M_odds_183 : rf_Fb rf_m_M_odds 183 184 (.iload_n 3) 0 0 0 0 [] [] = true := by decide +kernel
theorem rf_f_M_odds_184 : rf_Fb rf_m_M_odds 184 185 (.isub) 0 0 0 0 [] [] = true := by decide +kernel
theorem rf_f_M_odds_185 : rf_Fb rf_m_M_odds 185 186 (.i2l) 0 0 0 0 [] [true, true, true, true, false, true, false, true, false, true, true, true, false, false, true, true, false] = true := by decide +kernel
theorem rf_f_M_odds_186 : rf_Fb rf_m_M_odds 186 187 (.lmul) 0 0 0 0 [] [] = true := by decide +kernel
theorem rf_f_M_odds_187 : rf_Fb rf_m_M_odds 187 189 (.lstore 12) 0 0 0 0 [] [] = true := by decide +kernel
theorem rf_f_M_odds_189 : rf_Fb rf_m_M_odds 189 190 (.aload_n 0) 0 0 0 0 [] [] = true := by decide +kernel
theorem rf_f_M_odds_190 : rf_Fb rf_m_M_odds 190 193 (.getfield 13) 5 1 2 0 [] [] = true := by decide +kernel
theorem rf_f_M_odds_193 : rf_Fb rf_m_M_odds 193 195 (.bipush 40) 0 0 0 0 [] [] = true := by decide +kernel
theorem rf_f_M_odds_195 : rf_Fb rf_m_M_odds 195 196 (.iload_n 1) 0 0 0 0 [] [] = true := by decide +kernel
theorem rf_f_M_odds_196 : rf_Fb rf_m_M_odds 196 197 (.imul) 0 0 0 0 [] [] = true := by decide +kernel
theorem rf_f_M_odds_197 : rf_Fb rf_m_M_odds 197 199 (.iload 14) 0 0 0 0 [] [] = true := by decide +kernel
theorem rf_f_M_odds_199 : rf_Fb rf_m_M_odds 199 200 (.iadd) 0 0 0 0 [] [] = true := by decide +kernel
theorem rf_f_M_odds_200 : rf_Fb rf_m_M_odds 200 201 (.iaload) 0 0 0 0 [] [] = true := by decide +kernel
theorem rf_f_M_odds_201 : rf_Fb rf_m_M_odds 201 203 (.istore 16) 0 0 0 0 [] [] = true := by decide +kernel
theorem rf_f_M_odds_203 : rf_Fb rf_m_M_odds 203 204 (.aload_n 0) 0 0 0 0 [] [] = true := by decide +kernel
theorem rf_f_M_odds_204 : rf_Fb rf_m_M_odds 204 206 (.iload 16) 0 0 0 0 [] [] = true := by decide +kernel
theorem rf_f_M_odds_206 : rf_Fb rf_m_M_odds 206 209 (.invokevirtual 169) 152 1 0 5 [] [] = true := by decide +kernel
theorem rf_f_M_odds_209 : rf_Fb rf_m_M_odds 209 212 (.ifCond .eq 12) 221 0 0 0 [] [] = true := by decide +kernel
theorem rf_f_M_odds_212 : rf_Fb rf_m_M_odds 212 213 (.aload_n 0) 0 0 0 0 [] [] = true := by decide +kernel
theorem rf_f_M_odds_213 : rf_Fb rf_m_M_odds 213 215 (.iload 16) 0 0 0 0 [] [] = true := by decide +kernel
theorem rf_f_M_odds_215 : rf_Fb rf_m_M_odds 215 217 (.iload 15) 0 0 0 0 [] [] = true := by decide +kernel
theorem rf_f_M_odds_217 : rf_Fb rf_m_M_odds 217 220 (.invokevirtual 159) 155 2 0 5 [] [] = true := by decide +kernel
theorem rf_f_M_odds_220 : rf_Fb rf_m_M_odds 220 221 (.pop) 0 0 0 0 [] [] = true := by decide +kernel
theorem rf_f_M_odds_221 : rf_Fb rf_m_M_odds 221 224 (.iinc 14 1) 0 0 0 0 [] [] = true := by decide +kernel
theorem rf_f_M_odds_224 : rf_Fb rf_m_M_odds 224 227 (.goto (-91)) 133 0 0 0 [] [] = true := by decide +kernel
theorem rf_f_M_odds_227 : rf_Fb rf_m_M_odds 227 229 (.lload 5) 0 0 0 0 [] [] = true := by decide +kernel
theorem rf_f_M_odds_229 : rf_Fb rf_m_M_odds 229 230 (.aload_n 0) 0 0 0 0 [] [] = true := by decide +kernel
theorem rf_f_M_odds_230 : rf_Fb rf_m_M_odds 230 233 (.getfield 41) 5 17 2 0 [] [] = true := by decide +kernel
theorem rf_f_M_odds_233 : rf_Fb rf_m_M_odds 233 235 (.bipush 35) 0 0 0 0 [] [] = true := by decide +kernel
theorem rf_f_M_odds_235 : rf_Fb rf_m_M_odds 235 236 (.iaload) 0 0 0 0 [] [] = true := by decide +kernel
theorem rf_f_M_odds_236 : rf_Fb rf_m_M_odds 236 237 (.aload_n 0) 0 0 0 0 [] [] = true := by decide +kernel
theorem rf_f_M_odds_237 : rf_Fb rf_m_M_odds 237 240 (.getfield 22) 5 4 2 0 [] [] = true := by decide +kernel
theorem rf_f_M_odds_240 : rf_Fb rf_m_M_odds 240 242 (.bipush 35) 0 0 0 0 [] [] = true := by decide +kernel
theorem rf_f_M_odds_242 : rf_Fb rf_m_M_odds 242 243 (.iaload) 0 0 0 0 [] [] = true := by decide +kernel
theorem rf_f_M_odds_243 : rf_Fb rf_m_M_odds 243 246 (.if_icmp .le 8) 251 0 0 0 [] [] = true := by decide +kernel
theorem rf_f_M_odds_246 : rf_Fb rf_m_M_odds 246 248 (.lload 12) 0 0 0 0 [] [] = true := by decide +kernel
theorem rf_f_M_odds_248 : rf_Fb rf_m_M_odds 248 251 (.goto 4) 252 0 0 0 [] [] = true := by decide +kernel
theorem rf_f_M_odds_251 : rf_Fb rf_m_M_odds 251 252 (.lconst 0) 0 0 0 0 [] [] = true := by decide +kernel
theorem rf_f_M_odds_252 : rf_Fb rf_m_M_odds 252 253 (.ladd) 0 0 0 0 [] [] = true := by decide +kernel
theorem rf_f_M_odds_253 : rf_Fb rf_m_M_odds 253 255 (.lstore 5) 0 0 0 0 [] [] = true := by decide +kernel
theorem rf_f_M_odds_255 : rf_Fb rf_m_M_odds 255 258 (.iinc 10 1) 0 0 0 0 [] [] = true := by decide +kernel
theorem rf_f_M_odds_258 : rf_Fb rf_m_M_odds 258 261 (.goto (-146)) 112 0 0 0 [] [] = true := by decide +kernel
theorem rf_f_M_odds_261 : rf_Fb rf_m_M_odds 261 263 (.lload 5) 0 0 0 0 [] [] = true := by decide +kernel
theorem rf_f_M_odds_263 : rf_Fb rf_m_M_odds 263 265 (.lload 7) 0 0 0 0 [] [] = true := by decide +kernel
theorem rf_f_M_odds_265 : rf_Fb rf_m_M_odds 265 268 (.invokestatic 210) 181 2 1 0 [] [] = true := by decide +kernel
theorem rf_f_M_odds_268 : rf_Fb rf_m_M_odds 268 270 (.lstore 10) 0 0 0 0 [] [] = true := by decide +kernel
theorem rf_f_M_odds_270 : rf_Fb rf_m_M_odds 270 271 (.aload_n 0) 0 0 0 0 [] [] = true := by decide +kernel
theorem rf_f_M_odds_271 : rf_Fb rf_m_M_odds 271 273 (.lload 5) 0 0 0 0 [] [] = true := by decide +kernel
theorem rf_f_M_odds_273 : rf_Fb rf_m_M_odds 273 275 (.lload 10) 0 0 0 0 [] [] = true := by decide +kernel
theorem rf_f_M_odds_275 : rf_Fb rf_m_M_odds 275 276 (.ldiv) 0 0 0 0 [] [] = true := by decide +kernel
theorem rf_f_M_odds_276 : rf_Fb rf_m_M_odds 276 279 (.putfield 214) 5 10 1 0 [] [] = true := by decide +kernel
theorem rf_f_M_odds_279 : rf_Fb rf_m_M_odds 279 280 (.aload_n 0) 0 0 0 0 [] [] = true := by decide +kernel
theorem rf_f_M_odds_280 : rf_Fb rf_m_M_odds 280 282 (.lload 7) 0 0 0 0 [] [] = true := by decide +kernel
theorem rf_f_M_odds_282 : rf_Fb rf_m_M_odds 282 284 (.lload 10) 0 0 0 0 [] [] = true := by decide +kernel
theorem rf_f_M_odds_284 : rf_Fb rf_m_M_odds 284 285 (.ldiv) 0 0 0 0 [] [] = true := by decide +kernel
theorem rf_f_M_odds_285 : rf_Fb rf_m_M_odds 285 288 (.putfield 50) 5 11 1 0 [] [] = true := by decide +kernel
theorem rf_f_M_odds_288 : rf_Fb rf_m_M_odds 288 289 (.iconst 1) 0 0 0 0 [] [] = true := by decide +kernel
theorem rf_f_M_odds_289 : rf_Fb rf_m_M_odds 289 290 (.ireturn) 0 0 0 0 [] [] = true := by decide +kernel
set_option maxRecDepth 20000 in
set_option maxHeartbeats 2000000 in
theorem rf_e_M_odds (d : Nat) (o : Nat) (a1 : Int) (a2 : Int) (a3 : Int) (h : rf_H) : rf_call (d + 1) 180 [.inr (.inr (some o)), .inl a1, .inl a2, .inl a3] h = ((rf_call d 117 [.inl a1] h).bind fun q2 => rf_kI q2 fun x3 h1 => (if x3 = 0 then some (some (.inl (-1)), h1) else ((rf_call d 118 [.inr (.inl a2), .inr (.inl 0), .inr (.inl 12)] h1).bind fun q5 => rf_kI q5 fun x6 h4 => (if x6 = 0 then some (some (.inl (-1)), h4) else ((rf_call d 118 [.inr (.inl a3), .inr (.inl 0), .inr (.inl (rf_w (12 - a2)))] h4).bind fun q8 => rf_kI q8 fun x9 h7 => (if x9 = 0 then some (some (.inl (-1)), h7) else (bif rf_isO h7.1 o 5 then ((rf_call d 150 [.inr (.inr (some o))] h7).bind fun q11 => rf_kI q11 fun x12 h10 => (if x12 = 0 then some (some (.inl (-4)), h10) else (bif rf_isO h10.1 o 5 then ((rf_call d 171 [.inr (.inr (some o)), .inl a1, .inl 6] h10).bind fun q14 => rf_kI q14 fun x15 h13 => (if 0 < x15 then (bif rf_isO h13.1 o 5 then ((rf_call d 119 [.inr (.inr (some o)), .inl x15] h13).bind fun q17 => rf_kI q17 fun x18 h16 => some (some (.inl x18), h16)) else none) else rf_j_M_odds_78 d o a1 a2 a3 0 1 1 0 h13)) else none))) else none))))))) := by
  show rf_den (rf_call d) (rf_mt 180) _ = _
  rw [rf_u_M_odds]
  exact ((rf_s_iload_n rf_f_M_odds_0 rfl (rf_m0 _) (rf_s_invS0 rf_f_M_odds_1 rfl rfl (rf_m0 _) fun q2 x3 h1 => (rf_s_if_eq rf_f_M_odds_4 rfl (rf_m0 _) (rf_m0 _) (rf_s_iconst rf_f_M_odds_33 (rf_m0 _) (rf_s_iret rf_f_M_odds_34)) (rf_s_iload_n rf_f_M_odds_7 rfl (rf_m0 _) (rf_s_i2l rf_f_M_odds_8 (rf_m0 _) (rf_s_lconst rf_f_M_odds_9 (rf_m0 _) (rf_s_ldc2_w rf_f_M_odds_10 (rf_m0 _) (rf_s_invS0 rf_f_M_odds_13 rfl rfl (rf_m0 _) fun q5 x6 h4 => (rf_s_if_eq rf_f_M_odds_16 rfl (rf_m0 _) (rf_m0 _) (rf_s_iconst rf_f_M_odds_33 (rf_m0 _) (rf_s_iret rf_f_M_odds_34)) (rf_s_iload_n rf_f_M_odds_19 rfl (rf_m0 _) (rf_s_i2l rf_f_M_odds_20 (rf_m0 _) (rf_s_lconst rf_f_M_odds_21 (rf_m0 _) (rf_s_bipush rf_f_M_odds_22 (rf_m0 _) (rf_s_iload_n rf_f_M_odds_24 rfl (rf_m0 _) (rf_s_isub rf_f_M_odds_25 (rf_m0 _) (rf_s_i2l rf_f_M_odds_26 (rf_m0 _) (rf_s_invS0 rf_f_M_odds_27 rfl rfl (rf_m0 _) fun q8 x9 h7 => (rf_s_if_ne rf_f_M_odds_30 rfl (rf_m0 _) (rf_m0 _) (rf_s_aload_n rf_f_M_odds_35 rfl (rf_m0 _) (rf_s_invV0S rf_f_M_odds_36 rfl rfl (rf_m0 _) fun q11 x12 h10 => (rf_s_if_ne rf_f_M_odds_39 rfl (rf_m0 _) (rf_m0 _) (rf_s_aload_n rf_f_M_odds_45 rfl (rf_m0 _) (rf_s_iload_n rf_f_M_odds_46 rfl (rf_m0 _) (rf_s_bipush rf_f_M_odds_47 (rf_m0 _) (rf_s_invV0S rf_f_M_odds_49 rfl rfl (rf_m0 _) fun q14 x15 h13 => (rf_s_istore (L' := [some (.inr (.inr (some o))), some (.inl a1), some (.inl a2), some (.inl a3), some (.inl x15), none, none, none, none, none, none, none, none, none, none, none, none]) rf_f_M_odds_52 rfl (rf_s_iload rf_f_M_odds_54 rfl (rf_m0 _) (rf_s_if_le rf_f_M_odds_56 rfl (rf_m0 _) (rf_m0 _) (rf_s_lconst rf_f_M_odds_66 (rf_m0 _) (rf_s_lstore (L' := [some (.inr (.inr (some o))), some (.inl a1), some (.inl a2), some (.inl a3), some (.inl x15), some (.inr (.inl 0)), none, none, none, none, none, none, none, none, none, none, none]) rf_f_M_odds_67 rfl (rf_s_lconst rf_f_M_odds_69 (rf_m0 _) (rf_s_lstore (L' := [some (.inr (.inr (some o))), some (.inl a1), some (.inl a2), some (.inl a3), some (.inl x15), some (.inr (.inl 0)), none, some (.inr (.inl 1)), none, none, none, none, none, none, none, none, none]) rf_f_M_odds_70 rfl (rf_s_iconst rf_f_M_odds_72 (rf_m0 _) (rf_s_istore (L' := [some (.inr (.inr (some o))), some (.inl a1), some (.inl a2), some (.inl a3), some (.inl x15), some (.inr (.inl 0)), none, some (.inr (.inl 1)), none, some (.inl 1), none, none, none, none, none, none, none]) rf_f_M_odds_73 rfl (rf_s_iconst rf_f_M_odds_75 (rf_m0 _) (rf_s_istore rf_f_M_odds_76 rfl rfl)))))))) (rf_s_aload_n rf_f_M_odds_59 rfl (rf_m0 _) (rf_s_iload rf_f_M_odds_60 rfl (rf_m0 _) (rf_s_invV0S rf_f_M_odds_62 rfl rfl (rf_m0 _) fun q17 x18 h16 => (rf_s_iret rf_f_M_odds_65))))))))))) (rf_s_bipush rf_f_M_odds_42 (rf_m0 _) (rf_s_iret rf_f_M_odds_44))))) (rf_s_iconst rf_f_M_odds_33 (rf_m0 _) (rf_s_iret rf_f_M_odds_34)))))))))))))))))))) : rf_den (rf_call d) rf_m_M_odds (0, [some (.inr (.inr (some o))), some (.inl a1), some (.inl a2), some (.inl a3), none, none, none, none, none, none, none, none, none, none, none, none, none], [], h) = _)
set_option maxRecDepth 20000 in
set_option maxHeartbeats 2000000 in
theorem rf_e_M_odds_78 (d : Nat) (o : Nat) (l1 : Int) (l2 : Int) (l3 : Int) (l5 : Int) (l7 : Int) (l9 : Int) (l10 : Int) (h : rf_H) : rf_j_M_odds_78 d o l1 l2 l3 l5 l7 l9 l10 h = ((rf_gR h 5 o 0).bind fun x1 => (rf_nn x1 fun k2 => ((rf_aI h k2 l1).bind fun x3 => (if l10 < x3 then rf_j_M_odds_78 d o l1 l2 l3 l5 (rf_wl (l7 * 12)) (rf_w (l9 * 3)) (rf_w (l10 + 1)) h else rf_j_M_odds_112 d o l1 l2 l3 l5 l7 l9 0 h)))) :=
  ((rf_s_iload rf_f_M_odds_78 rfl (rf_m0 _) (rf_s_aload_n rf_f_M_odds_80 rfl (rf_m0 _) (rf_s_getAS rf_f_M_odds_81 (rf_m0 _) fun x1 => (rf_s_iload_n rf_f_M_odds_84 rfl (rf_m0 _) (rf_s_ialdR rf_f_M_odds_85 (rf_m0 _) fun k2 x3 => (rf_s_icmp_ge rf_f_M_odds_86 rfl (rf_m0 _) (rf_m0 _) (rf_s_iconst rf_f_M_odds_109 (rf_m0 _) (rf_s_istore rf_f_M_odds_110 rfl rfl)) (rf_s_lload rf_f_M_odds_89 rfl (rf_m0 _) (rf_s_ldc2_w rf_f_M_odds_91 (rf_m0 _) (rf_s_lmul rf_f_M_odds_94 (rf_m0 _) (rf_s_lstore (L' := [some (.inr (.inr (some o))), some (.inl l1), some (.inl l2), some (.inl l3), none, some (.inr (.inl l5)), none, some (.inr (.inl (rf_wl (l7 * 12)))), none, some (.inl l9), some (.inl l10), none, none, none, none, none, none]) rf_f_M_odds_95 rfl (rf_s_iload rf_f_M_odds_97 rfl (rf_m0 _) (rf_s_iconst rf_f_M_odds_99 (rf_m0 _) (rf_s_imul rf_f_M_odds_100 (rf_m0 _) (rf_s_istore (L' := [some (.inr (.inr (some o))), some (.inl l1), some (.inl l2), some (.inl l3), none, some (.inr (.inl l5)), none, some (.inr (.inl (rf_wl (l7 * 12)))), none, some (.inl (rf_w (l9 * 3))), some (.inl l10), none, none, none, none, none, none]) rf_f_M_odds_101 rfl (rf_s_iinc (L' := [some (.inr (.inr (some o))), some (.inl l1), some (.inl l2), some (.inl l3), none, some (.inr (.inl l5)), none, some (.inr (.inl (rf_wl (l7 * 12)))), none, some (.inl (rf_w (l9 * 3))), some (.inl (rf_w (l10 + 1))), none, none, none, none, none, none]) rf_f_M_odds_103 rfl rfl (rf_s_goto rf_f_M_odds_106 rfl rfl rfl)))))))))))))))) : rf_den (rf_call d) rf_m_M_odds (78, [some (.inr (.inr (some o))), some (.inl l1), some (.inl l2), some (.inl l3), none, some (.inr (.inl l5)), none, some (.inr (.inl l7)), none, some (.inl l9), some (.inl l10), none, none, none, none, none, none], [], h) = _)
set_option maxRecDepth 20000 in
set_option maxHeartbeats 2000000 in
theorem rf_e_M_odds_112 (d : Nat) (o : Nat) (l1 : Int) (l2 : Int) (l3 : Int) (l5 : Int) (l7 : Int) (l9 : Int) (l10 : Int) (h : rf_H) : rf_j_M_odds_112 d o l1 l2 l3 l5 l7 l9 l10 h = (if l10 < l9 then (bif rf_isO h.1 o 5 then ((rf_call d 142 [.inr (.inr (some o))] h).bind fun q7 => rf_kV q7 fun h6 => rf_j_M_odds_133 d o l1 l2 l3 l5 l7 l9 l10 l10 1 0 h6) else none) else ((rf_call d 181 [.inr (.inl l5), .inr (.inl l7)] h).bind fun q2 => rf_kL q2 fun x3 h1 => (if x3 = 0 then none else ((rf_pI h1 5 o 10 (rf_wl (Int.tdiv l5 x3))).bind fun h4 => (if x3 = 0 then none else ((rf_pI h4 5 o 11 (rf_wl (Int.tdiv l7 x3))).bind fun h5 => some (some (.inl 1), h5))))))) :=
  ((rf_s_iload rf_f_M_odds_112 rfl (rf_m0 _) (rf_s_iload rf_f_M_odds_114 rfl (rf_m0 _) (rf_s_icmp_ge rf_f_M_odds_116 rfl (rf_m0 _) (rf_m0 _) (rf_s_lload rf_f_M_odds_261 rfl (rf_m0 _) (rf_s_lload rf_f_M_odds_263 rfl (rf_m0 _) (rf_s_invS1 rf_f_M_odds_265 rfl rfl (rf_m0 _) fun q2 x3 h1 => (rf_s_lstore (L' := [some (.inr (.inr (some o))), some (.inl l1), some (.inl l2), some (.inl l3), none, some (.inr (.inl l5)), none, some (.inr (.inl l7)), none, some (.inl l9), some (.inr (.inl x3)), none, none, none, none, none, none]) rf_f_M_odds_268 rfl (rf_s_aload_n rf_f_M_odds_270 rfl (rf_m0 _) (rf_s_lload rf_f_M_odds_271 rfl (rf_m0 _) (rf_s_lload rf_f_M_odds_273 rfl (rf_m0 _) (rf_s_ldivZ rf_f_M_odds_275 (rf_m0 _) (rf_s_putLS rf_f_M_odds_276 (rf_m0 _) fun h4 => (rf_s_aload_n rf_f_M_odds_279 rfl (rf_m0 _) (rf_s_lload rf_f_M_odds_280 rfl (rf_m0 _) (rf_s_lload rf_f_M_odds_282 rfl (rf_m0 _) (rf_s_ldivZ rf_f_M_odds_284 (rf_m0 _) (rf_s_putLS rf_f_M_odds_285 (rf_m0 _) fun h5 => (rf_s_iconst rf_f_M_odds_288 (rf_m0 _) (rf_s_iret rf_f_M_odds_289)))))))))))))))) (rf_s_iload rf_f_M_odds_119 rfl (rf_m0 _) (rf_s_istore (L' := [some (.inr (.inr (some o))), some (.inl l1), some (.inl l2), some (.inl l3), none, some (.inr (.inl l5)), none, some (.inr (.inl l7)), none, some (.inl l9), some (.inl l10), some (.inl l10), none, none, none, none, none]) rf_f_M_odds_121 rfl (rf_s_lconst rf_f_M_odds_123 (rf_m0 _) (rf_s_lstore (L' := [some (.inr (.inr (some o))), some (.inl l1), some (.inl l2), some (.inl l3), none, some (.inr (.inl l5)), none, some (.inr (.inl l7)), none, some (.inl l9), some (.inl l10), some (.inl l10), some (.inr (.inl 1)), none, none, none, none]) rf_f_M_odds_124 rfl (rf_s_aload_n rf_f_M_odds_126 rfl (rf_m0 _) (rf_s_invV3S rf_f_M_odds_127 rfl rfl (rf_m0 _) fun q7 h6 => (rf_s_iconst rf_f_M_odds_130 (rf_m0 _) (rf_s_istore rf_f_M_odds_131 rfl rfl))))))))))) : rf_den (rf_call d) rf_m_M_odds (112, [some (.inr (.inr (some o))), some (.inl l1), some (.inl l2), some (.inl l3), none, some (.inr (.inl l5)), none, some (.inr (.inl l7)), none, some (.inl l9), some (.inl l10), none, none, none, none, none, none], [], h) = _)
set_option maxRecDepth 20000 in
set_option maxHeartbeats 2000000 in
theorem rf_e_M_odds_133 (d : Nat) (o : Nat) (l1 : Int) (l2 : Int) (l3 : Int) (l5 : Int) (l7 : Int) (l9 : Int) (l10 : Int) (l11 : Int) (l12 : Int) (l14 : Int) (h : rf_H) : rf_j_M_odds_133 d o l1 l2 l3 l5 l7 l9 l10 l11 l12 l14 h = ((rf_gR h 5 o 0).bind fun x1 => (rf_nn x1 fun k2 => ((rf_aI h k2 l1).bind fun x3 => (if l14 < x3 then (if (Int.tmod l11 3) = 0 then rf_j_M_odds_186 d o l1 l2 l3 l5 l7 l9 l10 (rf_w (Int.tdiv l11 3)) l14 (Int.tmod l11 3) l12 l2 h else (if (Int.tmod l11 3) = 1 then rf_j_M_odds_186 d o l1 l2 l3 l5 l7 l9 l10 (rf_w (Int.tdiv l11 3)) l14 (Int.tmod l11 3) l12 l3 h else rf_j_M_odds_186 d o l1 l2 l3 l5 l7 l9 l10 (rf_w (Int.tdiv l11 3)) l14 (Int.tmod l11 3) l12 (rf_w ((rf_w (12 - l2)) - l3)) h)) else ((rf_gR h 5 o 17).bind fun x4 => (rf_nn x4 fun k5 => ((rf_aI h k5 35).bind fun x6 => ((rf_gR h 5 o 4).bind fun x7 => (rf_nn x7 fun k8 => ((rf_aI h k8 35).bind fun x9 => (if x9 < x6 then rf_j_M_odds_112 d o l1 l2 l3 (rf_wl (l5 + l12)) l7 l9 (rf_w (l10 + 1)) h else rf_j_M_odds_112 d o l1 l2 l3 (rf_wl (l5 + 0)) l7 l9 (rf_w (l10 + 1)) h))))))))))) :=
  ((rf_s_iload rf_f_M_odds_133 rfl (rf_m0 _) (rf_s_aload_n rf_f_M_odds_135 rfl (rf_m0 _) (rf_s_getAS rf_f_M_odds_136 (rf_m0 _) fun x1 => (rf_s_iload_n rf_f_M_odds_139 rfl (rf_m0 _) (rf_s_ialdR rf_f_M_odds_140 (rf_m0 _) fun k2 x3 => (rf_s_icmp_ge rf_f_M_odds_141 rfl (rf_m0 _) (rf_m0 _) (rf_s_lload rf_f_M_odds_227 rfl (rf_m0 _) (rf_s_aload_n rf_f_M_odds_229 rfl (rf_m0 _) (rf_s_getAS rf_f_M_odds_230 (rf_m0 _) fun x4 => (rf_s_bipush rf_f_M_odds_233 (rf_m0 _) (rf_s_ialdR rf_f_M_odds_235 (rf_m0 _) fun k5 x6 => (rf_s_aload_n rf_f_M_odds_236 rfl (rf_m0 _) (rf_s_getAS rf_f_M_odds_237 (rf_m0 _) fun x7 => (rf_s_bipush rf_f_M_odds_240 (rf_m0 _) (rf_s_ialdR rf_f_M_odds_242 (rf_m0 _) fun k8 x9 => (rf_s_icmp_le rf_f_M_odds_243 rfl (rf_m0 _) (rf_m0 _) (rf_s_lconst rf_f_M_odds_251 (rf_m0 _) (rf_s_ladd rf_f_M_odds_252 (rf_m0 _) (rf_s_lstore (L' := [some (.inr (.inr (some o))), some (.inl l1), some (.inl l2), some (.inl l3), none, some (.inr (.inl (rf_wl (l5 + 0)))), none, some (.inr (.inl l7)), none, some (.inl l9), some (.inl l10), some (.inl l11), some (.inr (.inl l12)), none, some (.inl l14), none, none]) rf_f_M_odds_253 rfl (rf_s_iinc (L' := [some (.inr (.inr (some o))), some (.inl l1), some (.inl l2), some (.inl l3), none, some (.inr (.inl (rf_wl (l5 + 0)))), none, some (.inr (.inl l7)), none, some (.inl l9), some (.inl (rf_w (l10 + 1))), some (.inl l11), some (.inr (.inl l12)), none, some (.inl l14), none, none]) rf_f_M_odds_255 rfl rfl (rf_s_goto rf_f_M_odds_258 rfl rfl rfl))))) (rf_s_lload rf_f_M_odds_246 rfl (rf_m0 _) (rf_s_goto rf_f_M_odds_248 rfl (rf_m0 _) (rf_s_ladd rf_f_M_odds_252 (rf_m0 _) (rf_s_lstore (L' := [some (.inr (.inr (some o))), some (.inl l1), some (.inl l2), some (.inl l3), none, some (.inr (.inl (rf_wl (l5 + l12)))), none, some (.inr (.inl l7)), none, some (.inl l9), some (.inl l10), some (.inl l11), some (.inr (.inl l12)), none, some (.inl l14), none, none]) rf_f_M_odds_253 rfl (rf_s_iinc (L' := [some (.inr (.inr (some o))), some (.inl l1), some (.inl l2), some (.inl l3), none, some (.inr (.inl (rf_wl (l5 + l12)))), none, some (.inr (.inl l7)), none, some (.inl l9), some (.inl (rf_w (l10 + 1))), some (.inl l11), some (.inr (.inl l12)), none, some (.inl l14), none, none]) rf_f_M_odds_255 rfl rfl (rf_s_goto rf_f_M_odds_258 rfl rfl rfl)))))))))))))))) (rf_s_iload rf_f_M_odds_144 rfl (rf_m0 _) (rf_s_iconst rf_f_M_odds_146 (rf_m0 _) (rf_s_irem rf_f_M_odds_147 (by decide) (rf_m0 _) (rf_s_istore (L' := [some (.inr (.inr (some o))), some (.inl l1), some (.inl l2), some (.inl l3), none, some (.inr (.inl l5)), none, some (.inr (.inl l7)), none, some (.inl l9), some (.inl l10), some (.inl l11), some (.inr (.inl l12)), none, some (.inl l14), some (.inl (Int.tmod l11 3)), none]) rf_f_M_odds_148 rfl (rf_s_iload rf_f_M_odds_150 rfl (rf_m0 _) (rf_s_iconst rf_f_M_odds_152 (rf_m0 _) (rf_s_idiv rf_f_M_odds_153 (by decide) (rf_m0 _) (rf_s_istore (L' := [some (.inr (.inr (some o))), some (.inl l1), some (.inl l2), some (.inl l3), none, some (.inr (.inl l5)), none, some (.inr (.inl l7)), none, some (.inl l9), some (.inl l10), some (.inl (rf_w (Int.tdiv l11 3))), some (.inr (.inl l12)), none, some (.inl l14), some (.inl (Int.tmod l11 3)), none]) rf_f_M_odds_154 rfl (rf_s_lload rf_f_M_odds_156 rfl (rf_m0 _) (rf_s_iload rf_f_M_odds_158 rfl (rf_m0 _) (rf_s_if_ne rf_f_M_odds_160 rfl (rf_m0 _) (rf_m0 _) (rf_s_iload rf_f_M_odds_168 rfl (rf_m0 _) (rf_s_iconst rf_f_M_odds_170 (rf_m0 _) (rf_s_icmp_ne rf_f_M_odds_171 rfl (rf_m0 _) (rf_m0 _) (rf_s_bipush rf_f_M_odds_179 (rf_m0 _) (rf_s_iload_n rf_f_M_odds_181 rfl (rf_m0 _) (rf_s_isub rf_f_M_odds_182 (rf_m0 _) (rf_s_iload_n rf_f_M_odds_183 rfl (rf_m0 _) (rf_s_isub rf_f_M_odds_184 (rf_m0 _) (rf_s_i2l rf_f_M_odds_185 rfl rfl)))))) (rf_s_iload_n rf_f_M_odds_174 rfl (rf_m0 _) (rf_s_i2l rf_f_M_odds_175 (rf_m0 _) (rf_s_goto rf_f_M_odds_176 rfl rfl rfl)))))) (rf_s_iload_n rf_f_M_odds_163 rfl (rf_m0 _) (rf_s_i2l rf_f_M_odds_164 (rf_m0 _) (rf_s_goto rf_f_M_odds_165 rfl rfl rfl)))))))))))))))))))) : rf_den (rf_call d) rf_m_M_odds (133, [some (.inr (.inr (some o))), some (.inl l1), some (.inl l2), some (.inl l3), none, some (.inr (.inl l5)), none, some (.inr (.inl l7)), none, some (.inl l9), some (.inl l10), some (.inl l11), some (.inr (.inl l12)), none, some (.inl l14), none, none], [], h) = _)
set_option maxRecDepth 20000 in
set_option maxHeartbeats 2000000 in
theorem rf_e_M_odds_186 (d : Nat) (o : Nat) (l1 : Int) (l2 : Int) (l3 : Int) (l5 : Int) (l7 : Int) (l9 : Int) (l10 : Int) (l11 : Int) (l14 : Int) (l15 : Int) (s0 : Int) (s1 : Int) (h : rf_H) : rf_j_M_odds_186 d o l1 l2 l3 l5 l7 l9 l10 l11 l14 l15 s0 s1 h = ((rf_gR h 5 o 1).bind fun x1 => (rf_nn x1 fun k2 => ((rf_aI h k2 (rf_w ((rf_w (40 * l1)) + l14))).bind fun x3 => (bif rf_isO h.1 o 5 then ((rf_call d 152 [.inr (.inr (some o)), .inl x3] h).bind fun q5 => rf_kI q5 fun x6 h4 => (if x6 = 0 then rf_j_M_odds_133 d o l1 l2 l3 l5 l7 l9 l10 l11 (rf_wl (s0 * s1)) (rf_w (l14 + 1)) h4 else (bif rf_isO h4.1 o 5 then ((rf_call d 155 [.inr (.inr (some o)), .inl x3, .inl l15] h4).bind fun q8 => rf_kI q8 fun x9 h7 => rf_j_M_odds_133 d o l1 l2 l3 l5 l7 l9 l10 l11 (rf_wl (s0 * s1)) (rf_w (l14 + 1)) h7) else none))) else none)))) :=
  ((rf_s_lmul rf_f_M_odds_186 (rf_m0 _) (rf_s_lstore (L' := [some (.inr (.inr (some o))), some (.inl l1), some (.inl l2), some (.inl l3), none, some (.inr (.inl l5)), none, some (.inr (.inl l7)), none, some (.inl l9), some (.inl l10), some (.inl l11), some (.inr (.inl (rf_wl (s0 * s1)))), none, some (.inl l14), some (.inl l15), none]) rf_f_M_odds_187 rfl (rf_s_aload_n rf_f_M_odds_189 rfl (rf_m0 _) (rf_s_getAS rf_f_M_odds_190 (rf_m0 _) fun x1 => (rf_s_bipush rf_f_M_odds_193 (rf_m0 _) (rf_s_iload_n rf_f_M_odds_195 rfl (rf_m0 _) (rf_s_imul rf_f_M_odds_196 (rf_m0 _) (rf_s_iload rf_f_M_odds_197 rfl (rf_m0 _) (rf_s_iadd rf_f_M_odds_199 (rf_m0 _) (rf_s_ialdR rf_f_M_odds_200 (rf_m0 _) fun k2 x3 => (rf_s_istore (L' := [some (.inr (.inr (some o))), some (.inl l1), some (.inl l2), some (.inl l3), none, some (.inr (.inl l5)), none, some (.inr (.inl l7)), none, some (.inl l9), some (.inl l10), some (.inl l11), some (.inr (.inl (rf_wl (s0 * s1)))), none, some (.inl l14), some (.inl l15), some (.inl x3)]) rf_f_M_odds_201 rfl (rf_s_aload_n rf_f_M_odds_203 rfl (rf_m0 _) (rf_s_iload rf_f_M_odds_204 rfl (rf_m0 _) (rf_s_invV0S rf_f_M_odds_206 rfl rfl (rf_m0 _) fun q5 x6 h4 => (rf_s_if_eq rf_f_M_odds_209 rfl (rf_m0 _) (rf_m0 _) (rf_s_iinc (L' := [some (.inr (.inr (some o))), some (.inl l1), some (.inl l2), some (.inl l3), none, some (.inr (.inl l5)), none, some (.inr (.inl l7)), none, some (.inl l9), some (.inl l10), some (.inl l11), some (.inr (.inl (rf_wl (s0 * s1)))), none, some (.inl (rf_w (l14 + 1))), some (.inl l15), some (.inl x3)]) rf_f_M_odds_221 rfl rfl (rf_s_goto rf_f_M_odds_224 rfl rfl rfl)) (rf_s_aload_n rf_f_M_odds_212 rfl (rf_m0 _) (rf_s_iload rf_f_M_odds_213 rfl (rf_m0 _) (rf_s_iload rf_f_M_odds_215 rfl (rf_m0 _) (rf_s_invV0S rf_f_M_odds_217 rfl rfl (rf_m0 _) fun q8 x9 h7 => (rf_s_popI rf_f_M_odds_220 (rf_m0 _) (rf_s_iinc (L' := [some (.inr (.inr (some o))), some (.inl l1), some (.inl l2), some (.inl l3), none, some (.inr (.inl l5)), none, some (.inr (.inl l7)), none, some (.inl l9), some (.inl l10), some (.inl l11), some (.inr (.inl (rf_wl (s0 * s1)))), none, some (.inl (rf_w (l14 + 1))), some (.inl l15), some (.inl x3)]) rf_f_M_odds_221 rfl rfl (rf_s_goto rf_f_M_odds_224 rfl rfl rfl)))))))))))))))))))))) : rf_den (rf_call d) rf_m_M_odds (186, [some (.inr (.inr (some o))), some (.inl l1), some (.inl l2), some (.inl l3), none, some (.inr (.inl l5)), none, some (.inr (.inl l7)), none, some (.inl l9), some (.inl l10), some (.inl l11), none, none, some (.inl l14), some (.inl l15), none], [.inr (.inl s1), .inr (.inl s0)], h) = _)
noncomputable def rf_j_M_divisor_6 (d : Nat) (l4 : Int) (l6 : Int) (h : rf_H) : Option rf_R := rf_den (rf_call d) rf_m_M_divisor (6, [none, none, none, none, some (.inr (.inl l4)), none, some (.inr (.inl l6)), none, none, none], [], h)
theorem rf_u_M_divisor : rf_mt 181 = rf_m_M_divisor := rfl
theorem rf_f_M_divisor_0 : rf_Fb rf_m_M_divisor 0 1 (.lload_n 0) 0 0 0 0 [] [] = true := by decide +kernel
theorem rf_f_M_divisor_1 : rf_Fb rf_m_M_divisor 1 3 (.lstore 4) 0 0 0 0 [] [] = true := by decide +kernel
theorem rf_f_M_divisor_3 : rf_Fb rf_m_M_divisor 3 4 (.lload_n 2) 0 0 0 0 [] [] = true := by decide +kernel
theorem rf_f_M_divisor_4 : rf_Fb rf_m_M_divisor 4 6 (.lstore 6) 0 0 0 0 [] [false, false, false, false, true, false, true, false, false, false] = true := by decide +kernel
theorem rf_f_M_divisor_6 : rf_Fb rf_m_M_divisor 6 8 (.lload 6) 0 0 0 0 [] [] = true := by decide +kernel
theorem rf_f_M_divisor_8 : rf_Fb rf_m_M_divisor 8 9 (.lconst 0) 0 0 0 0 [] [] = true := by decide +kernel
theorem rf_f_M_divisor_9 : rf_Fb rf_m_M_divisor 9 10 (.lcmp) 0 0 0 0 [] [] = true := by decide +kernel
theorem rf_f_M_divisor_10 : rf_Fb rf_m_M_divisor 10 13 (.ifCond .eq 21) 31 0 0 0 [] [] = true := by decide +kernel
theorem rf_f_M_divisor_13 : rf_Fb rf_m_M_divisor 13 15 (.lload 4) 0 0 0 0 [] [] = true := by decide +kernel
theorem rf_f_M_divisor_15 : rf_Fb rf_m_M_divisor 15 17 (.lload 6) 0 0 0 0 [] [] = true := by decide +kernel
theorem rf_f_M_divisor_17 : rf_Fb rf_m_M_divisor 17 18 (.lrem) 0 0 0 0 [] [] = true := by decide +kernel
theorem rf_f_M_divisor_18 : rf_Fb rf_m_M_divisor 18 20 (.lstore 8) 0 0 0 0 [] [] = true := by decide +kernel
theorem rf_f_M_divisor_20 : rf_Fb rf_m_M_divisor 20 22 (.lload 6) 0 0 0 0 [] [] = true := by decide +kernel
theorem rf_f_M_divisor_22 : rf_Fb rf_m_M_divisor 22 24 (.lstore 4) 0 0 0 0 [] [] = true := by decide +kernel
theorem rf_f_M_divisor_24 : rf_Fb rf_m_M_divisor 24 26 (.lload 8) 0 0 0 0 [] [] = true := by decide +kernel
theorem rf_f_M_divisor_26 : rf_Fb rf_m_M_divisor 26 28 (.lstore 6) 0 0 0 0 [] [] = true := by decide +kernel
theorem rf_f_M_divisor_28 : rf_Fb rf_m_M_divisor 28 31 (.goto (-22)) 6 0 0 0 [] [] = true := by decide +kernel
theorem rf_f_M_divisor_31 : rf_Fb rf_m_M_divisor 31 33 (.lload 4) 0 0 0 0 [] [] = true := by decide +kernel
theorem rf_f_M_divisor_33 : rf_Fb rf_m_M_divisor 33 34 (.lreturn) 0 0 0 0 [] [] = true := by decide +kernel
set_option maxRecDepth 20000 in
set_option maxHeartbeats 2000000 in
theorem rf_e_M_divisor (d : Nat) (a1 : Int) (a2 : Int) (h : rf_H) : rf_call (d + 1) 181 [.inr (.inl a1), .inr (.inl a2)] h = rf_j_M_divisor_6 d a1 a2 h := by
  show rf_den (rf_call d) (rf_mt 181) _ = _
  rw [rf_u_M_divisor]
  exact ((rf_s_lload_n rf_f_M_divisor_0 rfl (rf_m0 _) (rf_s_lstore (L' := [some (.inr (.inl a1)), none, some (.inr (.inl a2)), none, some (.inr (.inl a1)), none, none, none, none, none]) rf_f_M_divisor_1 rfl (rf_s_lload_n rf_f_M_divisor_3 rfl (rf_m0 _) (rf_s_lstore rf_f_M_divisor_4 rfl rfl)))) : rf_den (rf_call d) rf_m_M_divisor (0, [some (.inr (.inl a1)), none, some (.inr (.inl a2)), none, none, none, none, none, none, none], [], h) = _)
set_option maxRecDepth 20000 in
set_option maxHeartbeats 2000000 in
theorem rf_e_M_divisor_6 (d : Nat) (l4 : Int) (l6 : Int) (h : rf_H) : rf_j_M_divisor_6 d l4 l6 h = (if (rf_cmp l6 0) = 0 then some (some (.inr (.inl l4)), h) else (if l6 = 0 then none else rf_j_M_divisor_6 d l6 (Int.tmod l4 l6) h)) :=
  ((rf_s_lload rf_f_M_divisor_6 rfl (rf_m0 _) (rf_s_lconst rf_f_M_divisor_8 (rf_m0 _) (rf_s_lcmp rf_f_M_divisor_9 (rf_m0 _) (rf_s_if_eq rf_f_M_divisor_10 rfl (rf_m0 _) (rf_m0 _) (rf_s_lload rf_f_M_divisor_31 rfl (rf_m0 _) (rf_s_lret rf_f_M_divisor_33)) (rf_s_lload rf_f_M_divisor_13 rfl (rf_m0 _) (rf_s_lload rf_f_M_divisor_15 rfl (rf_m0 _) (rf_s_lremZ rf_f_M_divisor_17 (rf_m0 _) (rf_s_lstore (L' := [none, none, none, none, some (.inr (.inl l4)), none, some (.inr (.inl l6)), none, some (.inr (.inl (Int.tmod l4 l6))), none]) rf_f_M_divisor_18 rfl (rf_s_lload rf_f_M_divisor_20 rfl (rf_m0 _) (rf_s_lstore (L' := [none, none, none, none, some (.inr (.inl l6)), none, some (.inr (.inl l6)), none, some (.inr (.inl (Int.tmod l4 l6))), none]) rf_f_M_divisor_22 rfl (rf_s_lload rf_f_M_divisor_24 rfl (rf_m0 _) (rf_s_lstore (L' := [none, none, none, none, some (.inr (.inl l6)), none, some (.inr (.inl (Int.tmod l4 l6))), none, some (.inr (.inl (Int.tmod l4 l6))), none]) rf_f_M_divisor_26 rfl (rf_s_goto rf_f_M_divisor_28 rfl rfl rfl))))))))))))) : rf_den (rf_call d) rf_m_M_divisor (6, [none, none, none, none, some (.inr (.inl l4)), none, some (.inr (.inl l6)), none, none, none], [], h) = _)
noncomputable def rf_j_M_weights_30 (d : Nat) (o : Nat) (l1 : Int) (l3 : Int) (l4 : Int) (h : rf_H) : Option rf_R := rf_den (rf_call d) rf_m_M_weights (30, [some (.inr (.inr (some o))), some (.inl l1), none, some (.inl l3), some (.inl l4), none, none], [], h)
noncomputable def rf_j_M_weights_43 (d : Nat) (o : Nat) (l1 : Int) (l3 : Int) (l4 : Int) (l5 : Int) (l6 : Int) (h : rf_H) : Option rf_R := rf_den (rf_call d) rf_m_M_weights (43, [some (.inr (.inr (some o))), some (.inl l1), none, some (.inl l3), some (.inl l4), some (.inl l5), some (.inl l6)], [], h)
theorem rf_u_M_weights : rf_mt 182 = rf_m_M_weights := rfl
theorem rf_f_M_weights_0 : rf_Fb rf_m_M_weights 0 1 (.iload_n 1) 0 0 0 0 [] [] = true := by decide +kernel
theorem rf_f_M_weights_1 : rf_Fb rf_m_M_weights 1 4 (.invokestatic 69) 117 1 0 0 [] [] = true := by decide +kernel
theorem rf_f_M_weights_4 : rf_Fb rf_m_M_weights 4 7 (.ifCond .ne 5) 9 0 0 0 [] [] = true := by decide +kernel
theorem rf_f_M_weights_7 : rf_Fb rf_m_M_weights 7 8 (.iconst (-1)) 0 0 0 0 [] [] = true := by decide +kernel
theorem rf_f_M_weights_8 : rf_Fb rf_m_M_weights 8 9 (.ireturn) 0 0 0 0 [] [] = true := by decide +kernel
theorem rf_f_M_weights_9 : rf_Fb rf_m_M_weights 9 10 (.aload_n 0) 0 0 0 0 [] [] = true := by decide +kernel
theorem rf_f_M_weights_10 : rf_Fb rf_m_M_weights 10 11 (.iload_n 1) 0 0 0 0 [] [] = true := by decide +kernel
theorem rf_f_M_weights_11 : rf_Fb rf_m_M_weights 11 14 (.invokevirtual 220) 183 1 0 5 [] [] = true := by decide +kernel
theorem rf_f_M_weights_14 : rf_Fb rf_m_M_weights 14 15 (.istore_n 2) 0 0 0 0 [] [] = true := by decide +kernel
theorem rf_f_M_weights_15 : rf_Fb rf_m_M_weights 15 16 (.iload_n 2) 0 0 0 0 [] [] = true := by decide +kernel
theorem rf_f_M_weights_16 : rf_Fb rf_m_M_weights 16 19 (.ifCond .le 9) 25 0 0 0 [] [] = true := by decide +kernel
theorem rf_f_M_weights_19 : rf_Fb rf_m_M_weights 19 20 (.aload_n 0) 0 0 0 0 [] [] = true := by decide +kernel
theorem rf_f_M_weights_20 : rf_Fb rf_m_M_weights 20 21 (.iload_n 2) 0 0 0 0 [] [] = true := by decide +kernel
theorem rf_f_M_weights_21 : rf_Fb rf_m_M_weights 21 24 (.invokevirtual 73) 119 1 0 5 [] [] = true := by decide +kernel
theorem rf_f_M_weights_24 : rf_Fb rf_m_M_weights 24 25 (.ireturn) 0 0 0 0 [] [] = true := by decide +kernel
theorem rf_f_M_weights_25 : rf_Fb rf_m_M_weights 25 26 (.iconst 0) 0 0 0 0 [] [] = true := by decide +kernel
theorem rf_f_M_weights_26 : rf_Fb rf_m_M_weights 26 27 (.istore_n 3) 0 0 0 0 [] [] = true := by decide +kernel
theorem rf_f_M_weights_27 : rf_Fb rf_m_M_weights 27 28 (.iconst 1) 0 0 0 0 [] [] = true := by decide +kernel
theorem rf_f_M_weights_28 : rf_Fb rf_m_M_weights 28 30 (.istore 4) 0 0 0 0 [] [true, true, false, true, true, false, false] = true := by decide +kernel
theorem rf_f_M_weights_30 : rf_Fb rf_m_M_weights 30 32 (.iload 4) 0 0 0 0 [] [] = true := by decide +kernel
theorem rf_f_M_weights_32 : rf_Fb rf_m_M_weights 32 34 (.bipush 10) 0 0 0 0 [] [] = true := by decide +kernel
theorem rf_f_M_weights_34 : rf_Fb rf_m_M_weights 34 37 (.if_icmp .ge 76) 110 0 0 0 [] [] = true := by decide +kernel
theorem rf_f_M_weights_37 : rf_Fb rf_m_M_weights 37 38 (.iconst 1) 0 0 0 0 [] [] = true := by decide +kernel
theorem rf_f_M_weights_38 : rf_Fb rf_m_M_weights 38 40 (.istore 5) 0 0 0 0 [] [] = true := by decide +kernel
theorem rf_f_M_weights_40 : rf_Fb rf_m_M_weights 40 41 (.iconst 0) 0 0 0 0 [] [] = true := by decide +kernel
theorem rf_f_M_weights_41 : rf_Fb rf_m_M_weights 41 43 (.istore 6) 0 0 0 0 [] [true, true, false, true, true, true, true] = true := by decide +kernel
theorem rf_f_M_weights_43 : rf_Fb rf_m_M_weights 43 45 (.iload 6) 0 0 0 0 [] [] = true := by decide +kernel
theorem rf_f_M_weights_45 : rf_Fb rf_m_M_weights 45 46 (.aload_n 0) 0 0 0 0 [] [] = true := by decide +kernel
theorem rf_f_M_weights_46 : rf_Fb rf_m_M_weights 46 49 (.getfield 7) 5 0 2 0 [] [] = true := by decide +kernel
theorem rf_f_M_weights_49 : rf_Fb rf_m_M_weights 49 50 (.iload_n 1) 0 0 0 0 [] [] = true := by decide +kernel
theorem rf_f_M_weights_50 : rf_Fb rf_m_M_weights 50 51 (.iaload) 0 0 0 0 [] [] = true := by decide +kernel
theorem rf_f_M_weights_51 : rf_Fb rf_m_M_weights 51 54 (.if_icmp .ge 37) 88 0 0 0 [] [] = true := by decide +kernel
theorem rf_f_M_weights_54 : rf_Fb rf_m_M_weights 54 56 (.iload 5) 0 0 0 0 [] [] = true := by decide +kernel
theorem rf_f_M_weights_56 : rf_Fb rf_m_M_weights 56 59 (.ifCond .eq 23) 79 0 0 0 [] [] = true := by decide +kernel
theorem rf_f_M_weights_59 : rf_Fb rf_m_M_weights 59 60 (.aload_n 0) 0 0 0 0 [] [] = true := by decide +kernel
theorem rf_f_M_weights_60 : rf_Fb rf_m_M_weights 60 62 (.bipush 40) 0 0 0 0 [] [] = true := by decide +kernel
theorem rf_f_M_weights_62 : rf_Fb rf_m_M_weights 62 63 (.iload_n 1) 0 0 0 0 [] [] = true := by decide +kernel
theorem rf_f_M_weights_63 : rf_Fb rf_m_M_weights 63 64 (.imul) 0 0 0 0 [] [] = true := by decide +kernel
theorem rf_f_M_weights_64 : rf_Fb rf_m_M_weights 64 66 (.iload 6) 0 0 0 0 [] [] = true := by decide +kernel
theorem rf_f_M_weights_66 : rf_Fb rf_m_M_weights 66 67 (.iadd) 0 0 0 0 [] [] = true := by decide +kernel
theorem rf_f_M_weights_67 : rf_Fb rf_m_M_weights 67 69 (.iload 4) 0 0 0 0 [] [] = true := by decide +kernel
theorem rf_f_M_weights_69 : rf_Fb rf_m_M_weights 69 72 (.invokevirtual 223) 184 2 0 5 [] [] = true := by decide +kernel
theorem rf_f_M_weights_72 : rf_Fb rf_m_M_weights 72 75 (.ifCond .ne 7) 79 0 0 0 [] [] = true := by decide +kernel
theorem rf_f_M_weights_75 : rf_Fb rf_m_M_weights 75 76 (.iconst 1) 0 0 0 0 [] [] = true := by decide +kernel
theorem rf_f_M_weights_76 : rf_Fb rf_m_M_weights 76 79 (.goto 4) 80 0 0 0 [] [] = true := by decide +kernel
theorem rf_f_M_weights_79 : rf_Fb rf_m_M_weights 79 80 (.iconst 0) 0 0 0 0 [] [] = true := by decide +kernel
theorem rf_f_M_weights_80 : rf_Fb rf_m_M_weights 80 82 (.istore 5) 0 0 0 0 [] [] = true := by decide +kernel
theorem rf_f_M_weights_82 : rf_Fb rf_m_M_weights 82 85 (.iinc 6 3) 0 0 0 0 [] [] = true := by decide +kernel
theorem rf_f_M_weights_85 : rf_Fb rf_m_M_weights 85 88 (.goto (-42)) 43 0 0 0 [] [] = true := by decide +kernel
theorem rf_f_M_weights_88 : rf_Fb rf_m_M_weights 88 89 (.iload_n 3) 0 0 0 0 [] [] = true := by decide +kernel
theorem rf_f_M_weights_89 : rf_Fb rf_m_M_weights 89 91 (.iload 5) 0 0 0 0 [] [] = true := by decide +kernel
theorem rf_f_M_weights_91 : rf_Fb rf_m_M_weights 91 94 (.ifCond .eq 10) 101 0 0 0 [] [] = true := by decide +kernel
theorem rf_f_M_weights_94 : rf_Fb rf_m_M_weights 94 95 (.iconst 1) 0 0 0 0 [] [] = true := by decide +kernel
theorem rf_f_M_weights_95 : rf_Fb rf_m_M_weights 95 97 (.iload 4) 0 0 0 0 [] [] = true := by decide +kernel
theorem rf_f_M_weights_97 : rf_Fb rf_m_M_weights 97 98 (.ishl) 0 0 0 0 [] [] = true := by decide +kernel
theorem rf_f_M_weights_98 : rf_Fb rf_m_M_weights 98 101 (.goto 4) 102 0 0 0 [] [] = true := by decide +kernel
theorem rf_f_M_weights_101 : rf_Fb rf_m_M_weights 101 102 (.iconst 0) 0 0 0 0 [] [] = true := by decide +kernel
theorem rf_f_M_weights_102 : rf_Fb rf_m_M_weights 102 103 (.ior) 0 0 0 0 [] [] = true := by decide +kernel
theorem rf_f_M_weights_103 : rf_Fb rf_m_M_weights 103 104 (.istore_n 3) 0 0 0 0 [] [] = true := by decide +kernel
theorem rf_f_M_weights_104 : rf_Fb rf_m_M_weights 104 107 (.iinc 4 1) 0 0 0 0 [] [] = true := by decide +kernel
theorem rf_f_M_weights_107 : rf_Fb rf_m_M_weights 107 110 (.goto (-77)) 30 0 0 0 [] [] = true := by decide +kernel
theorem rf_f_M_weights_110 : rf_Fb rf_m_M_weights 110 111 (.iload_n 3) 0 0 0 0 [] [] = true := by decide +kernel
theorem rf_f_M_weights_111 : rf_Fb rf_m_M_weights 111 112 (.ireturn) 0 0 0 0 [] [] = true := by decide +kernel
set_option maxRecDepth 20000 in
set_option maxHeartbeats 2000000 in
theorem rf_e_M_weights (d : Nat) (o : Nat) (a1 : Int) (h : rf_H) : rf_call (d + 1) 182 [.inr (.inr (some o)), .inl a1] h = ((rf_call d 117 [.inl a1] h).bind fun q2 => rf_kI q2 fun x3 h1 => (if x3 = 0 then some (some (.inl (-1)), h1) else (bif rf_isO h1.1 o 5 then ((rf_call d 183 [.inr (.inr (some o)), .inl a1] h1).bind fun q5 => rf_kI q5 fun x6 h4 => (if 0 < x6 then (bif rf_isO h4.1 o 5 then ((rf_call d 119 [.inr (.inr (some o)), .inl x6] h4).bind fun q8 => rf_kI q8 fun x9 h7 => some (some (.inl x9), h7)) else none) else rf_j_M_weights_30 d o a1 0 1 h4)) else none))) := by
  show rf_den (rf_call d) (rf_mt 182) _ = _
  rw [rf_u_M_weights]
  exact ((rf_s_iload_n rf_f_M_weights_0 rfl (rf_m0 _) (rf_s_invS0 rf_f_M_weights_1 rfl rfl (rf_m0 _) fun q2 x3 h1 => (rf_s_if_ne rf_f_M_weights_4 rfl (rf_m0 _) (rf_m0 _) (rf_s_aload_n rf_f_M_weights_9 rfl (rf_m0 _) (rf_s_iload_n rf_f_M_weights_10 rfl (rf_m0 _) (rf_s_invV0S rf_f_M_weights_11 rfl rfl (rf_m0 _) fun q5 x6 h4 => (rf_s_istore_n (L' := [some (.inr (.inr (some o))), some (.inl a1), some (.inl x6), none, none, none, none]) rf_f_M_weights_14 rfl (rf_s_iload_n rf_f_M_weights_15 rfl (rf_m0 _) (rf_s_if_le rf_f_M_weights_16 rfl (rf_m0 _) (rf_m0 _) (rf_s_iconst rf_f_M_weights_25 (rf_m0 _) (rf_s_istore_n (L' := [some (.inr (.inr (some o))), some (.inl a1), some (.inl x6), some (.inl 0), none, none, none]) rf_f_M_weights_26 rfl (rf_s_iconst rf_f_M_weights_27 (rf_m0 _) (rf_s_istore rf_f_M_weights_28 rfl rfl)))) (rf_s_aload_n rf_f_M_weights_19 rfl (rf_m0 _) (rf_s_iload_n rf_f_M_weights_20 rfl (rf_m0 _) (rf_s_invV0S rf_f_M_weights_21 rfl rfl (rf_m0 _) fun q8 x9 h7 => (rf_s_iret rf_f_M_weights_24)))))))))) (rf_s_iconst rf_f_M_weights_7 (rf_m0 _) (rf_s_iret rf_f_M_weights_8))))) : rf_den (rf_call d) rf_m_M_weights (0, [some (.inr (.inr (some o))), some (.inl a1), none, none, none, none, none], [], h) = _)
set_option maxRecDepth 20000 in
set_option maxHeartbeats 2000000 in
theorem rf_e_M_weights_30 (d : Nat) (o : Nat) (l1 : Int) (l3 : Int) (l4 : Int) (h : rf_H) : rf_j_M_weights_30 d o l1 l3 l4 h = (if l4 < 10 then rf_j_M_weights_43 d o l1 l3 l4 1 0 h else some (some (.inl l3), h)) :=
  ((rf_s_iload rf_f_M_weights_30 rfl (rf_m0 _) (rf_s_bipush rf_f_M_weights_32 (rf_m0 _) (rf_s_icmp_ge rf_f_M_weights_34 rfl (rf_m0 _) (rf_m0 _) (rf_s_iload_n rf_f_M_weights_110 rfl (rf_m0 _) (rf_s_iret rf_f_M_weights_111)) (rf_s_iconst rf_f_M_weights_37 (rf_m0 _) (rf_s_istore (L' := [some (.inr (.inr (some o))), some (.inl l1), none, some (.inl l3), some (.inl l4), some (.inl 1), none]) rf_f_M_weights_38 rfl (rf_s_iconst rf_f_M_weights_40 (rf_m0 _) (rf_s_istore rf_f_M_weights_41 rfl rfl))))))) : rf_den (rf_call d) rf_m_M_weights (30, [some (.inr (.inr (some o))), some (.inl l1), none, some (.inl l3), some (.inl l4), none, none], [], h) = _)
set_option maxRecDepth 20000 in
set_option maxHeartbeats 2000000 in
theorem rf_e_M_weights_43 (d : Nat) (o : Nat) (l1 : Int) (l3 : Int) (l4 : Int) (l5 : Int) (l6 : Int) (h : rf_H) : rf_j_M_weights_43 d o l1 l3 l4 l5 l6 h = ((rf_gR h 5 o 0).bind fun x1 => (rf_nn x1 fun k2 => ((rf_aI h k2 l1).bind fun x3 => (if l6 < x3 then (if l5 = 0 then rf_j_M_weights_43 d o l1 l3 l4 0 (rf_w (l6 + 3)) h else (bif rf_isO h.1 o 5 then ((rf_call d 184 [.inr (.inr (some o)), .inl (rf_w ((rf_w (40 * l1)) + l6)), .inl l4] h).bind fun q5 => rf_kI q5 fun x6 h4 => (if x6 = 0 then rf_j_M_weights_43 d o l1 l3 l4 1 (rf_w (l6 + 3)) h4 else rf_j_M_weights_43 d o l1 l3 l4 0 (rf_w (l6 + 3)) h4)) else none)) else (if l5 = 0 then rf_j_M_weights_30 d o l1 (rf_or l3 0) (rf_w (l4 + 1)) h else rf_j_M_weights_30 d o l1 (rf_or l3 (rf_shl 1 l4)) (rf_w (l4 + 1)) h))))) :=
  ((rf_s_iload rf_f_M_weights_43 rfl (rf_m0 _) (rf_s_aload_n rf_f_M_weights_45 rfl (rf_m0 _) (rf_s_getAS rf_f_M_weights_46 (rf_m0 _) fun x1 => (rf_s_iload_n rf_f_M_weights_49 rfl (rf_m0 _) (rf_s_ialdR rf_f_M_weights_50 (rf_m0 _) fun k2 x3 => (rf_s_icmp_ge rf_f_M_weights_51 rfl (rf_m0 _) (rf_m0 _) (rf_s_iload_n rf_f_M_weights_88 rfl (rf_m0 _) (rf_s_iload rf_f_M_weights_89 rfl (rf_m0 _) (rf_s_if_eq rf_f_M_weights_91 rfl (rf_m0 _) (rf_m0 _) (rf_s_iconst rf_f_M_weights_101 (rf_m0 _) (rf_s_ior rf_f_M_weights_102 (rf_m0 _) (rf_s_istore_n (L' := [some (.inr (.inr (some o))), some (.inl l1), none, some (.inl (rf_or l3 0)), some (.inl l4), some (.inl l5), some (.inl l6)]) rf_f_M_weights_103 rfl (rf_s_iinc (L' := [some (.inr (.inr (some o))), some (.inl l1), none, some (.inl (rf_or l3 0)), some (.inl (rf_w (l4 + 1))), some (.inl l5), some (.inl l6)]) rf_f_M_weights_104 rfl rfl (rf_s_goto rf_f_M_weights_107 rfl rfl rfl))))) (rf_s_iconst rf_f_M_weights_94 (rf_m0 _) (rf_s_iload rf_f_M_weights_95 rfl (rf_m0 _) (rf_s_ishl rf_f_M_weights_97 (rf_m0 _) (rf_s_goto rf_f_M_weights_98 rfl (rf_m0 _) (rf_s_ior rf_f_M_weights_102 (rf_m0 _) (rf_s_istore_n (L' := [some (.inr (.inr (some o))), some (.inl l1), none, some (.inl (rf_or l3 (rf_shl 1 l4))), some (.inl l4), some (.inl l5), some (.inl l6)]) rf_f_M_weights_103 rfl (rf_s_iinc (L' := [some (.inr (.inr (some o))), some (.inl l1), none, some (.inl (rf_or l3 (rf_shl 1 l4))), some (.inl (rf_w (l4 + 1))), some (.inl l5), some (.inl l6)]) rf_f_M_weights_104 rfl rfl (rf_s_goto rf_f_M_weights_107 rfl rfl rfl))))))))))) (rf_s_iload rf_f_M_weights_54 rfl (rf_m0 _) (rf_s_if_eq rf_f_M_weights_56 rfl (rf_m0 _) (rf_m0 _) (rf_s_iconst rf_f_M_weights_79 (rf_m0 _) (rf_s_istore (L' := [some (.inr (.inr (some o))), some (.inl l1), none, some (.inl l3), some (.inl l4), some (.inl 0), some (.inl l6)]) rf_f_M_weights_80 rfl (rf_s_iinc (L' := [some (.inr (.inr (some o))), some (.inl l1), none, some (.inl l3), some (.inl l4), some (.inl 0), some (.inl (rf_w (l6 + 3)))]) rf_f_M_weights_82 rfl rfl (rf_s_goto rf_f_M_weights_85 rfl rfl rfl)))) (rf_s_aload_n rf_f_M_weights_59 rfl (rf_m0 _) (rf_s_bipush rf_f_M_weights_60 (rf_m0 _) (rf_s_iload_n rf_f_M_weights_62 rfl (rf_m0 _) (rf_s_imul rf_f_M_weights_63 (rf_m0 _) (rf_s_iload rf_f_M_weights_64 rfl (rf_m0 _) (rf_s_iadd rf_f_M_weights_66 (rf_m0 _) (rf_s_iload rf_f_M_weights_67 rfl (rf_m0 _) (rf_s_invV0S rf_f_M_weights_69 rfl rfl (rf_m0 _) fun q5 x6 h4 => (rf_s_if_ne rf_f_M_weights_72 rfl (rf_m0 _) (rf_m0 _) (rf_s_iconst rf_f_M_weights_79 (rf_m0 _) (rf_s_istore (L' := [some (.inr (.inr (some o))), some (.inl l1), none, some (.inl l3), some (.inl l4), some (.inl 0), some (.inl l6)]) rf_f_M_weights_80 rfl (rf_s_iinc (L' := [some (.inr (.inr (some o))), some (.inl l1), none, some (.inl l3), some (.inl l4), some (.inl 0), some (.inl (rf_w (l6 + 3)))]) rf_f_M_weights_82 rfl rfl (rf_s_goto rf_f_M_weights_85 rfl rfl rfl)))) (rf_s_iconst rf_f_M_weights_75 (rf_m0 _) (rf_s_goto rf_f_M_weights_76 rfl (rf_m0 _) (rf_s_istore (L' := [some (.inr (.inr (some o))), some (.inl l1), none, some (.inl l3), some (.inl l4), some (.inl 1), some (.inl l6)]) rf_f_M_weights_80 rfl (rf_s_iinc (L' := [some (.inr (.inr (some o))), some (.inl l1), none, some (.inl l3), some (.inl l4), some (.inl 1), some (.inl (rf_w (l6 + 3)))]) rf_f_M_weights_82 rfl rfl (rf_s_goto rf_f_M_weights_85 rfl rfl rfl)))))))))))))))))))))) : rf_den (rf_call d) rf_m_M_weights (43, [some (.inr (.inr (some o))), some (.inl l1), none, some (.inl l3), some (.inl l4), some (.inl l5), some (.inl l6)], [], h) = _)
noncomputable def rf_j_M_isBook_28 (d : Nat) (o : Nat) (l1 : Int) (l2 : Int) (l3 : Int) (h : rf_H) : Option rf_R := rf_den (rf_call d) rf_m_M_isBook (28, [some (.inr (.inr (some o))), some (.inl l1), some (.inl l2), some (.inl l3), none], [], h)
theorem rf_u_M_isBook : rf_mt 183 = rf_m_M_isBook := rfl
theorem rf_f_M_isBook_0 : rf_Fb rf_m_M_isBook 0 1 (.aload_n 0) 0 0 0 0 [] [] = true := by decide +kernel
theorem rf_f_M_isBook_1 : rf_Fb rf_m_M_isBook 1 4 (.getfield 7) 5 0 2 0 [] [] = true := by decide +kernel
theorem rf_f_M_isBook_4 : rf_Fb rf_m_M_isBook 4 5 (.iload_n 1) 0 0 0 0 [] [] = true := by decide +kernel
theorem rf_f_M_isBook_5 : rf_Fb rf_m_M_isBook 5 6 (.iaload) 0 0 0 0 [] [] = true := by decide +kernel
theorem rf_f_M_isBook_6 : rf_Fb rf_m_M_isBook 6 9 (.ifCond .ge 5) 11 0 0 0 [] [] = true := by decide +kernel
theorem rf_f_M_isBook_9 : rf_Fb rf_m_M_isBook 9 10 (.iconst 1) 0 0 0 0 [] [] = true := by decide +kernel
theorem rf_f_M_isBook_10 : rf_Fb rf_m_M_isBook 10 11 (.ireturn) 0 0 0 0 [] [] = true := by decide +kernel
theorem rf_f_M_isBook_11 : rf_Fb rf_m_M_isBook 11 12 (.aload_n 0) 0 0 0 0 [] [] = true := by decide +kernel
theorem rf_f_M_isBook_12 : rf_Fb rf_m_M_isBook 12 15 (.getfield 7) 5 0 2 0 [] [] = true := by decide +kernel
theorem rf_f_M_isBook_15 : rf_Fb rf_m_M_isBook 15 16 (.iload_n 1) 0 0 0 0 [] [] = true := by decide +kernel
theorem rf_f_M_isBook_16 : rf_Fb rf_m_M_isBook 16 17 (.iaload) 0 0 0 0 [] [] = true := by decide +kernel
theorem rf_f_M_isBook_17 : rf_Fb rf_m_M_isBook 17 18 (.iconst 3) 0 0 0 0 [] [] = true := by decide +kernel
theorem rf_f_M_isBook_18 : rf_Fb rf_m_M_isBook 18 19 (.irem) 0 0 0 0 [] [] = true := by decide +kernel
theorem rf_f_M_isBook_19 : rf_Fb rf_m_M_isBook 19 22 (.ifCond .eq 5) 24 0 0 0 [] [] = true := by decide +kernel
theorem rf_f_M_isBook_22 : rf_Fb rf_m_M_isBook 22 23 (.iconst 5) 0 0 0 0 [] [] = true := by decide +kernel
theorem rf_f_M_isBook_23 : rf_Fb rf_m_M_isBook 23 24 (.ireturn) 0 0 0 0 [] [] = true := by decide +kernel
theorem rf_f_M_isBook_24 : rf_Fb rf_m_M_isBook 24 25 (.iconst 1) 0 0 0 0 [] [] = true := by decide +kernel
theorem rf_f_M_isBook_25 : rf_Fb rf_m_M_isBook 25 26 (.istore_n 2) 0 0 0 0 [] [] = true := by decide +kernel
theorem rf_f_M_isBook_26 : rf_Fb rf_m_M_isBook 26 27 (.iconst 0) 0 0 0 0 [] [] = true := by decide +kernel
theorem rf_f_M_isBook_27 : rf_Fb rf_m_M_isBook 27 28 (.istore_n 3) 0 0 0 0 [] [true, true, true, true, false] = true := by decide +kernel
theorem rf_f_M_isBook_28 : rf_Fb rf_m_M_isBook 28 29 (.iload_n 3) 0 0 0 0 [] [] = true := by decide +kernel
theorem rf_f_M_isBook_29 : rf_Fb rf_m_M_isBook 29 30 (.aload_n 0) 0 0 0 0 [] [] = true := by decide +kernel
theorem rf_f_M_isBook_30 : rf_Fb rf_m_M_isBook 30 33 (.getfield 7) 5 0 2 0 [] [] = true := by decide +kernel
theorem rf_f_M_isBook_33 : rf_Fb rf_m_M_isBook 33 34 (.iload_n 1) 0 0 0 0 [] [] = true := by decide +kernel
theorem rf_f_M_isBook_34 : rf_Fb rf_m_M_isBook 34 35 (.iaload) 0 0 0 0 [] [] = true := by decide +kernel
theorem rf_f_M_isBook_35 : rf_Fb rf_m_M_isBook 35 38 (.if_icmp .ge 83) 118 0 0 0 [] [] = true := by decide +kernel
theorem rf_f_M_isBook_38 : rf_Fb rf_m_M_isBook 38 40 (.bipush 40) 0 0 0 0 [] [] = true := by decide +kernel
theorem rf_f_M_isBook_40 : rf_Fb rf_m_M_isBook 40 41 (.iload_n 1) 0 0 0 0 [] [] = true := by decide +kernel
theorem rf_f_M_isBook_41 : rf_Fb rf_m_M_isBook 41 42 (.imul) 0 0 0 0 [] [] = true := by decide +kernel
theorem rf_f_M_isBook_42 : rf_Fb rf_m_M_isBook 42 43 (.iload_n 3) 0 0 0 0 [] [] = true := by decide +kernel
theorem rf_f_M_isBook_43 : rf_Fb rf_m_M_isBook 43 44 (.iadd) 0 0 0 0 [] [] = true := by decide +kernel
theorem rf_f_M_isBook_44 : rf_Fb rf_m_M_isBook 44 46 (.istore 4) 0 0 0 0 [] [] = true := by decide +kernel
theorem rf_f_M_isBook_46 : rf_Fb rf_m_M_isBook 46 47 (.iload_n 2) 0 0 0 0 [] [] = true := by decide +kernel
theorem rf_f_M_isBook_47 : rf_Fb rf_m_M_isBook 47 50 (.ifCond .eq 63) 110 0 0 0 [] [] = true := by decide +kernel
theorem rf_f_M_isBook_50 : rf_Fb rf_m_M_isBook 50 51 (.aload_n 0) 0 0 0 0 [] [] = true := by decide +kernel
theorem rf_f_M_isBook_51 : rf_Fb rf_m_M_isBook 51 54 (.getfield 13) 5 1 2 0 [] [] = true := by decide +kernel
theorem rf_f_M_isBook_54 : rf_Fb rf_m_M_isBook 54 56 (.iload 4) 0 0 0 0 [] [] = true := by decide +kernel
theorem rf_f_M_isBook_56 : rf_Fb rf_m_M_isBook 56 57 (.iaload) 0 0 0 0 [] [] = true := by decide +kernel
theorem rf_f_M_isBook_57 : rf_Fb rf_m_M_isBook 57 58 (.i2l) 0 0 0 0 [] [] = true := by decide +kernel
theorem rf_f_M_isBook_58 : rf_Fb rf_m_M_isBook 58 59 (.lconst 0) 0 0 0 0 [] [] = true := by decide +kernel
theorem rf_f_M_isBook_59 : rf_Fb rf_m_M_isBook 59 62 (.ldc2_w 175) 0 0 0 2 [] [] = true := by decide +kernel
theorem rf_f_M_isBook_62 : rf_Fb rf_m_M_isBook 62 65 (.invokestatic 63) 118 3 0 0 [] [] = true := by decide +kernel
theorem rf_f_M_isBook_65 : rf_Fb rf_m_M_isBook 65 68 (.ifCond .eq 45) 110 0 0 0 [] [] = true := by decide +kernel
theorem rf_f_M_isBook_68 : rf_Fb rf_m_M_isBook 68 69 (.aload_n 0) 0 0 0 0 [] [] = true := by decide +kernel
theorem rf_f_M_isBook_69 : rf_Fb rf_m_M_isBook 69 72 (.getfield 13) 5 1 2 0 [] [] = true := by decide +kernel
theorem rf_f_M_isBook_72 : rf_Fb rf_m_M_isBook 72 74 (.iload 4) 0 0 0 0 [] [] = true := by decide +kernel
theorem rf_f_M_isBook_74 : rf_Fb rf_m_M_isBook 74 75 (.iconst 1) 0 0 0 0 [] [] = true := by decide +kernel
theorem rf_f_M_isBook_75 : rf_Fb rf_m_M_isBook 75 76 (.iadd) 0 0 0 0 [] [] = true := by decide +kernel
theorem rf_f_M_isBook_76 : rf_Fb rf_m_M_isBook 76 77 (.iaload) 0 0 0 0 [] [] = true := by decide +kernel
theorem rf_f_M_isBook_77 : rf_Fb rf_m_M_isBook 77 78 (.i2l) 0 0 0 0 [] [] = true := by decide +kernel
theorem rf_f_M_isBook_78 : rf_Fb rf_m_M_isBook 78 79 (.lconst 0) 0 0 0 0 [] [] = true := by decide +kernel
theorem rf_f_M_isBook_79 : rf_Fb rf_m_M_isBook 79 82 (.ldc2_w 165) 0 0 0 9 [] [] = true := by decide +kernel
theorem rf_f_M_isBook_82 : rf_Fb rf_m_M_isBook 82 85 (.invokestatic 63) 118 3 0 0 [] [] = true := by decide +kernel
theorem rf_f_M_isBook_85 : rf_Fb rf_m_M_isBook 85 88 (.ifCond .eq 25) 110 0 0 0 [] [] = true := by decide +kernel
theorem rf_f_M_isBook_88 : rf_Fb rf_m_M_isBook 88 89 (.aload_n 0) 0 0 0 0 [] [] = true := by decide +kernel
theorem rf_f_M_isBook_89 : rf_Fb rf_m_M_isBook 89 92 (.getfield 13) 5 1 2 0 [] [] = true := by decide +kernel
theorem rf_f_M_isBook_92 : rf_Fb rf_m_M_isBook 92 94 (.iload 4) 0 0 0 0 [] [] = true := by decide +kernel
theorem rf_f_M_isBook_94 : rf_Fb rf_m_M_isBook 94 95 (.iconst 2) 0 0 0 0 [] [] = true := by decide +kernel
theorem rf_f_M_isBook_95 : rf_Fb rf_m_M_isBook 95 96 (.iadd) 0 0 0 0 [] [] = true := by decide +kernel
theorem rf_f_M_isBook_96 : rf_Fb rf_m_M_isBook 96 97 (.iaload) 0 0 0 0 [] [] = true := by decide +kernel
theorem rf_f_M_isBook_97 : rf_Fb rf_m_M_isBook 97 98 (.i2l) 0 0 0 0 [] [] = true := by decide +kernel
theorem rf_f_M_isBook_98 : rf_Fb rf_m_M_isBook 98 99 (.lconst 0) 0 0 0 0 [] [] = true := by decide +kernel
theorem rf_f_M_isBook_99 : rf_Fb rf_m_M_isBook 99 100 (.lconst 1) 0 0 0 1 [] [] = true := by decide +kernel
theorem rf_f_M_isBook_100 : rf_Fb rf_m_M_isBook 100 103 (.invokestatic 63) 118 3 0 0 [] [] = true := by decide +kernel
theorem rf_f_M_isBook_103 : rf_Fb rf_m_M_isBook 103 106 (.ifCond .eq 7) 110 0 0 0 [] [] = true := by decide +kernel
theorem rf_f_M_isBook_106 : rf_Fb rf_m_M_isBook 106 107 (.iconst 1) 0 0 0 0 [] [] = true := by decide +kernel
theorem rf_f_M_isBook_107 : rf_Fb rf_m_M_isBook 107 110 (.goto 4) 111 0 0 0 [] [] = true := by decide +kernel
theorem rf_f_M_isBook_110 : rf_Fb rf_m_M_isBook 110 111 (.iconst 0) 0 0 0 0 [] [] = true := by decide +kernel
theorem rf_f_M_isBook_111 : rf_Fb rf_m_M_isBook 111 112 (.istore_n 2) 0 0 0 0 [] [] = true := by decide +kernel
theorem rf_f_M_isBook_112 : rf_Fb rf_m_M_isBook 112 115 (.iinc 3 3) 0 0 0 0 [] [] = true := by decide +kernel
theorem rf_f_M_isBook_115 : rf_Fb rf_m_M_isBook 115 118 (.goto (-87)) 28 0 0 0 [] [] = true := by decide +kernel
theorem rf_f_M_isBook_118 : rf_Fb rf_m_M_isBook 118 119 (.iload_n 2) 0 0 0 0 [] [] = true := by decide +kernel
theorem rf_f_M_isBook_119 : rf_Fb rf_m_M_isBook 119 122 (.ifCond .eq 7) 126 0 0 0 [] [] = true := by decide +kernel
theorem rf_f_M_isBook_122 : rf_Fb rf_m_M_isBook 122 123 (.iconst 0) 0 0 0 0 [] [] = true := by decide +kernel
theorem rf_f_M_isBook_123 : rf_Fb rf_m_M_isBook 123 126 (.goto 4) 127 0 0 0 [] [] = true := by decide +kernel
theorem rf_f_M_isBook_126 : rf_Fb rf_m_M_isBook 126 127 (.iconst 3) 0 0 0 0 [] [] = true := by decide +kernel
theorem rf_f_M_isBook_127 : rf_Fb rf_m_M_isBook 127 128 (.ireturn) 0 0 0 0 [] [] = true := by decide +kernel
set_option maxRecDepth 20000 in
set_option maxHeartbeats 2000000 in
theorem rf_e_M_isBook (d : Nat) (o : Nat) (a1 : Int) (h : rf_H) : rf_call (d + 1) 183 [.inr (.inr (some o)), .inl a1] h = ((rf_gR h 5 o 0).bind fun x1 => (rf_nn x1 fun k2 => ((rf_aI h k2 a1).bind fun x3 => (if x3 < 0 then some (some (.inl 1), h) else ((rf_gR h 5 o 0).bind fun x4 => (rf_nn x4 fun k5 => ((rf_aI h k5 a1).bind fun x6 => (if (Int.tmod x6 3) = 0 then rf_j_M_isBook_28 d o a1 1 0 h else some (some (.inl 5), h))))))))) := by
  show rf_den (rf_call d) (rf_mt 183) _ = _
  rw [rf_u_M_isBook]
  exact ((rf_s_aload_n rf_f_M_isBook_0 rfl (rf_m0 _) (rf_s_getAS rf_f_M_isBook_1 (rf_m0 _) fun x1 => (rf_s_iload_n rf_f_M_isBook_4 rfl (rf_m0 _) (rf_s_ialdR rf_f_M_isBook_5 (rf_m0 _) fun k2 x3 => (rf_s_if_ge rf_f_M_isBook_6 rfl (rf_m0 _) (rf_m0 _) (rf_s_aload_n rf_f_M_isBook_11 rfl (rf_m0 _) (rf_s_getAS rf_f_M_isBook_12 (rf_m0 _) fun x4 => (rf_s_iload_n rf_f_M_isBook_15 rfl (rf_m0 _) (rf_s_ialdR rf_f_M_isBook_16 (rf_m0 _) fun k5 x6 => (rf_s_iconst rf_f_M_isBook_17 (rf_m0 _) (rf_s_irem rf_f_M_isBook_18 (by decide) (rf_m0 _) (rf_s_if_eq rf_f_M_isBook_19 rfl (rf_m0 _) (rf_m0 _) (rf_s_iconst rf_f_M_isBook_24 (rf_m0 _) (rf_s_istore_n (L' := [some (.inr (.inr (some o))), some (.inl a1), some (.inl 1), none, none]) rf_f_M_isBook_25 rfl (rf_s_iconst rf_f_M_isBook_26 (rf_m0 _) (rf_s_istore_n rf_f_M_isBook_27 rfl rfl)))) (rf_s_iconst rf_f_M_isBook_22 (rf_m0 _) (rf_s_iret rf_f_M_isBook_23))))))))) (rf_s_iconst rf_f_M_isBook_9 (rf_m0 _) (rf_s_iret rf_f_M_isBook_10))))))) : rf_den (rf_call d) rf_m_M_isBook (0, [some (.inr (.inr (some o))), some (.inl a1), none, none, none], [], h) = _)
set_option maxRecDepth 20000 in
set_option maxHeartbeats 2000000 in
theorem rf_e_M_isBook_28 (d : Nat) (o : Nat) (l1 : Int) (l2 : Int) (l3 : Int) (h : rf_H) : rf_j_M_isBook_28 d o l1 l2 l3 h = ((rf_gR h 5 o 0).bind fun x1 => (rf_nn x1 fun k2 => ((rf_aI h k2 l1).bind fun x3 => (if l3 < x3 then (if l2 = 0 then rf_j_M_isBook_28 d o l1 0 (rf_w (l3 + 3)) h else ((rf_gR h 5 o 1).bind fun x4 => (rf_nn x4 fun k5 => ((rf_aI h k5 (rf_w ((rf_w (40 * l1)) + l3))).bind fun x6 => ((rf_call d 118 [.inr (.inl x6), .inr (.inl 0), .inr (.inl 2)] h).bind fun q8 => rf_kI q8 fun x9 h7 => (if x9 = 0 then rf_j_M_isBook_28 d o l1 0 (rf_w (l3 + 3)) h7 else ((rf_gR h7 5 o 1).bind fun x10 => (rf_nn x10 fun k11 => ((rf_aI h7 k11 (rf_w ((rf_w ((rf_w (40 * l1)) + l3)) + 1))).bind fun x12 => ((rf_call d 118 [.inr (.inl x12), .inr (.inl 0), .inr (.inl 9)] h7).bind fun q14 => rf_kI q14 fun x15 h13 => (if x15 = 0 then rf_j_M_isBook_28 d o l1 0 (rf_w (l3 + 3)) h13 else ((rf_gR h13 5 o 1).bind fun x16 => (rf_nn x16 fun k17 => ((rf_aI h13 k17 (rf_w ((rf_w ((rf_w (40 * l1)) + l3)) + 2))).bind fun x18 => ((rf_call d 118 [.inr (.inl x18), .inr (.inl 0), .inr (.inl 1)] h13).bind fun q20 => rf_kI q20 fun x21 h19 => (if x21 = 0 then rf_j_M_isBook_28 d o l1 0 (rf_w (l3 + 3)) h19 else rf_j_M_isBook_28 d o l1 1 (rf_w (l3 + 3)) h19)))))))))))))))) else (if l2 = 0 then some (some (.inl 3), h) else some (some (.inl 0), h)))))) :=
  ((rf_s_iload_n rf_f_M_isBook_28 rfl (rf_m0 _) (rf_s_aload_n rf_f_M_isBook_29 rfl (rf_m0 _) (rf_s_getAS rf_f_M_isBook_30 (rf_m0 _) fun x1 => (rf_s_iload_n rf_f_M_isBook_33 rfl (rf_m0 _) (rf_s_ialdR rf_f_M_isBook_34 (rf_m0 _) fun k2 x3 => (rf_s_icmp_ge rf_f_M_isBook_35 rfl (rf_m0 _) (rf_m0 _) (rf_s_iload_n rf_f_M_isBook_118 rfl (rf_m0 _) (rf_s_if_eq rf_f_M_isBook_119 rfl (rf_m0 _) (rf_m0 _) (rf_s_iconst rf_f_M_isBook_126 (rf_m0 _) (rf_s_iret rf_f_M_isBook_127)) (rf_s_iconst rf_f_M_isBook_122 (rf_m0 _) (rf_s_goto rf_f_M_isBook_123 rfl (rf_m0 _) (rf_s_iret rf_f_M_isBook_127))))) (rf_s_bipush rf_f_M_isBook_38 (rf_m0 _) (rf_s_iload_n rf_f_M_isBook_40 rfl (rf_m0 _) (rf_s_imul rf_f_M_isBook_41 (rf_m0 _) (rf_s_iload_n rf_f_M_isBook_42 rfl (rf_m0 _) (rf_s_iadd rf_f_M_isBook_43 (rf_m0 _) (rf_s_istore (L' := [some (.inr (.inr (some o))), some (.inl l1), some (.inl l2), some (.inl l3), some (.inl (rf_w ((rf_w (40 * l1)) + l3)))]) rf_f_M_isBook_44 rfl (rf_s_iload_n rf_f_M_isBook_46 rfl (rf_m0 _) (rf_s_if_eq rf_f_M_isBook_47 rfl (rf_m0 _) (rf_m0 _) (rf_s_iconst rf_f_M_isBook_110 (rf_m0 _) (rf_s_istore_n (L' := [some (.inr (.inr (some o))), some (.inl l1), some (.inl 0), some (.inl l3), some (.inl (rf_w ((rf_w (40 * l1)) + l3)))]) rf_f_M_isBook_111 rfl (rf_s_iinc (L' := [some (.inr (.inr (some o))), some (.inl l1), some (.inl 0), some (.inl (rf_w (l3 + 3))), some (.inl (rf_w ((rf_w (40 * l1)) + l3)))]) rf_f_M_isBook_112 rfl rfl (rf_s_goto rf_f_M_isBook_115 rfl rfl rfl)))) (rf_s_aload_n rf_f_M_isBook_50 rfl (rf_m0 _) (rf_s_getAS rf_f_M_isBook_51 (rf_m0 _) fun x4 => (rf_s_iload rf_f_M_isBook_54 rfl (rf_m0 _) (rf_s_ialdR rf_f_M_isBook_56 (rf_m0 _) fun k5 x6 => (rf_s_i2l rf_f_M_isBook_57 (rf_m0 _) (rf_s_lconst rf_f_M_isBook_58 (rf_m0 _) (rf_s_ldc2_w rf_f_M_isBook_59 (rf_m0 _) (rf_s_invS0 rf_f_M_isBook_62 rfl rfl (rf_m0 _) fun q8 x9 h7 => (rf_s_if_eq rf_f_M_isBook_65 rfl (rf_m0 _) (rf_m0 _) (rf_s_iconst rf_f_M_isBook_110 (rf_m0 _) (rf_s_istore_n (L' := [some (.inr (.inr (some o))), some (.inl l1), some (.inl 0), some (.inl l3), some (.inl (rf_w ((rf_w (40 * l1)) + l3)))]) rf_f_M_isBook_111 rfl (rf_s_iinc (L' := [some (.inr (.inr (some o))), some (.inl l1), some (.inl 0), some (.inl (rf_w (l3 + 3))), some (.inl (rf_w ((rf_w (40 * l1)) + l3)))]) rf_f_M_isBook_112 rfl rfl (rf_s_goto rf_f_M_isBook_115 rfl rfl rfl)))) (rf_s_aload_n rf_f_M_isBook_68 rfl (rf_m0 _) (rf_s_getAS rf_f_M_isBook_69 (rf_m0 _) fun x10 => (rf_s_iload rf_f_M_isBook_72 rfl (rf_m0 _) (rf_s_iconst rf_f_M_isBook_74 (rf_m0 _) (rf_s_iadd rf_f_M_isBook_75 (rf_m0 _) (rf_s_ialdR rf_f_M_isBook_76 (rf_m0 _) fun k11 x12 => (rf_s_i2l rf_f_M_isBook_77 (rf_m0 _) (rf_s_lconst rf_f_M_isBook_78 (rf_m0 _) (rf_s_ldc2_w rf_f_M_isBook_79 (rf_m0 _) (rf_s_invS0 rf_f_M_isBook_82 rfl rfl (rf_m0 _) fun q14 x15 h13 => (rf_s_if_eq rf_f_M_isBook_85 rfl (rf_m0 _) (rf_m0 _) (rf_s_iconst rf_f_M_isBook_110 (rf_m0 _) (rf_s_istore_n (L' := [some (.inr (.inr (some o))), some (.inl l1), some (.inl 0), some (.inl l3), some (.inl (rf_w ((rf_w (40 * l1)) + l3)))]) rf_f_M_isBook_111 rfl (rf_s_iinc (L' := [some (.inr (.inr (some o))), some (.inl l1), some (.inl 0), some (.inl (rf_w (l3 + 3))), some (.inl (rf_w ((rf_w (40 * l1)) + l3)))]) rf_f_M_isBook_112 rfl rfl (rf_s_goto rf_f_M_isBook_115 rfl rfl rfl)))) (rf_s_aload_n rf_f_M_isBook_88 rfl (rf_m0 _) (rf_s_getAS rf_f_M_isBook_89 (rf_m0 _) fun x16 => (rf_s_iload rf_f_M_isBook_92 rfl (rf_m0 _) (rf_s_iconst rf_f_M_isBook_94 (rf_m0 _) (rf_s_iadd rf_f_M_isBook_95 (rf_m0 _) (rf_s_ialdR rf_f_M_isBook_96 (rf_m0 _) fun k17 x18 => (rf_s_i2l rf_f_M_isBook_97 (rf_m0 _) (rf_s_lconst rf_f_M_isBook_98 (rf_m0 _) (rf_s_lconst rf_f_M_isBook_99 (rf_m0 _) (rf_s_invS0 rf_f_M_isBook_100 rfl rfl (rf_m0 _) fun q20 x21 h19 => (rf_s_if_eq rf_f_M_isBook_103 rfl (rf_m0 _) (rf_m0 _) (rf_s_iconst rf_f_M_isBook_110 (rf_m0 _) (rf_s_istore_n (L' := [some (.inr (.inr (some o))), some (.inl l1), some (.inl 0), some (.inl l3), some (.inl (rf_w ((rf_w (40 * l1)) + l3)))]) rf_f_M_isBook_111 rfl (rf_s_iinc (L' := [some (.inr (.inr (some o))), some (.inl l1), some (.inl 0), some (.inl (rf_w (l3 + 3))), some (.inl (rf_w ((rf_w (40 * l1)) + l3)))]) rf_f_M_isBook_112 rfl rfl (rf_s_goto rf_f_M_isBook_115 rfl rfl rfl)))) (rf_s_iconst rf_f_M_isBook_106 (rf_m0 _) (rf_s_goto rf_f_M_isBook_107 rfl (rf_m0 _) (rf_s_istore_n (L' := [some (.inr (.inr (some o))), some (.inl l1), some (.inl 1), some (.inl l3), some (.inl (rf_w ((rf_w (40 * l1)) + l3)))]) rf_f_M_isBook_111 rfl (rf_s_iinc (L' := [some (.inr (.inr (some o))), some (.inl l1), some (.inl 1), some (.inl (rf_w (l3 + 3))), some (.inl (rf_w ((rf_w (40 * l1)) + l3)))]) rf_f_M_isBook_112 rfl rfl (rf_s_goto rf_f_M_isBook_115 rfl rfl rfl)))))))))))))))))))))))))))))))))))))))))))))))))) : rf_den (rf_call d) rf_m_M_isBook (28, [some (.inr (.inr (some o))), some (.inl l1), some (.inl l2), some (.inl l3), none], [], h) = _)
theorem rf_u_M_isLie : rf_mt 184 = rf_m_M_isLie := rfl
theorem rf_f_M_isLie_0 : rf_Fb rf_m_M_isLie 0 1 (.iload_n 2) 0 0 0 0 [] [] = true := by decide +kernel
theorem rf_f_M_isLie_1 : rf_Fb rf_m_M_isLie 1 2 (.aload_n 0) 0 0 0 0 [] [] = true := by decide +kernel
theorem rf_f_M_isLie_2 : rf_Fb rf_m_M_isLie 2 5 (.getfield 13) 5 1 2 0 [] [] = true := by decide +kernel
theorem rf_f_M_isLie_5 : rf_Fb rf_m_M_isLie 5 6 (.iload_n 1) 0 0 0 0 [] [] = true := by decide +kernel
theorem rf_f_M_isLie_6 : rf_Fb rf_m_M_isLie 6 7 (.iaload) 0 0 0 0 [] [] = true := by decide +kernel
theorem rf_f_M_isLie_7 : rf_Fb rf_m_M_isLie 7 8 (.aload_n 0) 0 0 0 0 [] [] = true := by decide +kernel
theorem rf_f_M_isLie_8 : rf_Fb rf_m_M_isLie 8 11 (.getfield 13) 5 1 2 0 [] [] = true := by decide +kernel
theorem rf_f_M_isLie_11 : rf_Fb rf_m_M_isLie 11 12 (.iload_n 1) 0 0 0 0 [] [] = true := by decide +kernel
theorem rf_f_M_isLie_12 : rf_Fb rf_m_M_isLie 12 13 (.iconst 1) 0 0 0 0 [] [] = true := by decide +kernel
theorem rf_f_M_isLie_13 : rf_Fb rf_m_M_isLie 13 14 (.iadd) 0 0 0 0 [] [] = true := by decide +kernel
theorem rf_f_M_isLie_14 : rf_Fb rf_m_M_isLie 14 15 (.iaload) 0 0 0 0 [] [] = true := by decide +kernel
theorem rf_f_M_isLie_15 : rf_Fb rf_m_M_isLie 15 18 (.invokestatic 217) 185 3 0 0 [] [] = true := by decide +kernel
theorem rf_f_M_isLie_18 : rf_Fb rf_m_M_isLie 18 19 (.aload_n 0) 0 0 0 0 [] [] = true := by decide +kernel
theorem rf_f_M_isLie_19 : rf_Fb rf_m_M_isLie 19 22 (.getfield 13) 5 1 2 0 [] [] = true := by decide +kernel
theorem rf_f_M_isLie_22 : rf_Fb rf_m_M_isLie 22 23 (.iload_n 1) 0 0 0 0 [] [] = true := by decide +kernel
theorem rf_f_M_isLie_23 : rf_Fb rf_m_M_isLie 23 24 (.iconst 2) 0 0 0 0 [] [] = true := by decide +kernel
theorem rf_f_M_isLie_24 : rf_Fb rf_m_M_isLie 24 25 (.iadd) 0 0 0 0 [] [] = true := by decide +kernel
theorem rf_f_M_isLie_25 : rf_Fb rf_m_M_isLie 25 26 (.iaload) 0 0 0 0 [] [] = true := by decide +kernel
theorem rf_f_M_isLie_26 : rf_Fb rf_m_M_isLie 26 27 (.iconst 1) 0 0 0 0 [] [] = true := by decide +kernel
theorem rf_f_M_isLie_27 : rf_Fb rf_m_M_isLie 27 30 (.if_icmp .ne 7) 34 0 0 0 [] [] = true := by decide +kernel
theorem rf_f_M_isLie_30 : rf_Fb rf_m_M_isLie 30 31 (.iconst 1) 0 0 0 0 [] [] = true := by decide +kernel
theorem rf_f_M_isLie_31 : rf_Fb rf_m_M_isLie 31 34 (.goto 4) 35 0 0 0 [] [] = true := by decide +kernel
theorem rf_f_M_isLie_34 : rf_Fb rf_m_M_isLie 34 35 (.iconst 0) 0 0 0 0 [] [] = true := by decide +kernel
theorem rf_f_M_isLie_35 : rf_Fb rf_m_M_isLie 35 38 (.if_icmp .eq 7) 42 0 0 0 [] [] = true := by decide +kernel
theorem rf_f_M_isLie_38 : rf_Fb rf_m_M_isLie 38 39 (.iconst 1) 0 0 0 0 [] [] = true := by decide +kernel
theorem rf_f_M_isLie_39 : rf_Fb rf_m_M_isLie 39 42 (.goto 4) 43 0 0 0 [] [] = true := by decide +kernel
theorem rf_f_M_isLie_42 : rf_Fb rf_m_M_isLie 42 43 (.iconst 0) 0 0 0 0 [] [] = true := by decide +kernel
theorem rf_f_M_isLie_43 : rf_Fb rf_m_M_isLie 43 44 (.ireturn) 0 0 1 0 [] [] = true := by decide +kernel
set_option maxRecDepth 20000 in
set_option maxHeartbeats 2000000 in
theorem rf_e_M_isLie (d : Nat) (o : Nat) (a1 : Int) (a2 : Int) (h : rf_H) : rf_call (d + 1) 184 [.inr (.inr (some o)), .inl a1, .inl a2] h = ((rf_gR h 5 o 1).bind fun x1 => (rf_nn x1 fun k2 => ((rf_aI h k2 a1).bind fun x3 => ((rf_gR h 5 o 1).bind fun x4 => (rf_nn x4 fun k5 => ((rf_aI h k5 (rf_w (a1 + 1))).bind fun x6 => ((rf_call d 185 [.inl a2, .inl x3, .inl x6] h).bind fun q8 => rf_kI q8 fun x9 h7 => ((rf_gR h7 5 o 1).bind fun x10 => (rf_nn x10 fun k11 => ((rf_aI h7 k11 (rf_w (a1 + 2))).bind fun x12 => (if x12 = 1 then (if x9 = 1 then some (some (.inl 0), h7) else some (some (.inl 1), h7)) else (if x9 = 0 then some (some (.inl 0), h7) else some (some (.inl 1), h7))))))))))))) := by
  show rf_den (rf_call d) (rf_mt 184) _ = _
  rw [rf_u_M_isLie]
  exact ((rf_s_iload_n rf_f_M_isLie_0 rfl (rf_m0 _) (rf_s_aload_n rf_f_M_isLie_1 rfl (rf_m0 _) (rf_s_getAS rf_f_M_isLie_2 (rf_m0 _) fun x1 => (rf_s_iload_n rf_f_M_isLie_5 rfl (rf_m0 _) (rf_s_ialdR rf_f_M_isLie_6 (rf_m0 _) fun k2 x3 => (rf_s_aload_n rf_f_M_isLie_7 rfl (rf_m0 _) (rf_s_getAS rf_f_M_isLie_8 (rf_m0 _) fun x4 => (rf_s_iload_n rf_f_M_isLie_11 rfl (rf_m0 _) (rf_s_iconst rf_f_M_isLie_12 (rf_m0 _) (rf_s_iadd rf_f_M_isLie_13 (rf_m0 _) (rf_s_ialdR rf_f_M_isLie_14 (rf_m0 _) fun k5 x6 => (rf_s_invS0 rf_f_M_isLie_15 rfl rfl (rf_m0 _) fun q8 x9 h7 => (rf_s_aload_n rf_f_M_isLie_18 rfl (rf_m0 _) (rf_s_getAS rf_f_M_isLie_19 (rf_m0 _) fun x10 => (rf_s_iload_n rf_f_M_isLie_22 rfl (rf_m0 _) (rf_s_iconst rf_f_M_isLie_23 (rf_m0 _) (rf_s_iadd rf_f_M_isLie_24 (rf_m0 _) (rf_s_ialdR rf_f_M_isLie_25 (rf_m0 _) fun k11 x12 => (rf_s_iconst rf_f_M_isLie_26 (rf_m0 _) (rf_s_icmp_ne rf_f_M_isLie_27 rfl (rf_m0 _) (rf_m0 _) (rf_s_iconst rf_f_M_isLie_34 (rf_m0 _) (rf_s_icmp_eq rf_f_M_isLie_35 rfl (rf_m0 _) (rf_m0 _) (rf_s_iconst rf_f_M_isLie_42 (rf_m0 _) (rf_s_zretK rf_f_M_isLie_43 (by decide))) (rf_s_iconst rf_f_M_isLie_38 (rf_m0 _) (rf_s_goto rf_f_M_isLie_39 rfl (rf_m0 _) (rf_s_zretK rf_f_M_isLie_43 (by decide)))))) (rf_s_iconst rf_f_M_isLie_30 (rf_m0 _) (rf_s_goto rf_f_M_isLie_31 rfl (rf_m0 _) (rf_s_icmp_eq rf_f_M_isLie_35 rfl (rf_m0 _) (rf_m0 _) (rf_s_iconst rf_f_M_isLie_42 (rf_m0 _) (rf_s_zretK rf_f_M_isLie_43 (by decide))) (rf_s_iconst rf_f_M_isLie_38 (rf_m0 _) (rf_s_goto rf_f_M_isLie_39 rfl (rf_m0 _) (rf_s_zretK rf_f_M_isLie_43 (by decide))))))))))))))))))))))))))) : rf_den (rf_call d) rf_m_M_isLie (0, [some (.inr (.inr (some o))), some (.inl a1), some (.inl a2)], [], h) = _)
theorem rf_u_M_slips : rf_mt 185 = rf_m_M_slips := rfl
theorem rf_f_M_slips_0 : rf_Fb rf_m_M_slips 0 1 (.iconst 2) 0 0 0 0 [] [] = true := by decide +kernel
theorem rf_f_M_slips_1 : rf_Fb rf_m_M_slips 1 2 (.iload_n 2) 0 0 0 0 [] [] = true := by decide +kernel
theorem rf_f_M_slips_2 : rf_Fb rf_m_M_slips 2 3 (.imul) 0 0 0 0 [] [] = true := by decide +kernel
theorem rf_f_M_slips_3 : rf_Fb rf_m_M_slips 3 4 (.iload_n 0) 0 0 0 0 [] [] = true := by decide +kernel
theorem rf_f_M_slips_4 : rf_Fb rf_m_M_slips 4 5 (.iconst 3) 0 0 0 0 [] [] = true := by decide +kernel
theorem rf_f_M_slips_5 : rf_Fb rf_m_M_slips 5 6 (.iload_n 1) 0 0 0 0 [] [] = true := by decide +kernel
theorem rf_f_M_slips_6 : rf_Fb rf_m_M_slips 6 7 (.isub) 0 0 0 0 [] [] = true := by decide +kernel
theorem rf_f_M_slips_7 : rf_Fb rf_m_M_slips 7 8 (.imul) 0 0 0 0 [] [] = true := by decide +kernel
theorem rf_f_M_slips_8 : rf_Fb rf_m_M_slips 8 11 (.if_icmp .le 7) 15 0 0 0 [] [] = true := by decide +kernel
theorem rf_f_M_slips_11 : rf_Fb rf_m_M_slips 11 12 (.iconst 1) 0 0 0 0 [] [] = true := by decide +kernel
theorem rf_f_M_slips_12 : rf_Fb rf_m_M_slips 12 15 (.goto 4) 16 0 0 0 [] [] = true := by decide +kernel
theorem rf_f_M_slips_15 : rf_Fb rf_m_M_slips 15 16 (.iconst 0) 0 0 0 0 [] [] = true := by decide +kernel
theorem rf_f_M_slips_16 : rf_Fb rf_m_M_slips 16 17 (.ireturn) 0 0 1 0 [] [] = true := by decide +kernel
set_option maxRecDepth 20000 in
set_option maxHeartbeats 2000000 in
theorem rf_e_M_slips (d : Nat) (a1 : Int) (a2 : Int) (a3 : Int) (h : rf_H) : rf_call (d + 1) 185 [.inl a1, .inl a2, .inl a3] h = (if (rf_w (a1 * (rf_w (3 - a2)))) < (rf_w (2 * a3)) then some (some (.inl 1), h) else some (some (.inl 0), h)) := by
  show rf_den (rf_call d) (rf_mt 185) _ = _
  rw [rf_u_M_slips]
  exact ((rf_s_iconst rf_f_M_slips_0 (rf_m0 _) (rf_s_iload_n rf_f_M_slips_1 rfl (rf_m0 _) (rf_s_imul rf_f_M_slips_2 (rf_m0 _) (rf_s_iload_n rf_f_M_slips_3 rfl (rf_m0 _) (rf_s_iconst rf_f_M_slips_4 (rf_m0 _) (rf_s_iload_n rf_f_M_slips_5 rfl (rf_m0 _) (rf_s_isub rf_f_M_slips_6 (rf_m0 _) (rf_s_imul rf_f_M_slips_7 (rf_m0 _) (rf_s_icmp_le rf_f_M_slips_8 rfl (rf_m0 _) (rf_m0 _) (rf_s_iconst rf_f_M_slips_15 (rf_m0 _) (rf_s_zretK rf_f_M_slips_16 (by decide))) (rf_s_iconst rf_f_M_slips_11 (rf_m0 _) (rf_s_goto rf_f_M_slips_12 rfl (rf_m0 _) (rf_s_zretK rf_f_M_slips_16 (by decide))))))))))))) : rf_den (rf_call d) rf_m_M_slips (0, [some (.inl a1), some (.inl a2), some (.inl a3)], [], h) = _)
noncomputable def rf_j_M_lies_II_I_47 (d : Nat) (o : Nat) (l1 : Int) (l2 : Int) (l4 : Int) (l5 : Int) (l6 : Int) (h : rf_H) : Option rf_R := rf_den (rf_call d) rf_m_M_lies_II_I (47, [some (.inr (.inr (some o))), some (.inl l1), some (.inl l2), none, some (.inl l4), some (.inl l5), some (.inl l6), none], [], h)
noncomputable def rf_j_M_lies_II_I_91 (d : Nat) (o : Nat) (l1 : Int) (l2 : Int) (l4 : Int) (l6 : Int) (l7 : Int) (s0 : Int) (h : rf_H) : Option rf_R := rf_den (rf_call d) rf_m_M_lies_II_I (91, [some (.inr (.inr (some o))), some (.inl l1), some (.inl l2), none, some (.inl l4), none, some (.inl l6), some (.inl l7)], [.inl s0], h)
theorem rf_u_M_lies_II_I : rf_mt 186 = rf_m_M_lies_II_I := rfl
theorem rf_f_M_lies_II_I_0 : rf_Fb rf_m_M_lies_II_I 0 1 (.iload_n 1) 0 0 0 0 [] [] = true := by decide +kernel
theorem rf_f_M_lies_II_I_1 : rf_Fb rf_m_M_lies_II_I 1 4 (.invokestatic 69) 117 1 0 0 [] [] = true := by decide +kernel
theorem rf_f_M_lies_II_I_4 : rf_Fb rf_m_M_lies_II_I 4 7 (.ifCond .eq 15) 19 0 0 0 [] [] = true := by decide +kernel
theorem rf_f_M_lies_II_I_7 : rf_Fb rf_m_M_lies_II_I 7 8 (.iload_n 2) 0 0 0 0 [] [] = true := by decide +kernel
theorem rf_f_M_lies_II_I_8 : rf_Fb rf_m_M_lies_II_I 8 9 (.i2l) 0 0 0 0 [] [] = true := by decide +kernel
theorem rf_f_M_lies_II_I_9 : rf_Fb rf_m_M_lies_II_I 9 10 (.lconst 1) 0 0 0 1 [] [] = true := by decide +kernel
theorem rf_f_M_lies_II_I_10 : rf_Fb rf_m_M_lies_II_I 10 13 (.ldc2_w 165) 0 0 0 9 [] [] = true := by decide +kernel
theorem rf_f_M_lies_II_I_13 : rf_Fb rf_m_M_lies_II_I 13 16 (.invokestatic 63) 118 3 0 0 [] [] = true := by decide +kernel
theorem rf_f_M_lies_II_I_16 : rf_Fb rf_m_M_lies_II_I 16 19 (.ifCond .ne 5) 21 0 0 0 [] [] = true := by decide +kernel
theorem rf_f_M_lies_II_I_19 : rf_Fb rf_m_M_lies_II_I 19 20 (.iconst (-1)) 0 0 0 0 [] [] = true := by decide +kernel
theorem rf_f_M_lies_II_I_20 : rf_Fb rf_m_M_lies_II_I 20 21 (.ireturn) 0 0 0 0 [] [] = true := by decide +kernel
theorem rf_f_M_lies_II_I_21 : rf_Fb rf_m_M_lies_II_I 21 22 (.aload_n 0) 0 0 0 0 [] [] = true := by decide +kernel
theorem rf_f_M_lies_II_I_22 : rf_Fb rf_m_M_lies_II_I 22 23 (.iload_n 1) 0 0 0 0 [] [] = true := by decide +kernel
theorem rf_f_M_lies_II_I_23 : rf_Fb rf_m_M_lies_II_I 23 26 (.invokevirtual 220) 183 1 0 5 [] [] = true := by decide +kernel
theorem rf_f_M_lies_II_I_26 : rf_Fb rf_m_M_lies_II_I 26 27 (.istore_n 3) 0 0 0 0 [] [] = true := by decide +kernel
theorem rf_f_M_lies_II_I_27 : rf_Fb rf_m_M_lies_II_I 27 28 (.iload_n 3) 0 0 0 0 [] [] = true := by decide +kernel
theorem rf_f_M_lies_II_I_28 : rf_Fb rf_m_M_lies_II_I 28 31 (.ifCond .le 9) 37 0 0 0 [] [] = true := by decide +kernel
theorem rf_f_M_lies_II_I_31 : rf_Fb rf_m_M_lies_II_I 31 32 (.aload_n 0) 0 0 0 0 [] [] = true := by decide +kernel
theorem rf_f_M_lies_II_I_32 : rf_Fb rf_m_M_lies_II_I 32 33 (.iload_n 3) 0 0 0 0 [] [] = true := by decide +kernel
theorem rf_f_M_lies_II_I_33 : rf_Fb rf_m_M_lies_II_I 33 36 (.invokevirtual 73) 119 1 0 5 [] [] = true := by decide +kernel
theorem rf_f_M_lies_II_I_36 : rf_Fb rf_m_M_lies_II_I 36 37 (.ireturn) 0 0 0 0 [] [] = true := by decide +kernel
theorem rf_f_M_lies_II_I_37 : rf_Fb rf_m_M_lies_II_I 37 38 (.iconst 0) 0 0 0 0 [] [] = true := by decide +kernel
theorem rf_f_M_lies_II_I_38 : rf_Fb rf_m_M_lies_II_I 38 40 (.istore 4) 0 0 0 0 [] [] = true := by decide +kernel
theorem rf_f_M_lies_II_I_40 : rf_Fb rf_m_M_lies_II_I 40 42 (.bipush (-9)) 0 0 0 0 [] [] = true := by decide +kernel
theorem rf_f_M_lies_II_I_42 : rf_Fb rf_m_M_lies_II_I 42 44 (.istore 5) 0 0 0 0 [] [] = true := by decide +kernel
theorem rf_f_M_lies_II_I_44 : rf_Fb rf_m_M_lies_II_I 44 45 (.iconst 0) 0 0 0 0 [] [] = true := by decide +kernel
theorem rf_f_M_lies_II_I_45 : rf_Fb rf_m_M_lies_II_I 45 47 (.istore 6) 0 0 0 0 [] [true, true, true, false, true, true, true, false] = true := by decide +kernel
theorem rf_f_M_lies_II_I_47 : rf_Fb rf_m_M_lies_II_I 47 49 (.iload 6) 0 0 0 0 [] [] = true := by decide +kernel
theorem rf_f_M_lies_II_I_49 : rf_Fb rf_m_M_lies_II_I 49 50 (.aload_n 0) 0 0 0 0 [] [] = true := by decide +kernel
theorem rf_f_M_lies_II_I_50 : rf_Fb rf_m_M_lies_II_I 50 53 (.getfield 7) 5 0 2 0 [] [] = true := by decide +kernel
theorem rf_f_M_lies_II_I_53 : rf_Fb rf_m_M_lies_II_I 53 54 (.iload_n 1) 0 0 0 0 [] [] = true := by decide +kernel
theorem rf_f_M_lies_II_I_54 : rf_Fb rf_m_M_lies_II_I 54 55 (.iaload) 0 0 0 0 [] [] = true := by decide +kernel
theorem rf_f_M_lies_II_I_55 : rf_Fb rf_m_M_lies_II_I 55 58 (.if_icmp .ge 59) 114 0 0 0 [] [] = true := by decide +kernel
theorem rf_f_M_lies_II_I_58 : rf_Fb rf_m_M_lies_II_I 58 59 (.aload_n 0) 0 0 0 0 [] [] = true := by decide +kernel
theorem rf_f_M_lies_II_I_59 : rf_Fb rf_m_M_lies_II_I 59 61 (.bipush 40) 0 0 0 0 [] [] = true := by decide +kernel
theorem rf_f_M_lies_II_I_61 : rf_Fb rf_m_M_lies_II_I 61 62 (.iload_n 1) 0 0 0 0 [] [] = true := by decide +kernel
theorem rf_f_M_lies_II_I_62 : rf_Fb rf_m_M_lies_II_I 62 63 (.imul) 0 0 0 0 [] [] = true := by decide +kernel
theorem rf_f_M_lies_II_I_63 : rf_Fb rf_m_M_lies_II_I 63 65 (.iload 6) 0 0 0 0 [] [] = true := by decide +kernel
theorem rf_f_M_lies_II_I_65 : rf_Fb rf_m_M_lies_II_I 65 66 (.iadd) 0 0 0 0 [] [] = true := by decide +kernel
theorem rf_f_M_lies_II_I_66 : rf_Fb rf_m_M_lies_II_I 66 67 (.iload_n 2) 0 0 0 0 [] [] = true := by decide +kernel
theorem rf_f_M_lies_II_I_67 : rf_Fb rf_m_M_lies_II_I 67 70 (.invokevirtual 223) 184 2 0 5 [] [] = true := by decide +kernel
theorem rf_f_M_lies_II_I_70 : rf_Fb rf_m_M_lies_II_I 70 72 (.istore 7) 0 0 0 0 [] [] = true := by decide +kernel
theorem rf_f_M_lies_II_I_72 : rf_Fb rf_m_M_lies_II_I 72 74 (.iload 7) 0 0 0 0 [] [] = true := by decide +kernel
theorem rf_f_M_lies_II_I_74 : rf_Fb rf_m_M_lies_II_I 74 77 (.ifCond .eq 15) 89 0 0 0 [] [] = true := by decide +kernel
theorem rf_f_M_lies_II_I_77 : rf_Fb rf_m_M_lies_II_I 77 79 (.iload 4) 0 0 0 0 [] [] = true := by decide +kernel
theorem rf_f_M_lies_II_I_79 : rf_Fb rf_m_M_lies_II_I 79 82 (.ifCond .ne 10) 89 0 0 0 [] [] = true := by decide +kernel
theorem rf_f_M_lies_II_I_82 : rf_Fb rf_m_M_lies_II_I 82 84 (.iload 6) 0 0 0 0 [] [] = true := by decide +kernel
theorem rf_f_M_lies_II_I_84 : rf_Fb rf_m_M_lies_II_I 84 85 (.iconst 3) 0 0 0 0 [] [] = true := by decide +kernel
theorem rf_f_M_lies_II_I_85 : rf_Fb rf_m_M_lies_II_I 85 86 (.idiv) 0 0 0 0 [] [] = true := by decide +kernel
theorem rf_f_M_lies_II_I_86 : rf_Fb rf_m_M_lies_II_I 86 89 (.goto 5) 91 0 0 0 [] [] = true := by decide +kernel
theorem rf_f_M_lies_II_I_89 : rf_Fb rf_m_M_lies_II_I 89 91 (.iload 5) 0 0 0 0 [] [true, true, true, false, true, false, true, true] = true := by decide +kernel
theorem rf_f_M_lies_II_I_91 : rf_Fb rf_m_M_lies_II_I 91 93 (.istore 5) 0 0 0 0 [] [] = true := by decide +kernel
theorem rf_f_M_lies_II_I_93 : rf_Fb rf_m_M_lies_II_I 93 95 (.iload 4) 0 0 0 0 [] [] = true := by decide +kernel
theorem rf_f_M_lies_II_I_95 : rf_Fb rf_m_M_lies_II_I 95 97 (.iload 7) 0 0 0 0 [] [] = true := by decide +kernel
theorem rf_f_M_lies_II_I_97 : rf_Fb rf_m_M_lies_II_I 97 100 (.ifCond .eq 7) 104 0 0 0 [] [] = true := by decide +kernel
theorem rf_f_M_lies_II_I_100 : rf_Fb rf_m_M_lies_II_I 100 101 (.iconst 1) 0 0 0 0 [] [] = true := by decide +kernel
theorem rf_f_M_lies_II_I_101 : rf_Fb rf_m_M_lies_II_I 101 104 (.goto 4) 105 0 0 0 [] [] = true := by decide +kernel
theorem rf_f_M_lies_II_I_104 : rf_Fb rf_m_M_lies_II_I 104 105 (.iconst 0) 0 0 0 0 [] [] = true := by decide +kernel
theorem rf_f_M_lies_II_I_105 : rf_Fb rf_m_M_lies_II_I 105 106 (.iadd) 0 0 0 0 [] [] = true := by decide +kernel
theorem rf_f_M_lies_II_I_106 : rf_Fb rf_m_M_lies_II_I 106 108 (.istore 4) 0 0 0 0 [] [] = true := by decide +kernel
theorem rf_f_M_lies_II_I_108 : rf_Fb rf_m_M_lies_II_I 108 111 (.iinc 6 3) 0 0 0 0 [] [] = true := by decide +kernel
theorem rf_f_M_lies_II_I_111 : rf_Fb rf_m_M_lies_II_I 111 114 (.goto (-64)) 47 0 0 0 [] [] = true := by decide +kernel
theorem rf_f_M_lies_II_I_114 : rf_Fb rf_m_M_lies_II_I 114 115 (.aload_n 0) 0 0 0 0 [] [] = true := by decide +kernel
theorem rf_f_M_lies_II_I_115 : rf_Fb rf_m_M_lies_II_I 115 117 (.iload 4) 0 0 0 0 [] [] = true := by decide +kernel
theorem rf_f_M_lies_II_I_117 : rf_Fb rf_m_M_lies_II_I 117 119 (.iload 5) 0 0 0 0 [] [] = true := by decide +kernel
theorem rf_f_M_lies_II_I_119 : rf_Fb rf_m_M_lies_II_I 119 122 (.invokevirtual 177) 164 2 0 5 [] [] = true := by decide +kernel
theorem rf_f_M_lies_II_I_122 : rf_Fb rf_m_M_lies_II_I 122 123 (.ireturn) 0 0 0 0 [] [] = true := by decide +kernel
set_option maxRecDepth 20000 in
set_option maxHeartbeats 2000000 in
theorem rf_e_M_lies_II_I (d : Nat) (o : Nat) (a1 : Int) (a2 : Int) (h : rf_H) : rf_call (d + 1) 186 [.inr (.inr (some o)), .inl a1, .inl a2] h = ((rf_call d 117 [.inl a1] h).bind fun q2 => rf_kI q2 fun x3 h1 => (if x3 = 0 then some (some (.inl (-1)), h1) else ((rf_call d 118 [.inr (.inl a2), .inr (.inl 1), .inr (.inl 9)] h1).bind fun q5 => rf_kI q5 fun x6 h4 => (if x6 = 0 then some (some (.inl (-1)), h4) else (bif rf_isO h4.1 o 5 then ((rf_call d 183 [.inr (.inr (some o)), .inl a1] h4).bind fun q8 => rf_kI q8 fun x9 h7 => (if 0 < x9 then (bif rf_isO h7.1 o 5 then ((rf_call d 119 [.inr (.inr (some o)), .inl x9] h7).bind fun q11 => rf_kI q11 fun x12 h10 => some (some (.inl x12), h10)) else none) else rf_j_M_lies_II_I_47 d o a1 a2 0 (-9) 0 h7)) else none))))) := by
  show rf_den (rf_call d) (rf_mt 186) _ = _
  rw [rf_u_M_lies_II_I]
  exact ((rf_s_iload_n rf_f_M_lies_II_I_0 rfl (rf_m0 _) (rf_s_invS0 rf_f_M_lies_II_I_1 rfl rfl (rf_m0 _) fun q2 x3 h1 => (rf_s_if_eq rf_f_M_lies_II_I_4 rfl (rf_m0 _) (rf_m0 _) (rf_s_iconst rf_f_M_lies_II_I_19 (rf_m0 _) (rf_s_iret rf_f_M_lies_II_I_20)) (rf_s_iload_n rf_f_M_lies_II_I_7 rfl (rf_m0 _) (rf_s_i2l rf_f_M_lies_II_I_8 (rf_m0 _) (rf_s_lconst rf_f_M_lies_II_I_9 (rf_m0 _) (rf_s_ldc2_w rf_f_M_lies_II_I_10 (rf_m0 _) (rf_s_invS0 rf_f_M_lies_II_I_13 rfl rfl (rf_m0 _) fun q5 x6 h4 => (rf_s_if_ne rf_f_M_lies_II_I_16 rfl (rf_m0 _) (rf_m0 _) (rf_s_aload_n rf_f_M_lies_II_I_21 rfl (rf_m0 _) (rf_s_iload_n rf_f_M_lies_II_I_22 rfl (rf_m0 _) (rf_s_invV0S rf_f_M_lies_II_I_23 rfl rfl (rf_m0 _) fun q8 x9 h7 => (rf_s_istore_n (L' := [some (.inr (.inr (some o))), some (.inl a1), some (.inl a2), some (.inl x9), none, none, none, none]) rf_f_M_lies_II_I_26 rfl (rf_s_iload_n rf_f_M_lies_II_I_27 rfl (rf_m0 _) (rf_s_if_le rf_f_M_lies_II_I_28 rfl (rf_m0 _) (rf_m0 _) (rf_s_iconst rf_f_M_lies_II_I_37 (rf_m0 _) (rf_s_istore (L' := [some (.inr (.inr (some o))), some (.inl a1), some (.inl a2), some (.inl x9), some (.inl 0), none, none, none]) rf_f_M_lies_II_I_38 rfl (rf_s_bipush rf_f_M_lies_II_I_40 (rf_m0 _) (rf_s_istore (L' := [some (.inr (.inr (some o))), some (.inl a1), some (.inl a2), some (.inl x9), some (.inl 0), some (.inl (-9)), none, none]) rf_f_M_lies_II_I_42 rfl (rf_s_iconst rf_f_M_lies_II_I_44 (rf_m0 _) (rf_s_istore rf_f_M_lies_II_I_45 rfl rfl)))))) (rf_s_aload_n rf_f_M_lies_II_I_31 rfl (rf_m0 _) (rf_s_iload_n rf_f_M_lies_II_I_32 rfl (rf_m0 _) (rf_s_invV0S rf_f_M_lies_II_I_33 rfl rfl (rf_m0 _) fun q11 x12 h10 => (rf_s_iret rf_f_M_lies_II_I_36)))))))))) (rf_s_iconst rf_f_M_lies_II_I_19 (rf_m0 _) (rf_s_iret rf_f_M_lies_II_I_20))))))))))) : rf_den (rf_call d) rf_m_M_lies_II_I (0, [some (.inr (.inr (some o))), some (.inl a1), some (.inl a2), none, none, none, none, none], [], h) = _)
set_option maxRecDepth 20000 in
set_option maxHeartbeats 2000000 in
theorem rf_e_M_lies_II_I_47 (d : Nat) (o : Nat) (l1 : Int) (l2 : Int) (l4 : Int) (l5 : Int) (l6 : Int) (h : rf_H) : rf_j_M_lies_II_I_47 d o l1 l2 l4 l5 l6 h = ((rf_gR h 5 o 0).bind fun x1 => (rf_nn x1 fun k2 => ((rf_aI h k2 l1).bind fun x3 => (if l6 < x3 then (bif rf_isO h.1 o 5 then ((rf_call d 184 [.inr (.inr (some o)), .inl (rf_w ((rf_w (40 * l1)) + l6)), .inl l2] h).bind fun q8 => rf_kI q8 fun x9 h7 => (if x9 = 0 then rf_j_M_lies_II_I_91 d o l1 l2 l4 l6 x9 l5 h7 else (if l4 = 0 then rf_j_M_lies_II_I_91 d o l1 l2 l4 l6 x9 (rf_w (Int.tdiv l6 3)) h7 else rf_j_M_lies_II_I_91 d o l1 l2 l4 l6 x9 l5 h7))) else none) else (bif rf_isO h.1 o 5 then ((rf_call d 164 [.inr (.inr (some o)), .inl l4, .inl l5] h).bind fun q5 => rf_kI q5 fun x6 h4 => some (some (.inl x6), h4)) else none))))) :=
  ((rf_s_iload rf_f_M_lies_II_I_47 rfl (rf_m0 _) (rf_s_aload_n rf_f_M_lies_II_I_49 rfl (rf_m0 _) (rf_s_getAS rf_f_M_lies_II_I_50 (rf_m0 _) fun x1 => (rf_s_iload_n rf_f_M_lies_II_I_53 rfl (rf_m0 _) (rf_s_ialdR rf_f_M_lies_II_I_54 (rf_m0 _) fun k2 x3 => (rf_s_icmp_ge rf_f_M_lies_II_I_55 rfl (rf_m0 _) (rf_m0 _) (rf_s_aload_n rf_f_M_lies_II_I_114 rfl (rf_m0 _) (rf_s_iload rf_f_M_lies_II_I_115 rfl (rf_m0 _) (rf_s_iload rf_f_M_lies_II_I_117 rfl (rf_m0 _) (rf_s_invV0S rf_f_M_lies_II_I_119 rfl rfl (rf_m0 _) fun q5 x6 h4 => (rf_s_iret rf_f_M_lies_II_I_122))))) (rf_s_aload_n rf_f_M_lies_II_I_58 rfl (rf_m0 _) (rf_s_bipush rf_f_M_lies_II_I_59 (rf_m0 _) (rf_s_iload_n rf_f_M_lies_II_I_61 rfl (rf_m0 _) (rf_s_imul rf_f_M_lies_II_I_62 (rf_m0 _) (rf_s_iload rf_f_M_lies_II_I_63 rfl (rf_m0 _) (rf_s_iadd rf_f_M_lies_II_I_65 (rf_m0 _) (rf_s_iload_n rf_f_M_lies_II_I_66 rfl (rf_m0 _) (rf_s_invV0S rf_f_M_lies_II_I_67 rfl rfl (rf_m0 _) fun q8 x9 h7 => (rf_s_istore (L' := [some (.inr (.inr (some o))), some (.inl l1), some (.inl l2), none, some (.inl l4), some (.inl l5), some (.inl l6), some (.inl x9)]) rf_f_M_lies_II_I_70 rfl (rf_s_iload rf_f_M_lies_II_I_72 rfl (rf_m0 _) (rf_s_if_eq rf_f_M_lies_II_I_74 rfl (rf_m0 _) (rf_m0 _) (rf_s_iload rf_f_M_lies_II_I_89 rfl rfl rfl) (rf_s_iload rf_f_M_lies_II_I_77 rfl (rf_m0 _) (rf_s_if_ne rf_f_M_lies_II_I_79 rfl (rf_m0 _) (rf_m0 _) (rf_s_iload rf_f_M_lies_II_I_89 rfl rfl rfl) (rf_s_iload rf_f_M_lies_II_I_82 rfl (rf_m0 _) (rf_s_iconst rf_f_M_lies_II_I_84 (rf_m0 _) (rf_s_idiv rf_f_M_lies_II_I_85 (by decide) (rf_m0 _) (rf_s_goto rf_f_M_lies_II_I_86 rfl rfl rfl))))))))))))))))))))))) : rf_den (rf_call d) rf_m_M_lies_II_I (47, [some (.inr (.inr (some o))), some (.inl l1), some (.inl l2), none, some (.inl l4), some (.inl l5), some (.inl l6), none], [], h) = _)
set_option maxRecDepth 20000 in
set_option maxHeartbeats 2000000 in
theorem rf_e_M_lies_II_I_91 (d : Nat) (o : Nat) (l1 : Int) (l2 : Int) (l4 : Int) (l6 : Int) (l7 : Int) (s0 : Int) (h : rf_H) : rf_j_M_lies_II_I_91 d o l1 l2 l4 l6 l7 s0 h = (if l7 = 0 then rf_j_M_lies_II_I_47 d o l1 l2 (rf_w (l4 + 0)) s0 (rf_w (l6 + 3)) h else rf_j_M_lies_II_I_47 d o l1 l2 (rf_w (l4 + 1)) s0 (rf_w (l6 + 3)) h) :=
  ((rf_s_istore (L' := [some (.inr (.inr (some o))), some (.inl l1), some (.inl l2), none, some (.inl l4), some (.inl s0), some (.inl l6), some (.inl l7)]) rf_f_M_lies_II_I_91 rfl (rf_s_iload rf_f_M_lies_II_I_93 rfl (rf_m0 _) (rf_s_iload rf_f_M_lies_II_I_95 rfl (rf_m0 _) (rf_s_if_eq rf_f_M_lies_II_I_97 rfl (rf_m0 _) (rf_m0 _) (rf_s_iconst rf_f_M_lies_II_I_104 (rf_m0 _) (rf_s_iadd rf_f_M_lies_II_I_105 (rf_m0 _) (rf_s_istore (L' := [some (.inr (.inr (some o))), some (.inl l1), some (.inl l2), none, some (.inl (rf_w (l4 + 0))), some (.inl s0), some (.inl l6), some (.inl l7)]) rf_f_M_lies_II_I_106 rfl (rf_s_iinc (L' := [some (.inr (.inr (some o))), some (.inl l1), some (.inl l2), none, some (.inl (rf_w (l4 + 0))), some (.inl s0), some (.inl (rf_w (l6 + 3))), some (.inl l7)]) rf_f_M_lies_II_I_108 rfl rfl (rf_s_goto rf_f_M_lies_II_I_111 rfl rfl rfl))))) (rf_s_iconst rf_f_M_lies_II_I_100 (rf_m0 _) (rf_s_goto rf_f_M_lies_II_I_101 rfl (rf_m0 _) (rf_s_iadd rf_f_M_lies_II_I_105 (rf_m0 _) (rf_s_istore (L' := [some (.inr (.inr (some o))), some (.inl l1), some (.inl l2), none, some (.inl (rf_w (l4 + 1))), some (.inl s0), some (.inl l6), some (.inl l7)]) rf_f_M_lies_II_I_106 rfl (rf_s_iinc (L' := [some (.inr (.inr (some o))), some (.inl l1), some (.inl l2), none, some (.inl (rf_w (l4 + 1))), some (.inl s0), some (.inl (rf_w (l6 + 3))), some (.inl l7)]) rf_f_M_lies_II_I_108 rfl rfl (rf_s_goto rf_f_M_lies_II_I_111 rfl rfl rfl)))))))))) : rf_den (rf_call d) rf_m_M_lies_II_I (91, [some (.inr (.inr (some o))), some (.inl l1), some (.inl l2), none, some (.inl l4), none, some (.inl l6), some (.inl l7)], [.inl s0], h) = _)
noncomputable def rf_j_M_trial_44 (d : Nat) (o : Nat) (l1 : Int) (l2 : Int) (l3 : Int) (l4 : Int) (l5 : Int) (h : rf_H) : Option rf_R := rf_den (rf_call d) rf_m_M_trial (44, [some (.inr (.inr (some o))), some (.inl l1), some (.inl l2), some (.inl l3), some (.inl l4), some (.inl l5), none, none, none, none], [], h)
noncomputable def rf_j_M_trial_60 (d : Nat) (o : Nat) (l1 : Int) (l2 : Int) (l3 : Int) (l4 : Int) (l5 : Int) (l6 : Int) (l7 : Int) (l8 : Int) (h : rf_H) : Option rf_R := rf_den (rf_call d) rf_m_M_trial (60, [some (.inr (.inr (some o))), some (.inl l1), some (.inl l2), some (.inl l3), some (.inl l4), some (.inl l5), some (.inl l6), some (.inl l7), some (.inl l8), none], [], h)
noncomputable def rf_j_M_trial_82 (d : Nat) (o : Nat) (l1 : Int) (l2 : Int) (l3 : Int) (l4 : Int) (l5 : Int) (l6 : Int) (l7 : Int) (l8 : Int) (s0 : Int) (h : rf_H) : Option rf_R := rf_den (rf_call d) rf_m_M_trial (82, [some (.inr (.inr (some o))), some (.inl l1), some (.inl l2), some (.inl l3), some (.inl l4), some (.inl l5), some (.inl l6), some (.inl l7), some (.inl l8), none], [.inl s0], h)
noncomputable def rf_j_M_trial_107 (d : Nat) (o : Nat) (l1 : Int) (l2 : Int) (l3 : Int) (l4 : Int) (l5 : Int) (l7 : Int) (l8 : Int) (l9 : Int) (s0 : Int) (s1 : Int) (h : rf_H) : Option rf_R := rf_den (rf_call d) rf_m_M_trial (107, [some (.inr (.inr (some o))), some (.inl l1), some (.inl l2), some (.inl l3), some (.inl l4), some (.inl l5), none, some (.inl l7), some (.inl l8), some (.inl l9)], [.inl s1, .inl s0], h)
theorem rf_u_M_trial : rf_mt 187 = rf_m_M_trial := rfl
theorem rf_f_M_trial_0 : rf_Fb rf_m_M_trial 0 1 (.iload_n 1) 0 0 0 0 [] [] = true := by decide +kernel
theorem rf_f_M_trial_1 : rf_Fb rf_m_M_trial 1 2 (.i2l) 0 0 0 0 [] [] = true := by decide +kernel
theorem rf_f_M_trial_2 : rf_Fb rf_m_M_trial 2 5 (.ldc2_w 175) 0 0 0 2 [] [] = true := by decide +kernel
theorem rf_f_M_trial_5 : rf_Fb rf_m_M_trial 5 8 (.ldc2_w 227) 0 0 0 1022 [] [] = true := by decide +kernel
theorem rf_f_M_trial_8 : rf_Fb rf_m_M_trial 8 11 (.invokestatic 63) 118 3 0 0 [] [] = true := by decide +kernel
theorem rf_f_M_trial_11 : rf_Fb rf_m_M_trial 11 14 (.ifCond .eq 22) 33 0 0 0 [] [] = true := by decide +kernel
theorem rf_f_M_trial_14 : rf_Fb rf_m_M_trial 14 15 (.iload_n 1) 0 0 0 0 [] [] = true := by decide +kernel
theorem rf_f_M_trial_15 : rf_Fb rf_m_M_trial 15 16 (.iconst 1) 0 0 0 0 [] [] = true := by decide +kernel
theorem rf_f_M_trial_16 : rf_Fb rf_m_M_trial 16 17 (.iand) 0 0 0 0 [] [] = true := by decide +kernel
theorem rf_f_M_trial_17 : rf_Fb rf_m_M_trial 17 18 (.iconst 1) 0 0 0 0 [] [] = true := by decide +kernel
theorem rf_f_M_trial_18 : rf_Fb rf_m_M_trial 18 21 (.if_icmp .eq 15) 33 0 0 0 [] [] = true := by decide +kernel
theorem rf_f_M_trial_21 : rf_Fb rf_m_M_trial 21 22 (.iload_n 2) 0 0 0 0 [] [] = true := by decide +kernel
theorem rf_f_M_trial_22 : rf_Fb rf_m_M_trial 22 23 (.i2l) 0 0 0 0 [] [] = true := by decide +kernel
theorem rf_f_M_trial_23 : rf_Fb rf_m_M_trial 23 24 (.lconst 0) 0 0 0 0 [] [] = true := by decide +kernel
theorem rf_f_M_trial_24 : rf_Fb rf_m_M_trial 24 27 (.ldc2_w 175) 0 0 0 2 [] [] = true := by decide +kernel
theorem rf_f_M_trial_27 : rf_Fb rf_m_M_trial 27 30 (.invokestatic 63) 118 3 0 0 [] [] = true := by decide +kernel
theorem rf_f_M_trial_30 : rf_Fb rf_m_M_trial 30 33 (.ifCond .ne 5) 35 0 0 0 [] [] = true := by decide +kernel
theorem rf_f_M_trial_33 : rf_Fb rf_m_M_trial 33 34 (.iconst (-1)) 0 0 0 0 [] [] = true := by decide +kernel
theorem rf_f_M_trial_34 : rf_Fb rf_m_M_trial 34 35 (.ireturn) 0 0 0 0 [] [] = true := by decide +kernel
theorem rf_f_M_trial_35 : rf_Fb rf_m_M_trial 35 36 (.iconst 0) 0 0 0 0 [] [] = true := by decide +kernel
theorem rf_f_M_trial_36 : rf_Fb rf_m_M_trial 36 37 (.istore_n 3) 0 0 0 0 [] [] = true := by decide +kernel
theorem rf_f_M_trial_37 : rf_Fb rf_m_M_trial 37 39 (.bipush 100) 0 0 0 0 [] [] = true := by decide +kernel
theorem rf_f_M_trial_39 : rf_Fb rf_m_M_trial 39 41 (.istore 4) 0 0 0 0 [] [] = true := by decide +kernel
theorem rf_f_M_trial_41 : rf_Fb rf_m_M_trial 41 42 (.iconst 0) 0 0 0 0 [] [] = true := by decide +kernel
theorem rf_f_M_trial_42 : rf_Fb rf_m_M_trial 42 44 (.istore 5) 0 0 0 0 [] [true, true, true, true, true, true, false, false, false, false] = true := by decide +kernel
theorem rf_f_M_trial_44 : rf_Fb rf_m_M_trial 44 46 (.iload 5) 0 0 0 0 [] [] = true := by decide +kernel
theorem rf_f_M_trial_46 : rf_Fb rf_m_M_trial 46 48 (.bipush 10) 0 0 0 0 [] [] = true := by decide +kernel
theorem rf_f_M_trial_48 : rf_Fb rf_m_M_trial 48 51 (.if_icmp .ge 132) 180 0 0 0 [] [] = true := by decide +kernel
theorem rf_f_M_trial_51 : rf_Fb rf_m_M_trial 51 52 (.iconst 0) 0 0 0 0 [] [] = true := by decide +kernel
theorem rf_f_M_trial_52 : rf_Fb rf_m_M_trial 52 54 (.istore 6) 0 0 0 0 [] [] = true := by decide +kernel
theorem rf_f_M_trial_54 : rf_Fb rf_m_M_trial 54 55 (.iconst 0) 0 0 0 0 [] [] = true := by decide +kernel
theorem rf_f_M_trial_55 : rf_Fb rf_m_M_trial 55 57 (.istore 7) 0 0 0 0 [] [] = true := by decide +kernel
theorem rf_f_M_trial_57 : rf_Fb rf_m_M_trial 57 58 (.iconst 1) 0 0 0 0 [] [] = true := by decide +kernel
theorem rf_f_M_trial_58 : rf_Fb rf_m_M_trial 58 60 (.istore 8) 0 0 0 0 [] [true, true, true, true, true, true, true, true, true, false] = true := by decide +kernel
theorem rf_f_M_trial_60 : rf_Fb rf_m_M_trial 60 62 (.iload 8) 0 0 0 0 [] [] = true := by decide +kernel
theorem rf_f_M_trial_62 : rf_Fb rf_m_M_trial 62 64 (.bipush 10) 0 0 0 0 [] [] = true := by decide +kernel
theorem rf_f_M_trial_64 : rf_Fb rf_m_M_trial 64 67 (.if_icmp .ge 78) 142 0 0 0 [] [] = true := by decide +kernel
theorem rf_f_M_trial_67 : rf_Fb rf_m_M_trial 67 68 (.iload_n 1) 0 0 0 0 [] [] = true := by decide +kernel
theorem rf_f_M_trial_68 : rf_Fb rf_m_M_trial 68 70 (.iload 8) 0 0 0 0 [] [] = true := by decide +kernel
theorem rf_f_M_trial_70 : rf_Fb rf_m_M_trial 70 71 (.ishr) 0 0 0 0 [] [] = true := by decide +kernel
theorem rf_f_M_trial_71 : rf_Fb rf_m_M_trial 71 72 (.iconst 1) 0 0 0 0 [] [] = true := by decide +kernel
theorem rf_f_M_trial_72 : rf_Fb rf_m_M_trial 72 73 (.iand) 0 0 0 0 [] [] = true := by decide +kernel
theorem rf_f_M_trial_73 : rf_Fb rf_m_M_trial 73 74 (.iconst 1) 0 0 0 0 [] [] = true := by decide +kernel
theorem rf_f_M_trial_74 : rf_Fb rf_m_M_trial 74 77 (.if_icmp .ne 7) 81 0 0 0 [] [] = true := by decide +kernel
theorem rf_f_M_trial_77 : rf_Fb rf_m_M_trial 77 78 (.iconst 1) 0 0 0 0 [] [] = true := by decide +kernel
theorem rf_f_M_trial_78 : rf_Fb rf_m_M_trial 78 81 (.goto 4) 82 0 0 0 [] [] = true := by decide +kernel
theorem rf_f_M_trial_81 : rf_Fb rf_m_M_trial 81 82 (.iconst 0) 0 0 0 0 [] [true, true, true, true, true, true, true, true, true, false] = true := by decide +kernel
theorem rf_f_M_trial_82 : rf_Fb rf_m_M_trial 82 84 (.istore 9) 0 0 0 0 [] [] = true := by decide +kernel
theorem rf_f_M_trial_84 : rf_Fb rf_m_M_trial 84 86 (.iload 6) 0 0 0 0 [] [] = true := by decide +kernel
theorem rf_f_M_trial_86 : rf_Fb rf_m_M_trial 86 88 (.iload 9) 0 0 0 0 [] [] = true := by decide +kernel
theorem rf_f_M_trial_88 : rf_Fb rf_m_M_trial 88 91 (.ifCond .eq 18) 106 0 0 0 [] [] = true := by decide +kernel
theorem rf_f_M_trial_91 : rf_Fb rf_m_M_trial 91 93 (.iload 8) 0 0 0 0 [] [] = true := by decide +kernel
theorem rf_f_M_trial_93 : rf_Fb rf_m_M_trial 93 94 (.iload_n 2) 0 0 0 0 [] [] = true := by decide +kernel
theorem rf_f_M_trial_94 : rf_Fb rf_m_M_trial 94 96 (.iload 5) 0 0 0 0 [] [] = true := by decide +kernel
theorem rf_f_M_trial_96 : rf_Fb rf_m_M_trial 96 99 (.invokestatic 217) 185 3 0 0 [] [] = true := by decide +kernel
theorem rf_f_M_trial_99 : rf_Fb rf_m_M_trial 99 102 (.ifCond .eq 7) 106 0 0 0 [] [] = true := by decide +kernel
theorem rf_f_M_trial_102 : rf_Fb rf_m_M_trial 102 103 (.iconst 1) 0 0 0 0 [] [] = true := by decide +kernel
theorem rf_f_M_trial_103 : rf_Fb rf_m_M_trial 103 106 (.goto 4) 107 0 0 0 [] [] = true := by decide +kernel
theorem rf_f_M_trial_106 : rf_Fb rf_m_M_trial 106 107 (.iconst 0) 0 0 0 0 [] [true, true, true, true, true, true, false, true, true, true] = true := by decide +kernel
theorem rf_f_M_trial_107 : rf_Fb rf_m_M_trial 107 108 (.iadd) 0 0 0 0 [] [] = true := by decide +kernel
theorem rf_f_M_trial_108 : rf_Fb rf_m_M_trial 108 110 (.istore 6) 0 0 0 0 [] [] = true := by decide +kernel
theorem rf_f_M_trial_110 : rf_Fb rf_m_M_trial 110 112 (.iload 7) 0 0 0 0 [] [] = true := by decide +kernel
theorem rf_f_M_trial_112 : rf_Fb rf_m_M_trial 112 114 (.iload 9) 0 0 0 0 [] [] = true := by decide +kernel
theorem rf_f_M_trial_114 : rf_Fb rf_m_M_trial 114 117 (.ifCond .eq 18) 132 0 0 0 [] [] = true := by decide +kernel
theorem rf_f_M_trial_117 : rf_Fb rf_m_M_trial 117 119 (.iload 8) 0 0 0 0 [] [] = true := by decide +kernel
theorem rf_f_M_trial_119 : rf_Fb rf_m_M_trial 119 120 (.iload_n 2) 0 0 0 0 [] [] = true := by decide +kernel
theorem rf_f_M_trial_120 : rf_Fb rf_m_M_trial 120 122 (.iload 5) 0 0 0 0 [] [] = true := by decide +kernel
theorem rf_f_M_trial_122 : rf_Fb rf_m_M_trial 122 125 (.invokestatic 217) 185 3 0 0 [] [] = true := by decide +kernel
theorem rf_f_M_trial_125 : rf_Fb rf_m_M_trial 125 128 (.ifCond .ne 7) 132 0 0 0 [] [] = true := by decide +kernel
theorem rf_f_M_trial_128 : rf_Fb rf_m_M_trial 128 129 (.iconst 1) 0 0 0 0 [] [] = true := by decide +kernel
theorem rf_f_M_trial_129 : rf_Fb rf_m_M_trial 129 132 (.goto 4) 133 0 0 0 [] [] = true := by decide +kernel
theorem rf_f_M_trial_132 : rf_Fb rf_m_M_trial 132 133 (.iconst 0) 0 0 0 0 [] [] = true := by decide +kernel
theorem rf_f_M_trial_133 : rf_Fb rf_m_M_trial 133 134 (.iadd) 0 0 0 0 [] [] = true := by decide +kernel
theorem rf_f_M_trial_134 : rf_Fb rf_m_M_trial 134 136 (.istore 7) 0 0 0 0 [] [] = true := by decide +kernel
theorem rf_f_M_trial_136 : rf_Fb rf_m_M_trial 136 139 (.iinc 8 1) 0 0 0 0 [] [] = true := by decide +kernel
theorem rf_f_M_trial_139 : rf_Fb rf_m_M_trial 139 142 (.goto (-79)) 60 0 0 0 [] [] = true := by decide +kernel
theorem rf_f_M_trial_142 : rf_Fb rf_m_M_trial 142 144 (.iload 6) 0 0 0 0 [] [] = true := by decide +kernel
theorem rf_f_M_trial_144 : rf_Fb rf_m_M_trial 144 146 (.iload 7) 0 0 0 0 [] [] = true := by decide +kernel
theorem rf_f_M_trial_146 : rf_Fb rf_m_M_trial 146 149 (.invokestatic 128) 147 2 0 0 [] [] = true := by decide +kernel
theorem rf_f_M_trial_149 : rf_Fb rf_m_M_trial 149 151 (.istore 8) 0 0 0 0 [] [] = true := by decide +kernel
theorem rf_f_M_trial_151 : rf_Fb rf_m_M_trial 151 153 (.iload 8) 0 0 0 0 [] [] = true := by decide +kernel
theorem rf_f_M_trial_153 : rf_Fb rf_m_M_trial 153 155 (.iload 4) 0 0 0 0 [] [] = true := by decide +kernel
theorem rf_f_M_trial_155 : rf_Fb rf_m_M_trial 155 158 (.if_icmp .ge 8) 163 0 0 0 [] [] = true := by decide +kernel
theorem rf_f_M_trial_158 : rf_Fb rf_m_M_trial 158 160 (.iload 5) 0 0 0 0 [] [] = true := by decide +kernel
theorem rf_f_M_trial_160 : rf_Fb rf_m_M_trial 160 163 (.goto 4) 164 0 0 0 [] [] = true := by decide +kernel
theorem rf_f_M_trial_163 : rf_Fb rf_m_M_trial 163 164 (.iload_n 3) 0 0 0 0 [] [] = true := by decide +kernel
theorem rf_f_M_trial_164 : rf_Fb rf_m_M_trial 164 165 (.istore_n 3) 0 0 0 0 [] [] = true := by decide +kernel
theorem rf_f_M_trial_165 : rf_Fb rf_m_M_trial 165 167 (.iload 4) 0 0 0 0 [] [] = true := by decide +kernel
theorem rf_f_M_trial_167 : rf_Fb rf_m_M_trial 167 169 (.iload 8) 0 0 0 0 [] [] = true := by decide +kernel
theorem rf_f_M_trial_169 : rf_Fb rf_m_M_trial 169 172 (.invokestatic 138) 158 2 0 0 [] [] = true := by decide +kernel
theorem rf_f_M_trial_172 : rf_Fb rf_m_M_trial 172 174 (.istore 4) 0 0 0 0 [] [] = true := by decide +kernel
theorem rf_f_M_trial_174 : rf_Fb rf_m_M_trial 174 177 (.iinc 5 1) 0 0 0 0 [] [] = true := by decide +kernel
theorem rf_f_M_trial_177 : rf_Fb rf_m_M_trial 177 180 (.goto (-133)) 44 0 0 0 [] [] = true := by decide +kernel
theorem rf_f_M_trial_180 : rf_Fb rf_m_M_trial 180 181 (.aload_n 0) 0 0 0 0 [] [] = true := by decide +kernel
theorem rf_f_M_trial_181 : rf_Fb rf_m_M_trial 181 182 (.iload_n 3) 0 0 0 0 [] [] = true := by decide +kernel
theorem rf_f_M_trial_182 : rf_Fb rf_m_M_trial 182 184 (.iload 4) 0 0 0 0 [] [] = true := by decide +kernel
theorem rf_f_M_trial_184 : rf_Fb rf_m_M_trial 184 187 (.invokevirtual 177) 164 2 0 5 [] [] = true := by decide +kernel
theorem rf_f_M_trial_187 : rf_Fb rf_m_M_trial 187 188 (.ireturn) 0 0 0 0 [] [] = true := by decide +kernel
set_option maxRecDepth 20000 in
set_option maxHeartbeats 2000000 in
theorem rf_e_M_trial (d : Nat) (o : Nat) (a1 : Int) (a2 : Int) (h : rf_H) : rf_call (d + 1) 187 [.inr (.inr (some o)), .inl a1, .inl a2] h = ((rf_call d 118 [.inr (.inl a1), .inr (.inl 2), .inr (.inl 1022)] h).bind fun q2 => rf_kI q2 fun x3 h1 => (if x3 = 0 then some (some (.inl (-1)), h1) else (if (rf_and a1 1) = 1 then some (some (.inl (-1)), h1) else ((rf_call d 118 [.inr (.inl a2), .inr (.inl 0), .inr (.inl 2)] h1).bind fun q5 => rf_kI q5 fun x6 h4 => (if x6 = 0 then some (some (.inl (-1)), h4) else rf_j_M_trial_44 d o a1 a2 0 100 0 h4))))) := by
  show rf_den (rf_call d) (rf_mt 187) _ = _
  rw [rf_u_M_trial]
  exact ((rf_s_iload_n rf_f_M_trial_0 rfl (rf_m0 _) (rf_s_i2l rf_f_M_trial_1 (rf_m0 _) (rf_s_ldc2_w rf_f_M_trial_2 (rf_m0 _) (rf_s_ldc2_w rf_f_M_trial_5 (rf_m0 _) (rf_s_invS0 rf_f_M_trial_8 rfl rfl (rf_m0 _) fun q2 x3 h1 => (rf_s_if_eq rf_f_M_trial_11 rfl (rf_m0 _) (rf_m0 _) (rf_s_iconst rf_f_M_trial_33 (rf_m0 _) (rf_s_iret rf_f_M_trial_34)) (rf_s_iload_n rf_f_M_trial_14 rfl (rf_m0 _) (rf_s_iconst rf_f_M_trial_15 (rf_m0 _) (rf_s_iand rf_f_M_trial_16 (rf_m0 _) (rf_s_iconst rf_f_M_trial_17 (rf_m0 _) (rf_s_icmp_eq rf_f_M_trial_18 rfl (rf_m0 _) (rf_m0 _) (rf_s_iconst rf_f_M_trial_33 (rf_m0 _) (rf_s_iret rf_f_M_trial_34)) (rf_s_iload_n rf_f_M_trial_21 rfl (rf_m0 _) (rf_s_i2l rf_f_M_trial_22 (rf_m0 _) (rf_s_lconst rf_f_M_trial_23 (rf_m0 _) (rf_s_ldc2_w rf_f_M_trial_24 (rf_m0 _) (rf_s_invS0 rf_f_M_trial_27 rfl rfl (rf_m0 _) fun q5 x6 h4 => (rf_s_if_ne rf_f_M_trial_30 rfl (rf_m0 _) (rf_m0 _) (rf_s_iconst rf_f_M_trial_35 (rf_m0 _) (rf_s_istore_n (L' := [some (.inr (.inr (some o))), some (.inl a1), some (.inl a2), some (.inl 0), none, none, none, none, none, none]) rf_f_M_trial_36 rfl (rf_s_bipush rf_f_M_trial_37 (rf_m0 _) (rf_s_istore (L' := [some (.inr (.inr (some o))), some (.inl a1), some (.inl a2), some (.inl 0), some (.inl 100), none, none, none, none, none]) rf_f_M_trial_39 rfl (rf_s_iconst rf_f_M_trial_41 (rf_m0 _) (rf_s_istore rf_f_M_trial_42 rfl rfl)))))) (rf_s_iconst rf_f_M_trial_33 (rf_m0 _) (rf_s_iret rf_f_M_trial_34))))))))))))))))))) : rf_den (rf_call d) rf_m_M_trial (0, [some (.inr (.inr (some o))), some (.inl a1), some (.inl a2), none, none, none, none, none, none, none], [], h) = _)
set_option maxRecDepth 20000 in
set_option maxHeartbeats 2000000 in
theorem rf_e_M_trial_44 (d : Nat) (o : Nat) (l1 : Int) (l2 : Int) (l3 : Int) (l4 : Int) (l5 : Int) (h : rf_H) : rf_j_M_trial_44 d o l1 l2 l3 l4 l5 h = (if l5 < 10 then rf_j_M_trial_60 d o l1 l2 l3 l4 l5 0 0 1 h else (bif rf_isO h.1 o 5 then ((rf_call d 164 [.inr (.inr (some o)), .inl l3, .inl l4] h).bind fun q2 => rf_kI q2 fun x3 h1 => some (some (.inl x3), h1)) else none)) :=
  ((rf_s_iload rf_f_M_trial_44 rfl (rf_m0 _) (rf_s_bipush rf_f_M_trial_46 (rf_m0 _) (rf_s_icmp_ge rf_f_M_trial_48 rfl (rf_m0 _) (rf_m0 _) (rf_s_aload_n rf_f_M_trial_180 rfl (rf_m0 _) (rf_s_iload_n rf_f_M_trial_181 rfl (rf_m0 _) (rf_s_iload rf_f_M_trial_182 rfl (rf_m0 _) (rf_s_invV0S rf_f_M_trial_184 rfl rfl (rf_m0 _) fun q2 x3 h1 => (rf_s_iret rf_f_M_trial_187))))) (rf_s_iconst rf_f_M_trial_51 (rf_m0 _) (rf_s_istore (L' := [some (.inr (.inr (some o))), some (.inl l1), some (.inl l2), some (.inl l3), some (.inl l4), some (.inl l5), some (.inl 0), none, none, none]) rf_f_M_trial_52 rfl (rf_s_iconst rf_f_M_trial_54 (rf_m0 _) (rf_s_istore (L' := [some (.inr (.inr (some o))), some (.inl l1), some (.inl l2), some (.inl l3), some (.inl l4), some (.inl l5), some (.inl 0), some (.inl 0), none, none]) rf_f_M_trial_55 rfl (rf_s_iconst rf_f_M_trial_57 (rf_m0 _) (rf_s_istore rf_f_M_trial_58 rfl rfl))))))))) : rf_den (rf_call d) rf_m_M_trial (44, [some (.inr (.inr (some o))), some (.inl l1), some (.inl l2), some (.inl l3), some (.inl l4), some (.inl l5), none, none, none, none], [], h) = _)
set_option maxRecDepth 20000 in
set_option maxHeartbeats 2000000 in
theorem rf_e_M_trial_60 (d : Nat) (o : Nat) (l1 : Int) (l2 : Int) (l3 : Int) (l4 : Int) (l5 : Int) (l6 : Int) (l7 : Int) (l8 : Int) (h : rf_H) : rf_j_M_trial_60 d o l1 l2 l3 l4 l5 l6 l7 l8 h = (if l8 < 10 then (if (rf_and (rf_shr l1 l8) 1) = 1 then rf_j_M_trial_82 d o l1 l2 l3 l4 l5 l6 l7 l8 1 h else rf_j_M_trial_82 d o l1 l2 l3 l4 l5 l6 l7 l8 0 h) else ((rf_call d 147 [.inl l6, .inl l7] h).bind fun q2 => rf_kI q2 fun x3 h1 => (if x3 < l4 then ((rf_call d 158 [.inl l4, .inl x3] h1).bind fun q8 => rf_kI q8 fun x9 h7 => rf_j_M_trial_44 d o l1 l2 l5 x9 (rf_w (l5 + 1)) h7) else ((rf_call d 158 [.inl l4, .inl x3] h1).bind fun q5 => rf_kI q5 fun x6 h4 => rf_j_M_trial_44 d o l1 l2 l3 x6 (rf_w (l5 + 1)) h4)))) :=
  ((rf_s_iload rf_f_M_trial_60 rfl (rf_m0 _) (rf_s_bipush rf_f_M_trial_62 (rf_m0 _) (rf_s_icmp_ge rf_f_M_trial_64 rfl (rf_m0 _) (rf_m0 _) (rf_s_iload rf_f_M_trial_142 rfl (rf_m0 _) (rf_s_iload rf_f_M_trial_144 rfl (rf_m0 _) (rf_s_invS0 rf_f_M_trial_146 rfl rfl (rf_m0 _) fun q2 x3 h1 => (rf_s_istore (L' := [some (.inr (.inr (some o))), some (.inl l1), some (.inl l2), some (.inl l3), some (.inl l4), some (.inl l5), some (.inl l6), some (.inl l7), some (.inl x3), none]) rf_f_M_trial_149 rfl (rf_s_iload rf_f_M_trial_151 rfl (rf_m0 _) (rf_s_iload rf_f_M_trial_153 rfl (rf_m0 _) (rf_s_icmp_ge rf_f_M_trial_155 rfl (rf_m0 _) (rf_m0 _) (rf_s_iload_n rf_f_M_trial_163 rfl (rf_m0 _) (rf_s_istore_n (L' := [some (.inr (.inr (some o))), some (.inl l1), some (.inl l2), some (.inl l3), some (.inl l4), some (.inl l5), some (.inl l6), some (.inl l7), some (.inl x3), none]) rf_f_M_trial_164 rfl (rf_s_iload rf_f_M_trial_165 rfl (rf_m0 _) (rf_s_iload rf_f_M_trial_167 rfl (rf_m0 _) (rf_s_invS0 rf_f_M_trial_169 rfl rfl (rf_m0 _) fun q5 x6 h4 => (rf_s_istore (L' := [some (.inr (.inr (some o))), some (.inl l1), some (.inl l2), some (.inl l3), some (.inl x6), some (.inl l5), some (.inl l6), some (.inl l7), some (.inl x3), none]) rf_f_M_trial_172 rfl (rf_s_iinc (L' := [some (.inr (.inr (some o))), some (.inl l1), some (.inl l2), some (.inl l3), some (.inl x6), some (.inl (rf_w (l5 + 1))), some (.inl l6), some (.inl l7), some (.inl x3), none]) rf_f_M_trial_174 rfl rfl (rf_s_goto rf_f_M_trial_177 rfl rfl rfl)))))))) (rf_s_iload rf_f_M_trial_158 rfl (rf_m0 _) (rf_s_goto rf_f_M_trial_160 rfl (rf_m0 _) (rf_s_istore_n (L' := [some (.inr (.inr (some o))), some (.inl l1), some (.inl l2), some (.inl l5), some (.inl l4), some (.inl l5), some (.inl l6), some (.inl l7), some (.inl x3), none]) rf_f_M_trial_164 rfl (rf_s_iload rf_f_M_trial_165 rfl (rf_m0 _) (rf_s_iload rf_f_M_trial_167 rfl (rf_m0 _) (rf_s_invS0 rf_f_M_trial_169 rfl rfl (rf_m0 _) fun q8 x9 h7 => (rf_s_istore (L' := [some (.inr (.inr (some o))), some (.inl l1), some (.inl l2), some (.inl l5), some (.inl x9), some (.inl l5), some (.inl l6), some (.inl l7), some (.inl x3), none]) rf_f_M_trial_172 rfl (rf_s_iinc (L' := [some (.inr (.inr (some o))), some (.inl l1), some (.inl l2), some (.inl l5), some (.inl x9), some (.inl (rf_w (l5 + 1))), some (.inl l6), some (.inl l7), some (.inl x3), none]) rf_f_M_trial_174 rfl rfl (rf_s_goto rf_f_M_trial_177 rfl rfl rfl)))))))))))))))) (rf_s_iload_n rf_f_M_trial_67 rfl (rf_m0 _) (rf_s_iload rf_f_M_trial_68 rfl (rf_m0 _) (rf_s_ishr rf_f_M_trial_70 (rf_m0 _) (rf_s_iconst rf_f_M_trial_71 (rf_m0 _) (rf_s_iand rf_f_M_trial_72 (rf_m0 _) (rf_s_iconst rf_f_M_trial_73 (rf_m0 _) (rf_s_icmp_ne rf_f_M_trial_74 rfl (rf_m0 _) (rf_m0 _) (rf_s_iconst rf_f_M_trial_81 rfl rfl) (rf_s_iconst rf_f_M_trial_77 (rf_m0 _) (rf_s_goto rf_f_M_trial_78 rfl rfl rfl)))))))))))) : rf_den (rf_call d) rf_m_M_trial (60, [some (.inr (.inr (some o))), some (.inl l1), some (.inl l2), some (.inl l3), some (.inl l4), some (.inl l5), some (.inl l6), some (.inl l7), some (.inl l8), none], [], h) = _)
set_option maxRecDepth 20000 in
set_option maxHeartbeats 2000000 in
theorem rf_e_M_trial_82 (d : Nat) (o : Nat) (l1 : Int) (l2 : Int) (l3 : Int) (l4 : Int) (l5 : Int) (l6 : Int) (l7 : Int) (l8 : Int) (s0 : Int) (h : rf_H) : rf_j_M_trial_82 d o l1 l2 l3 l4 l5 l6 l7 l8 s0 h = (if s0 = 0 then rf_j_M_trial_107 d o l1 l2 l3 l4 l5 l7 l8 s0 l6 0 h else ((rf_call d 185 [.inl l8, .inl l2, .inl l5] h).bind fun q2 => rf_kI q2 fun x3 h1 => (if x3 = 0 then rf_j_M_trial_107 d o l1 l2 l3 l4 l5 l7 l8 s0 l6 0 h1 else rf_j_M_trial_107 d o l1 l2 l3 l4 l5 l7 l8 s0 l6 1 h1))) :=
  ((rf_s_istore (L' := [some (.inr (.inr (some o))), some (.inl l1), some (.inl l2), some (.inl l3), some (.inl l4), some (.inl l5), some (.inl l6), some (.inl l7), some (.inl l8), some (.inl s0)]) rf_f_M_trial_82 rfl (rf_s_iload rf_f_M_trial_84 rfl (rf_m0 _) (rf_s_iload rf_f_M_trial_86 rfl (rf_m0 _) (rf_s_if_eq rf_f_M_trial_88 rfl (rf_m0 _) (rf_m0 _) (rf_s_iconst rf_f_M_trial_106 rfl rfl) (rf_s_iload rf_f_M_trial_91 rfl (rf_m0 _) (rf_s_iload_n rf_f_M_trial_93 rfl (rf_m0 _) (rf_s_iload rf_f_M_trial_94 rfl (rf_m0 _) (rf_s_invS0 rf_f_M_trial_96 rfl rfl (rf_m0 _) fun q2 x3 h1 => (rf_s_if_eq rf_f_M_trial_99 rfl (rf_m0 _) (rf_m0 _) (rf_s_iconst rf_f_M_trial_106 rfl rfl) (rf_s_iconst rf_f_M_trial_102 (rf_m0 _) (rf_s_goto rf_f_M_trial_103 rfl rfl rfl))))))))))) : rf_den (rf_call d) rf_m_M_trial (82, [some (.inr (.inr (some o))), some (.inl l1), some (.inl l2), some (.inl l3), some (.inl l4), some (.inl l5), some (.inl l6), some (.inl l7), some (.inl l8), none], [.inl s0], h) = _)
set_option maxRecDepth 20000 in
set_option maxHeartbeats 2000000 in
theorem rf_e_M_trial_107 (d : Nat) (o : Nat) (l1 : Int) (l2 : Int) (l3 : Int) (l4 : Int) (l5 : Int) (l7 : Int) (l8 : Int) (l9 : Int) (s0 : Int) (s1 : Int) (h : rf_H) : rf_j_M_trial_107 d o l1 l2 l3 l4 l5 l7 l8 l9 s0 s1 h = (if l9 = 0 then rf_j_M_trial_60 d o l1 l2 l3 l4 l5 (rf_w (s0 + s1)) (rf_w (l7 + 0)) (rf_w (l8 + 1)) h else ((rf_call d 185 [.inl l8, .inl l2, .inl l5] h).bind fun q2 => rf_kI q2 fun x3 h1 => (if x3 = 0 then rf_j_M_trial_60 d o l1 l2 l3 l4 l5 (rf_w (s0 + s1)) (rf_w (l7 + 1)) (rf_w (l8 + 1)) h1 else rf_j_M_trial_60 d o l1 l2 l3 l4 l5 (rf_w (s0 + s1)) (rf_w (l7 + 0)) (rf_w (l8 + 1)) h1))) :=
  ((rf_s_iadd rf_f_M_trial_107 (rf_m0 _) (rf_s_istore (L' := [some (.inr (.inr (some o))), some (.inl l1), some (.inl l2), some (.inl l3), some (.inl l4), some (.inl l5), some (.inl (rf_w (s0 + s1))), some (.inl l7), some (.inl l8), some (.inl l9)]) rf_f_M_trial_108 rfl (rf_s_iload rf_f_M_trial_110 rfl (rf_m0 _) (rf_s_iload rf_f_M_trial_112 rfl (rf_m0 _) (rf_s_if_eq rf_f_M_trial_114 rfl (rf_m0 _) (rf_m0 _) (rf_s_iconst rf_f_M_trial_132 (rf_m0 _) (rf_s_iadd rf_f_M_trial_133 (rf_m0 _) (rf_s_istore (L' := [some (.inr (.inr (some o))), some (.inl l1), some (.inl l2), some (.inl l3), some (.inl l4), some (.inl l5), some (.inl (rf_w (s0 + s1))), some (.inl (rf_w (l7 + 0))), some (.inl l8), some (.inl l9)]) rf_f_M_trial_134 rfl (rf_s_iinc (L' := [some (.inr (.inr (some o))), some (.inl l1), some (.inl l2), some (.inl l3), some (.inl l4), some (.inl l5), some (.inl (rf_w (s0 + s1))), some (.inl (rf_w (l7 + 0))), some (.inl (rf_w (l8 + 1))), some (.inl l9)]) rf_f_M_trial_136 rfl rfl (rf_s_goto rf_f_M_trial_139 rfl rfl rfl))))) (rf_s_iload rf_f_M_trial_117 rfl (rf_m0 _) (rf_s_iload_n rf_f_M_trial_119 rfl (rf_m0 _) (rf_s_iload rf_f_M_trial_120 rfl (rf_m0 _) (rf_s_invS0 rf_f_M_trial_122 rfl rfl (rf_m0 _) fun q2 x3 h1 => (rf_s_if_ne rf_f_M_trial_125 rfl (rf_m0 _) (rf_m0 _) (rf_s_iconst rf_f_M_trial_132 (rf_m0 _) (rf_s_iadd rf_f_M_trial_133 (rf_m0 _) (rf_s_istore (L' := [some (.inr (.inr (some o))), some (.inl l1), some (.inl l2), some (.inl l3), some (.inl l4), some (.inl l5), some (.inl (rf_w (s0 + s1))), some (.inl (rf_w (l7 + 0))), some (.inl l8), some (.inl l9)]) rf_f_M_trial_134 rfl (rf_s_iinc (L' := [some (.inr (.inr (some o))), some (.inl l1), some (.inl l2), some (.inl l3), some (.inl l4), some (.inl l5), some (.inl (rf_w (s0 + s1))), some (.inl (rf_w (l7 + 0))), some (.inl (rf_w (l8 + 1))), some (.inl l9)]) rf_f_M_trial_136 rfl rfl (rf_s_goto rf_f_M_trial_139 rfl rfl rfl))))) (rf_s_iconst rf_f_M_trial_128 (rf_m0 _) (rf_s_goto rf_f_M_trial_129 rfl (rf_m0 _) (rf_s_iadd rf_f_M_trial_133 (rf_m0 _) (rf_s_istore (L' := [some (.inr (.inr (some o))), some (.inl l1), some (.inl l2), some (.inl l3), some (.inl l4), some (.inl l5), some (.inl (rf_w (s0 + s1))), some (.inl (rf_w (l7 + 1))), some (.inl l8), some (.inl l9)]) rf_f_M_trial_134 rfl (rf_s_iinc (L' := [some (.inr (.inr (some o))), some (.inl l1), some (.inl l2), some (.inl l3), some (.inl l4), some (.inl l5), some (.inl (rf_w (s0 + s1))), some (.inl (rf_w (l7 + 1))), some (.inl (rf_w (l8 + 1))), some (.inl l9)]) rf_f_M_trial_136 rfl rfl (rf_s_goto rf_f_M_trial_139 rfl rfl rfl)))))))))))))))) : rf_den (rf_call d) rf_m_M_trial (107, [some (.inr (.inr (some o))), some (.inl l1), some (.inl l2), some (.inl l3), some (.inl l4), some (.inl l5), none, some (.inl l7), some (.inl l8), some (.inl l9)], [.inl s1, .inl s0], h) = _)
noncomputable def rf_j_M_lots_68 (d : Nat) (o : Nat) (l1 : Int) (l3 : Int) (l4 : Int) (l6 : Int) (h : rf_H) : Option rf_R := rf_den (rf_call d) rf_m_M_lots (68, [some (.inr (.inr (some o))), some (.inl l1), none, some (.inl l3), some (.inr (.inl l4)), none, some (.inl l6), none], [], h)
theorem rf_u_M_lots : rf_mt 188 = rf_m_M_lots := rfl
theorem rf_f_M_lots_0 : rf_Fb rf_m_M_lots 0 1 (.iload_n 1) 0 0 0 0 [] [] = true := by decide +kernel
theorem rf_f_M_lots_1 : rf_Fb rf_m_M_lots 1 2 (.i2l) 0 0 0 0 [] [] = true := by decide +kernel
theorem rf_f_M_lots_2 : rf_Fb rf_m_M_lots 2 3 (.lconst 1) 0 0 0 1 [] [] = true := by decide +kernel
theorem rf_f_M_lots_3 : rf_Fb rf_m_M_lots 3 6 (.ldc2_w 229) 0 0 0 20 [] [] = true := by decide +kernel
theorem rf_f_M_lots_6 : rf_Fb rf_m_M_lots 6 9 (.invokestatic 63) 118 3 0 0 [] [] = true := by decide +kernel
theorem rf_f_M_lots_9 : rf_Fb rf_m_M_lots 9 12 (.ifCond .eq 15) 24 0 0 0 [] [] = true := by decide +kernel
theorem rf_f_M_lots_12 : rf_Fb rf_m_M_lots 12 13 (.iload_n 2) 0 0 0 0 [] [] = true := by decide +kernel
theorem rf_f_M_lots_13 : rf_Fb rf_m_M_lots 13 14 (.i2l) 0 0 0 0 [] [] = true := by decide +kernel
theorem rf_f_M_lots_14 : rf_Fb rf_m_M_lots 14 15 (.lconst 1) 0 0 0 1 [] [] = true := by decide +kernel
theorem rf_f_M_lots_15 : rf_Fb rf_m_M_lots 15 18 (.ldc2_w 231) 0 0 0 2147483646 [] [] = true := by decide +kernel
theorem rf_f_M_lots_18 : rf_Fb rf_m_M_lots 18 21 (.invokestatic 63) 118 3 0 0 [] [] = true := by decide +kernel
theorem rf_f_M_lots_21 : rf_Fb rf_m_M_lots 21 24 (.ifCond .ne 5) 26 0 0 0 [] [] = true := by decide +kernel
theorem rf_f_M_lots_24 : rf_Fb rf_m_M_lots 24 25 (.iconst (-1)) 0 0 0 0 [] [] = true := by decide +kernel
theorem rf_f_M_lots_25 : rf_Fb rf_m_M_lots 25 26 (.ireturn) 0 0 0 0 [] [] = true := by decide +kernel
theorem rf_f_M_lots_26 : rf_Fb rf_m_M_lots 26 27 (.aload_n 0) 0 0 0 0 [] [] = true := by decide +kernel
theorem rf_f_M_lots_27 : rf_Fb rf_m_M_lots 27 30 (.invokevirtual 162) 150 0 0 5 [] [] = true := by decide +kernel
theorem rf_f_M_lots_30 : rf_Fb rf_m_M_lots 30 33 (.ifCond .ne 6) 36 0 0 0 [] [] = true := by decide +kernel
theorem rf_f_M_lots_33 : rf_Fb rf_m_M_lots 33 35 (.bipush (-4)) 0 0 0 0 [] [] = true := by decide +kernel
theorem rf_f_M_lots_35 : rf_Fb rf_m_M_lots 35 36 (.ireturn) 0 0 0 0 [] [] = true := by decide +kernel
theorem rf_f_M_lots_36 : rf_Fb rf_m_M_lots 36 37 (.aload_n 0) 0 0 0 0 [] [] = true := by decide +kernel
theorem rf_f_M_lots_37 : rf_Fb rf_m_M_lots 37 40 (.getfield 22) 5 4 2 0 [] [] = true := by decide +kernel
theorem rf_f_M_lots_40 : rf_Fb rf_m_M_lots 40 42 (.bipush 37) 0 0 0 0 [] [] = true := by decide +kernel
theorem rf_f_M_lots_42 : rf_Fb rf_m_M_lots 42 43 (.iaload) 0 0 0 0 [] [] = true := by decide +kernel
theorem rf_f_M_lots_43 : rf_Fb rf_m_M_lots 43 44 (.iload_n 1) 0 0 0 0 [] [] = true := by decide +kernel
theorem rf_f_M_lots_44 : rf_Fb rf_m_M_lots 44 45 (.iadd) 0 0 0 0 [] [] = true := by decide +kernel
theorem rf_f_M_lots_45 : rf_Fb rf_m_M_lots 45 47 (.bipush 60) 0 0 0 0 [] [] = true := by decide +kernel
theorem rf_f_M_lots_47 : rf_Fb rf_m_M_lots 47 50 (.if_icmp .le 6) 53 0 0 0 [] [] = true := by decide +kernel
theorem rf_f_M_lots_50 : rf_Fb rf_m_M_lots 50 52 (.bipush (-2)) 0 0 0 0 [] [] = true := by decide +kernel
theorem rf_f_M_lots_52 : rf_Fb rf_m_M_lots 52 53 (.ireturn) 0 0 0 0 [] [] = true := by decide +kernel
theorem rf_f_M_lots_53 : rf_Fb rf_m_M_lots 53 54 (.aload_n 0) 0 0 0 0 [] [] = true := by decide +kernel
theorem rf_f_M_lots_54 : rf_Fb rf_m_M_lots 54 57 (.getfield 22) 5 4 2 0 [] [] = true := by decide +kernel
theorem rf_f_M_lots_57 : rf_Fb rf_m_M_lots 57 59 (.bipush 35) 0 0 0 0 [] [] = true := by decide +kernel
theorem rf_f_M_lots_59 : rf_Fb rf_m_M_lots 59 60 (.iaload) 0 0 0 0 [] [] = true := by decide +kernel
theorem rf_f_M_lots_60 : rf_Fb rf_m_M_lots 60 61 (.istore_n 3) 0 0 0 0 [] [] = true := by decide +kernel
theorem rf_f_M_lots_61 : rf_Fb rf_m_M_lots 61 62 (.iload_n 2) 0 0 0 0 [] [] = true := by decide +kernel
theorem rf_f_M_lots_62 : rf_Fb rf_m_M_lots 62 63 (.i2l) 0 0 0 0 [] [] = true := by decide +kernel
theorem rf_f_M_lots_63 : rf_Fb rf_m_M_lots 63 65 (.lstore 4) 0 0 0 0 [] [] = true := by decide +kernel
theorem rf_f_M_lots_65 : rf_Fb rf_m_M_lots 65 66 (.iconst 0) 0 0 0 0 [] [] = true := by decide +kernel
theorem rf_f_M_lots_66 : rf_Fb rf_m_M_lots 66 68 (.istore 6) 0 0 0 0 [] [true, true, false, true, true, false, true, false] = true := by decide +kernel
theorem rf_f_M_lots_68 : rf_Fb rf_m_M_lots 68 70 (.iload 6) 0 0 0 0 [] [] = true := by decide +kernel
theorem rf_f_M_lots_70 : rf_Fb rf_m_M_lots 70 71 (.iload_n 1) 0 0 0 0 [] [] = true := by decide +kernel
theorem rf_f_M_lots_71 : rf_Fb rf_m_M_lots 71 74 (.if_icmp .ge 59) 130 0 0 0 [] [] = true := by decide +kernel
theorem rf_f_M_lots_74 : rf_Fb rf_m_M_lots 74 76 (.lload 4) 0 0 0 0 [] [] = true := by decide +kernel
theorem rf_f_M_lots_76 : rf_Fb rf_m_M_lots 76 79 (.ldc2_w 233) 0 0 0 48271 [] [] = true := by decide +kernel
theorem rf_f_M_lots_79 : rf_Fb rf_m_M_lots 79 80 (.lmul) 0 0 0 0 [] [] = true := by decide +kernel
theorem rf_f_M_lots_80 : rf_Fb rf_m_M_lots 80 83 (.ldc2_w 235) 0 0 0 2147483647 [] [] = true := by decide +kernel
theorem rf_f_M_lots_83 : rf_Fb rf_m_M_lots 83 84 (.lrem) 0 0 0 0 [] [] = true := by decide +kernel
theorem rf_f_M_lots_84 : rf_Fb rf_m_M_lots 84 86 (.lstore 4) 0 0 0 0 [] [] = true := by decide +kernel
theorem rf_f_M_lots_86 : rf_Fb rf_m_M_lots 86 88 (.lload 4) 0 0 0 0 [] [] = true := by decide +kernel
theorem rf_f_M_lots_88 : rf_Fb rf_m_M_lots 88 91 (.ldc2_w 237) 0 0 0 16 [] [] = true := by decide +kernel
theorem rf_f_M_lots_91 : rf_Fb rf_m_M_lots 91 92 (.ldiv) 0 0 0 0 [] [] = true := by decide +kernel
theorem rf_f_M_lots_92 : rf_Fb rf_m_M_lots 92 95 (.ldc2_w 239) 0 0 0 15 [] [] = true := by decide +kernel
theorem rf_f_M_lots_95 : rf_Fb rf_m_M_lots 95 96 (.lrem) 0 0 0 0 [] [] = true := by decide +kernel
theorem rf_f_M_lots_96 : rf_Fb rf_m_M_lots 96 97 (.l2i) 0 0 0 0 [] [] = true := by decide +kernel
theorem rf_f_M_lots_97 : rf_Fb rf_m_M_lots 97 99 (.istore 7) 0 0 0 0 [] [] = true := by decide +kernel
theorem rf_f_M_lots_99 : rf_Fb rf_m_M_lots 99 100 (.aload_n 0) 0 0 0 0 [] [] = true := by decide +kernel
theorem rf_f_M_lots_100 : rf_Fb rf_m_M_lots 100 103 (.invokevirtual 153) 142 0 3 5 [] [] = true := by decide +kernel
theorem rf_f_M_lots_103 : rf_Fb rf_m_M_lots 103 104 (.aload_n 0) 0 0 0 0 [] [] = true := by decide +kernel
theorem rf_f_M_lots_104 : rf_Fb rf_m_M_lots 104 105 (.aload_n 0) 0 0 0 0 [] [] = true := by decide +kernel
theorem rf_f_M_lots_105 : rf_Fb rf_m_M_lots 105 107 (.iload 7) 0 0 0 0 [] [] = true := by decide +kernel
theorem rf_f_M_lots_107 : rf_Fb rf_m_M_lots 107 110 (.invokevirtual 169) 152 1 0 5 [] [] = true := by decide +kernel
theorem rf_f_M_lots_110 : rf_Fb rf_m_M_lots 110 113 (.ifCond .eq 8) 118 0 0 0 [] [] = true := by decide +kernel
theorem rf_f_M_lots_113 : rf_Fb rf_m_M_lots 113 115 (.iload 7) 0 0 0 0 [] [] = true := by decide +kernel
theorem rf_f_M_lots_115 : rf_Fb rf_m_M_lots 115 118 (.goto 5) 120 0 0 0 [] [] = true := by decide +kernel
theorem rf_f_M_lots_118 : rf_Fb rf_m_M_lots 118 120 (.bipush 11) 0 0 0 0 [] [] = true := by decide +kernel
theorem rf_f_M_lots_120 : rf_Fb rf_m_M_lots 120 123 (.invokevirtual 172) 153 1 0 5 [] [] = true := by decide +kernel
theorem rf_f_M_lots_123 : rf_Fb rf_m_M_lots 123 124 (.pop) 0 0 0 0 [] [] = true := by decide +kernel
theorem rf_f_M_lots_124 : rf_Fb rf_m_M_lots 124 127 (.iinc 6 1) 0 0 0 0 [] [] = true := by decide +kernel
theorem rf_f_M_lots_127 : rf_Fb rf_m_M_lots 127 130 (.goto (-59)) 68 0 0 0 [] [] = true := by decide +kernel
theorem rf_f_M_lots_130 : rf_Fb rf_m_M_lots 130 131 (.aload_n 0) 0 0 0 0 [] [] = true := by decide +kernel
theorem rf_f_M_lots_131 : rf_Fb rf_m_M_lots 131 134 (.getfield 22) 5 4 2 0 [] [] = true := by decide +kernel
theorem rf_f_M_lots_134 : rf_Fb rf_m_M_lots 134 136 (.bipush 35) 0 0 0 0 [] [] = true := by decide +kernel
theorem rf_f_M_lots_136 : rf_Fb rf_m_M_lots 136 137 (.iaload) 0 0 0 0 [] [] = true := by decide +kernel
theorem rf_f_M_lots_137 : rf_Fb rf_m_M_lots 137 138 (.iload_n 3) 0 0 0 0 [] [] = true := by decide +kernel
theorem rf_f_M_lots_138 : rf_Fb rf_m_M_lots 138 139 (.isub) 0 0 0 0 [] [] = true := by decide +kernel
theorem rf_f_M_lots_139 : rf_Fb rf_m_M_lots 139 140 (.ireturn) 0 0 0 0 [] [] = true := by decide +kernel
set_option maxRecDepth 20000 in
set_option maxHeartbeats 2000000 in
theorem rf_e_M_lots (d : Nat) (o : Nat) (a1 : Int) (a2 : Int) (h : rf_H) : rf_call (d + 1) 188 [.inr (.inr (some o)), .inl a1, .inl a2] h = ((rf_call d 118 [.inr (.inl a1), .inr (.inl 1), .inr (.inl 20)] h).bind fun q2 => rf_kI q2 fun x3 h1 => (if x3 = 0 then some (some (.inl (-1)), h1) else ((rf_call d 118 [.inr (.inl a2), .inr (.inl 1), .inr (.inl 2147483646)] h1).bind fun q5 => rf_kI q5 fun x6 h4 => (if x6 = 0 then some (some (.inl (-1)), h4) else (bif rf_isO h4.1 o 5 then ((rf_call d 150 [.inr (.inr (some o))] h4).bind fun q8 => rf_kI q8 fun x9 h7 => (if x9 = 0 then some (some (.inl (-4)), h7) else ((rf_gR h7 5 o 4).bind fun x10 => (rf_nn x10 fun k11 => ((rf_aI h7 k11 37).bind fun x12 => (if 60 < (rf_w (x12 + a1)) then some (some (.inl (-2)), h7) else ((rf_gR h7 5 o 4).bind fun x13 => (rf_nn x13 fun k14 => ((rf_aI h7 k14 35).bind fun x15 => rf_j_M_lots_68 d o a1 x15 a2 0 h7))))))))) else none))))) := by
  show rf_den (rf_call d) (rf_mt 188) _ = _
  rw [rf_u_M_lots]
  exact ((rf_s_iload_n rf_f_M_lots_0 rfl (rf_m0 _) (rf_s_i2l rf_f_M_lots_1 (rf_m0 _) (rf_s_lconst rf_f_M_lots_2 (rf_m0 _) (rf_s_ldc2_w rf_f_M_lots_3 (rf_m0 _) (rf_s_invS0 rf_f_M_lots_6 rfl rfl (rf_m0 _) fun q2 x3 h1 => (rf_s_if_eq rf_f_M_lots_9 rfl (rf_m0 _) (rf_m0 _) (rf_s_iconst rf_f_M_lots_24 (rf_m0 _) (rf_s_iret rf_f_M_lots_25)) (rf_s_iload_n rf_f_M_lots_12 rfl (rf_m0 _) (rf_s_i2l rf_f_M_lots_13 (rf_m0 _) (rf_s_lconst rf_f_M_lots_14 (rf_m0 _) (rf_s_ldc2_w rf_f_M_lots_15 (rf_m0 _) (rf_s_invS0 rf_f_M_lots_18 rfl rfl (rf_m0 _) fun q5 x6 h4 => (rf_s_if_ne rf_f_M_lots_21 rfl (rf_m0 _) (rf_m0 _) (rf_s_aload_n rf_f_M_lots_26 rfl (rf_m0 _) (rf_s_invV0S rf_f_M_lots_27 rfl rfl (rf_m0 _) fun q8 x9 h7 => (rf_s_if_ne rf_f_M_lots_30 rfl (rf_m0 _) (rf_m0 _) (rf_s_aload_n rf_f_M_lots_36 rfl (rf_m0 _) (rf_s_getAS rf_f_M_lots_37 (rf_m0 _) fun x10 => (rf_s_bipush rf_f_M_lots_40 (rf_m0 _) (rf_s_ialdR rf_f_M_lots_42 (rf_m0 _) fun k11 x12 => (rf_s_iload_n rf_f_M_lots_43 rfl (rf_m0 _) (rf_s_iadd rf_f_M_lots_44 (rf_m0 _) (rf_s_bipush rf_f_M_lots_45 (rf_m0 _) (rf_s_icmp_le rf_f_M_lots_47 rfl (rf_m0 _) (rf_m0 _) (rf_s_aload_n rf_f_M_lots_53 rfl (rf_m0 _) (rf_s_getAS rf_f_M_lots_54 (rf_m0 _) fun x13 => (rf_s_bipush rf_f_M_lots_57 (rf_m0 _) (rf_s_ialdR rf_f_M_lots_59 (rf_m0 _) fun k14 x15 => (rf_s_istore_n (L' := [some (.inr (.inr (some o))), some (.inl a1), some (.inl a2), some (.inl x15), none, none, none, none]) rf_f_M_lots_60 rfl (rf_s_iload_n rf_f_M_lots_61 rfl (rf_m0 _) (rf_s_i2l rf_f_M_lots_62 (rf_m0 _) (rf_s_lstore (L' := [some (.inr (.inr (some o))), some (.inl a1), some (.inl a2), some (.inl x15), some (.inr (.inl a2)), none, none, none]) rf_f_M_lots_63 rfl (rf_s_iconst rf_f_M_lots_65 (rf_m0 _) (rf_s_istore rf_f_M_lots_66 rfl rfl)))))))))) (rf_s_bipush rf_f_M_lots_50 (rf_m0 _) (rf_s_iret rf_f_M_lots_52)))))))))) (rf_s_bipush rf_f_M_lots_33 (rf_m0 _) (rf_s_iret rf_f_M_lots_35))))) (rf_s_iconst rf_f_M_lots_24 (rf_m0 _) (rf_s_iret rf_f_M_lots_25)))))))))))))) : rf_den (rf_call d) rf_m_M_lots (0, [some (.inr (.inr (some o))), some (.inl a1), some (.inl a2), none, none, none, none, none], [], h) = _)
set_option maxRecDepth 20000 in
set_option maxHeartbeats 2000000 in
theorem rf_e_M_lots_68 (d : Nat) (o : Nat) (l1 : Int) (l3 : Int) (l4 : Int) (l6 : Int) (h : rf_H) : rf_j_M_lots_68 d o l1 l3 l4 l6 h = (if l6 < l1 then (bif rf_isO h.1 o 5 then ((rf_call d 142 [.inr (.inr (some o))] h).bind fun q5 => rf_kV q5 fun h4 => (bif rf_isO h4.1 o 5 then ((rf_call d 152 [.inr (.inr (some o)), .inl (rf_w (Int.tmod (rf_wl (Int.tdiv (Int.tmod (rf_wl (l4 * 48271)) 2147483647) 16)) 15))] h4).bind fun q7 => rf_kI q7 fun x8 h6 => (if x8 = 0 then (bif rf_isO h6.1 o 5 then ((rf_call d 153 [.inr (.inr (some o)), .inl 11] h6).bind fun q10 => rf_kI q10 fun x11 h9 => rf_j_M_lots_68 d o l1 l3 (Int.tmod (rf_wl (l4 * 48271)) 2147483647) (rf_w (l6 + 1)) h9) else none) else (bif rf_isO h6.1 o 5 then ((rf_call d 153 [.inr (.inr (some o)), .inl (rf_w (Int.tmod (rf_wl (Int.tdiv (Int.tmod (rf_wl (l4 * 48271)) 2147483647) 16)) 15))] h6).bind fun q13 => rf_kI q13 fun x14 h12 => rf_j_M_lots_68 d o l1 l3 (Int.tmod (rf_wl (l4 * 48271)) 2147483647) (rf_w (l6 + 1)) h12) else none))) else none)) else none) else ((rf_gR h 5 o 4).bind fun x1 => (rf_nn x1 fun k2 => ((rf_aI h k2 35).bind fun x3 => some (some (.inl (rf_w (x3 - l3))), h))))) :=
  ((rf_s_iload rf_f_M_lots_68 rfl (rf_m0 _) (rf_s_iload_n rf_f_M_lots_70 rfl (rf_m0 _) (rf_s_icmp_ge rf_f_M_lots_71 rfl (rf_m0 _) (rf_m0 _) (rf_s_aload_n rf_f_M_lots_130 rfl (rf_m0 _) (rf_s_getAS rf_f_M_lots_131 (rf_m0 _) fun x1 => (rf_s_bipush rf_f_M_lots_134 (rf_m0 _) (rf_s_ialdR rf_f_M_lots_136 (rf_m0 _) fun k2 x3 => (rf_s_iload_n rf_f_M_lots_137 rfl (rf_m0 _) (rf_s_isub rf_f_M_lots_138 (rf_m0 _) (rf_s_iret rf_f_M_lots_139))))))) (rf_s_lload rf_f_M_lots_74 rfl (rf_m0 _) (rf_s_ldc2_w rf_f_M_lots_76 (rf_m0 _) (rf_s_lmul rf_f_M_lots_79 (rf_m0 _) (rf_s_ldc2_w rf_f_M_lots_80 (rf_m0 _) (rf_s_lrem rf_f_M_lots_83 (by decide) (rf_m0 _) (rf_s_lstore (L' := [some (.inr (.inr (some o))), some (.inl l1), none, some (.inl l3), some (.inr (.inl (Int.tmod (rf_wl (l4 * 48271)) 2147483647))), none, some (.inl l6), none]) rf_f_M_lots_84 rfl (rf_s_lload rf_f_M_lots_86 rfl (rf_m0 _) (rf_s_ldc2_w rf_f_M_lots_88 (rf_m0 _) (rf_s_ldiv rf_f_M_lots_91 (by decide) (rf_m0 _) (rf_s_ldc2_w rf_f_M_lots_92 (rf_m0 _) (rf_s_lrem rf_f_M_lots_95 (by decide) (rf_m0 _) (rf_s_l2i rf_f_M_lots_96 (rf_m0 _) (rf_s_istore (L' := [some (.inr (.inr (some o))), some (.inl l1), none, some (.inl l3), some (.inr (.inl (Int.tmod (rf_wl (l4 * 48271)) 2147483647))), none, some (.inl l6), some (.inl (rf_w (Int.tmod (rf_wl (Int.tdiv (Int.tmod (rf_wl (l4 * 48271)) 2147483647) 16)) 15)))]) rf_f_M_lots_97 rfl (rf_s_aload_n rf_f_M_lots_99 rfl (rf_m0 _) (rf_s_invV3S rf_f_M_lots_100 rfl rfl (rf_m0 _) fun q5 h4 => (rf_s_aload_n rf_f_M_lots_103 rfl (rf_m0 _) (rf_s_aload_n rf_f_M_lots_104 rfl (rf_m0 _) (rf_s_iload rf_f_M_lots_105 rfl (rf_m0 _) (rf_s_invV0S rf_f_M_lots_107 rfl rfl (rf_m0 _) fun q7 x8 h6 => (rf_s_if_eq rf_f_M_lots_110 rfl (rf_m0 _) (rf_m0 _) (rf_s_bipush rf_f_M_lots_118 (rf_m0 _) (rf_s_invV0S rf_f_M_lots_120 rfl rfl (rf_m0 _) fun q10 x11 h9 => (rf_s_popI rf_f_M_lots_123 (rf_m0 _) (rf_s_iinc (L' := [some (.inr (.inr (some o))), some (.inl l1), none, some (.inl l3), some (.inr (.inl (Int.tmod (rf_wl (l4 * 48271)) 2147483647))), none, some (.inl (rf_w (l6 + 1))), some (.inl (rf_w (Int.tmod (rf_wl (Int.tdiv (Int.tmod (rf_wl (l4 * 48271)) 2147483647) 16)) 15)))]) rf_f_M_lots_124 rfl rfl (rf_s_goto rf_f_M_lots_127 rfl rfl rfl))))) (rf_s_iload rf_f_M_lots_113 rfl (rf_m0 _) (rf_s_goto rf_f_M_lots_115 rfl (rf_m0 _) (rf_s_invV0S rf_f_M_lots_120 rfl rfl (rf_m0 _) fun q13 x14 h12 => (rf_s_popI rf_f_M_lots_123 (rf_m0 _) (rf_s_iinc (L' := [some (.inr (.inr (some o))), some (.inl l1), none, some (.inl l3), some (.inr (.inl (Int.tmod (rf_wl (l4 * 48271)) 2147483647))), none, some (.inl (rf_w (l6 + 1))), some (.inl (rf_w (Int.tmod (rf_wl (Int.tdiv (Int.tmod (rf_wl (l4 * 48271)) 2147483647) 16)) 15)))]) rf_f_M_lots_124 rfl rfl (rf_s_goto rf_f_M_lots_127 rfl rfl rfl))))))))))))))))))))))))))))) : rf_den (rf_call d) rf_m_M_lots (68, [some (.inr (.inr (some o))), some (.inl l1), none, some (.inl l3), some (.inr (.inl l4)), none, some (.inl l6), none], [], h) = _)
theorem rf_u_M_asked : rf_mt 189 = rf_m_M_asked := rfl
theorem rf_f_M_asked_0 : rf_Fb rf_m_M_asked 0 1 (.aload_n 0) 0 0 0 0 [] [] = true := by decide +kernel
theorem rf_f_M_asked_1 : rf_Fb rf_m_M_asked 1 4 (.getfield 58) 5 9 0 0 [] [] = true := by decide +kernel
theorem rf_f_M_asked_4 : rf_Fb rf_m_M_asked 4 5 (.ireturn) 0 0 0 0 [] [] = true := by decide +kernel
set_option maxRecDepth 20000 in
set_option maxHeartbeats 2000000 in
theorem rf_e_M_asked (d : Nat) (o : Nat) (h : rf_H) : rf_call (d + 1) 189 [.inr (.inr (some o))] h = ((rf_gI h 5 o 9).bind fun x1 => some (some (.inl x1), h)) := by
  show rf_den (rf_call d) (rf_mt 189) _ = _
  rw [rf_u_M_asked]
  exact ((rf_s_aload_n rf_f_M_asked_0 rfl (rf_m0 _) (rf_s_getIS rf_f_M_asked_1 (rf_m0 _) fun x1 => (rf_s_iret rf_f_M_asked_4))) : rf_den (rf_call d) rf_m_M_asked (0, [some (.inr (.inr (some o)))], [], h) = _)
theorem rf_u_M_upper : rf_mt 190 = rf_m_M_upper := rfl
theorem rf_f_M_upper_0 : rf_Fb rf_m_M_upper 0 1 (.aload_n 0) 0 0 0 0 [] [] = true := by decide +kernel
theorem rf_f_M_upper_1 : rf_Fb rf_m_M_upper 1 4 (.getfield 214) 5 10 1 0 [] [] = true := by decide +kernel
theorem rf_f_M_upper_4 : rf_Fb rf_m_M_upper 4 5 (.lreturn) 0 0 0 0 [] [] = true := by decide +kernel
set_option maxRecDepth 20000 in
set_option maxHeartbeats 2000000 in
theorem rf_e_M_upper (d : Nat) (o : Nat) (h : rf_H) : rf_call (d + 1) 190 [.inr (.inr (some o))] h = ((rf_gI h 5 o 10).bind fun x1 => some (some (.inr (.inl x1)), h)) := by
  show rf_den (rf_call d) (rf_mt 190) _ = _
  rw [rf_u_M_upper]
  exact ((rf_s_aload_n rf_f_M_upper_0 rfl (rf_m0 _) (rf_s_getLS rf_f_M_upper_1 (rf_m0 _) fun x1 => (rf_s_lret rf_f_M_upper_4))) : rf_den (rf_call d) rf_m_M_upper (0, [some (.inr (.inr (some o)))], [], h) = _)
theorem rf_u_M_lower : rf_mt 191 = rf_m_M_lower := rfl
theorem rf_f_M_lower_0 : rf_Fb rf_m_M_lower 0 1 (.aload_n 0) 0 0 0 0 [] [] = true := by decide +kernel
theorem rf_f_M_lower_1 : rf_Fb rf_m_M_lower 1 4 (.getfield 50) 5 11 1 0 [] [] = true := by decide +kernel
theorem rf_f_M_lower_4 : rf_Fb rf_m_M_lower 4 5 (.lreturn) 0 0 0 0 [] [] = true := by decide +kernel
set_option maxRecDepth 20000 in
set_option maxHeartbeats 2000000 in
theorem rf_e_M_lower (d : Nat) (o : Nat) (h : rf_H) : rf_call (d + 1) 191 [.inr (.inr (some o))] h = ((rf_gI h 5 o 11).bind fun x1 => some (some (.inr (.inl x1)), h)) := by
  show rf_den (rf_call d) (rf_mt 191) _ = _
  rw [rf_u_M_lower]
  exact ((rf_s_aload_n rf_f_M_lower_0 rfl (rf_m0 _) (rf_s_getLS rf_f_M_lower_1 (rf_m0 _) fun x1 => (rf_s_lret rf_f_M_lower_4))) : rf_den (rf_call d) rf_m_M_lower (0, [some (.inr (.inr (some o)))], [], h) = _)
theorem rf_u_M_count : rf_mt 192 = rf_m_M_count := rfl
theorem rf_f_M_count_0 : rf_Fb rf_m_M_count 0 1 (.iload_n 1) 0 0 0 0 [] [] = true := by decide +kernel
theorem rf_f_M_count_1 : rf_Fb rf_m_M_count 1 2 (.i2l) 0 0 0 0 [] [] = true := by decide +kernel
theorem rf_f_M_count_2 : rf_Fb rf_m_M_count 2 3 (.lconst 0) 0 0 0 0 [] [] = true := by decide +kernel
theorem rf_f_M_count_3 : rf_Fb rf_m_M_count 3 6 (.ldc2_w 241) 0 0 0 7 [] [] = true := by decide +kernel
theorem rf_f_M_count_6 : rf_Fb rf_m_M_count 6 9 (.invokestatic 63) 118 3 0 0 [] [] = true := by decide +kernel
theorem rf_f_M_count_9 : rf_Fb rf_m_M_count 9 12 (.ifCond .eq 11) 20 0 0 0 [] [] = true := by decide +kernel
theorem rf_f_M_count_12 : rf_Fb rf_m_M_count 12 13 (.aload_n 0) 0 0 0 0 [] [] = true := by decide +kernel
theorem rf_f_M_count_13 : rf_Fb rf_m_M_count 13 14 (.iload_n 1) 0 0 0 0 [] [] = true := by decide +kernel
theorem rf_f_M_count_14 : rf_Fb rf_m_M_count 14 17 (.invokevirtual 243) 193 1 0 5 [] [] = true := by decide +kernel
theorem rf_f_M_count_17 : rf_Fb rf_m_M_count 17 20 (.goto 4) 21 0 0 0 [] [] = true := by decide +kernel
theorem rf_f_M_count_20 : rf_Fb rf_m_M_count 20 21 (.iconst (-1)) 0 0 0 0 [] [] = true := by decide +kernel
theorem rf_f_M_count_21 : rf_Fb rf_m_M_count 21 22 (.ireturn) 0 0 0 0 [] [] = true := by decide +kernel
set_option maxRecDepth 20000 in
set_option maxHeartbeats 2000000 in
theorem rf_e_M_count (d : Nat) (o : Nat) (a1 : Int) (h : rf_H) : rf_call (d + 1) 192 [.inr (.inr (some o)), .inl a1] h = ((rf_call d 118 [.inr (.inl a1), .inr (.inl 0), .inr (.inl 7)] h).bind fun q2 => rf_kI q2 fun x3 h1 => (if x3 = 0 then some (some (.inl (-1)), h1) else (bif rf_isO h1.1 o 5 then ((rf_call d 193 [.inr (.inr (some o)), .inl a1] h1).bind fun q5 => rf_kI q5 fun x6 h4 => some (some (.inl x6), h4)) else none))) := by
  show rf_den (rf_call d) (rf_mt 192) _ = _
  rw [rf_u_M_count]
  exact ((rf_s_iload_n rf_f_M_count_0 rfl (rf_m0 _) (rf_s_i2l rf_f_M_count_1 (rf_m0 _) (rf_s_lconst rf_f_M_count_2 (rf_m0 _) (rf_s_ldc2_w rf_f_M_count_3 (rf_m0 _) (rf_s_invS0 rf_f_M_count_6 rfl rfl (rf_m0 _) fun q2 x3 h1 => (rf_s_if_eq rf_f_M_count_9 rfl (rf_m0 _) (rf_m0 _) (rf_s_iconst rf_f_M_count_20 (rf_m0 _) (rf_s_iret rf_f_M_count_21)) (rf_s_aload_n rf_f_M_count_12 rfl (rf_m0 _) (rf_s_iload_n rf_f_M_count_13 rfl (rf_m0 _) (rf_s_invV0S rf_f_M_count_14 rfl rfl (rf_m0 _) fun q5 x6 h4 => (rf_s_goto rf_f_M_count_17 rfl (rf_m0 _) (rf_s_iret rf_f_M_count_21))))))))))) : rf_den (rf_call d) rf_m_M_count (0, [some (.inr (.inr (some o))), some (.inl a1)], [], h) = _)
noncomputable def rf_j_M_countOf_8 (d : Nat) (o : Nat) (l1 : Int) (l2 : Int) (l3 : Int) (h : rf_H) : Option rf_R := rf_den (rf_call d) rf_m_M_countOf (8, [some (.inr (.inr (some o))), some (.inl l1), some (.inl l2), some (.inl l3), none, none, none], [], h)
noncomputable def rf_j_M_countOf_56 (d : Nat) (o : Nat) (l1 : Int) (l2 : Int) (l3 : Int) (l4 : Int) (h : rf_H) : Option rf_R := rf_den (rf_call d) rf_m_M_countOf (56, [some (.inr (.inr (some o))), some (.inl l1), some (.inl l2), some (.inl l3), some (.inl l4), none, none], [], h)
noncomputable def rf_j_M_countOf_83 (d : Nat) (o : Nat) (l1 : Int) (l2 : Int) (l3 : Int) (l4 : Int) (s0 : Int) (h : rf_H) : Option rf_R := rf_den (rf_call d) rf_m_M_countOf (83, [some (.inr (.inr (some o))), some (.inl l1), some (.inl l2), some (.inl l3), some (.inl l4), none, none], [.inl s0], h)
noncomputable def rf_j_M_countOf_112 (d : Nat) (o : Nat) (l1 : Int) (l2 : Int) (l3 : Int) (l4 : Int) (l5 : Int) (s0 : Int) (h : rf_H) : Option rf_R := rf_den (rf_call d) rf_m_M_countOf (112, [some (.inr (.inr (some o))), some (.inl l1), some (.inl l2), some (.inl l3), some (.inl l4), some (.inl l5), none], [.inl s0], h)
noncomputable def rf_j_M_countOf_214 (d : Nat) (l1 : Int) (l2 : Int) (l3 : Int) (s0 : Int) (h : rf_H) : Option rf_R := rf_den (rf_call d) rf_m_M_countOf (214, [none, some (.inl l1), some (.inl l2), some (.inl l3), none, none, none], [.inl s0], h)
theorem rf_u_M_countOf : rf_mt 193 = rf_m_M_countOf := rfl
theorem rf_f_M_countOf_0 : rf_Fb rf_m_M_countOf 0 1 (.aload_n 0) 0 0 0 0 [] [] = true := by decide +kernel
theorem rf_f_M_countOf_1 : rf_Fb rf_m_M_countOf 1 4 (.invokevirtual 153) 142 0 3 5 [] [] = true := by decide +kernel
theorem rf_f_M_countOf_4 : rf_Fb rf_m_M_countOf 4 5 (.iconst 0) 0 0 0 0 [] [] = true := by decide +kernel
theorem rf_f_M_countOf_5 : rf_Fb rf_m_M_countOf 5 6 (.istore_n 2) 0 0 0 0 [] [] = true := by decide +kernel
theorem rf_f_M_countOf_6 : rf_Fb rf_m_M_countOf 6 7 (.iconst 0) 0 0 0 0 [] [] = true := by decide +kernel
theorem rf_f_M_countOf_7 : rf_Fb rf_m_M_countOf 7 8 (.istore_n 3) 0 0 0 0 [] [true, true, true, true, false, false, false] = true := by decide +kernel
theorem rf_f_M_countOf_8 : rf_Fb rf_m_M_countOf 8 9 (.iload_n 3) 0 0 0 0 [] [] = true := by decide +kernel
theorem rf_f_M_countOf_9 : rf_Fb rf_m_M_countOf 9 10 (.aload_n 0) 0 0 0 0 [] [] = true := by decide +kernel
theorem rf_f_M_countOf_10 : rf_Fb rf_m_M_countOf 10 13 (.getfield 41) 5 17 2 0 [] [] = true := by decide +kernel
theorem rf_f_M_countOf_13 : rf_Fb rf_m_M_countOf 13 15 (.bipush 36) 0 0 0 0 [] [] = true := by decide +kernel
theorem rf_f_M_countOf_15 : rf_Fb rf_m_M_countOf 15 16 (.iaload) 0 0 0 0 [] [] = true := by decide +kernel
theorem rf_f_M_countOf_16 : rf_Fb rf_m_M_countOf 16 19 (.if_icmp .ge 35) 51 0 0 0 [] [] = true := by decide +kernel
theorem rf_f_M_countOf_19 : rf_Fb rf_m_M_countOf 19 20 (.iload_n 2) 0 0 0 0 [] [] = true := by decide +kernel
theorem rf_f_M_countOf_20 : rf_Fb rf_m_M_countOf 20 21 (.aload_n 0) 0 0 0 0 [] [] = true := by decide +kernel
theorem rf_f_M_countOf_21 : rf_Fb rf_m_M_countOf 21 22 (.iload_n 3) 0 0 0 0 [] [] = true := by decide +kernel
theorem rf_f_M_countOf_22 : rf_Fb rf_m_M_countOf 22 25 (.invokevirtual 125) 144 1 0 5 [] [] = true := by decide +kernel
theorem rf_f_M_countOf_25 : rf_Fb rf_m_M_countOf 25 26 (.iconst 1) 0 0 0 0 [] [] = true := by decide +kernel
theorem rf_f_M_countOf_26 : rf_Fb rf_m_M_countOf 26 29 (.if_icmp .eq 12) 38 0 0 0 [] [] = true := by decide +kernel
theorem rf_f_M_countOf_29 : rf_Fb rf_m_M_countOf 29 30 (.aload_n 0) 0 0 0 0 [] [] = true := by decide +kernel
theorem rf_f_M_countOf_30 : rf_Fb rf_m_M_countOf 30 31 (.iload_n 3) 0 0 0 0 [] [] = true := by decide +kernel
theorem rf_f_M_countOf_31 : rf_Fb rf_m_M_countOf 31 34 (.invokevirtual 125) 144 1 0 5 [] [] = true := by decide +kernel
theorem rf_f_M_countOf_34 : rf_Fb rf_m_M_countOf 34 35 (.iconst 4) 0 0 0 0 [] [] = true := by decide +kernel
theorem rf_f_M_countOf_35 : rf_Fb rf_m_M_countOf 35 38 (.if_icmp .ne 7) 42 0 0 0 [] [] = true := by decide +kernel
theorem rf_f_M_countOf_38 : rf_Fb rf_m_M_countOf 38 39 (.iconst 1) 0 0 0 0 [] [] = true := by decide +kernel
theorem rf_f_M_countOf_39 : rf_Fb rf_m_M_countOf 39 42 (.goto 4) 43 0 0 0 [] [] = true := by decide +kernel
theorem rf_f_M_countOf_42 : rf_Fb rf_m_M_countOf 42 43 (.iconst 0) 0 0 0 0 [] [] = true := by decide +kernel
theorem rf_f_M_countOf_43 : rf_Fb rf_m_M_countOf 43 44 (.iadd) 0 0 0 0 [] [] = true := by decide +kernel
theorem rf_f_M_countOf_44 : rf_Fb rf_m_M_countOf 44 45 (.istore_n 2) 0 0 0 0 [] [] = true := by decide +kernel
theorem rf_f_M_countOf_45 : rf_Fb rf_m_M_countOf 45 48 (.iinc 3 1) 0 0 0 0 [] [] = true := by decide +kernel
theorem rf_f_M_countOf_48 : rf_Fb rf_m_M_countOf 48 51 (.goto (-40)) 8 0 0 0 [] [] = true := by decide +kernel
theorem rf_f_M_countOf_51 : rf_Fb rf_m_M_countOf 51 52 (.iconst 0) 0 0 0 0 [] [] = true := by decide +kernel
theorem rf_f_M_countOf_52 : rf_Fb rf_m_M_countOf 52 53 (.istore_n 3) 0 0 0 0 [] [] = true := by decide +kernel
theorem rf_f_M_countOf_53 : rf_Fb rf_m_M_countOf 53 54 (.iconst 0) 0 0 0 0 [] [] = true := by decide +kernel
theorem rf_f_M_countOf_54 : rf_Fb rf_m_M_countOf 54 56 (.istore 4) 0 0 0 0 [] [true, true, true, true, true, false, false] = true := by decide +kernel
theorem rf_f_M_countOf_56 : rf_Fb rf_m_M_countOf 56 58 (.iload 4) 0 0 0 0 [] [] = true := by decide +kernel
theorem rf_f_M_countOf_58 : rf_Fb rf_m_M_countOf 58 60 (.bipush 6) 0 0 0 0 [] [] = true := by decide +kernel
theorem rf_f_M_countOf_60 : rf_Fb rf_m_M_countOf 60 63 (.if_icmp .ge 100) 160 0 0 0 [] [] = true := by decide +kernel
theorem rf_f_M_countOf_63 : rf_Fb rf_m_M_countOf 63 64 (.iload_n 1) 0 0 0 0 [] [] = true := by decide +kernel
theorem rf_f_M_countOf_64 : rf_Fb rf_m_M_countOf 64 65 (.iconst 5) 0 0 0 0 [] [] = true := by decide +kernel
theorem rf_f_M_countOf_65 : rf_Fb rf_m_M_countOf 65 68 (.if_icmp .ne 17) 82 0 0 0 [] [] = true := by decide +kernel
theorem rf_f_M_countOf_68 : rf_Fb rf_m_M_countOf 68 69 (.aload_n 0) 0 0 0 0 [] [] = true := by decide +kernel
theorem rf_f_M_countOf_69 : rf_Fb rf_m_M_countOf 69 72 (.getfield 7) 5 0 2 0 [] [] = true := by decide +kernel
theorem rf_f_M_countOf_72 : rf_Fb rf_m_M_countOf 72 74 (.iload 4) 0 0 0 0 [] [] = true := by decide +kernel
theorem rf_f_M_countOf_74 : rf_Fb rf_m_M_countOf 74 75 (.iaload) 0 0 0 0 [] [] = true := by decide +kernel
theorem rf_f_M_countOf_75 : rf_Fb rf_m_M_countOf 75 78 (.ifCond .lt 7) 82 0 0 0 [] [] = true := by decide +kernel
theorem rf_f_M_countOf_78 : rf_Fb rf_m_M_countOf 78 79 (.iconst 1) 0 0 0 0 [] [] = true := by decide +kernel
theorem rf_f_M_countOf_79 : rf_Fb rf_m_M_countOf 79 82 (.goto 4) 83 0 0 0 [] [] = true := by decide +kernel
theorem rf_f_M_countOf_82 : rf_Fb rf_m_M_countOf 82 83 (.iconst 0) 0 0 0 0 [] [true, true, true, true, true, false, false] = true := by decide +kernel
theorem rf_f_M_countOf_83 : rf_Fb rf_m_M_countOf 83 85 (.istore 5) 0 0 0 0 [] [] = true := by decide +kernel
theorem rf_f_M_countOf_85 : rf_Fb rf_m_M_countOf 85 86 (.iload_n 1) 0 0 0 0 [] [] = true := by decide +kernel
theorem rf_f_M_countOf_86 : rf_Fb rf_m_M_countOf 86 88 (.bipush 6) 0 0 0 0 [] [] = true := by decide +kernel
theorem rf_f_M_countOf_88 : rf_Fb rf_m_M_countOf 88 91 (.if_icmp .ne 23) 111 0 0 0 [] [] = true := by decide +kernel
theorem rf_f_M_countOf_91 : rf_Fb rf_m_M_countOf 91 93 (.iload 4) 0 0 0 0 [] [] = true := by decide +kernel
theorem rf_f_M_countOf_93 : rf_Fb rf_m_M_countOf 93 94 (.iconst 4) 0 0 0 0 [] [] = true := by decide +kernel
theorem rf_f_M_countOf_94 : rf_Fb rf_m_M_countOf 94 97 (.if_icmp .ge 17) 111 0 0 0 [] [] = true := by decide +kernel
theorem rf_f_M_countOf_97 : rf_Fb rf_m_M_countOf 97 98 (.aload_n 0) 0 0 0 0 [] [] = true := by decide +kernel
theorem rf_f_M_countOf_98 : rf_Fb rf_m_M_countOf 98 101 (.getfield 16) 5 2 2 0 [] [] = true := by decide +kernel
theorem rf_f_M_countOf_101 : rf_Fb rf_m_M_countOf 101 103 (.iload 4) 0 0 0 0 [] [] = true := by decide +kernel
theorem rf_f_M_countOf_103 : rf_Fb rf_m_M_countOf 103 104 (.iaload) 0 0 0 0 [] [] = true := by decide +kernel
theorem rf_f_M_countOf_104 : rf_Fb rf_m_M_countOf 104 107 (.ifCond .lt 7) 111 0 0 0 [] [] = true := by decide +kernel
theorem rf_f_M_countOf_107 : rf_Fb rf_m_M_countOf 107 108 (.iconst 1) 0 0 0 0 [] [] = true := by decide +kernel
theorem rf_f_M_countOf_108 : rf_Fb rf_m_M_countOf 108 111 (.goto 4) 112 0 0 0 [] [] = true := by decide +kernel
theorem rf_f_M_countOf_111 : rf_Fb rf_m_M_countOf 111 112 (.iconst 0) 0 0 0 0 [] [true, true, true, true, true, true, false] = true := by decide +kernel
theorem rf_f_M_countOf_112 : rf_Fb rf_m_M_countOf 112 114 (.istore 6) 0 0 0 0 [] [] = true := by decide +kernel
theorem rf_f_M_countOf_114 : rf_Fb rf_m_M_countOf 114 115 (.iload_n 3) 0 0 0 0 [] [] = true := by decide +kernel
theorem rf_f_M_countOf_115 : rf_Fb rf_m_M_countOf 115 117 (.iload 5) 0 0 0 0 [] [] = true := by decide +kernel
theorem rf_f_M_countOf_117 : rf_Fb rf_m_M_countOf 117 120 (.ifCond .ne 30) 147 0 0 0 [] [] = true := by decide +kernel
theorem rf_f_M_countOf_120 : rf_Fb rf_m_M_countOf 120 122 (.iload 6) 0 0 0 0 [] [] = true := by decide +kernel
theorem rf_f_M_countOf_122 : rf_Fb rf_m_M_countOf 122 125 (.ifCond .ne 25) 147 0 0 0 [] [] = true := by decide +kernel
theorem rf_f_M_countOf_125 : rf_Fb rf_m_M_countOf 125 126 (.iload_n 1) 0 0 0 0 [] [] = true := by decide +kernel
theorem rf_f_M_countOf_126 : rf_Fb rf_m_M_countOf 126 128 (.bipush 7) 0 0 0 0 [] [] = true := by decide +kernel
theorem rf_f_M_countOf_128 : rf_Fb rf_m_M_countOf 128 131 (.if_icmp .ne 23) 151 0 0 0 [] [] = true := by decide +kernel
theorem rf_f_M_countOf_131 : rf_Fb rf_m_M_countOf 131 133 (.iload 4) 0 0 0 0 [] [] = true := by decide +kernel
theorem rf_f_M_countOf_133 : rf_Fb rf_m_M_countOf 133 134 (.iconst 3) 0 0 0 0 [] [] = true := by decide +kernel
theorem rf_f_M_countOf_134 : rf_Fb rf_m_M_countOf 134 137 (.if_icmp .ge 17) 151 0 0 0 [] [] = true := by decide +kernel
theorem rf_f_M_countOf_137 : rf_Fb rf_m_M_countOf 137 138 (.aload_n 0) 0 0 0 0 [] [] = true := by decide +kernel
theorem rf_f_M_countOf_138 : rf_Fb rf_m_M_countOf 138 141 (.getfield 28) 5 6 2 0 [] [] = true := by decide +kernel
theorem rf_f_M_countOf_141 : rf_Fb rf_m_M_countOf 141 143 (.iload 4) 0 0 0 0 [] [] = true := by decide +kernel
theorem rf_f_M_countOf_143 : rf_Fb rf_m_M_countOf 143 144 (.baload) 0 0 0 0 [] [] = true := by decide +kernel
theorem rf_f_M_countOf_144 : rf_Fb rf_m_M_countOf 144 147 (.ifCond .eq 7) 151 0 0 0 [] [] = true := by decide +kernel
theorem rf_f_M_countOf_147 : rf_Fb rf_m_M_countOf 147 148 (.iconst 1) 0 0 0 0 [] [] = true := by decide +kernel
theorem rf_f_M_countOf_148 : rf_Fb rf_m_M_countOf 148 151 (.goto 4) 152 0 0 0 [] [] = true := by decide +kernel
theorem rf_f_M_countOf_151 : rf_Fb rf_m_M_countOf 151 152 (.iconst 0) 0 0 0 0 [] [] = true := by decide +kernel
theorem rf_f_M_countOf_152 : rf_Fb rf_m_M_countOf 152 153 (.iadd) 0 0 0 0 [] [] = true := by decide +kernel
theorem rf_f_M_countOf_153 : rf_Fb rf_m_M_countOf 153 154 (.istore_n 3) 0 0 0 0 [] [] = true := by decide +kernel
theorem rf_f_M_countOf_154 : rf_Fb rf_m_M_countOf 154 157 (.iinc 4 1) 0 0 0 0 [] [] = true := by decide +kernel
theorem rf_f_M_countOf_157 : rf_Fb rf_m_M_countOf 157 160 (.goto (-101)) 56 0 0 0 [] [] = true := by decide +kernel
theorem rf_f_M_countOf_160 : rf_Fb rf_m_M_countOf 160 161 (.iload_n 1) 0 0 0 0 [] [] = true := by decide +kernel
theorem rf_f_M_countOf_161 : rf_Fb rf_m_M_countOf 161 164 (.ifCond .ne 13) 174 0 0 0 [] [] = true := by decide +kernel
theorem rf_f_M_countOf_164 : rf_Fb rf_m_M_countOf 164 165 (.aload_n 0) 0 0 0 0 [] [] = true := by decide +kernel
theorem rf_f_M_countOf_165 : rf_Fb rf_m_M_countOf 165 168 (.getfield 22) 5 4 2 0 [] [] = true := by decide +kernel
theorem rf_f_M_countOf_168 : rf_Fb rf_m_M_countOf 168 170 (.bipush 36) 0 0 0 0 [] [] = true := by decide +kernel
theorem rf_f_M_countOf_170 : rf_Fb rf_m_M_countOf 170 171 (.iaload) 0 0 0 0 [] [] = true := by decide +kernel
theorem rf_f_M_countOf_171 : rf_Fb rf_m_M_countOf 171 174 (.goto 43) 214 0 0 0 [] [] = true := by decide +kernel
theorem rf_f_M_countOf_174 : rf_Fb rf_m_M_countOf 174 175 (.iload_n 1) 0 0 0 0 [] [] = true := by decide +kernel
theorem rf_f_M_countOf_175 : rf_Fb rf_m_M_countOf 175 176 (.iconst 1) 0 0 0 0 [] [] = true := by decide +kernel
theorem rf_f_M_countOf_176 : rf_Fb rf_m_M_countOf 176 179 (.if_icmp .ne 12) 188 0 0 0 [] [] = true := by decide +kernel
theorem rf_f_M_countOf_179 : rf_Fb rf_m_M_countOf 179 180 (.aload_n 0) 0 0 0 0 [] [] = true := by decide +kernel
theorem rf_f_M_countOf_180 : rf_Fb rf_m_M_countOf 180 183 (.getfield 22) 5 4 2 0 [] [] = true := by decide +kernel
theorem rf_f_M_countOf_183 : rf_Fb rf_m_M_countOf 183 184 (.iconst 2) 0 0 0 0 [] [] = true := by decide +kernel
theorem rf_f_M_countOf_184 : rf_Fb rf_m_M_countOf 184 185 (.iaload) 0 0 0 0 [] [] = true := by decide +kernel
theorem rf_f_M_countOf_185 : rf_Fb rf_m_M_countOf 185 188 (.goto 29) 214 0 0 0 [] [] = true := by decide +kernel
theorem rf_f_M_countOf_188 : rf_Fb rf_m_M_countOf 188 189 (.iload_n 1) 0 0 0 0 [] [] = true := by decide +kernel
theorem rf_f_M_countOf_189 : rf_Fb rf_m_M_countOf 189 190 (.iconst 2) 0 0 0 0 [] [] = true := by decide +kernel
theorem rf_f_M_countOf_190 : rf_Fb rf_m_M_countOf 190 193 (.if_icmp .ne 13) 203 0 0 0 [] [] = true := by decide +kernel
theorem rf_f_M_countOf_193 : rf_Fb rf_m_M_countOf 193 194 (.aload_n 0) 0 0 0 0 [] [] = true := by decide +kernel
theorem rf_f_M_countOf_194 : rf_Fb rf_m_M_countOf 194 197 (.getfield 22) 5 4 2 0 [] [] = true := by decide +kernel
theorem rf_f_M_countOf_197 : rf_Fb rf_m_M_countOf 197 199 (.bipush 37) 0 0 0 0 [] [] = true := by decide +kernel
theorem rf_f_M_countOf_199 : rf_Fb rf_m_M_countOf 199 200 (.iaload) 0 0 0 0 [] [] = true := by decide +kernel
theorem rf_f_M_countOf_200 : rf_Fb rf_m_M_countOf 200 203 (.goto 14) 214 0 0 0 [] [] = true := by decide +kernel
theorem rf_f_M_countOf_203 : rf_Fb rf_m_M_countOf 203 204 (.aload_n 0) 0 0 0 0 [] [] = true := by decide +kernel
theorem rf_f_M_countOf_204 : rf_Fb rf_m_M_countOf 204 205 (.aload_n 0) 0 0 0 0 [] [] = true := by decide +kernel
theorem rf_f_M_countOf_205 : rf_Fb rf_m_M_countOf 205 208 (.getfield 41) 5 17 2 0 [] [] = true := by decide +kernel
theorem rf_f_M_countOf_208 : rf_Fb rf_m_M_countOf 208 210 (.bipush 36) 0 0 0 0 [] [] = true := by decide +kernel
theorem rf_f_M_countOf_210 : rf_Fb rf_m_M_countOf 210 211 (.iaload) 0 0 0 0 [] [] = true := by decide +kernel
theorem rf_f_M_countOf_211 : rf_Fb rf_m_M_countOf 211 214 (.invokevirtual 141) 159 1 0 5 [] [false, true, true, true, false, false, false] = true := by decide +kernel
theorem rf_f_M_countOf_214 : rf_Fb rf_m_M_countOf 214 216 (.istore 4) 0 0 0 0 [] [] = true := by decide +kernel
theorem rf_f_M_countOf_216 : rf_Fb rf_m_M_countOf 216 217 (.iload_n 1) 0 0 0 0 [] [] = true := by decide +kernel
theorem rf_f_M_countOf_217 : rf_Fb rf_m_M_countOf 217 218 (.iconst 4) 0 0 0 0 [] [] = true := by decide +kernel
theorem rf_f_M_countOf_218 : rf_Fb rf_m_M_countOf 218 221 (.if_icmp .ge 8) 226 0 0 0 [] [] = true := by decide +kernel
theorem rf_f_M_countOf_221 : rf_Fb rf_m_M_countOf 221 223 (.iload 4) 0 0 0 0 [] [] = true := by decide +kernel
theorem rf_f_M_countOf_223 : rf_Fb rf_m_M_countOf 223 226 (.goto 13) 236 0 0 0 [] [] = true := by decide +kernel
theorem rf_f_M_countOf_226 : rf_Fb rf_m_M_countOf 226 227 (.iload_n 1) 0 0 0 0 [] [] = true := by decide +kernel
theorem rf_f_M_countOf_227 : rf_Fb rf_m_M_countOf 227 228 (.iconst 4) 0 0 0 0 [] [] = true := by decide +kernel
theorem rf_f_M_countOf_228 : rf_Fb rf_m_M_countOf 228 231 (.if_icmp .ne 7) 235 0 0 0 [] [] = true := by decide +kernel
theorem rf_f_M_countOf_231 : rf_Fb rf_m_M_countOf 231 232 (.iload_n 2) 0 0 0 0 [] [] = true := by decide +kernel
theorem rf_f_M_countOf_232 : rf_Fb rf_m_M_countOf 232 235 (.goto 4) 236 0 0 0 [] [] = true := by decide +kernel
theorem rf_f_M_countOf_235 : rf_Fb rf_m_M_countOf 235 236 (.iload_n 3) 0 0 0 0 [] [] = true := by decide +kernel
theorem rf_f_M_countOf_236 : rf_Fb rf_m_M_countOf 236 237 (.ireturn) 0 0 0 0 [] [] = true := by decide +kernel
set_option maxRecDepth 20000 in
set_option maxHeartbeats 2000000 in
theorem rf_e_M_countOf (d : Nat) (o : Nat) (a1 : Int) (h : rf_H) : rf_call (d + 1) 193 [.inr (.inr (some o)), .inl a1] h = (bif rf_isO h.1 o 5 then ((rf_call d 142 [.inr (.inr (some o))] h).bind fun q2 => rf_kV q2 fun h1 => rf_j_M_countOf_8 d o a1 0 0 h1) else none) := by
  show rf_den (rf_call d) (rf_mt 193) _ = _
  rw [rf_u_M_countOf]
  exact ((rf_s_aload_n rf_f_M_countOf_0 rfl (rf_m0 _) (rf_s_invV3S rf_f_M_countOf_1 rfl rfl (rf_m0 _) fun q2 h1 => (rf_s_iconst rf_f_M_countOf_4 (rf_m0 _) (rf_s_istore_n (L' := [some (.inr (.inr (some o))), some (.inl a1), some (.inl 0), none, none, none, none]) rf_f_M_countOf_5 rfl (rf_s_iconst rf_f_M_countOf_6 (rf_m0 _) (rf_s_istore_n rf_f_M_countOf_7 rfl rfl)))))) : rf_den (rf_call d) rf_m_M_countOf (0, [some (.inr (.inr (some o))), some (.inl a1), none, none, none, none, none], [], h) = _)
set_option maxRecDepth 20000 in
set_option maxHeartbeats 2000000 in
theorem rf_e_M_countOf_8 (d : Nat) (o : Nat) (l1 : Int) (l2 : Int) (l3 : Int) (h : rf_H) : rf_j_M_countOf_8 d o l1 l2 l3 h = ((rf_gR h 5 o 17).bind fun x1 => (rf_nn x1 fun k2 => ((rf_aI h k2 36).bind fun x3 => (if l3 < x3 then (bif rf_isO h.1 o 5 then ((rf_call d 144 [.inr (.inr (some o)), .inl l3] h).bind fun q5 => rf_kI q5 fun x6 h4 => (if x6 = 1 then rf_j_M_countOf_8 d o l1 (rf_w (l2 + 1)) (rf_w (l3 + 1)) h4 else (bif rf_isO h4.1 o 5 then ((rf_call d 144 [.inr (.inr (some o)), .inl l3] h4).bind fun q8 => rf_kI q8 fun x9 h7 => (if x9 = 4 then rf_j_M_countOf_8 d o l1 (rf_w (l2 + 1)) (rf_w (l3 + 1)) h7 else rf_j_M_countOf_8 d o l1 (rf_w (l2 + 0)) (rf_w (l3 + 1)) h7)) else none))) else none) else rf_j_M_countOf_56 d o l1 l2 0 0 h)))) :=
  ((rf_s_iload_n rf_f_M_countOf_8 rfl (rf_m0 _) (rf_s_aload_n rf_f_M_countOf_9 rfl (rf_m0 _) (rf_s_getAS rf_f_M_countOf_10 (rf_m0 _) fun x1 => (rf_s_bipush rf_f_M_countOf_13 (rf_m0 _) (rf_s_ialdR rf_f_M_countOf_15 (rf_m0 _) fun k2 x3 => (rf_s_icmp_ge rf_f_M_countOf_16 rfl (rf_m0 _) (rf_m0 _) (rf_s_iconst rf_f_M_countOf_51 (rf_m0 _) (rf_s_istore_n (L' := [some (.inr (.inr (some o))), some (.inl l1), some (.inl l2), some (.inl 0), none, none, none]) rf_f_M_countOf_52 rfl (rf_s_iconst rf_f_M_countOf_53 (rf_m0 _) (rf_s_istore rf_f_M_countOf_54 rfl rfl)))) (rf_s_iload_n rf_f_M_countOf_19 rfl (rf_m0 _) (rf_s_aload_n rf_f_M_countOf_20 rfl (rf_m0 _) (rf_s_iload_n rf_f_M_countOf_21 rfl (rf_m0 _) (rf_s_invV0S rf_f_M_countOf_22 rfl rfl (rf_m0 _) fun q5 x6 h4 => (rf_s_iconst rf_f_M_countOf_25 (rf_m0 _) (rf_s_icmp_eq rf_f_M_countOf_26 rfl (rf_m0 _) (rf_m0 _) (rf_s_iconst rf_f_M_countOf_38 (rf_m0 _) (rf_s_goto rf_f_M_countOf_39 rfl (rf_m0 _) (rf_s_iadd rf_f_M_countOf_43 (rf_m0 _) (rf_s_istore_n (L' := [some (.inr (.inr (some o))), some (.inl l1), some (.inl (rf_w (l2 + 1))), some (.inl l3), none, none, none]) rf_f_M_countOf_44 rfl (rf_s_iinc (L' := [some (.inr (.inr (some o))), some (.inl l1), some (.inl (rf_w (l2 + 1))), some (.inl (rf_w (l3 + 1))), none, none, none]) rf_f_M_countOf_45 rfl rfl (rf_s_goto rf_f_M_countOf_48 rfl rfl rfl)))))) (rf_s_aload_n rf_f_M_countOf_29 rfl (rf_m0 _) (rf_s_iload_n rf_f_M_countOf_30 rfl (rf_m0 _) (rf_s_invV0S rf_f_M_countOf_31 rfl rfl (rf_m0 _) fun q8 x9 h7 => (rf_s_iconst rf_f_M_countOf_34 (rf_m0 _) (rf_s_icmp_ne rf_f_M_countOf_35 rfl (rf_m0 _) (rf_m0 _) (rf_s_iconst rf_f_M_countOf_42 (rf_m0 _) (rf_s_iadd rf_f_M_countOf_43 (rf_m0 _) (rf_s_istore_n (L' := [some (.inr (.inr (some o))), some (.inl l1), some (.inl (rf_w (l2 + 0))), some (.inl l3), none, none, none]) rf_f_M_countOf_44 rfl (rf_s_iinc (L' := [some (.inr (.inr (some o))), some (.inl l1), some (.inl (rf_w (l2 + 0))), some (.inl (rf_w (l3 + 1))), none, none, none]) rf_f_M_countOf_45 rfl rfl (rf_s_goto rf_f_M_countOf_48 rfl rfl rfl))))) (rf_s_iconst rf_f_M_countOf_38 (rf_m0 _) (rf_s_goto rf_f_M_countOf_39 rfl (rf_m0 _) (rf_s_iadd rf_f_M_countOf_43 (rf_m0 _) (rf_s_istore_n (L' := [some (.inr (.inr (some o))), some (.inl l1), some (.inl (rf_w (l2 + 1))), some (.inl l3), none, none, none]) rf_f_M_countOf_44 rfl (rf_s_iinc (L' := [some (.inr (.inr (some o))), some (.inl l1), some (.inl (rf_w (l2 + 1))), some (.inl (rf_w (l3 + 1))), none, none, none]) rf_f_M_countOf_45 rfl rfl (rf_s_goto rf_f_M_countOf_48 rfl rfl rfl))))))))))))))))))))))) : rf_den (rf_call d) rf_m_M_countOf (8, [some (.inr (.inr (some o))), some (.inl l1), some (.inl l2), some (.inl l3), none, none, none], [], h) = _)
set_option maxRecDepth 20000 in
set_option maxHeartbeats 2000000 in
theorem rf_e_M_countOf_56 (d : Nat) (o : Nat) (l1 : Int) (l2 : Int) (l3 : Int) (l4 : Int) (h : rf_H) : rf_j_M_countOf_56 d o l1 l2 l3 l4 h = (if l4 < 6 then (if l1 = 5 then ((rf_gR h 5 o 0).bind fun x16 => (rf_nn x16 fun k17 => ((rf_aI h k17 l4).bind fun x18 => (if x18 < 0 then rf_j_M_countOf_83 d o l1 l2 l3 l4 0 h else rf_j_M_countOf_83 d o l1 l2 l3 l4 1 h)))) else rf_j_M_countOf_83 d o l1 l2 l3 l4 0 h) else (if l1 = 0 then ((rf_gR h 5 o 4).bind fun x13 => (rf_nn x13 fun k14 => ((rf_aI h k14 36).bind fun x15 => rf_j_M_countOf_214 d l1 l2 l3 x15 h))) else (if l1 = 1 then ((rf_gR h 5 o 4).bind fun x10 => (rf_nn x10 fun k11 => ((rf_aI h k11 2).bind fun x12 => rf_j_M_countOf_214 d l1 l2 l3 x12 h))) else (if l1 = 2 then ((rf_gR h 5 o 4).bind fun x7 => (rf_nn x7 fun k8 => ((rf_aI h k8 37).bind fun x9 => rf_j_M_countOf_214 d l1 l2 l3 x9 h))) else ((rf_gR h 5 o 17).bind fun x1 => (rf_nn x1 fun k2 => ((rf_aI h k2 36).bind fun x3 => (bif rf_isO h.1 o 5 then ((rf_call d 159 [.inr (.inr (some o)), .inl x3] h).bind fun q5 => rf_kI q5 fun x6 h4 => rf_j_M_countOf_214 d l1 l2 l3 x6 h4) else none)))))))) :=
  ((rf_s_iload rf_f_M_countOf_56 rfl (rf_m0 _) (rf_s_bipush rf_f_M_countOf_58 (rf_m0 _) (rf_s_icmp_ge rf_f_M_countOf_60 rfl (rf_m0 _) (rf_m0 _) (rf_s_iload_n rf_f_M_countOf_160 rfl (rf_m0 _) (rf_s_if_ne rf_f_M_countOf_161 rfl (rf_m0 _) (rf_m0 _) (rf_s_iload_n rf_f_M_countOf_174 rfl (rf_m0 _) (rf_s_iconst rf_f_M_countOf_175 (rf_m0 _) (rf_s_icmp_ne rf_f_M_countOf_176 rfl (rf_m0 _) (rf_m0 _) (rf_s_iload_n rf_f_M_countOf_188 rfl (rf_m0 _) (rf_s_iconst rf_f_M_countOf_189 (rf_m0 _) (rf_s_icmp_ne rf_f_M_countOf_190 rfl (rf_m0 _) (rf_m0 _) (rf_s_aload_n rf_f_M_countOf_203 rfl (rf_m0 _) (rf_s_aload_n rf_f_M_countOf_204 rfl (rf_m0 _) (rf_s_getAS rf_f_M_countOf_205 (rf_m0 _) fun x1 => (rf_s_bipush rf_f_M_countOf_208 (rf_m0 _) (rf_s_ialdR rf_f_M_countOf_210 (rf_m0 _) fun k2 x3 => (rf_s_invV0S rf_f_M_countOf_211 rfl rfl rfl fun q5 x6 h4 => rfl)))))) (rf_s_aload_n rf_f_M_countOf_193 rfl (rf_m0 _) (rf_s_getAS rf_f_M_countOf_194 (rf_m0 _) fun x7 => (rf_s_bipush rf_f_M_countOf_197 (rf_m0 _) (rf_s_ialdR rf_f_M_countOf_199 (rf_m0 _) fun k8 x9 => (rf_s_goto rf_f_M_countOf_200 rfl rfl rfl)))))))) (rf_s_aload_n rf_f_M_countOf_179 rfl (rf_m0 _) (rf_s_getAS rf_f_M_countOf_180 (rf_m0 _) fun x10 => (rf_s_iconst rf_f_M_countOf_183 (rf_m0 _) (rf_s_ialdR rf_f_M_countOf_184 (rf_m0 _) fun k11 x12 => (rf_s_goto rf_f_M_countOf_185 rfl rfl rfl)))))))) (rf_s_aload_n rf_f_M_countOf_164 rfl (rf_m0 _) (rf_s_getAS rf_f_M_countOf_165 (rf_m0 _) fun x13 => (rf_s_bipush rf_f_M_countOf_168 (rf_m0 _) (rf_s_ialdR rf_f_M_countOf_170 (rf_m0 _) fun k14 x15 => (rf_s_goto rf_f_M_countOf_171 rfl rfl rfl))))))) (rf_s_iload_n rf_f_M_countOf_63 rfl (rf_m0 _) (rf_s_iconst rf_f_M_countOf_64 (rf_m0 _) (rf_s_icmp_ne rf_f_M_countOf_65 rfl (rf_m0 _) (rf_m0 _) (rf_s_iconst rf_f_M_countOf_82 rfl rfl) (rf_s_aload_n rf_f_M_countOf_68 rfl (rf_m0 _) (rf_s_getAS rf_f_M_countOf_69 (rf_m0 _) fun x16 => (rf_s_iload rf_f_M_countOf_72 rfl (rf_m0 _) (rf_s_ialdR rf_f_M_countOf_74 (rf_m0 _) fun k17 x18 => (rf_s_if_lt rf_f_M_countOf_75 rfl (rf_m0 _) (rf_m0 _) (rf_s_iconst rf_f_M_countOf_82 rfl rfl) (rf_s_iconst rf_f_M_countOf_78 (rf_m0 _) (rf_s_goto rf_f_M_countOf_79 rfl rfl rfl))))))))))))) : rf_den (rf_call d) rf_m_M_countOf (56, [some (.inr (.inr (some o))), some (.inl l1), some (.inl l2), some (.inl l3), some (.inl l4), none, none], [], h) = _)
set_option maxRecDepth 20000 in
set_option maxHeartbeats 2000000 in
theorem rf_e_M_countOf_83 (d : Nat) (o : Nat) (l1 : Int) (l2 : Int) (l3 : Int) (l4 : Int) (s0 : Int) (h : rf_H) : rf_j_M_countOf_83 d o l1 l2 l3 l4 s0 h = (if l1 = 6 then (if l4 < 4 then ((rf_gR h 5 o 2).bind fun x1 => (rf_nn x1 fun k2 => ((rf_aI h k2 l4).bind fun x3 => (if x3 < 0 then rf_j_M_countOf_112 d o l1 l2 l3 l4 s0 0 h else rf_j_M_countOf_112 d o l1 l2 l3 l4 s0 1 h)))) else rf_j_M_countOf_112 d o l1 l2 l3 l4 s0 0 h) else rf_j_M_countOf_112 d o l1 l2 l3 l4 s0 0 h) :=
  ((rf_s_istore (L' := [some (.inr (.inr (some o))), some (.inl l1), some (.inl l2), some (.inl l3), some (.inl l4), some (.inl s0), none]) rf_f_M_countOf_83 rfl (rf_s_iload_n rf_f_M_countOf_85 rfl (rf_m0 _) (rf_s_bipush rf_f_M_countOf_86 (rf_m0 _) (rf_s_icmp_ne rf_f_M_countOf_88 rfl (rf_m0 _) (rf_m0 _) (rf_s_iconst rf_f_M_countOf_111 rfl rfl) (rf_s_iload rf_f_M_countOf_91 rfl (rf_m0 _) (rf_s_iconst rf_f_M_countOf_93 (rf_m0 _) (rf_s_icmp_ge rf_f_M_countOf_94 rfl (rf_m0 _) (rf_m0 _) (rf_s_iconst rf_f_M_countOf_111 rfl rfl) (rf_s_aload_n rf_f_M_countOf_97 rfl (rf_m0 _) (rf_s_getAS rf_f_M_countOf_98 (rf_m0 _) fun x1 => (rf_s_iload rf_f_M_countOf_101 rfl (rf_m0 _) (rf_s_ialdR rf_f_M_countOf_103 (rf_m0 _) fun k2 x3 => (rf_s_if_lt rf_f_M_countOf_104 rfl (rf_m0 _) (rf_m0 _) (rf_s_iconst rf_f_M_countOf_111 rfl rfl) (rf_s_iconst rf_f_M_countOf_107 (rf_m0 _) (rf_s_goto rf_f_M_countOf_108 rfl rfl rfl)))))))))))))) : rf_den (rf_call d) rf_m_M_countOf (83, [some (.inr (.inr (some o))), some (.inl l1), some (.inl l2), some (.inl l3), some (.inl l4), none, none], [.inl s0], h) = _)
set_option maxRecDepth 20000 in
set_option maxHeartbeats 2000000 in
theorem rf_e_M_countOf_112 (d : Nat) (o : Nat) (l1 : Int) (l2 : Int) (l3 : Int) (l4 : Int) (l5 : Int) (s0 : Int) (h : rf_H) : rf_j_M_countOf_112 d o l1 l2 l3 l4 l5 s0 h = (if l5 = 0 then (if s0 = 0 then (if l1 = 7 then (if l4 < 3 then ((rf_gR h 5 o 6).bind fun x1 => (rf_nn x1 fun k2 => ((rf_aZ h k2 l4).bind fun x3 => (if x3 = 0 then rf_j_M_countOf_56 d o l1 l2 (rf_w (l3 + 0)) (rf_w (l4 + 1)) h else rf_j_M_countOf_56 d o l1 l2 (rf_w (l3 + 1)) (rf_w (l4 + 1)) h)))) else rf_j_M_countOf_56 d o l1 l2 (rf_w (l3 + 0)) (rf_w (l4 + 1)) h) else rf_j_M_countOf_56 d o l1 l2 (rf_w (l3 + 0)) (rf_w (l4 + 1)) h) else rf_j_M_countOf_56 d o l1 l2 (rf_w (l3 + 1)) (rf_w (l4 + 1)) h) else rf_j_M_countOf_56 d o l1 l2 (rf_w (l3 + 1)) (rf_w (l4 + 1)) h) :=
  ((rf_s_istore (L' := [some (.inr (.inr (some o))), some (.inl l1), some (.inl l2), some (.inl l3), some (.inl l4), some (.inl l5), some (.inl s0)]) rf_f_M_countOf_112 rfl (rf_s_iload_n rf_f_M_countOf_114 rfl (rf_m0 _) (rf_s_iload rf_f_M_countOf_115 rfl (rf_m0 _) (rf_s_if_ne rf_f_M_countOf_117 rfl (rf_m0 _) (rf_m0 _) (rf_s_iconst rf_f_M_countOf_147 (rf_m0 _) (rf_s_goto rf_f_M_countOf_148 rfl (rf_m0 _) (rf_s_iadd rf_f_M_countOf_152 (rf_m0 _) (rf_s_istore_n (L' := [some (.inr (.inr (some o))), some (.inl l1), some (.inl l2), some (.inl (rf_w (l3 + 1))), some (.inl l4), some (.inl l5), some (.inl s0)]) rf_f_M_countOf_153 rfl (rf_s_iinc (L' := [some (.inr (.inr (some o))), some (.inl l1), some (.inl l2), some (.inl (rf_w (l3 + 1))), some (.inl (rf_w (l4 + 1))), some (.inl l5), some (.inl s0)]) rf_f_M_countOf_154 rfl rfl (rf_s_goto rf_f_M_countOf_157 rfl rfl rfl)))))) (rf_s_iload rf_f_M_countOf_120 rfl (rf_m0 _) (rf_s_if_ne rf_f_M_countOf_122 rfl (rf_m0 _) (rf_m0 _) (rf_s_iconst rf_f_M_countOf_147 (rf_m0 _) (rf_s_goto rf_f_M_countOf_148 rfl (rf_m0 _) (rf_s_iadd rf_f_M_countOf_152 (rf_m0 _) (rf_s_istore_n (L' := [some (.inr (.inr (some o))), some (.inl l1), some (.inl l2), some (.inl (rf_w (l3 + 1))), some (.inl l4), some (.inl l5), some (.inl s0)]) rf_f_M_countOf_153 rfl (rf_s_iinc (L' := [some (.inr (.inr (some o))), some (.inl l1), some (.inl l2), some (.inl (rf_w (l3 + 1))), some (.inl (rf_w (l4 + 1))), some (.inl l5), some (.inl s0)]) rf_f_M_countOf_154 rfl rfl (rf_s_goto rf_f_M_countOf_157 rfl rfl rfl)))))) (rf_s_iload_n rf_f_M_countOf_125 rfl (rf_m0 _) (rf_s_bipush rf_f_M_countOf_126 (rf_m0 _) (rf_s_icmp_ne rf_f_M_countOf_128 rfl (rf_m0 _) (rf_m0 _) (rf_s_iconst rf_f_M_countOf_151 (rf_m0 _) (rf_s_iadd rf_f_M_countOf_152 (rf_m0 _) (rf_s_istore_n (L' := [some (.inr (.inr (some o))), some (.inl l1), some (.inl l2), some (.inl (rf_w (l3 + 0))), some (.inl l4), some (.inl l5), some (.inl s0)]) rf_f_M_countOf_153 rfl (rf_s_iinc (L' := [some (.inr (.inr (some o))), some (.inl l1), some (.inl l2), some (.inl (rf_w (l3 + 0))), some (.inl (rf_w (l4 + 1))), some (.inl l5), some (.inl s0)]) rf_f_M_countOf_154 rfl rfl (rf_s_goto rf_f_M_countOf_157 rfl rfl rfl))))) (rf_s_iload rf_f_M_countOf_131 rfl (rf_m0 _) (rf_s_iconst rf_f_M_countOf_133 (rf_m0 _) (rf_s_icmp_ge rf_f_M_countOf_134 rfl (rf_m0 _) (rf_m0 _) (rf_s_iconst rf_f_M_countOf_151 (rf_m0 _) (rf_s_iadd rf_f_M_countOf_152 (rf_m0 _) (rf_s_istore_n (L' := [some (.inr (.inr (some o))), some (.inl l1), some (.inl l2), some (.inl (rf_w (l3 + 0))), some (.inl l4), some (.inl l5), some (.inl s0)]) rf_f_M_countOf_153 rfl (rf_s_iinc (L' := [some (.inr (.inr (some o))), some (.inl l1), some (.inl l2), some (.inl (rf_w (l3 + 0))), some (.inl (rf_w (l4 + 1))), some (.inl l5), some (.inl s0)]) rf_f_M_countOf_154 rfl rfl (rf_s_goto rf_f_M_countOf_157 rfl rfl rfl))))) (rf_s_aload_n rf_f_M_countOf_137 rfl (rf_m0 _) (rf_s_getAS rf_f_M_countOf_138 (rf_m0 _) fun x1 => (rf_s_iload rf_f_M_countOf_141 rfl (rf_m0 _) (rf_s_baldR rf_f_M_countOf_143 (rf_m0 _) fun k2 x3 => (rf_s_if_eq rf_f_M_countOf_144 rfl (rf_m0 _) (rf_m0 _) (rf_s_iconst rf_f_M_countOf_151 (rf_m0 _) (rf_s_iadd rf_f_M_countOf_152 (rf_m0 _) (rf_s_istore_n (L' := [some (.inr (.inr (some o))), some (.inl l1), some (.inl l2), some (.inl (rf_w (l3 + 0))), some (.inl l4), some (.inl l5), some (.inl s0)]) rf_f_M_countOf_153 rfl (rf_s_iinc (L' := [some (.inr (.inr (some o))), some (.inl l1), some (.inl l2), some (.inl (rf_w (l3 + 0))), some (.inl (rf_w (l4 + 1))), some (.inl l5), some (.inl s0)]) rf_f_M_countOf_154 rfl rfl (rf_s_goto rf_f_M_countOf_157 rfl rfl rfl))))) (rf_s_iconst rf_f_M_countOf_147 (rf_m0 _) (rf_s_goto rf_f_M_countOf_148 rfl (rf_m0 _) (rf_s_iadd rf_f_M_countOf_152 (rf_m0 _) (rf_s_istore_n (L' := [some (.inr (.inr (some o))), some (.inl l1), some (.inl l2), some (.inl (rf_w (l3 + 1))), some (.inl l4), some (.inl l5), some (.inl s0)]) rf_f_M_countOf_153 rfl (rf_s_iinc (L' := [some (.inr (.inr (some o))), some (.inl l1), some (.inl l2), some (.inl (rf_w (l3 + 1))), some (.inl (rf_w (l4 + 1))), some (.inl l5), some (.inl s0)]) rf_f_M_countOf_154 rfl rfl (rf_s_goto rf_f_M_countOf_157 rfl rfl rfl))))))))))))))))))))))) : rf_den (rf_call d) rf_m_M_countOf (112, [some (.inr (.inr (some o))), some (.inl l1), some (.inl l2), some (.inl l3), some (.inl l4), some (.inl l5), none], [.inl s0], h) = _)
set_option maxRecDepth 20000 in
set_option maxHeartbeats 2000000 in
theorem rf_e_M_countOf_214 (d : Nat) (l1 : Int) (l2 : Int) (l3 : Int) (s0 : Int) (h : rf_H) : rf_j_M_countOf_214 d l1 l2 l3 s0 h = (if l1 < 4 then some (some (.inl s0), h) else (if l1 = 4 then some (some (.inl l2), h) else some (some (.inl l3), h))) :=
  ((rf_s_istore (L' := [none, some (.inl l1), some (.inl l2), some (.inl l3), some (.inl s0), none, none]) rf_f_M_countOf_214 rfl (rf_s_iload_n rf_f_M_countOf_216 rfl (rf_m0 _) (rf_s_iconst rf_f_M_countOf_217 (rf_m0 _) (rf_s_icmp_ge rf_f_M_countOf_218 rfl (rf_m0 _) (rf_m0 _) (rf_s_iload_n rf_f_M_countOf_226 rfl (rf_m0 _) (rf_s_iconst rf_f_M_countOf_227 (rf_m0 _) (rf_s_icmp_ne rf_f_M_countOf_228 rfl (rf_m0 _) (rf_m0 _) (rf_s_iload_n rf_f_M_countOf_235 rfl (rf_m0 _) (rf_s_iret rf_f_M_countOf_236)) (rf_s_iload_n rf_f_M_countOf_231 rfl (rf_m0 _) (rf_s_goto rf_f_M_countOf_232 rfl (rf_m0 _) (rf_s_iret rf_f_M_countOf_236)))))) (rf_s_iload rf_f_M_countOf_221 rfl (rf_m0 _) (rf_s_goto rf_f_M_countOf_223 rfl (rf_m0 _) (rf_s_iret rf_f_M_countOf_236))))))) : rf_den (rf_call d) rf_m_M_countOf (214, [none, some (.inl l1), some (.inl l2), some (.inl l3), none, none, none], [.inl s0], h) = _)
theorem rf_u_M_finding : rf_mt 194 = rf_m_M_finding := rfl
theorem rf_f_M_finding_0 : rf_Fb rf_m_M_finding 0 1 (.aload_n 0) 0 0 0 0 [] [] = true := by decide +kernel
theorem rf_f_M_finding_1 : rf_Fb rf_m_M_finding 1 4 (.getfield 54) 5 8 0 0 [] [] = true := by decide +kernel
theorem rf_f_M_finding_4 : rf_Fb rf_m_M_finding 4 5 (.ireturn) 0 0 0 0 [] [] = true := by decide +kernel
set_option maxRecDepth 20000 in
set_option maxHeartbeats 2000000 in
theorem rf_e_M_finding (d : Nat) (o : Nat) (h : rf_H) : rf_call (d + 1) 194 [.inr (.inr (some o))] h = ((rf_gI h 5 o 8).bind fun x1 => some (some (.inl x1), h)) := by
  show rf_den (rf_call d) (rf_mt 194) _ = _
  rw [rf_u_M_finding]
  exact ((rf_s_aload_n rf_f_M_finding_0 rfl (rf_m0 _) (rf_s_getIS rf_f_M_finding_1 (rf_m0 _) fun x1 => (rf_s_iret rf_f_M_finding_4))) : rf_den (rf_call d) rf_m_M_finding (0, [some (.inr (.inr (some o)))], [], h) = _)
theorem rf_u_M_findings : rf_mt 195 = rf_m_M_findings := rfl
theorem rf_f_M_findings_0 : rf_Fb rf_m_M_findings 0 1 (.iload_n 1) 0 0 0 0 [] [] = true := by decide +kernel
theorem rf_f_M_findings_1 : rf_Fb rf_m_M_findings 1 2 (.i2l) 0 0 0 0 [] [] = true := by decide +kernel
theorem rf_f_M_findings_2 : rf_Fb rf_m_M_findings 2 3 (.lconst 1) 0 0 0 1 [] [] = true := by decide +kernel
theorem rf_f_M_findings_3 : rf_Fb rf_m_M_findings 3 6 (.ldc2_w 61) 0 0 0 5 [] [] = true := by decide +kernel
theorem rf_f_M_findings_6 : rf_Fb rf_m_M_findings 6 9 (.invokestatic 63) 118 3 0 0 [] [] = true := by decide +kernel
theorem rf_f_M_findings_9 : rf_Fb rf_m_M_findings 9 12 (.ifCond .eq 12) 21 0 0 0 [] [] = true := by decide +kernel
theorem rf_f_M_findings_12 : rf_Fb rf_m_M_findings 12 13 (.aload_n 0) 0 0 0 0 [] [] = true := by decide +kernel
theorem rf_f_M_findings_13 : rf_Fb rf_m_M_findings 13 16 (.getfield 32) 5 7 2 0 [] [] = true := by decide +kernel
theorem rf_f_M_findings_16 : rf_Fb rf_m_M_findings 16 17 (.iload_n 1) 0 0 0 0 [] [] = true := by decide +kernel
theorem rf_f_M_findings_17 : rf_Fb rf_m_M_findings 17 18 (.iaload) 0 0 0 0 [] [] = true := by decide +kernel
theorem rf_f_M_findings_18 : rf_Fb rf_m_M_findings 18 21 (.goto 4) 22 0 0 0 [] [] = true := by decide +kernel
theorem rf_f_M_findings_21 : rf_Fb rf_m_M_findings 21 22 (.iconst (-1)) 0 0 0 0 [] [] = true := by decide +kernel
theorem rf_f_M_findings_22 : rf_Fb rf_m_M_findings 22 23 (.ireturn) 0 0 0 0 [] [] = true := by decide +kernel
set_option maxRecDepth 20000 in
set_option maxHeartbeats 2000000 in
theorem rf_e_M_findings (d : Nat) (o : Nat) (a1 : Int) (h : rf_H) : rf_call (d + 1) 195 [.inr (.inr (some o)), .inl a1] h = ((rf_call d 118 [.inr (.inl a1), .inr (.inl 1), .inr (.inl 5)] h).bind fun q2 => rf_kI q2 fun x3 h1 => (if x3 = 0 then some (some (.inl (-1)), h1) else ((rf_gR h1 5 o 7).bind fun x4 => (rf_nn x4 fun k5 => ((rf_aI h1 k5 a1).bind fun x6 => some (some (.inl x6), h1)))))) := by
  show rf_den (rf_call d) (rf_mt 195) _ = _
  rw [rf_u_M_findings]
  exact ((rf_s_iload_n rf_f_M_findings_0 rfl (rf_m0 _) (rf_s_i2l rf_f_M_findings_1 (rf_m0 _) (rf_s_lconst rf_f_M_findings_2 (rf_m0 _) (rf_s_ldc2_w rf_f_M_findings_3 (rf_m0 _) (rf_s_invS0 rf_f_M_findings_6 rfl rfl (rf_m0 _) fun q2 x3 h1 => (rf_s_if_eq rf_f_M_findings_9 rfl (rf_m0 _) (rf_m0 _) (rf_s_iconst rf_f_M_findings_21 (rf_m0 _) (rf_s_iret rf_f_M_findings_22)) (rf_s_aload_n rf_f_M_findings_12 rfl (rf_m0 _) (rf_s_getAS rf_f_M_findings_13 (rf_m0 _) fun x4 => (rf_s_iload_n rf_f_M_findings_16 rfl (rf_m0 _) (rf_s_ialdR rf_f_M_findings_17 (rf_m0 _) fun k5 x6 => (rf_s_goto rf_f_M_findings_18 rfl (rf_m0 _) (rf_s_iret rf_f_M_findings_22)))))))))))) : rf_den (rf_call d) rf_m_M_findings (0, [some (.inr (.inr (some o))), some (.inl a1)], [], h) = _)
noncomputable def rf_j_M_digest_6 (d : Nat) (o : Nat) (l1 : Int) (l3 : Int) (h : rf_H) : Option rf_R := rf_den (rf_call d) rf_m_M_digest (6, [some (.inr (.inr (some o))), some (.inr (.inl l1)), none, some (.inl l3), none, none], [], h)
noncomputable def rf_j_M_digest_39 (d : Nat) (o : Nat) (l1 : Int) (l3 : Int) (l4 : Int) (h : rf_H) : Option rf_R := rf_den (rf_call d) rf_m_M_digest (39, [some (.inr (.inr (some o))), some (.inr (.inl l1)), none, some (.inl l3), some (.inl l4), none], [], h)
noncomputable def rf_j_M_digest_81 (d : Nat) (o : Nat) (l1 : Int) (l3 : Int) (l4 : Int) (h : rf_H) : Option rf_R := rf_den (rf_call d) rf_m_M_digest (81, [some (.inr (.inr (some o))), some (.inr (.inl l1)), none, some (.inl l3), some (.inl l4), none], [], h)
noncomputable def rf_j_M_digest_96 (d : Nat) (o : Nat) (l1 : Int) (l3 : Int) (l4 : Int) (l5 : Int) (h : rf_H) : Option rf_R := rf_den (rf_call d) rf_m_M_digest (96, [some (.inr (.inr (some o))), some (.inr (.inl l1)), none, some (.inl l3), some (.inl l4), some (.inl l5)], [], h)
noncomputable def rf_j_M_digest_144 (d : Nat) (o : Nat) (l1 : Int) (l4 : Int) (h : rf_H) : Option rf_R := rf_den (rf_call d) rf_m_M_digest (144, [some (.inr (.inr (some o))), some (.inr (.inl l1)), none, none, some (.inl l4), none], [], h)
noncomputable def rf_j_M_digest_195 (d : Nat) (o : Nat) (l1 : Int) (l4 : Int) (h : rf_H) : Option rf_R := rf_den (rf_call d) rf_m_M_digest (195, [some (.inr (.inr (some o))), some (.inr (.inl l1)), none, none, some (.inl l4), none], [], h)
noncomputable def rf_j_M_digest_220 (d : Nat) (o : Nat) (l1 : Int) (l4 : Int) (l5 : Int) (h : rf_H) : Option rf_R := rf_den (rf_call d) rf_m_M_digest (220, [some (.inr (.inr (some o))), some (.inr (.inl l1)), none, none, some (.inl l4), some (.inl l5)], [], h)
noncomputable def rf_j_M_digest_268 (d : Nat) (o : Nat) (l1 : Int) (l4 : Int) (h : rf_H) : Option rf_R := rf_den (rf_call d) rf_m_M_digest (268, [some (.inr (.inr (some o))), some (.inr (.inl l1)), none, none, some (.inl l4), none], [], h)
noncomputable def rf_j_M_digest_292 (d : Nat) (o : Nat) (l1 : Int) (l4 : Int) (l5 : Int) (h : rf_H) : Option rf_R := rf_den (rf_call d) rf_m_M_digest (292, [some (.inr (.inr (some o))), some (.inr (.inl l1)), none, none, some (.inl l4), some (.inl l5)], [], h)
theorem rf_u_M_digest : rf_mt 196 = rf_m_M_digest := rfl
theorem rf_f_M_digest_0 : rf_Fb rf_m_M_digest 0 3 (.ldc2_w 246) 0 0 0 17 [] [] = true := by decide +kernel
theorem rf_f_M_digest_3 : rf_Fb rf_m_M_digest 3 4 (.lstore_n 1) 0 0 0 0 [] [] = true := by decide +kernel
theorem rf_f_M_digest_4 : rf_Fb rf_m_M_digest 4 5 (.iconst 0) 0 0 0 0 [] [] = true := by decide +kernel
theorem rf_f_M_digest_5 : rf_Fb rf_m_M_digest 5 6 (.istore_n 3) 0 0 0 0 [] [true, true, false, true, false, false] = true := by decide +kernel
theorem rf_f_M_digest_6 : rf_Fb rf_m_M_digest 6 7 (.iload_n 3) 0 0 0 0 [] [] = true := by decide +kernel
theorem rf_f_M_digest_7 : rf_Fb rf_m_M_digest 7 9 (.bipush 8) 0 0 0 0 [] [] = true := by decide +kernel
theorem rf_f_M_digest_9 : rf_Fb rf_m_M_digest 9 12 (.if_icmp .ge 22) 31 0 0 0 [] [] = true := by decide +kernel
theorem rf_f_M_digest_12 : rf_Fb rf_m_M_digest 12 15 (.ldc2_w 248) 0 0 0 31 [] [] = true := by decide +kernel
theorem rf_f_M_digest_15 : rf_Fb rf_m_M_digest 15 16 (.lload_n 1) 0 0 0 0 [] [] = true := by decide +kernel
theorem rf_f_M_digest_16 : rf_Fb rf_m_M_digest 16 17 (.lmul) 0 0 0 0 [] [] = true := by decide +kernel
theorem rf_f_M_digest_17 : rf_Fb rf_m_M_digest 17 18 (.aload_n 0) 0 0 0 0 [] [] = true := by decide +kernel
theorem rf_f_M_digest_18 : rf_Fb rf_m_M_digest 18 19 (.iload_n 3) 0 0 0 0 [] [] = true := by decide +kernel
theorem rf_f_M_digest_19 : rf_Fb rf_m_M_digest 19 22 (.invokevirtual 243) 193 1 0 5 [] [] = true := by decide +kernel
theorem rf_f_M_digest_22 : rf_Fb rf_m_M_digest 22 23 (.i2l) 0 0 0 0 [] [] = true := by decide +kernel
theorem rf_f_M_digest_23 : rf_Fb rf_m_M_digest 23 24 (.ladd) 0 0 0 0 [] [] = true := by decide +kernel
theorem rf_f_M_digest_24 : rf_Fb rf_m_M_digest 24 25 (.lstore_n 1) 0 0 0 0 [] [] = true := by decide +kernel
theorem rf_f_M_digest_25 : rf_Fb rf_m_M_digest 25 28 (.iinc 3 1) 0 0 0 0 [] [] = true := by decide +kernel
theorem rf_f_M_digest_28 : rf_Fb rf_m_M_digest 28 31 (.goto (-22)) 6 0 0 0 [] [] = true := by decide +kernel
theorem rf_f_M_digest_31 : rf_Fb rf_m_M_digest 31 32 (.aload_n 0) 0 0 0 0 [] [] = true := by decide +kernel
theorem rf_f_M_digest_32 : rf_Fb rf_m_M_digest 32 35 (.getfield 58) 5 9 0 0 [] [] = true := by decide +kernel
theorem rf_f_M_digest_35 : rf_Fb rf_m_M_digest 35 36 (.istore_n 3) 0 0 0 0 [] [] = true := by decide +kernel
theorem rf_f_M_digest_36 : rf_Fb rf_m_M_digest 36 37 (.iconst 0) 0 0 0 0 [] [] = true := by decide +kernel
theorem rf_f_M_digest_37 : rf_Fb rf_m_M_digest 37 39 (.istore 4) 0 0 0 0 [] [true, true, false, true, true, false] = true := by decide +kernel
theorem rf_f_M_digest_39 : rf_Fb rf_m_M_digest 39 41 (.iload 4) 0 0 0 0 [] [] = true := by decide +kernel
theorem rf_f_M_digest_41 : rf_Fb rf_m_M_digest 41 43 (.bipush 10) 0 0 0 0 [] [] = true := by decide +kernel
theorem rf_f_M_digest_43 : rf_Fb rf_m_M_digest 43 46 (.if_icmp .ge 35) 78 0 0 0 [] [] = true := by decide +kernel
theorem rf_f_M_digest_46 : rf_Fb rf_m_M_digest 46 47 (.aload_n 0) 0 0 0 0 [] [] = true := by decide +kernel
theorem rf_f_M_digest_47 : rf_Fb rf_m_M_digest 47 50 (.invokevirtual 162) 150 0 0 5 [] [] = true := by decide +kernel
theorem rf_f_M_digest_50 : rf_Fb rf_m_M_digest 50 53 (.ifCond .eq 28) 78 0 0 0 [] [] = true := by decide +kernel
theorem rf_f_M_digest_53 : rf_Fb rf_m_M_digest 53 54 (.aload_n 0) 0 0 0 0 [] [] = true := by decide +kernel
theorem rf_f_M_digest_54 : rf_Fb rf_m_M_digest 54 56 (.iload 4) 0 0 0 0 [] [] = true := by decide +kernel
theorem rf_f_M_digest_56 : rf_Fb rf_m_M_digest 56 59 (.invokevirtual 250) 149 1 0 5 [] [] = true := by decide +kernel
theorem rf_f_M_digest_59 : rf_Fb rf_m_M_digest 59 60 (.pop) 0 0 0 0 [] [] = true := by decide +kernel
theorem rf_f_M_digest_60 : rf_Fb rf_m_M_digest 60 63 (.ldc2_w 248) 0 0 0 31 [] [] = true := by decide +kernel
theorem rf_f_M_digest_63 : rf_Fb rf_m_M_digest 63 64 (.lload_n 1) 0 0 0 0 [] [] = true := by decide +kernel
theorem rf_f_M_digest_64 : rf_Fb rf_m_M_digest 64 65 (.lmul) 0 0 0 0 [] [] = true := by decide +kernel
theorem rf_f_M_digest_65 : rf_Fb rf_m_M_digest 65 66 (.aload_n 0) 0 0 0 0 [] [] = true := by decide +kernel
theorem rf_f_M_digest_66 : rf_Fb rf_m_M_digest 66 69 (.getfield 58) 5 9 0 0 [] [] = true := by decide +kernel
theorem rf_f_M_digest_69 : rf_Fb rf_m_M_digest 69 70 (.i2l) 0 0 0 0 [] [] = true := by decide +kernel
theorem rf_f_M_digest_70 : rf_Fb rf_m_M_digest 70 71 (.ladd) 0 0 0 0 [] [] = true := by decide +kernel
theorem rf_f_M_digest_71 : rf_Fb rf_m_M_digest 71 72 (.lstore_n 1) 0 0 0 0 [] [] = true := by decide +kernel
theorem rf_f_M_digest_72 : rf_Fb rf_m_M_digest 72 75 (.iinc 4 1) 0 0 0 0 [] [] = true := by decide +kernel
theorem rf_f_M_digest_75 : rf_Fb rf_m_M_digest 75 78 (.goto (-36)) 39 0 0 0 [] [] = true := by decide +kernel
theorem rf_f_M_digest_78 : rf_Fb rf_m_M_digest 78 79 (.iconst 0) 0 0 0 0 [] [] = true := by decide +kernel
theorem rf_f_M_digest_79 : rf_Fb rf_m_M_digest 79 81 (.istore 4) 0 0 0 0 [] [true, true, false, true, true, false] = true := by decide +kernel
theorem rf_f_M_digest_81 : rf_Fb rf_m_M_digest 81 83 (.iload 4) 0 0 0 0 [] [] = true := by decide +kernel
theorem rf_f_M_digest_83 : rf_Fb rf_m_M_digest 83 84 (.aload_n 0) 0 0 0 0 [] [] = true := by decide +kernel
theorem rf_f_M_digest_84 : rf_Fb rf_m_M_digest 84 87 (.getfield 22) 5 4 2 0 [] [] = true := by decide +kernel
theorem rf_f_M_digest_87 : rf_Fb rf_m_M_digest 87 89 (.bipush 36) 0 0 0 0 [] [] = true := by decide +kernel
theorem rf_f_M_digest_89 : rf_Fb rf_m_M_digest 89 90 (.iaload) 0 0 0 0 [] [] = true := by decide +kernel
theorem rf_f_M_digest_90 : rf_Fb rf_m_M_digest 90 93 (.if_icmp .ge 46) 136 0 0 0 [] [] = true := by decide +kernel
theorem rf_f_M_digest_93 : rf_Fb rf_m_M_digest 93 94 (.iconst 0) 0 0 0 0 [] [] = true := by decide +kernel
theorem rf_f_M_digest_94 : rf_Fb rf_m_M_digest 94 96 (.istore 5) 0 0 0 0 [] [true, true, false, true, true, true] = true := by decide +kernel
theorem rf_f_M_digest_96 : rf_Fb rf_m_M_digest 96 98 (.iload 5) 0 0 0 0 [] [] = true := by decide +kernel
theorem rf_f_M_digest_98 : rf_Fb rf_m_M_digest 98 100 (.bipush 6) 0 0 0 0 [] [] = true := by decide +kernel
theorem rf_f_M_digest_100 : rf_Fb rf_m_M_digest 100 103 (.if_icmp .ge 30) 130 0 0 0 [] [] = true := by decide +kernel
theorem rf_f_M_digest_103 : rf_Fb rf_m_M_digest 103 104 (.aload_n 0) 0 0 0 0 [] [] = true := by decide +kernel
theorem rf_f_M_digest_104 : rf_Fb rf_m_M_digest 104 106 (.iload 4) 0 0 0 0 [] [] = true := by decide +kernel
theorem rf_f_M_digest_106 : rf_Fb rf_m_M_digest 106 108 (.iload 5) 0 0 0 0 [] [] = true := by decide +kernel
theorem rf_f_M_digest_108 : rf_Fb rf_m_M_digest 108 111 (.invokevirtual 253) 141 2 0 5 [] [] = true := by decide +kernel
theorem rf_f_M_digest_111 : rf_Fb rf_m_M_digest 111 112 (.pop) 0 0 0 0 [] [] = true := by decide +kernel
theorem rf_f_M_digest_112 : rf_Fb rf_m_M_digest 112 115 (.ldc2_w 248) 0 0 0 31 [] [] = true := by decide +kernel
theorem rf_f_M_digest_115 : rf_Fb rf_m_M_digest 115 116 (.lload_n 1) 0 0 0 0 [] [] = true := by decide +kernel
theorem rf_f_M_digest_116 : rf_Fb rf_m_M_digest 116 117 (.lmul) 0 0 0 0 [] [] = true := by decide +kernel
theorem rf_f_M_digest_117 : rf_Fb rf_m_M_digest 117 118 (.aload_n 0) 0 0 0 0 [] [] = true := by decide +kernel
theorem rf_f_M_digest_118 : rf_Fb rf_m_M_digest 118 121 (.getfield 58) 5 9 0 0 [] [] = true := by decide +kernel
theorem rf_f_M_digest_121 : rf_Fb rf_m_M_digest 121 122 (.i2l) 0 0 0 0 [] [] = true := by decide +kernel
theorem rf_f_M_digest_122 : rf_Fb rf_m_M_digest 122 123 (.ladd) 0 0 0 0 [] [] = true := by decide +kernel
theorem rf_f_M_digest_123 : rf_Fb rf_m_M_digest 123 124 (.lstore_n 1) 0 0 0 0 [] [] = true := by decide +kernel
theorem rf_f_M_digest_124 : rf_Fb rf_m_M_digest 124 127 (.iinc 5 1) 0 0 0 0 [] [] = true := by decide +kernel
theorem rf_f_M_digest_127 : rf_Fb rf_m_M_digest 127 130 (.goto (-31)) 96 0 0 0 [] [] = true := by decide +kernel
theorem rf_f_M_digest_130 : rf_Fb rf_m_M_digest 130 133 (.iinc 4 1) 0 0 0 0 [] [] = true := by decide +kernel
theorem rf_f_M_digest_133 : rf_Fb rf_m_M_digest 133 136 (.goto (-52)) 81 0 0 0 [] [] = true := by decide +kernel
theorem rf_f_M_digest_136 : rf_Fb rf_m_M_digest 136 137 (.aload_n 0) 0 0 0 0 [] [] = true := by decide +kernel
theorem rf_f_M_digest_137 : rf_Fb rf_m_M_digest 137 138 (.iload_n 3) 0 0 0 0 [] [] = true := by decide +kernel
theorem rf_f_M_digest_138 : rf_Fb rf_m_M_digest 138 141 (.putfield 58) 5 9 0 0 [] [] = true := by decide +kernel
theorem rf_f_M_digest_141 : rf_Fb rf_m_M_digest 141 142 (.iconst 0) 0 0 0 0 [] [] = true := by decide +kernel
theorem rf_f_M_digest_142 : rf_Fb rf_m_M_digest 142 144 (.istore 4) 0 0 0 0 [] [true, true, false, false, true, false] = true := by decide +kernel
theorem rf_f_M_digest_144 : rf_Fb rf_m_M_digest 144 146 (.iload 4) 0 0 0 0 [] [] = true := by decide +kernel
theorem rf_f_M_digest_146 : rf_Fb rf_m_M_digest 146 147 (.iconst 3) 0 0 0 0 [] [] = true := by decide +kernel
theorem rf_f_M_digest_147 : rf_Fb rf_m_M_digest 147 150 (.if_icmp .ge 45) 192 0 0 0 [] [] = true := by decide +kernel
theorem rf_f_M_digest_150 : rf_Fb rf_m_M_digest 150 153 (.ldc2_w 248) 0 0 0 31 [] [] = true := by decide +kernel
theorem rf_f_M_digest_153 : rf_Fb rf_m_M_digest 153 154 (.lload_n 1) 0 0 0 0 [] [] = true := by decide +kernel
theorem rf_f_M_digest_154 : rf_Fb rf_m_M_digest 154 155 (.lmul) 0 0 0 0 [] [] = true := by decide +kernel
theorem rf_f_M_digest_155 : rf_Fb rf_m_M_digest 155 156 (.aload_n 0) 0 0 0 0 [] [] = true := by decide +kernel
theorem rf_f_M_digest_156 : rf_Fb rf_m_M_digest 156 159 (.getfield 28) 5 6 2 0 [] [] = true := by decide +kernel
theorem rf_f_M_digest_159 : rf_Fb rf_m_M_digest 159 161 (.iload 4) 0 0 0 0 [] [] = true := by decide +kernel
theorem rf_f_M_digest_161 : rf_Fb rf_m_M_digest 161 162 (.baload) 0 0 0 0 [] [] = true := by decide +kernel
theorem rf_f_M_digest_162 : rf_Fb rf_m_M_digest 162 165 (.ifCond .eq 20) 182 0 0 0 [] [] = true := by decide +kernel
theorem rf_f_M_digest_165 : rf_Fb rf_m_M_digest 165 166 (.aload_n 0) 0 0 0 0 [] [] = true := by decide +kernel
theorem rf_f_M_digest_166 : rf_Fb rf_m_M_digest 166 169 (.getfield 25) 5 5 2 0 [] [] = true := by decide +kernel
theorem rf_f_M_digest_169 : rf_Fb rf_m_M_digest 169 172 (.sipush 638) 0 0 0 0 [] [] = true := by decide +kernel
theorem rf_f_M_digest_172 : rf_Fb rf_m_M_digest 172 174 (.iload 4) 0 0 0 0 [] [] = true := by decide +kernel
theorem rf_f_M_digest_174 : rf_Fb rf_m_M_digest 174 175 (.imul) 0 0 0 0 [] [] = true := by decide +kernel
theorem rf_f_M_digest_175 : rf_Fb rf_m_M_digest 175 177 (.bipush 37) 0 0 0 0 [] [] = true := by decide +kernel
theorem rf_f_M_digest_177 : rf_Fb rf_m_M_digest 177 178 (.iadd) 0 0 0 0 [] [] = true := by decide +kernel
theorem rf_f_M_digest_178 : rf_Fb rf_m_M_digest 178 179 (.iaload) 0 0 0 0 [] [] = true := by decide +kernel
theorem rf_f_M_digest_179 : rf_Fb rf_m_M_digest 179 182 (.goto 4) 183 0 0 0 [] [] = true := by decide +kernel
theorem rf_f_M_digest_182 : rf_Fb rf_m_M_digest 182 183 (.iconst (-1)) 0 0 0 0 [] [] = true := by decide +kernel
theorem rf_f_M_digest_183 : rf_Fb rf_m_M_digest 183 184 (.i2l) 0 0 0 0 [] [] = true := by decide +kernel
theorem rf_f_M_digest_184 : rf_Fb rf_m_M_digest 184 185 (.ladd) 0 0 0 0 [] [] = true := by decide +kernel
theorem rf_f_M_digest_185 : rf_Fb rf_m_M_digest 185 186 (.lstore_n 1) 0 0 0 0 [] [] = true := by decide +kernel
theorem rf_f_M_digest_186 : rf_Fb rf_m_M_digest 186 189 (.iinc 4 1) 0 0 0 0 [] [] = true := by decide +kernel
theorem rf_f_M_digest_189 : rf_Fb rf_m_M_digest 189 192 (.goto (-45)) 144 0 0 0 [] [] = true := by decide +kernel
theorem rf_f_M_digest_192 : rf_Fb rf_m_M_digest 192 193 (.iconst 0) 0 0 0 0 [] [] = true := by decide +kernel
theorem rf_f_M_digest_193 : rf_Fb rf_m_M_digest 193 195 (.istore 4) 0 0 0 0 [] [true, true, false, false, true, false] = true := by decide +kernel
theorem rf_f_M_digest_195 : rf_Fb rf_m_M_digest 195 197 (.iload 4) 0 0 0 0 [] [] = true := by decide +kernel
theorem rf_f_M_digest_197 : rf_Fb rf_m_M_digest 197 199 (.bipush 6) 0 0 0 0 [] [] = true := by decide +kernel
theorem rf_f_M_digest_199 : rf_Fb rf_m_M_digest 199 202 (.if_icmp .ge 66) 265 0 0 0 [] [] = true := by decide +kernel
theorem rf_f_M_digest_202 : rf_Fb rf_m_M_digest 202 205 (.ldc2_w 248) 0 0 0 31 [] [] = true := by decide +kernel
theorem rf_f_M_digest_205 : rf_Fb rf_m_M_digest 205 206 (.lload_n 1) 0 0 0 0 [] [] = true := by decide +kernel
theorem rf_f_M_digest_206 : rf_Fb rf_m_M_digest 206 207 (.lmul) 0 0 0 0 [] [] = true := by decide +kernel
theorem rf_f_M_digest_207 : rf_Fb rf_m_M_digest 207 208 (.aload_n 0) 0 0 0 0 [] [] = true := by decide +kernel
theorem rf_f_M_digest_208 : rf_Fb rf_m_M_digest 208 211 (.getfield 7) 5 0 2 0 [] [] = true := by decide +kernel
theorem rf_f_M_digest_211 : rf_Fb rf_m_M_digest 211 213 (.iload 4) 0 0 0 0 [] [] = true := by decide +kernel
theorem rf_f_M_digest_213 : rf_Fb rf_m_M_digest 213 214 (.iaload) 0 0 0 0 [] [] = true := by decide +kernel
theorem rf_f_M_digest_214 : rf_Fb rf_m_M_digest 214 215 (.i2l) 0 0 0 0 [] [] = true := by decide +kernel
theorem rf_f_M_digest_215 : rf_Fb rf_m_M_digest 215 216 (.ladd) 0 0 0 0 [] [] = true := by decide +kernel
theorem rf_f_M_digest_216 : rf_Fb rf_m_M_digest 216 217 (.lstore_n 1) 0 0 0 0 [] [] = true := by decide +kernel
theorem rf_f_M_digest_217 : rf_Fb rf_m_M_digest 217 218 (.iconst 0) 0 0 0 0 [] [] = true := by decide +kernel
theorem rf_f_M_digest_218 : rf_Fb rf_m_M_digest 218 220 (.istore 5) 0 0 0 0 [] [true, true, false, false, true, true] = true := by decide +kernel
theorem rf_f_M_digest_220 : rf_Fb rf_m_M_digest 220 222 (.iload 5) 0 0 0 0 [] [] = true := by decide +kernel
theorem rf_f_M_digest_222 : rf_Fb rf_m_M_digest 222 223 (.aload_n 0) 0 0 0 0 [] [] = true := by decide +kernel
theorem rf_f_M_digest_223 : rf_Fb rf_m_M_digest 223 226 (.getfield 7) 5 0 2 0 [] [] = true := by decide +kernel
theorem rf_f_M_digest_226 : rf_Fb rf_m_M_digest 226 228 (.iload 4) 0 0 0 0 [] [] = true := by decide +kernel
theorem rf_f_M_digest_228 : rf_Fb rf_m_M_digest 228 229 (.iaload) 0 0 0 0 [] [] = true := by decide +kernel
theorem rf_f_M_digest_229 : rf_Fb rf_m_M_digest 229 232 (.if_icmp .ge 30) 259 0 0 0 [] [] = true := by decide +kernel
theorem rf_f_M_digest_232 : rf_Fb rf_m_M_digest 232 235 (.ldc2_w 248) 0 0 0 31 [] [] = true := by decide +kernel
theorem rf_f_M_digest_235 : rf_Fb rf_m_M_digest 235 236 (.lload_n 1) 0 0 0 0 [] [] = true := by decide +kernel
theorem rf_f_M_digest_236 : rf_Fb rf_m_M_digest 236 237 (.lmul) 0 0 0 0 [] [] = true := by decide +kernel
theorem rf_f_M_digest_237 : rf_Fb rf_m_M_digest 237 238 (.aload_n 0) 0 0 0 0 [] [] = true := by decide +kernel
theorem rf_f_M_digest_238 : rf_Fb rf_m_M_digest 238 241 (.getfield 13) 5 1 2 0 [] [] = true := by decide +kernel
theorem rf_f_M_digest_241 : rf_Fb rf_m_M_digest 241 243 (.bipush 40) 0 0 0 0 [] [] = true := by decide +kernel
theorem rf_f_M_digest_243 : rf_Fb rf_m_M_digest 243 245 (.iload 4) 0 0 0 0 [] [] = true := by decide +kernel
theorem rf_f_M_digest_245 : rf_Fb rf_m_M_digest 245 246 (.imul) 0 0 0 0 [] [] = true := by decide +kernel
theorem rf_f_M_digest_246 : rf_Fb rf_m_M_digest 246 248 (.iload 5) 0 0 0 0 [] [] = true := by decide +kernel
theorem rf_f_M_digest_248 : rf_Fb rf_m_M_digest 248 249 (.iadd) 0 0 0 0 [] [] = true := by decide +kernel
theorem rf_f_M_digest_249 : rf_Fb rf_m_M_digest 249 250 (.iaload) 0 0 0 0 [] [] = true := by decide +kernel
theorem rf_f_M_digest_250 : rf_Fb rf_m_M_digest 250 251 (.i2l) 0 0 0 0 [] [] = true := by decide +kernel
theorem rf_f_M_digest_251 : rf_Fb rf_m_M_digest 251 252 (.ladd) 0 0 0 0 [] [] = true := by decide +kernel
theorem rf_f_M_digest_252 : rf_Fb rf_m_M_digest 252 253 (.lstore_n 1) 0 0 0 0 [] [] = true := by decide +kernel
theorem rf_f_M_digest_253 : rf_Fb rf_m_M_digest 253 256 (.iinc 5 1) 0 0 0 0 [] [] = true := by decide +kernel
theorem rf_f_M_digest_256 : rf_Fb rf_m_M_digest 256 259 (.goto (-36)) 220 0 0 0 [] [] = true := by decide +kernel
theorem rf_f_M_digest_259 : rf_Fb rf_m_M_digest 259 262 (.iinc 4 1) 0 0 0 0 [] [] = true := by decide +kernel
theorem rf_f_M_digest_262 : rf_Fb rf_m_M_digest 262 265 (.goto (-67)) 195 0 0 0 [] [] = true := by decide +kernel
theorem rf_f_M_digest_265 : rf_Fb rf_m_M_digest 265 266 (.iconst 0) 0 0 0 0 [] [] = true := by decide +kernel
theorem rf_f_M_digest_266 : rf_Fb rf_m_M_digest 266 268 (.istore 4) 0 0 0 0 [] [true, true, false, false, true, false] = true := by decide +kernel
theorem rf_f_M_digest_268 : rf_Fb rf_m_M_digest 268 270 (.iload 4) 0 0 0 0 [] [] = true := by decide +kernel
theorem rf_f_M_digest_270 : rf_Fb rf_m_M_digest 270 271 (.iconst 4) 0 0 0 0 [] [] = true := by decide +kernel
theorem rf_f_M_digest_271 : rf_Fb rf_m_M_digest 271 274 (.if_icmp .ge 66) 337 0 0 0 [] [] = true := by decide +kernel
theorem rf_f_M_digest_274 : rf_Fb rf_m_M_digest 274 277 (.ldc2_w 248) 0 0 0 31 [] [] = true := by decide +kernel
theorem rf_f_M_digest_277 : rf_Fb rf_m_M_digest 277 278 (.lload_n 1) 0 0 0 0 [] [] = true := by decide +kernel
theorem rf_f_M_digest_278 : rf_Fb rf_m_M_digest 278 279 (.lmul) 0 0 0 0 [] [] = true := by decide +kernel
theorem rf_f_M_digest_279 : rf_Fb rf_m_M_digest 279 280 (.aload_n 0) 0 0 0 0 [] [] = true := by decide +kernel
theorem rf_f_M_digest_280 : rf_Fb rf_m_M_digest 280 283 (.getfield 16) 5 2 2 0 [] [] = true := by decide +kernel
theorem rf_f_M_digest_283 : rf_Fb rf_m_M_digest 283 285 (.iload 4) 0 0 0 0 [] [] = true := by decide +kernel
theorem rf_f_M_digest_285 : rf_Fb rf_m_M_digest 285 286 (.iaload) 0 0 0 0 [] [] = true := by decide +kernel
theorem rf_f_M_digest_286 : rf_Fb rf_m_M_digest 286 287 (.i2l) 0 0 0 0 [] [] = true := by decide +kernel
theorem rf_f_M_digest_287 : rf_Fb rf_m_M_digest 287 288 (.ladd) 0 0 0 0 [] [] = true := by decide +kernel
theorem rf_f_M_digest_288 : rf_Fb rf_m_M_digest 288 289 (.lstore_n 1) 0 0 0 0 [] [] = true := by decide +kernel
theorem rf_f_M_digest_289 : rf_Fb rf_m_M_digest 289 290 (.iconst 0) 0 0 0 0 [] [] = true := by decide +kernel
theorem rf_f_M_digest_290 : rf_Fb rf_m_M_digest 290 292 (.istore 5) 0 0 0 0 [] [true, true, false, false, true, true] = true := by decide +kernel
theorem rf_f_M_digest_292 : rf_Fb rf_m_M_digest 292 294 (.iload 5) 0 0 0 0 [] [] = true := by decide +kernel
theorem rf_f_M_digest_294 : rf_Fb rf_m_M_digest 294 295 (.aload_n 0) 0 0 0 0 [] [] = true := by decide +kernel
theorem rf_f_M_digest_295 : rf_Fb rf_m_M_digest 295 298 (.getfield 16) 5 2 2 0 [] [] = true := by decide +kernel
theorem rf_f_M_digest_298 : rf_Fb rf_m_M_digest 298 300 (.iload 4) 0 0 0 0 [] [] = true := by decide +kernel
theorem rf_f_M_digest_300 : rf_Fb rf_m_M_digest 300 301 (.iaload) 0 0 0 0 [] [] = true := by decide +kernel
theorem rf_f_M_digest_301 : rf_Fb rf_m_M_digest 301 304 (.if_icmp .ge 30) 331 0 0 0 [] [] = true := by decide +kernel
theorem rf_f_M_digest_304 : rf_Fb rf_m_M_digest 304 307 (.ldc2_w 248) 0 0 0 31 [] [] = true := by decide +kernel
theorem rf_f_M_digest_307 : rf_Fb rf_m_M_digest 307 308 (.lload_n 1) 0 0 0 0 [] [] = true := by decide +kernel
theorem rf_f_M_digest_308 : rf_Fb rf_m_M_digest 308 309 (.lmul) 0 0 0 0 [] [] = true := by decide +kernel
theorem rf_f_M_digest_309 : rf_Fb rf_m_M_digest 309 310 (.aload_n 0) 0 0 0 0 [] [] = true := by decide +kernel
theorem rf_f_M_digest_310 : rf_Fb rf_m_M_digest 310 313 (.getfield 19) 5 3 2 0 [] [] = true := by decide +kernel
theorem rf_f_M_digest_313 : rf_Fb rf_m_M_digest 313 315 (.bipush 60) 0 0 0 0 [] [] = true := by decide +kernel
theorem rf_f_M_digest_315 : rf_Fb rf_m_M_digest 315 317 (.iload 4) 0 0 0 0 [] [] = true := by decide +kernel
theorem rf_f_M_digest_317 : rf_Fb rf_m_M_digest 317 318 (.imul) 0 0 0 0 [] [] = true := by decide +kernel
theorem rf_f_M_digest_318 : rf_Fb rf_m_M_digest 318 320 (.iload 5) 0 0 0 0 [] [] = true := by decide +kernel
theorem rf_f_M_digest_320 : rf_Fb rf_m_M_digest 320 321 (.iadd) 0 0 0 0 [] [] = true := by decide +kernel
theorem rf_f_M_digest_321 : rf_Fb rf_m_M_digest 321 322 (.iaload) 0 0 0 0 [] [] = true := by decide +kernel
theorem rf_f_M_digest_322 : rf_Fb rf_m_M_digest 322 323 (.i2l) 0 0 0 0 [] [] = true := by decide +kernel
theorem rf_f_M_digest_323 : rf_Fb rf_m_M_digest 323 324 (.ladd) 0 0 0 0 [] [] = true := by decide +kernel
theorem rf_f_M_digest_324 : rf_Fb rf_m_M_digest 324 325 (.lstore_n 1) 0 0 0 0 [] [] = true := by decide +kernel
theorem rf_f_M_digest_325 : rf_Fb rf_m_M_digest 325 328 (.iinc 5 1) 0 0 0 0 [] [] = true := by decide +kernel
theorem rf_f_M_digest_328 : rf_Fb rf_m_M_digest 328 331 (.goto (-36)) 292 0 0 0 [] [] = true := by decide +kernel
theorem rf_f_M_digest_331 : rf_Fb rf_m_M_digest 331 334 (.iinc 4 1) 0 0 0 0 [] [] = true := by decide +kernel
theorem rf_f_M_digest_334 : rf_Fb rf_m_M_digest 334 337 (.goto (-66)) 268 0 0 0 [] [] = true := by decide +kernel
theorem rf_f_M_digest_337 : rf_Fb rf_m_M_digest 337 338 (.lload_n 1) 0 0 0 0 [] [] = true := by decide +kernel
theorem rf_f_M_digest_338 : rf_Fb rf_m_M_digest 338 339 (.lreturn) 0 0 0 0 [] [] = true := by decide +kernel
set_option maxRecDepth 20000 in
set_option maxHeartbeats 2000000 in
theorem rf_e_M_digest (d : Nat) (o : Nat) (h : rf_H) : rf_call (d + 1) 196 [.inr (.inr (some o))] h = rf_j_M_digest_6 d o 17 0 h := by
  show rf_den (rf_call d) (rf_mt 196) _ = _
  rw [rf_u_M_digest]
  exact ((rf_s_ldc2_w rf_f_M_digest_0 (rf_m0 _) (rf_s_lstore_n (L' := [some (.inr (.inr (some o))), some (.inr (.inl 17)), none, none, none, none]) rf_f_M_digest_3 rfl (rf_s_iconst rf_f_M_digest_4 (rf_m0 _) (rf_s_istore_n rf_f_M_digest_5 rfl rfl)))) : rf_den (rf_call d) rf_m_M_digest (0, [some (.inr (.inr (some o))), none, none, none, none, none], [], h) = _)
set_option maxRecDepth 20000 in
set_option maxHeartbeats 2000000 in
theorem rf_e_M_digest_6 (d : Nat) (o : Nat) (l1 : Int) (l3 : Int) (h : rf_H) : rf_j_M_digest_6 d o l1 l3 h = (if l3 < 8 then (bif rf_isO h.1 o 5 then ((rf_call d 193 [.inr (.inr (some o)), .inl l3] h).bind fun q3 => rf_kI q3 fun x4 h2 => rf_j_M_digest_6 d o (rf_wl ((rf_wl (31 * l1)) + x4)) (rf_w (l3 + 1)) h2) else none) else ((rf_gI h 5 o 9).bind fun x1 => rf_j_M_digest_39 d o l1 x1 0 h)) :=
  ((rf_s_iload_n rf_f_M_digest_6 rfl (rf_m0 _) (rf_s_bipush rf_f_M_digest_7 (rf_m0 _) (rf_s_icmp_ge rf_f_M_digest_9 rfl (rf_m0 _) (rf_m0 _) (rf_s_aload_n rf_f_M_digest_31 rfl (rf_m0 _) (rf_s_getIS rf_f_M_digest_32 (rf_m0 _) fun x1 => (rf_s_istore_n (L' := [some (.inr (.inr (some o))), some (.inr (.inl l1)), none, some (.inl x1), none, none]) rf_f_M_digest_35 rfl (rf_s_iconst rf_f_M_digest_36 (rf_m0 _) (rf_s_istore rf_f_M_digest_37 rfl rfl))))) (rf_s_ldc2_w rf_f_M_digest_12 (rf_m0 _) (rf_s_lload_n rf_f_M_digest_15 rfl (rf_m0 _) (rf_s_lmul rf_f_M_digest_16 (rf_m0 _) (rf_s_aload_n rf_f_M_digest_17 rfl (rf_m0 _) (rf_s_iload_n rf_f_M_digest_18 rfl (rf_m0 _) (rf_s_invV0S rf_f_M_digest_19 rfl rfl (rf_m0 _) fun q3 x4 h2 => (rf_s_i2l rf_f_M_digest_22 (rf_m0 _) (rf_s_ladd rf_f_M_digest_23 (rf_m0 _) (rf_s_lstore_n (L' := [some (.inr (.inr (some o))), some (.inr (.inl (rf_wl ((rf_wl (31 * l1)) + x4)))), none, some (.inl l3), none, none]) rf_f_M_digest_24 rfl (rf_s_iinc (L' := [some (.inr (.inr (some o))), some (.inr (.inl (rf_wl ((rf_wl (31 * l1)) + x4)))), none, some (.inl (rf_w (l3 + 1))), none, none]) rf_f_M_digest_25 rfl rfl (rf_s_goto rf_f_M_digest_28 rfl rfl rfl)))))))))))))) : rf_den (rf_call d) rf_m_M_digest (6, [some (.inr (.inr (some o))), some (.inr (.inl l1)), none, some (.inl l3), none, none], [], h) = _)
set_option maxRecDepth 20000 in
set_option maxHeartbeats 2000000 in
theorem rf_e_M_digest_39 (d : Nat) (o : Nat) (l1 : Int) (l3 : Int) (l4 : Int) (h : rf_H) : rf_j_M_digest_39 d o l1 l3 l4 h = (if l4 < 10 then (bif rf_isO h.1 o 5 then ((rf_call d 150 [.inr (.inr (some o))] h).bind fun q2 => rf_kI q2 fun x3 h1 => (if x3 = 0 then rf_j_M_digest_81 d o l1 l3 0 h1 else (bif rf_isO h1.1 o 5 then ((rf_call d 149 [.inr (.inr (some o)), .inl l4] h1).bind fun q5 => rf_kI q5 fun x6 h4 => ((rf_gI h4 5 o 9).bind fun x7 => rf_j_M_digest_39 d o (rf_wl ((rf_wl (31 * l1)) + x7)) l3 (rf_w (l4 + 1)) h4)) else none))) else none) else rf_j_M_digest_81 d o l1 l3 0 h) :=
  ((rf_s_iload rf_f_M_digest_39 rfl (rf_m0 _) (rf_s_bipush rf_f_M_digest_41 (rf_m0 _) (rf_s_icmp_ge rf_f_M_digest_43 rfl (rf_m0 _) (rf_m0 _) (rf_s_iconst rf_f_M_digest_78 (rf_m0 _) (rf_s_istore rf_f_M_digest_79 rfl rfl)) (rf_s_aload_n rf_f_M_digest_46 rfl (rf_m0 _) (rf_s_invV0S rf_f_M_digest_47 rfl rfl (rf_m0 _) fun q2 x3 h1 => (rf_s_if_eq rf_f_M_digest_50 rfl (rf_m0 _) (rf_m0 _) (rf_s_iconst rf_f_M_digest_78 (rf_m0 _) (rf_s_istore rf_f_M_digest_79 rfl rfl)) (rf_s_aload_n rf_f_M_digest_53 rfl (rf_m0 _) (rf_s_iload rf_f_M_digest_54 rfl (rf_m0 _) (rf_s_invV0S rf_f_M_digest_56 rfl rfl (rf_m0 _) fun q5 x6 h4 => (rf_s_popI rf_f_M_digest_59 (rf_m0 _) (rf_s_ldc2_w rf_f_M_digest_60 (rf_m0 _) (rf_s_lload_n rf_f_M_digest_63 rfl (rf_m0 _) (rf_s_lmul rf_f_M_digest_64 (rf_m0 _) (rf_s_aload_n rf_f_M_digest_65 rfl (rf_m0 _) (rf_s_getIS rf_f_M_digest_66 (rf_m0 _) fun x7 => (rf_s_i2l rf_f_M_digest_69 (rf_m0 _) (rf_s_ladd rf_f_M_digest_70 (rf_m0 _) (rf_s_lstore_n (L' := [some (.inr (.inr (some o))), some (.inr (.inl (rf_wl ((rf_wl (31 * l1)) + x7)))), none, some (.inl l3), some (.inl l4), none]) rf_f_M_digest_71 rfl (rf_s_iinc (L' := [some (.inr (.inr (some o))), some (.inr (.inl (rf_wl ((rf_wl (31 * l1)) + x7)))), none, some (.inl l3), some (.inl (rf_w (l4 + 1))), none]) rf_f_M_digest_72 rfl rfl (rf_s_goto rf_f_M_digest_75 rfl rfl rfl)))))))))))))))))))) : rf_den (rf_call d) rf_m_M_digest (39, [some (.inr (.inr (some o))), some (.inr (.inl l1)), none, some (.inl l3), some (.inl l4), none], [], h) = _)
set_option maxRecDepth 20000 in
set_option maxHeartbeats 2000000 in
theorem rf_e_M_digest_81 (d : Nat) (o : Nat) (l1 : Int) (l3 : Int) (l4 : Int) (h : rf_H) : rf_j_M_digest_81 d o l1 l3 l4 h = ((rf_gR h 5 o 4).bind fun x1 => (rf_nn x1 fun k2 => ((rf_aI h k2 36).bind fun x3 => (if l4 < x3 then rf_j_M_digest_96 d o l1 l3 l4 0 h else ((rf_pI h 5 o 9 l3).bind fun h4 => rf_j_M_digest_144 d o l1 0 h4))))) :=
  ((rf_s_iload rf_f_M_digest_81 rfl (rf_m0 _) (rf_s_aload_n rf_f_M_digest_83 rfl (rf_m0 _) (rf_s_getAS rf_f_M_digest_84 (rf_m0 _) fun x1 => (rf_s_bipush rf_f_M_digest_87 (rf_m0 _) (rf_s_ialdR rf_f_M_digest_89 (rf_m0 _) fun k2 x3 => (rf_s_icmp_ge rf_f_M_digest_90 rfl (rf_m0 _) (rf_m0 _) (rf_s_aload_n rf_f_M_digest_136 rfl (rf_m0 _) (rf_s_iload_n rf_f_M_digest_137 rfl (rf_m0 _) (rf_s_putIS rf_f_M_digest_138 (rf_m0 _) fun h4 => (rf_s_iconst rf_f_M_digest_141 (rf_m0 _) (rf_s_istore rf_f_M_digest_142 rfl rfl))))) (rf_s_iconst rf_f_M_digest_93 (rf_m0 _) (rf_s_istore rf_f_M_digest_94 rfl rfl)))))))) : rf_den (rf_call d) rf_m_M_digest (81, [some (.inr (.inr (some o))), some (.inr (.inl l1)), none, some (.inl l3), some (.inl l4), none], [], h) = _)
set_option maxRecDepth 20000 in
set_option maxHeartbeats 2000000 in
theorem rf_e_M_digest_96 (d : Nat) (o : Nat) (l1 : Int) (l3 : Int) (l4 : Int) (l5 : Int) (h : rf_H) : rf_j_M_digest_96 d o l1 l3 l4 l5 h = (if l5 < 6 then (bif rf_isO h.1 o 5 then ((rf_call d 141 [.inr (.inr (some o)), .inl l4, .inl l5] h).bind fun q2 => rf_kI q2 fun x3 h1 => ((rf_gI h1 5 o 9).bind fun x4 => rf_j_M_digest_96 d o (rf_wl ((rf_wl (31 * l1)) + x4)) l3 l4 (rf_w (l5 + 1)) h1)) else none) else rf_j_M_digest_81 d o l1 l3 (rf_w (l4 + 1)) h) :=
  ((rf_s_iload rf_f_M_digest_96 rfl (rf_m0 _) (rf_s_bipush rf_f_M_digest_98 (rf_m0 _) (rf_s_icmp_ge rf_f_M_digest_100 rfl (rf_m0 _) (rf_m0 _) (rf_s_iinc (L' := [some (.inr (.inr (some o))), some (.inr (.inl l1)), none, some (.inl l3), some (.inl (rf_w (l4 + 1))), some (.inl l5)]) rf_f_M_digest_130 rfl rfl (rf_s_goto rf_f_M_digest_133 rfl rfl rfl)) (rf_s_aload_n rf_f_M_digest_103 rfl (rf_m0 _) (rf_s_iload rf_f_M_digest_104 rfl (rf_m0 _) (rf_s_iload rf_f_M_digest_106 rfl (rf_m0 _) (rf_s_invV0S rf_f_M_digest_108 rfl rfl (rf_m0 _) fun q2 x3 h1 => (rf_s_popI rf_f_M_digest_111 (rf_m0 _) (rf_s_ldc2_w rf_f_M_digest_112 (rf_m0 _) (rf_s_lload_n rf_f_M_digest_115 rfl (rf_m0 _) (rf_s_lmul rf_f_M_digest_116 (rf_m0 _) (rf_s_aload_n rf_f_M_digest_117 rfl (rf_m0 _) (rf_s_getIS rf_f_M_digest_118 (rf_m0 _) fun x4 => (rf_s_i2l rf_f_M_digest_121 (rf_m0 _) (rf_s_ladd rf_f_M_digest_122 (rf_m0 _) (rf_s_lstore_n (L' := [some (.inr (.inr (some o))), some (.inr (.inl (rf_wl ((rf_wl (31 * l1)) + x4)))), none, some (.inl l3), some (.inl l4), some (.inl l5)]) rf_f_M_digest_123 rfl (rf_s_iinc (L' := [some (.inr (.inr (some o))), some (.inr (.inl (rf_wl ((rf_wl (31 * l1)) + x4)))), none, some (.inl l3), some (.inl l4), some (.inl (rf_w (l5 + 1)))]) rf_f_M_digest_124 rfl rfl (rf_s_goto rf_f_M_digest_127 rfl rfl rfl)))))))))))))))))) : rf_den (rf_call d) rf_m_M_digest (96, [some (.inr (.inr (some o))), some (.inr (.inl l1)), none, some (.inl l3), some (.inl l4), some (.inl l5)], [], h) = _)
set_option maxRecDepth 20000 in
set_option maxHeartbeats 2000000 in
theorem rf_e_M_digest_144 (d : Nat) (o : Nat) (l1 : Int) (l4 : Int) (h : rf_H) : rf_j_M_digest_144 d o l1 l4 h = (if l4 < 3 then ((rf_gR h 5 o 6).bind fun x1 => (rf_nn x1 fun k2 => ((rf_aZ h k2 l4).bind fun x3 => (if x3 = 0 then rf_j_M_digest_144 d o (rf_wl ((rf_wl (31 * l1)) + (-1))) (rf_w (l4 + 1)) h else ((rf_gR h 5 o 5).bind fun x4 => (rf_nn x4 fun k5 => ((rf_aI h k5 (rf_w ((rf_w (638 * l4)) + 37))).bind fun x6 => rf_j_M_digest_144 d o (rf_wl ((rf_wl (31 * l1)) + x6)) (rf_w (l4 + 1)) h))))))) else rf_j_M_digest_195 d o l1 0 h) :=
  ((rf_s_iload rf_f_M_digest_144 rfl (rf_m0 _) (rf_s_iconst rf_f_M_digest_146 (rf_m0 _) (rf_s_icmp_ge rf_f_M_digest_147 rfl (rf_m0 _) (rf_m0 _) (rf_s_iconst rf_f_M_digest_192 (rf_m0 _) (rf_s_istore rf_f_M_digest_193 rfl rfl)) (rf_s_ldc2_w rf_f_M_digest_150 (rf_m0 _) (rf_s_lload_n rf_f_M_digest_153 rfl (rf_m0 _) (rf_s_lmul rf_f_M_digest_154 (rf_m0 _) (rf_s_aload_n rf_f_M_digest_155 rfl (rf_m0 _) (rf_s_getAS rf_f_M_digest_156 (rf_m0 _) fun x1 => (rf_s_iload rf_f_M_digest_159 rfl (rf_m0 _) (rf_s_baldR rf_f_M_digest_161 (rf_m0 _) fun k2 x3 => (rf_s_if_eq rf_f_M_digest_162 rfl (rf_m0 _) (rf_m0 _) (rf_s_iconst rf_f_M_digest_182 (rf_m0 _) (rf_s_i2l rf_f_M_digest_183 (rf_m0 _) (rf_s_ladd rf_f_M_digest_184 (rf_m0 _) (rf_s_lstore_n (L' := [some (.inr (.inr (some o))), some (.inr (.inl (rf_wl ((rf_wl (31 * l1)) + (-1))))), none, none, some (.inl l4), none]) rf_f_M_digest_185 rfl (rf_s_iinc (L' := [some (.inr (.inr (some o))), some (.inr (.inl (rf_wl ((rf_wl (31 * l1)) + (-1))))), none, none, some (.inl (rf_w (l4 + 1))), none]) rf_f_M_digest_186 rfl rfl (rf_s_goto rf_f_M_digest_189 rfl rfl rfl)))))) (rf_s_aload_n rf_f_M_digest_165 rfl (rf_m0 _) (rf_s_getAS rf_f_M_digest_166 (rf_m0 _) fun x4 => (rf_s_sipush rf_f_M_digest_169 (rf_m0 _) (rf_s_iload rf_f_M_digest_172 rfl (rf_m0 _) (rf_s_imul rf_f_M_digest_174 (rf_m0 _) (rf_s_bipush rf_f_M_digest_175 (rf_m0 _) (rf_s_iadd rf_f_M_digest_177 (rf_m0 _) (rf_s_ialdR rf_f_M_digest_178 (rf_m0 _) fun k5 x6 => (rf_s_goto rf_f_M_digest_179 rfl (rf_m0 _) (rf_s_i2l rf_f_M_digest_183 (rf_m0 _) (rf_s_ladd rf_f_M_digest_184 (rf_m0 _) (rf_s_lstore_n (L' := [some (.inr (.inr (some o))), some (.inr (.inl (rf_wl ((rf_wl (31 * l1)) + x6)))), none, none, some (.inl l4), none]) rf_f_M_digest_185 rfl (rf_s_iinc (L' := [some (.inr (.inr (some o))), some (.inr (.inl (rf_wl ((rf_wl (31 * l1)) + x6)))), none, none, some (.inl (rf_w (l4 + 1))), none]) rf_f_M_digest_186 rfl rfl (rf_s_goto rf_f_M_digest_189 rfl rfl rfl))))))))))))))))))))))))) : rf_den (rf_call d) rf_m_M_digest (144, [some (.inr (.inr (some o))), some (.inr (.inl l1)), none, none, some (.inl l4), none], [], h) = _)
set_option maxRecDepth 20000 in
set_option maxHeartbeats 2000000 in
theorem rf_e_M_digest_195 (d : Nat) (o : Nat) (l1 : Int) (l4 : Int) (h : rf_H) : rf_j_M_digest_195 d o l1 l4 h = (if l4 < 6 then ((rf_gR h 5 o 0).bind fun x1 => (rf_nn x1 fun k2 => ((rf_aI h k2 l4).bind fun x3 => rf_j_M_digest_220 d o (rf_wl ((rf_wl (31 * l1)) + x3)) l4 0 h))) else rf_j_M_digest_268 d o l1 0 h) :=
  ((rf_s_iload rf_f_M_digest_195 rfl (rf_m0 _) (rf_s_bipush rf_f_M_digest_197 (rf_m0 _) (rf_s_icmp_ge rf_f_M_digest_199 rfl (rf_m0 _) (rf_m0 _) (rf_s_iconst rf_f_M_digest_265 (rf_m0 _) (rf_s_istore rf_f_M_digest_266 rfl rfl)) (rf_s_ldc2_w rf_f_M_digest_202 (rf_m0 _) (rf_s_lload_n rf_f_M_digest_205 rfl (rf_m0 _) (rf_s_lmul rf_f_M_digest_206 (rf_m0 _) (rf_s_aload_n rf_f_M_digest_207 rfl (rf_m0 _) (rf_s_getAS rf_f_M_digest_208 (rf_m0 _) fun x1 => (rf_s_iload rf_f_M_digest_211 rfl (rf_m0 _) (rf_s_ialdR rf_f_M_digest_213 (rf_m0 _) fun k2 x3 => (rf_s_i2l rf_f_M_digest_214 (rf_m0 _) (rf_s_ladd rf_f_M_digest_215 (rf_m0 _) (rf_s_lstore_n (L' := [some (.inr (.inr (some o))), some (.inr (.inl (rf_wl ((rf_wl (31 * l1)) + x3)))), none, none, some (.inl l4), none]) rf_f_M_digest_216 rfl (rf_s_iconst rf_f_M_digest_217 (rf_m0 _) (rf_s_istore rf_f_M_digest_218 rfl rfl))))))))))))))) : rf_den (rf_call d) rf_m_M_digest (195, [some (.inr (.inr (some o))), some (.inr (.inl l1)), none, none, some (.inl l4), none], [], h) = _)
set_option maxRecDepth 20000 in
set_option maxHeartbeats 2000000 in
theorem rf_e_M_digest_220 (d : Nat) (o : Nat) (l1 : Int) (l4 : Int) (l5 : Int) (h : rf_H) : rf_j_M_digest_220 d o l1 l4 l5 h = ((rf_gR h 5 o 0).bind fun x1 => (rf_nn x1 fun k2 => ((rf_aI h k2 l4).bind fun x3 => (if l5 < x3 then ((rf_gR h 5 o 1).bind fun x4 => (rf_nn x4 fun k5 => ((rf_aI h k5 (rf_w ((rf_w (40 * l4)) + l5))).bind fun x6 => rf_j_M_digest_220 d o (rf_wl ((rf_wl (31 * l1)) + x6)) l4 (rf_w (l5 + 1)) h))) else rf_j_M_digest_195 d o l1 (rf_w (l4 + 1)) h)))) :=
  ((rf_s_iload rf_f_M_digest_220 rfl (rf_m0 _) (rf_s_aload_n rf_f_M_digest_222 rfl (rf_m0 _) (rf_s_getAS rf_f_M_digest_223 (rf_m0 _) fun x1 => (rf_s_iload rf_f_M_digest_226 rfl (rf_m0 _) (rf_s_ialdR rf_f_M_digest_228 (rf_m0 _) fun k2 x3 => (rf_s_icmp_ge rf_f_M_digest_229 rfl (rf_m0 _) (rf_m0 _) (rf_s_iinc (L' := [some (.inr (.inr (some o))), some (.inr (.inl l1)), none, none, some (.inl (rf_w (l4 + 1))), some (.inl l5)]) rf_f_M_digest_259 rfl rfl (rf_s_goto rf_f_M_digest_262 rfl rfl rfl)) (rf_s_ldc2_w rf_f_M_digest_232 (rf_m0 _) (rf_s_lload_n rf_f_M_digest_235 rfl (rf_m0 _) (rf_s_lmul rf_f_M_digest_236 (rf_m0 _) (rf_s_aload_n rf_f_M_digest_237 rfl (rf_m0 _) (rf_s_getAS rf_f_M_digest_238 (rf_m0 _) fun x4 => (rf_s_bipush rf_f_M_digest_241 (rf_m0 _) (rf_s_iload rf_f_M_digest_243 rfl (rf_m0 _) (rf_s_imul rf_f_M_digest_245 (rf_m0 _) (rf_s_iload rf_f_M_digest_246 rfl (rf_m0 _) (rf_s_iadd rf_f_M_digest_248 (rf_m0 _) (rf_s_ialdR rf_f_M_digest_249 (rf_m0 _) fun k5 x6 => (rf_s_i2l rf_f_M_digest_250 (rf_m0 _) (rf_s_ladd rf_f_M_digest_251 (rf_m0 _) (rf_s_lstore_n (L' := [some (.inr (.inr (some o))), some (.inr (.inl (rf_wl ((rf_wl (31 * l1)) + x6)))), none, none, some (.inl l4), some (.inl l5)]) rf_f_M_digest_252 rfl (rf_s_iinc (L' := [some (.inr (.inr (some o))), some (.inr (.inl (rf_wl ((rf_wl (31 * l1)) + x6)))), none, none, some (.inl l4), some (.inl (rf_w (l5 + 1)))]) rf_f_M_digest_253 rfl rfl (rf_s_goto rf_f_M_digest_256 rfl rfl rfl)))))))))))))))))))))) : rf_den (rf_call d) rf_m_M_digest (220, [some (.inr (.inr (some o))), some (.inr (.inl l1)), none, none, some (.inl l4), some (.inl l5)], [], h) = _)
set_option maxRecDepth 20000 in
set_option maxHeartbeats 2000000 in
theorem rf_e_M_digest_268 (d : Nat) (o : Nat) (l1 : Int) (l4 : Int) (h : rf_H) : rf_j_M_digest_268 d o l1 l4 h = (if l4 < 4 then ((rf_gR h 5 o 2).bind fun x1 => (rf_nn x1 fun k2 => ((rf_aI h k2 l4).bind fun x3 => rf_j_M_digest_292 d o (rf_wl ((rf_wl (31 * l1)) + x3)) l4 0 h))) else some (some (.inr (.inl l1)), h)) :=
  ((rf_s_iload rf_f_M_digest_268 rfl (rf_m0 _) (rf_s_iconst rf_f_M_digest_270 (rf_m0 _) (rf_s_icmp_ge rf_f_M_digest_271 rfl (rf_m0 _) (rf_m0 _) (rf_s_lload_n rf_f_M_digest_337 rfl (rf_m0 _) (rf_s_lret rf_f_M_digest_338)) (rf_s_ldc2_w rf_f_M_digest_274 (rf_m0 _) (rf_s_lload_n rf_f_M_digest_277 rfl (rf_m0 _) (rf_s_lmul rf_f_M_digest_278 (rf_m0 _) (rf_s_aload_n rf_f_M_digest_279 rfl (rf_m0 _) (rf_s_getAS rf_f_M_digest_280 (rf_m0 _) fun x1 => (rf_s_iload rf_f_M_digest_283 rfl (rf_m0 _) (rf_s_ialdR rf_f_M_digest_285 (rf_m0 _) fun k2 x3 => (rf_s_i2l rf_f_M_digest_286 (rf_m0 _) (rf_s_ladd rf_f_M_digest_287 (rf_m0 _) (rf_s_lstore_n (L' := [some (.inr (.inr (some o))), some (.inr (.inl (rf_wl ((rf_wl (31 * l1)) + x3)))), none, none, some (.inl l4), none]) rf_f_M_digest_288 rfl (rf_s_iconst rf_f_M_digest_289 (rf_m0 _) (rf_s_istore rf_f_M_digest_290 rfl rfl))))))))))))))) : rf_den (rf_call d) rf_m_M_digest (268, [some (.inr (.inr (some o))), some (.inr (.inl l1)), none, none, some (.inl l4), none], [], h) = _)
set_option maxRecDepth 20000 in
set_option maxHeartbeats 2000000 in
theorem rf_e_M_digest_292 (d : Nat) (o : Nat) (l1 : Int) (l4 : Int) (l5 : Int) (h : rf_H) : rf_j_M_digest_292 d o l1 l4 l5 h = ((rf_gR h 5 o 2).bind fun x1 => (rf_nn x1 fun k2 => ((rf_aI h k2 l4).bind fun x3 => (if l5 < x3 then ((rf_gR h 5 o 3).bind fun x4 => (rf_nn x4 fun k5 => ((rf_aI h k5 (rf_w ((rf_w (60 * l4)) + l5))).bind fun x6 => rf_j_M_digest_292 d o (rf_wl ((rf_wl (31 * l1)) + x6)) l4 (rf_w (l5 + 1)) h))) else rf_j_M_digest_268 d o l1 (rf_w (l4 + 1)) h)))) :=
  ((rf_s_iload rf_f_M_digest_292 rfl (rf_m0 _) (rf_s_aload_n rf_f_M_digest_294 rfl (rf_m0 _) (rf_s_getAS rf_f_M_digest_295 (rf_m0 _) fun x1 => (rf_s_iload rf_f_M_digest_298 rfl (rf_m0 _) (rf_s_ialdR rf_f_M_digest_300 (rf_m0 _) fun k2 x3 => (rf_s_icmp_ge rf_f_M_digest_301 rfl (rf_m0 _) (rf_m0 _) (rf_s_iinc (L' := [some (.inr (.inr (some o))), some (.inr (.inl l1)), none, none, some (.inl (rf_w (l4 + 1))), some (.inl l5)]) rf_f_M_digest_331 rfl rfl (rf_s_goto rf_f_M_digest_334 rfl rfl rfl)) (rf_s_ldc2_w rf_f_M_digest_304 (rf_m0 _) (rf_s_lload_n rf_f_M_digest_307 rfl (rf_m0 _) (rf_s_lmul rf_f_M_digest_308 (rf_m0 _) (rf_s_aload_n rf_f_M_digest_309 rfl (rf_m0 _) (rf_s_getAS rf_f_M_digest_310 (rf_m0 _) fun x4 => (rf_s_bipush rf_f_M_digest_313 (rf_m0 _) (rf_s_iload rf_f_M_digest_315 rfl (rf_m0 _) (rf_s_imul rf_f_M_digest_317 (rf_m0 _) (rf_s_iload rf_f_M_digest_318 rfl (rf_m0 _) (rf_s_iadd rf_f_M_digest_320 (rf_m0 _) (rf_s_ialdR rf_f_M_digest_321 (rf_m0 _) fun k5 x6 => (rf_s_i2l rf_f_M_digest_322 (rf_m0 _) (rf_s_ladd rf_f_M_digest_323 (rf_m0 _) (rf_s_lstore_n (L' := [some (.inr (.inr (some o))), some (.inr (.inl (rf_wl ((rf_wl (31 * l1)) + x6)))), none, none, some (.inl l4), some (.inl l5)]) rf_f_M_digest_324 rfl (rf_s_iinc (L' := [some (.inr (.inr (some o))), some (.inr (.inl (rf_wl ((rf_wl (31 * l1)) + x6)))), none, none, some (.inl l4), some (.inl (rf_w (l5 + 1)))]) rf_f_M_digest_325 rfl rfl (rf_s_goto rf_f_M_digest_328 rfl rfl rfl)))))))))))))))))))))) : rf_den (rf_call d) rf_m_M_digest (292, [some (.inr (.inr (some o))), some (.inr (.inl l1)), none, none, some (.inl l4), some (.inl l5)], [], h) = _)
