noncomputable def rf_j_E_faultOf_54 (d : Nat) (o : Nat) (l1 : Option Nat) (l2 : Option Nat) (l3 : Int) (h : rf_H) : Option rf_R := rf_den (rf_call d) rf_m_E_faultOf (54, [some (.inr (.inr (some o))), some (.inr (.inr l1)), some (.inr (.inr l2)), some (.inl l3)], [], h)
theorem rf_u_E_faultOf : rf_mt 28 = rf_m_E_faultOf := rfl
theorem rf_f_E_faultOf_0 : rf_Fb rf_m_E_faultOf 0 1 (.aload_n 0) 0 0 0 0 [] [] = true := by decide +kernel
theorem rf_f_E_faultOf_1 : rf_Fb rf_m_E_faultOf 1 2 (.iconst 0) 0 0 0 0 [] [] = true := by decide +kernel
theorem rf_f_E_faultOf_2 : rf_Fb rf_m_E_faultOf 2 5 (.putfield 9) 1 0 0 0 [] [] = true := by decide +kernel
theorem rf_f_E_faultOf_5 : rf_Fb rf_m_E_faultOf 5 6 (.aload_n 2) 0 0 0 0 [] [] = true := by decide +kernel
theorem rf_f_E_faultOf_6 : rf_Fb rf_m_E_faultOf 6 9 (.invokevirtual 15) 19 0 3 0 [] [] = true := by decide +kernel
theorem rf_f_E_faultOf_9 : rf_Fb rf_m_E_faultOf 9 10 (.aload_n 0) 0 0 0 0 [] [] = true := by decide +kernel
theorem rf_f_E_faultOf_10 : rf_Fb rf_m_E_faultOf 10 11 (.aload_n 1) 0 0 0 0 [] [] = true := by decide +kernel
theorem rf_f_E_faultOf_11 : rf_Fb rf_m_E_faultOf 11 14 (.invokevirtual 20) 29 1 3 1 [] [] = true := by decide +kernel
theorem rf_f_E_faultOf_14 : rf_Fb rf_m_E_faultOf 14 15 (.aload_n 0) 0 0 0 0 [] [] = true := by decide +kernel
theorem rf_f_E_faultOf_15 : rf_Fb rf_m_E_faultOf 15 16 (.aload_n 1) 0 0 0 0 [] [] = true := by decide +kernel
theorem rf_f_E_faultOf_16 : rf_Fb rf_m_E_faultOf 16 17 (.aload_n 2) 0 0 0 0 [] [] = true := by decide +kernel
theorem rf_f_E_faultOf_17 : rf_Fb rf_m_E_faultOf 17 20 (.invokevirtual 24) 31 2 0 1 [] [] = true := by decide +kernel
theorem rf_f_E_faultOf_20 : rf_Fb rf_m_E_faultOf 20 23 (.ifCond .ne 8) 28 0 0 0 [] [] = true := by decide +kernel
theorem rf_f_E_faultOf_23 : rf_Fb rf_m_E_faultOf 23 24 (.aload_n 0) 0 0 0 0 [] [] = true := by decide +kernel
theorem rf_f_E_faultOf_24 : rf_Fb rf_m_E_faultOf 24 27 (.getfield 9) 1 0 0 0 [] [] = true := by decide +kernel
theorem rf_f_E_faultOf_27 : rf_Fb rf_m_E_faultOf 27 28 (.ireturn) 0 0 0 0 [] [] = true := by decide +kernel
theorem rf_f_E_faultOf_28 : rf_Fb rf_m_E_faultOf 28 29 (.aload_n 0) 0 0 0 0 [] [] = true := by decide +kernel
theorem rf_f_E_faultOf_29 : rf_Fb rf_m_E_faultOf 29 30 (.aload_n 1) 0 0 0 0 [] [] = true := by decide +kernel
theorem rf_f_E_faultOf_30 : rf_Fb rf_m_E_faultOf 30 33 (.invokevirtual 20) 29 1 3 1 [] [] = true := by decide +kernel
theorem rf_f_E_faultOf_33 : rf_Fb rf_m_E_faultOf 33 34 (.aload_n 0) 0 0 0 0 [] [] = true := by decide +kernel
theorem rf_f_E_faultOf_34 : rf_Fb rf_m_E_faultOf 34 35 (.aload_n 1) 0 0 0 0 [] [] = true := by decide +kernel
theorem rf_f_E_faultOf_35 : rf_Fb rf_m_E_faultOf 35 36 (.aload_n 2) 0 0 0 0 [] [] = true := by decide +kernel
theorem rf_f_E_faultOf_36 : rf_Fb rf_m_E_faultOf 36 39 (.invokevirtual 28) 34 2 0 1 [] [] = true := by decide +kernel
theorem rf_f_E_faultOf_39 : rf_Fb rf_m_E_faultOf 39 42 (.ifCond .ne 8) 47 0 0 0 [] [] = true := by decide +kernel
theorem rf_f_E_faultOf_42 : rf_Fb rf_m_E_faultOf 42 43 (.aload_n 0) 0 0 0 0 [] [] = true := by decide +kernel
theorem rf_f_E_faultOf_43 : rf_Fb rf_m_E_faultOf 43 46 (.getfield 9) 1 0 0 0 [] [] = true := by decide +kernel
theorem rf_f_E_faultOf_46 : rf_Fb rf_m_E_faultOf 46 47 (.ireturn) 0 0 0 0 [] [] = true := by decide +kernel
theorem rf_f_E_faultOf_47 : rf_Fb rf_m_E_faultOf 47 48 (.aload_n 0) 0 0 0 0 [] [] = true := by decide +kernel
theorem rf_f_E_faultOf_48 : rf_Fb rf_m_E_faultOf 48 49 (.aload_n 1) 0 0 0 0 [] [] = true := by decide +kernel
theorem rf_f_E_faultOf_49 : rf_Fb rf_m_E_faultOf 49 52 (.invokevirtual 20) 29 1 3 1 [] [] = true := by decide +kernel
theorem rf_f_E_faultOf_52 : rf_Fb rf_m_E_faultOf 52 53 (.iconst 0) 0 0 0 0 [] [] = true := by decide +kernel
theorem rf_f_E_faultOf_53 : rf_Fb rf_m_E_faultOf 53 54 (.istore_n 3) 0 0 0 0 [] [true, true, true, true] = true := by decide +kernel
theorem rf_f_E_faultOf_54 : rf_Fb rf_m_E_faultOf 54 55 (.iload_n 3) 0 0 0 0 [] [] = true := by decide +kernel
theorem rf_f_E_faultOf_55 : rf_Fb rf_m_E_faultOf 55 57 (.bipush 6) 0 0 0 0 [] [] = true := by decide +kernel
theorem rf_f_E_faultOf_57 : rf_Fb rf_m_E_faultOf 57 60 (.if_icmp .ge 39) 96 0 0 0 [] [] = true := by decide +kernel
theorem rf_f_E_faultOf_60 : rf_Fb rf_m_E_faultOf 60 61 (.aload_n 0) 0 0 0 0 [] [] = true := by decide +kernel
theorem rf_f_E_faultOf_61 : rf_Fb rf_m_E_faultOf 61 64 (.getfield 9) 1 0 0 0 [] [] = true := by decide +kernel
theorem rf_f_E_faultOf_64 : rf_Fb rf_m_E_faultOf 64 65 (.aload_n 1) 0 0 0 0 [] [] = true := by decide +kernel
theorem rf_f_E_faultOf_65 : rf_Fb rf_m_E_faultOf 65 68 (.getfield 31) 2 1 0 0 [] [] = true := by decide +kernel
theorem rf_f_E_faultOf_68 : rf_Fb rf_m_E_faultOf 68 71 (.if_icmp .ge 28) 96 0 0 0 [] [] = true := by decide +kernel
theorem rf_f_E_faultOf_71 : rf_Fb rf_m_E_faultOf 71 72 (.aload_n 0) 0 0 0 0 [] [] = true := by decide +kernel
theorem rf_f_E_faultOf_72 : rf_Fb rf_m_E_faultOf 72 73 (.aload_n 1) 0 0 0 0 [] [] = true := by decide +kernel
theorem rf_f_E_faultOf_73 : rf_Fb rf_m_E_faultOf 73 74 (.aload_n 2) 0 0 0 0 [] [] = true := by decide +kernel
theorem rf_f_E_faultOf_74 : rf_Fb rf_m_E_faultOf 74 77 (.invokevirtual 36) 36 2 0 1 [] [] = true := by decide +kernel
theorem rf_f_E_faultOf_77 : rf_Fb rf_m_E_faultOf 77 80 (.ifCond .ne 8) 85 0 0 0 [] [] = true := by decide +kernel
theorem rf_f_E_faultOf_80 : rf_Fb rf_m_E_faultOf 80 81 (.aload_n 0) 0 0 0 0 [] [] = true := by decide +kernel
theorem rf_f_E_faultOf_81 : rf_Fb rf_m_E_faultOf 81 84 (.getfield 9) 1 0 0 0 [] [] = true := by decide +kernel
theorem rf_f_E_faultOf_84 : rf_Fb rf_m_E_faultOf 84 85 (.ireturn) 0 0 0 0 [] [] = true := by decide +kernel
theorem rf_f_E_faultOf_85 : rf_Fb rf_m_E_faultOf 85 86 (.aload_n 0) 0 0 0 0 [] [] = true := by decide +kernel
theorem rf_f_E_faultOf_86 : rf_Fb rf_m_E_faultOf 86 87 (.aload_n 1) 0 0 0 0 [] [] = true := by decide +kernel
theorem rf_f_E_faultOf_87 : rf_Fb rf_m_E_faultOf 87 90 (.invokevirtual 20) 29 1 3 1 [] [] = true := by decide +kernel
theorem rf_f_E_faultOf_90 : rf_Fb rf_m_E_faultOf 90 93 (.iinc 3 1) 0 0 0 0 [] [] = true := by decide +kernel
theorem rf_f_E_faultOf_93 : rf_Fb rf_m_E_faultOf 93 96 (.goto (-39)) 54 0 0 0 [] [] = true := by decide +kernel
theorem rf_f_E_faultOf_96 : rf_Fb rf_m_E_faultOf 96 97 (.aload_n 0) 0 0 0 0 [] [] = true := by decide +kernel
theorem rf_f_E_faultOf_97 : rf_Fb rf_m_E_faultOf 97 100 (.getfield 9) 1 0 0 0 [] [] = true := by decide +kernel
theorem rf_f_E_faultOf_100 : rf_Fb rf_m_E_faultOf 100 101 (.aload_n 1) 0 0 0 0 [] [] = true := by decide +kernel
theorem rf_f_E_faultOf_101 : rf_Fb rf_m_E_faultOf 101 104 (.getfield 31) 2 1 0 0 [] [] = true := by decide +kernel
theorem rf_f_E_faultOf_104 : rf_Fb rf_m_E_faultOf 104 107 (.if_icmp .ge 10) 114 0 0 0 [] [] = true := by decide +kernel
theorem rf_f_E_faultOf_107 : rf_Fb rf_m_E_faultOf 107 108 (.aload_n 0) 0 0 0 0 [] [] = true := by decide +kernel
theorem rf_f_E_faultOf_108 : rf_Fb rf_m_E_faultOf 108 111 (.getfield 9) 1 0 0 0 [] [] = true := by decide +kernel
theorem rf_f_E_faultOf_111 : rf_Fb rf_m_E_faultOf 111 114 (.goto 5) 116 0 0 0 [] [] = true := by decide +kernel
theorem rf_f_E_faultOf_114 : rf_Fb rf_m_E_faultOf 114 116 (.bipush (-9)) 0 0 0 0 [] [] = true := by decide +kernel
theorem rf_f_E_faultOf_116 : rf_Fb rf_m_E_faultOf 116 117 (.ireturn) 0 0 0 0 [] [] = true := by decide +kernel
set_option maxRecDepth 20000 in
set_option maxHeartbeats 2000000 in
theorem rf_e_E_faultOf (d : Nat) (o : Nat) (a1 : Option Nat) (a2 : Option Nat) (h : rf_H) : rf_call (d + 1) 28 [.inr (.inr (some o)), .inr (.inr a1), .inr (.inr a2)] h = ((rf_pI h 1 o 0 0).bind fun h1 => (rf_nn a2 fun k2 => (bif rf_isO h1.1 k2 0 then ((rf_call d 19 [.inr (.inr (some k2))] h1).bind fun q4 => rf_kV q4 fun h3 => (bif rf_isO h3.1 o 1 then ((rf_call d 29 [.inr (.inr (some o)), .inr (.inr a1)] h3).bind fun q6 => rf_kV q6 fun h5 => (bif rf_isO h5.1 o 1 then ((rf_call d 31 [.inr (.inr (some o)), .inr (.inr a1), .inr (.inr a2)] h5).bind fun q8 => rf_kI q8 fun x9 h7 => (if x9 = 0 then ((rf_gI h7 1 o 0).bind fun x18 => some (some (.inl x18), h7)) else (bif rf_isO h7.1 o 1 then ((rf_call d 29 [.inr (.inr (some o)), .inr (.inr a1)] h7).bind fun q11 => rf_kV q11 fun h10 => (bif rf_isO h10.1 o 1 then ((rf_call d 34 [.inr (.inr (some o)), .inr (.inr a1), .inr (.inr a2)] h10).bind fun q13 => rf_kI q13 fun x14 h12 => (if x14 = 0 then ((rf_gI h12 1 o 0).bind fun x17 => some (some (.inl x17), h12)) else (bif rf_isO h12.1 o 1 then ((rf_call d 29 [.inr (.inr (some o)), .inr (.inr a1)] h12).bind fun q16 => rf_kV q16 fun h15 => rf_j_E_faultOf_54 d o a1 a2 0 h15) else none))) else none)) else none))) else none)) else none)) else none))) := by
  show rf_den (rf_call d) (rf_mt 28) _ = _
  rw [rf_u_E_faultOf]
  exact ((rf_s_aload_n rf_f_E_faultOf_0 rfl (rf_m0 _) (rf_s_iconst rf_f_E_faultOf_1 (rf_m0 _) (rf_s_putIS rf_f_E_faultOf_2 (rf_m0 _) fun h1 => (rf_s_aload_n rf_f_E_faultOf_5 rfl (rf_m0 _) (rf_s_invV3R rf_f_E_faultOf_6 rfl rfl (rf_m0 _) fun k2 q4 h3 => (rf_s_aload_n rf_f_E_faultOf_9 rfl (rf_m0 _) (rf_s_aload_n rf_f_E_faultOf_10 rfl (rf_m0 _) (rf_s_invV3S rf_f_E_faultOf_11 rfl rfl (rf_m0 _) fun q6 h5 => (rf_s_aload_n rf_f_E_faultOf_14 rfl (rf_m0 _) (rf_s_aload_n rf_f_E_faultOf_15 rfl (rf_m0 _) (rf_s_aload_n rf_f_E_faultOf_16 rfl (rf_m0 _) (rf_s_invV0S rf_f_E_faultOf_17 rfl rfl (rf_m0 _) fun q8 x9 h7 => (rf_s_if_ne rf_f_E_faultOf_20 rfl (rf_m0 _) (rf_m0 _) (rf_s_aload_n rf_f_E_faultOf_28 rfl (rf_m0 _) (rf_s_aload_n rf_f_E_faultOf_29 rfl (rf_m0 _) (rf_s_invV3S rf_f_E_faultOf_30 rfl rfl (rf_m0 _) fun q11 h10 => (rf_s_aload_n rf_f_E_faultOf_33 rfl (rf_m0 _) (rf_s_aload_n rf_f_E_faultOf_34 rfl (rf_m0 _) (rf_s_aload_n rf_f_E_faultOf_35 rfl (rf_m0 _) (rf_s_invV0S rf_f_E_faultOf_36 rfl rfl (rf_m0 _) fun q13 x14 h12 => (rf_s_if_ne rf_f_E_faultOf_39 rfl (rf_m0 _) (rf_m0 _) (rf_s_aload_n rf_f_E_faultOf_47 rfl (rf_m0 _) (rf_s_aload_n rf_f_E_faultOf_48 rfl (rf_m0 _) (rf_s_invV3S rf_f_E_faultOf_49 rfl rfl (rf_m0 _) fun q16 h15 => (rf_s_iconst rf_f_E_faultOf_52 (rf_m0 _) (rf_s_istore_n rf_f_E_faultOf_53 rfl rfl))))) (rf_s_aload_n rf_f_E_faultOf_42 rfl (rf_m0 _) (rf_s_getIS rf_f_E_faultOf_43 (rf_m0 _) fun x17 => (rf_s_iret rf_f_E_faultOf_46))))))))))) (rf_s_aload_n rf_f_E_faultOf_23 rfl (rf_m0 _) (rf_s_getIS rf_f_E_faultOf_24 (rf_m0 _) fun x18 => (rf_s_iret rf_f_E_faultOf_27)))))))))))))))) : rf_den (rf_call d) rf_m_E_faultOf (0, [some (.inr (.inr (some o))), some (.inr (.inr a1)), some (.inr (.inr a2)), none], [], h) = _)
set_option maxRecDepth 20000 in
set_option maxHeartbeats 2000000 in
theorem rf_e_E_faultOf_54 (d : Nat) (o : Nat) (l1 : Option Nat) (l2 : Option Nat) (l3 : Int) (h : rf_H) : rf_j_E_faultOf_54 d o l1 l2 l3 h = (if l3 < 6 then ((rf_gI h 1 o 0).bind fun x5 => (rf_nn l1 fun k6 => ((rf_gI h 2 k6 1).bind fun x7 => (if x5 < x7 then (bif rf_isO h.1 o 1 then ((rf_call d 36 [.inr (.inr (some o)), .inr (.inr l1), .inr (.inr l2)] h).bind fun q13 => rf_kI q13 fun x14 h12 => (if x14 = 0 then ((rf_gI h12 1 o 0).bind fun x17 => some (some (.inl x17), h12)) else (bif rf_isO h12.1 o 1 then ((rf_call d 29 [.inr (.inr (some o)), .inr (.inr l1)] h12).bind fun q16 => rf_kV q16 fun h15 => rf_j_E_faultOf_54 d o l1 l2 (rf_w (l3 + 1)) h15) else none))) else none) else ((rf_gI h 1 o 0).bind fun x8 => (rf_nn l1 fun k9 => ((rf_gI h 2 k9 1).bind fun x10 => (if x8 < x10 then ((rf_gI h 1 o 0).bind fun x11 => some (some (.inl x11), h)) else some (some (.inl (-9)), h))))))))) else ((rf_gI h 1 o 0).bind fun x1 => (rf_nn l1 fun k2 => ((rf_gI h 2 k2 1).bind fun x3 => (if x1 < x3 then ((rf_gI h 1 o 0).bind fun x4 => some (some (.inl x4), h)) else some (some (.inl (-9)), h)))))) :=
  ((rf_s_iload_n rf_f_E_faultOf_54 rfl (rf_m0 _) (rf_s_bipush rf_f_E_faultOf_55 (rf_m0 _) (rf_s_icmp_ge rf_f_E_faultOf_57 rfl (rf_m0 _) (rf_m0 _) (rf_s_aload_n rf_f_E_faultOf_96 rfl (rf_m0 _) (rf_s_getIS rf_f_E_faultOf_97 (rf_m0 _) fun x1 => (rf_s_aload_n rf_f_E_faultOf_100 rfl (rf_m0 _) (rf_s_getIR rf_f_E_faultOf_101 (rf_m0 _) fun k2 x3 => (rf_s_icmp_ge rf_f_E_faultOf_104 rfl (rf_m0 _) (rf_m0 _) (rf_s_bipush rf_f_E_faultOf_114 (rf_m0 _) (rf_s_iret rf_f_E_faultOf_116)) (rf_s_aload_n rf_f_E_faultOf_107 rfl (rf_m0 _) (rf_s_getIS rf_f_E_faultOf_108 (rf_m0 _) fun x4 => (rf_s_goto rf_f_E_faultOf_111 rfl (rf_m0 _) (rf_s_iret rf_f_E_faultOf_116))))))))) (rf_s_aload_n rf_f_E_faultOf_60 rfl (rf_m0 _) (rf_s_getIS rf_f_E_faultOf_61 (rf_m0 _) fun x5 => (rf_s_aload_n rf_f_E_faultOf_64 rfl (rf_m0 _) (rf_s_getIR rf_f_E_faultOf_65 (rf_m0 _) fun k6 x7 => (rf_s_icmp_ge rf_f_E_faultOf_68 rfl (rf_m0 _) (rf_m0 _) (rf_s_aload_n rf_f_E_faultOf_96 rfl (rf_m0 _) (rf_s_getIS rf_f_E_faultOf_97 (rf_m0 _) fun x8 => (rf_s_aload_n rf_f_E_faultOf_100 rfl (rf_m0 _) (rf_s_getIR rf_f_E_faultOf_101 (rf_m0 _) fun k9 x10 => (rf_s_icmp_ge rf_f_E_faultOf_104 rfl (rf_m0 _) (rf_m0 _) (rf_s_bipush rf_f_E_faultOf_114 (rf_m0 _) (rf_s_iret rf_f_E_faultOf_116)) (rf_s_aload_n rf_f_E_faultOf_107 rfl (rf_m0 _) (rf_s_getIS rf_f_E_faultOf_108 (rf_m0 _) fun x11 => (rf_s_goto rf_f_E_faultOf_111 rfl (rf_m0 _) (rf_s_iret rf_f_E_faultOf_116))))))))) (rf_s_aload_n rf_f_E_faultOf_71 rfl (rf_m0 _) (rf_s_aload_n rf_f_E_faultOf_72 rfl (rf_m0 _) (rf_s_aload_n rf_f_E_faultOf_73 rfl (rf_m0 _) (rf_s_invV0S rf_f_E_faultOf_74 rfl rfl (rf_m0 _) fun q13 x14 h12 => (rf_s_if_ne rf_f_E_faultOf_77 rfl (rf_m0 _) (rf_m0 _) (rf_s_aload_n rf_f_E_faultOf_85 rfl (rf_m0 _) (rf_s_aload_n rf_f_E_faultOf_86 rfl (rf_m0 _) (rf_s_invV3S rf_f_E_faultOf_87 rfl rfl (rf_m0 _) fun q16 h15 => (rf_s_iinc (L' := [some (.inr (.inr (some o))), some (.inr (.inr l1)), some (.inr (.inr l2)), some (.inl (rf_w (l3 + 1)))]) rf_f_E_faultOf_90 rfl rfl (rf_s_goto rf_f_E_faultOf_93 rfl rfl rfl))))) (rf_s_aload_n rf_f_E_faultOf_80 rfl (rf_m0 _) (rf_s_getIS rf_f_E_faultOf_81 (rf_m0 _) fun x17 => (rf_s_iret rf_f_E_faultOf_84)))))))))))))))) : rf_den (rf_call d) rf_m_E_faultOf (54, [some (.inr (.inr (some o))), some (.inr (.inr l1)), some (.inr (.inr l2)), some (.inl l3)], [], h) = _)
noncomputable def rf_j_E_skipBlanks_2 (d : Nat) (o : Nat) (l1 : Option Nat) (l2 : Int) (h : rf_H) : Option rf_R := rf_den (rf_call d) rf_m_E_skipBlanks (2, [some (.inr (.inr (some o))), some (.inr (.inr l1)), some (.inl l2)], [], h)
theorem rf_u_E_skipBlanks : rf_mt 29 = rf_m_E_skipBlanks := rfl
theorem rf_f_E_skipBlanks_0 : rf_Fb rf_m_E_skipBlanks 0 1 (.iconst 0) 0 0 0 0 [] [] = true := by decide +kernel
theorem rf_f_E_skipBlanks_1 : rf_Fb rf_m_E_skipBlanks 1 2 (.istore_n 2) 0 0 0 0 [] [true, true, true] = true := by decide +kernel
theorem rf_f_E_skipBlanks_2 : rf_Fb rf_m_E_skipBlanks 2 3 (.iload_n 2) 0 0 0 0 [] [] = true := by decide +kernel
theorem rf_f_E_skipBlanks_3 : rf_Fb rf_m_E_skipBlanks 3 5 (.bipush 60) 0 0 0 0 [] [] = true := by decide +kernel
theorem rf_f_E_skipBlanks_5 : rf_Fb rf_m_E_skipBlanks 5 8 (.if_icmp .ge 29) 34 0 0 0 [] [] = true := by decide +kernel
theorem rf_f_E_skipBlanks_8 : rf_Fb rf_m_E_skipBlanks 8 9 (.aload_n 0) 0 0 0 0 [] [] = true := by decide +kernel
theorem rf_f_E_skipBlanks_9 : rf_Fb rf_m_E_skipBlanks 9 10 (.aload_n 1) 0 0 0 0 [] [] = true := by decide +kernel
theorem rf_f_E_skipBlanks_10 : rf_Fb rf_m_E_skipBlanks 10 13 (.invokevirtual 63) 30 1 0 1 [] [] = true := by decide +kernel
theorem rf_f_E_skipBlanks_13 : rf_Fb rf_m_E_skipBlanks 13 15 (.bipush 32) 0 0 0 0 [] [] = true := by decide +kernel
theorem rf_f_E_skipBlanks_15 : rf_Fb rf_m_E_skipBlanks 15 18 (.if_icmp .ne 19) 34 0 0 0 [] [] = true := by decide +kernel
theorem rf_f_E_skipBlanks_18 : rf_Fb rf_m_E_skipBlanks 18 19 (.aload_n 0) 0 0 0 0 [] [] = true := by decide +kernel
theorem rf_f_E_skipBlanks_19 : rf_Fb rf_m_E_skipBlanks 19 20 (.dup) 0 0 0 0 [] [] = true := by decide +kernel
theorem rf_f_E_skipBlanks_20 : rf_Fb rf_m_E_skipBlanks 20 23 (.getfield 9) 1 0 0 0 [] [] = true := by decide +kernel
theorem rf_f_E_skipBlanks_23 : rf_Fb rf_m_E_skipBlanks 23 24 (.iconst 1) 0 0 0 0 [] [] = true := by decide +kernel
theorem rf_f_E_skipBlanks_24 : rf_Fb rf_m_E_skipBlanks 24 25 (.iadd) 0 0 0 0 [] [] = true := by decide +kernel
theorem rf_f_E_skipBlanks_25 : rf_Fb rf_m_E_skipBlanks 25 28 (.putfield 9) 1 0 0 0 [] [] = true := by decide +kernel
theorem rf_f_E_skipBlanks_28 : rf_Fb rf_m_E_skipBlanks 28 31 (.iinc 2 1) 0 0 0 0 [] [] = true := by decide +kernel
theorem rf_f_E_skipBlanks_31 : rf_Fb rf_m_E_skipBlanks 31 34 (.goto (-29)) 2 0 0 0 [] [] = true := by decide +kernel
theorem rf_f_E_skipBlanks_34 : rf_Fb rf_m_E_skipBlanks 34 35 (.return_) 0 0 0 0 [] [] = true := by decide +kernel
set_option maxRecDepth 20000 in
set_option maxHeartbeats 2000000 in
theorem rf_e_E_skipBlanks (d : Nat) (o : Nat) (a1 : Option Nat) (h : rf_H) : rf_call (d + 1) 29 [.inr (.inr (some o)), .inr (.inr a1)] h = rf_j_E_skipBlanks_2 d o a1 0 h := by
  show rf_den (rf_call d) (rf_mt 29) _ = _
  rw [rf_u_E_skipBlanks]
  exact ((rf_s_iconst rf_f_E_skipBlanks_0 (rf_m0 _) (rf_s_istore_n rf_f_E_skipBlanks_1 rfl rfl)) : rf_den (rf_call d) rf_m_E_skipBlanks (0, [some (.inr (.inr (some o))), some (.inr (.inr a1)), none], [], h) = _)
set_option maxRecDepth 20000 in
set_option maxHeartbeats 2000000 in
theorem rf_e_E_skipBlanks_2 (d : Nat) (o : Nat) (l1 : Option Nat) (l2 : Int) (h : rf_H) : rf_j_E_skipBlanks_2 d o l1 l2 h = (if l2 < 60 then (bif rf_isO h.1 o 1 then ((rf_call d 30 [.inr (.inr (some o)), .inr (.inr l1)] h).bind fun q2 => rf_kI q2 fun x3 h1 => (if x3 = 32 then ((rf_gI h1 1 o 0).bind fun x4 => ((rf_pI h1 1 o 0 (rf_w (x4 + 1))).bind fun h5 => rf_j_E_skipBlanks_2 d o l1 (rf_w (l2 + 1)) h5)) else some (none, h1))) else none) else some (none, h)) :=
  ((rf_s_iload_n rf_f_E_skipBlanks_2 rfl (rf_m0 _) (rf_s_bipush rf_f_E_skipBlanks_3 (rf_m0 _) (rf_s_icmp_ge rf_f_E_skipBlanks_5 rfl (rf_m0 _) (rf_m0 _) (rf_s_vret rf_f_E_skipBlanks_34) (rf_s_aload_n rf_f_E_skipBlanks_8 rfl (rf_m0 _) (rf_s_aload_n rf_f_E_skipBlanks_9 rfl (rf_m0 _) (rf_s_invV0S rf_f_E_skipBlanks_10 rfl rfl (rf_m0 _) fun q2 x3 h1 => (rf_s_bipush rf_f_E_skipBlanks_13 (rf_m0 _) (rf_s_icmp_ne rf_f_E_skipBlanks_15 rfl (rf_m0 _) (rf_m0 _) (rf_s_vret rf_f_E_skipBlanks_34) (rf_s_aload_n rf_f_E_skipBlanks_18 rfl (rf_m0 _) (rf_s_dupA rf_f_E_skipBlanks_19 (rf_m0 _) (rf_s_getIS rf_f_E_skipBlanks_20 (rf_m0 _) fun x4 => (rf_s_iconst rf_f_E_skipBlanks_23 (rf_m0 _) (rf_s_iadd rf_f_E_skipBlanks_24 (rf_m0 _) (rf_s_putIS rf_f_E_skipBlanks_25 (rf_m0 _) fun h5 => (rf_s_iinc (L' := [some (.inr (.inr (some o))), some (.inr (.inr l1)), some (.inl (rf_w (l2 + 1)))]) rf_f_E_skipBlanks_28 rfl rfl (rf_s_goto rf_f_E_skipBlanks_31 rfl rfl rfl)))))))))))))))) : rf_den (rf_call d) rf_m_E_skipBlanks (2, [some (.inr (.inr (some o))), some (.inr (.inr l1)), some (.inl l2)], [], h) = _)
theorem rf_u_E_here : rf_mt 30 = rf_m_E_here := rfl
theorem rf_f_E_here_0 : rf_Fb rf_m_E_here 0 1 (.aload_n 1) 0 0 0 0 [] [] = true := by decide +kernel
theorem rf_f_E_here_1 : rf_Fb rf_m_E_here 1 2 (.aload_n 0) 0 0 0 0 [] [] = true := by decide +kernel
theorem rf_f_E_here_2 : rf_Fb rf_m_E_here 2 5 (.getfield 9) 1 0 0 0 [] [] = true := by decide +kernel
theorem rf_f_E_here_5 : rf_Fb rf_m_E_here 5 8 (.invokevirtual 86) 3 1 0 2 [] [] = true := by decide +kernel
theorem rf_f_E_here_8 : rf_Fb rf_m_E_here 8 11 (.ifCond .eq 14) 22 0 0 0 [] [] = true := by decide +kernel
theorem rf_f_E_here_11 : rf_Fb rf_m_E_here 11 12 (.aload_n 1) 0 0 0 0 [] [] = true := by decide +kernel
theorem rf_f_E_here_12 : rf_Fb rf_m_E_here 12 13 (.aload_n 0) 0 0 0 0 [] [] = true := by decide +kernel
theorem rf_f_E_here_13 : rf_Fb rf_m_E_here 13 16 (.getfield 9) 1 0 0 0 [] [] = true := by decide +kernel
theorem rf_f_E_here_16 : rf_Fb rf_m_E_here 16 19 (.invokevirtual 90) 4 1 0 2 [] [] = true := by decide +kernel
theorem rf_f_E_here_19 : rf_Fb rf_m_E_here 19 22 (.goto 6) 25 0 0 0 [] [] = true := by decide +kernel
theorem rf_f_E_here_22 : rf_Fb rf_m_E_here 22 25 (.sipush 1000) 0 0 0 0 [] [] = true := by decide +kernel
theorem rf_f_E_here_25 : rf_Fb rf_m_E_here 25 26 (.ireturn) 0 0 0 0 [] [] = true := by decide +kernel
set_option maxRecDepth 20000 in
set_option maxHeartbeats 2000000 in
theorem rf_e_E_here (d : Nat) (o : Nat) (a1 : Option Nat) (h : rf_H) : rf_call (d + 1) 30 [.inr (.inr (some o)), .inr (.inr a1)] h = ((rf_gI h 1 o 0).bind fun x1 => (rf_nn a1 fun k2 => (bif rf_isO h.1 k2 2 then ((rf_call d 3 [.inr (.inr (some k2)), .inl x1] h).bind fun q4 => rf_kI q4 fun x5 h3 => (if x5 = 0 then some (some (.inl 1000), h3) else ((rf_gI h3 1 o 0).bind fun x6 => (rf_nn a1 fun k7 => (bif rf_isO h3.1 k7 2 then ((rf_call d 4 [.inr (.inr (some k7)), .inl x6] h3).bind fun q9 => rf_kI q9 fun x10 h8 => some (some (.inl x10), h8)) else none))))) else none))) := by
  show rf_den (rf_call d) (rf_mt 30) _ = _
  rw [rf_u_E_here]
  exact ((rf_s_aload_n rf_f_E_here_0 rfl (rf_m0 _) (rf_s_aload_n rf_f_E_here_1 rfl (rf_m0 _) (rf_s_getIS rf_f_E_here_2 (rf_m0 _) fun x1 => (rf_s_invV0R rf_f_E_here_5 rfl rfl (rf_m0 _) fun k2 q4 x5 h3 => (rf_s_if_eq rf_f_E_here_8 rfl (rf_m0 _) (rf_m0 _) (rf_s_sipush rf_f_E_here_22 (rf_m0 _) (rf_s_iret rf_f_E_here_25)) (rf_s_aload_n rf_f_E_here_11 rfl (rf_m0 _) (rf_s_aload_n rf_f_E_here_12 rfl (rf_m0 _) (rf_s_getIS rf_f_E_here_13 (rf_m0 _) fun x6 => (rf_s_invV0R rf_f_E_here_16 rfl rfl (rf_m0 _) fun k7 q9 x10 h8 => (rf_s_goto rf_f_E_here_19 rfl (rf_m0 _) (rf_s_iret rf_f_E_here_25))))))))))) : rf_den (rf_call d) rf_m_E_here (0, [some (.inr (.inr (some o))), some (.inr (.inr a1))], [], h) = _)
noncomputable def rf_j_E_readsEngine_45 (d : Nat) (o : Nat) (l1 : Option Nat) (l2 : Option Nat) (s0 : Option Nat) (s1 : Int) (h : rf_H) : Option rf_R := rf_den (rf_call d) rf_m_E_readsEngine (45, [some (.inr (.inr (some o))), some (.inr (.inr l1)), some (.inr (.inr l2))], [.inl s1, .inr (.inr s0)], h)
noncomputable def rf_j_E_readsEngine_69 (d : Nat) (o : Nat) (l1 : Option Nat) (l2 : Option Nat) (s0 : Option Nat) (s1 : Int) (h : rf_H) : Option rf_R := rf_den (rf_call d) rf_m_E_readsEngine (69, [some (.inr (.inr (some o))), some (.inr (.inr l1)), some (.inr (.inr l2))], [.inl s1, .inr (.inr s0)], h)
theorem rf_u_E_readsEngine : rf_mt 31 = rf_m_E_readsEngine := rfl
theorem rf_f_E_readsEngine_0 : rf_Fb rf_m_E_readsEngine 0 1 (.aload_n 0) 0 0 0 0 [] [] = true := by decide +kernel
theorem rf_f_E_readsEngine_1 : rf_Fb rf_m_E_readsEngine 1 2 (.aload_n 1) 0 0 0 0 [] [] = true := by decide +kernel
theorem rf_f_E_readsEngine_2 : rf_Fb rf_m_E_readsEngine 2 4 (.bipush 101) 0 0 0 0 [] [] = true := by decide +kernel
theorem rf_f_E_readsEngine_4 : rf_Fb rf_m_E_readsEngine 4 7 (.invokevirtual 39) 32 2 0 1 [] [] = true := by decide +kernel
theorem rf_f_E_readsEngine_7 : rf_Fb rf_m_E_readsEngine 7 10 (.ifCond .ne 5) 12 0 0 0 [] [] = true := by decide +kernel
theorem rf_f_E_readsEngine_10 : rf_Fb rf_m_E_readsEngine 10 11 (.iconst 0) 0 0 0 0 [] [] = true := by decide +kernel
theorem rf_f_E_readsEngine_11 : rf_Fb rf_m_E_readsEngine 11 12 (.ireturn) 0 0 1 0 [] [] = true := by decide +kernel
theorem rf_f_E_readsEngine_12 : rf_Fb rf_m_E_readsEngine 12 13 (.aload_n 2) 0 0 0 0 [] [] = true := by decide +kernel
theorem rf_f_E_readsEngine_13 : rf_Fb rf_m_E_readsEngine 13 14 (.aload_n 0) 0 0 0 0 [] [] = true := by decide +kernel
theorem rf_f_E_readsEngine_14 : rf_Fb rf_m_E_readsEngine 14 15 (.aload_n 1) 0 0 0 0 [] [] = true := by decide +kernel
theorem rf_f_E_readsEngine_15 : rf_Fb rf_m_E_readsEngine 15 16 (.iconst 1) 0 0 0 0 [] [] = true := by decide +kernel
theorem rf_f_E_readsEngine_16 : rf_Fb rf_m_E_readsEngine 16 18 (.bipush 9) 0 0 0 0 [] [] = true := by decide +kernel
theorem rf_f_E_readsEngine_18 : rf_Fb rf_m_E_readsEngine 18 21 (.invokevirtual 43) 33 3 0 1 [] [] = true := by decide +kernel
theorem rf_f_E_readsEngine_21 : rf_Fb rf_m_E_readsEngine 21 24 (.putfield 47) 0 7 0 0 [] [] = true := by decide +kernel
theorem rf_f_E_readsEngine_24 : rf_Fb rf_m_E_readsEngine 24 25 (.aload_n 2) 0 0 0 0 [] [] = true := by decide +kernel
theorem rf_f_E_readsEngine_25 : rf_Fb rf_m_E_readsEngine 25 26 (.aload_n 2) 0 0 0 0 [] [] = true := by decide +kernel
theorem rf_f_E_readsEngine_26 : rf_Fb rf_m_E_readsEngine 26 29 (.getfield 47) 0 7 0 0 [] [] = true := by decide +kernel
theorem rf_f_E_readsEngine_29 : rf_Fb rf_m_E_readsEngine 29 30 (.iconst (-1)) 0 0 0 0 [] [] = true := by decide +kernel
theorem rf_f_E_readsEngine_30 : rf_Fb rf_m_E_readsEngine 30 33 (.if_icmp .ne 7) 37 0 0 0 [] [] = true := by decide +kernel
theorem rf_f_E_readsEngine_33 : rf_Fb rf_m_E_readsEngine 33 34 (.iconst (-1)) 0 0 0 0 [] [] = true := by decide +kernel
theorem rf_f_E_readsEngine_34 : rf_Fb rf_m_E_readsEngine 34 37 (.goto 11) 45 0 0 0 [] [] = true := by decide +kernel
theorem rf_f_E_readsEngine_37 : rf_Fb rf_m_E_readsEngine 37 38 (.aload_n 0) 0 0 0 0 [] [] = true := by decide +kernel
theorem rf_f_E_readsEngine_38 : rf_Fb rf_m_E_readsEngine 38 39 (.aload_n 1) 0 0 0 0 [] [] = true := by decide +kernel
theorem rf_f_E_readsEngine_39 : rf_Fb rf_m_E_readsEngine 39 40 (.iconst 0) 0 0 0 0 [] [] = true := by decide +kernel
theorem rf_f_E_readsEngine_40 : rf_Fb rf_m_E_readsEngine 40 42 (.bipush 9) 0 0 0 0 [] [] = true := by decide +kernel
theorem rf_f_E_readsEngine_42 : rf_Fb rf_m_E_readsEngine 42 45 (.invokevirtual 43) 33 3 0 1 [] [true, true, true] = true := by decide +kernel
theorem rf_f_E_readsEngine_45 : rf_Fb rf_m_E_readsEngine 45 48 (.putfield 50) 0 8 0 0 [] [] = true := by decide +kernel
theorem rf_f_E_readsEngine_48 : rf_Fb rf_m_E_readsEngine 48 49 (.aload_n 2) 0 0 0 0 [] [] = true := by decide +kernel
theorem rf_f_E_readsEngine_49 : rf_Fb rf_m_E_readsEngine 49 50 (.aload_n 2) 0 0 0 0 [] [] = true := by decide +kernel
theorem rf_f_E_readsEngine_50 : rf_Fb rf_m_E_readsEngine 50 53 (.getfield 50) 0 8 0 0 [] [] = true := by decide +kernel
theorem rf_f_E_readsEngine_53 : rf_Fb rf_m_E_readsEngine 53 54 (.iconst (-1)) 0 0 0 0 [] [] = true := by decide +kernel
theorem rf_f_E_readsEngine_54 : rf_Fb rf_m_E_readsEngine 54 57 (.if_icmp .ne 7) 61 0 0 0 [] [] = true := by decide +kernel
theorem rf_f_E_readsEngine_57 : rf_Fb rf_m_E_readsEngine 57 58 (.iconst (-1)) 0 0 0 0 [] [] = true := by decide +kernel
theorem rf_f_E_readsEngine_58 : rf_Fb rf_m_E_readsEngine 58 61 (.goto 11) 69 0 0 0 [] [] = true := by decide +kernel
theorem rf_f_E_readsEngine_61 : rf_Fb rf_m_E_readsEngine 61 62 (.aload_n 0) 0 0 0 0 [] [] = true := by decide +kernel
theorem rf_f_E_readsEngine_62 : rf_Fb rf_m_E_readsEngine 62 63 (.aload_n 1) 0 0 0 0 [] [] = true := by decide +kernel
theorem rf_f_E_readsEngine_63 : rf_Fb rf_m_E_readsEngine 63 64 (.iconst 0) 0 0 0 0 [] [] = true := by decide +kernel
theorem rf_f_E_readsEngine_64 : rf_Fb rf_m_E_readsEngine 64 66 (.bipush 9) 0 0 0 0 [] [] = true := by decide +kernel
theorem rf_f_E_readsEngine_66 : rf_Fb rf_m_E_readsEngine 66 69 (.invokevirtual 43) 33 3 0 1 [] [true, true, true] = true := by decide +kernel
theorem rf_f_E_readsEngine_69 : rf_Fb rf_m_E_readsEngine 69 72 (.putfield 53) 0 9 0 0 [] [] = true := by decide +kernel
theorem rf_f_E_readsEngine_72 : rf_Fb rf_m_E_readsEngine 72 73 (.aload_n 2) 0 0 0 0 [] [] = true := by decide +kernel
theorem rf_f_E_readsEngine_73 : rf_Fb rf_m_E_readsEngine 73 74 (.aload_n 2) 0 0 0 0 [] [] = true := by decide +kernel
theorem rf_f_E_readsEngine_74 : rf_Fb rf_m_E_readsEngine 74 77 (.getfield 53) 0 9 0 0 [] [] = true := by decide +kernel
theorem rf_f_E_readsEngine_77 : rf_Fb rf_m_E_readsEngine 77 78 (.iconst (-1)) 0 0 0 0 [] [] = true := by decide +kernel
theorem rf_f_E_readsEngine_78 : rf_Fb rf_m_E_readsEngine 78 81 (.if_icmp .ne 7) 85 0 0 0 [] [] = true := by decide +kernel
theorem rf_f_E_readsEngine_81 : rf_Fb rf_m_E_readsEngine 81 82 (.iconst (-1)) 0 0 0 0 [] [] = true := by decide +kernel
theorem rf_f_E_readsEngine_82 : rf_Fb rf_m_E_readsEngine 82 85 (.goto 10) 92 0 0 0 [] [] = true := by decide +kernel
theorem rf_f_E_readsEngine_85 : rf_Fb rf_m_E_readsEngine 85 86 (.aload_n 0) 0 0 0 0 [] [] = true := by decide +kernel
theorem rf_f_E_readsEngine_86 : rf_Fb rf_m_E_readsEngine 86 87 (.aload_n 1) 0 0 0 0 [] [] = true := by decide +kernel
theorem rf_f_E_readsEngine_87 : rf_Fb rf_m_E_readsEngine 87 88 (.iconst 0) 0 0 0 0 [] [] = true := by decide +kernel
theorem rf_f_E_readsEngine_88 : rf_Fb rf_m_E_readsEngine 88 89 (.iconst 3) 0 0 0 0 [] [] = true := by decide +kernel
theorem rf_f_E_readsEngine_89 : rf_Fb rf_m_E_readsEngine 89 92 (.invokevirtual 43) 33 3 0 1 [] [] = true := by decide +kernel
theorem rf_f_E_readsEngine_92 : rf_Fb rf_m_E_readsEngine 92 95 (.putfield 56) 0 10 0 0 [] [] = true := by decide +kernel
theorem rf_f_E_readsEngine_95 : rf_Fb rf_m_E_readsEngine 95 96 (.aload_n 2) 0 0 0 0 [] [] = true := by decide +kernel
theorem rf_f_E_readsEngine_96 : rf_Fb rf_m_E_readsEngine 96 99 (.getfield 56) 0 10 0 0 [] [] = true := by decide +kernel
theorem rf_f_E_readsEngine_99 : rf_Fb rf_m_E_readsEngine 99 100 (.iconst (-1)) 0 0 0 0 [] [] = true := by decide +kernel
theorem rf_f_E_readsEngine_100 : rf_Fb rf_m_E_readsEngine 100 103 (.if_icmp .eq 7) 107 0 0 0 [] [] = true := by decide +kernel
theorem rf_f_E_readsEngine_103 : rf_Fb rf_m_E_readsEngine 103 104 (.iconst 1) 0 0 0 0 [] [] = true := by decide +kernel
theorem rf_f_E_readsEngine_104 : rf_Fb rf_m_E_readsEngine 104 107 (.goto 4) 108 0 0 0 [] [] = true := by decide +kernel
theorem rf_f_E_readsEngine_107 : rf_Fb rf_m_E_readsEngine 107 108 (.iconst 0) 0 0 0 0 [] [] = true := by decide +kernel
theorem rf_f_E_readsEngine_108 : rf_Fb rf_m_E_readsEngine 108 109 (.ireturn) 0 0 1 0 [] [] = true := by decide +kernel
set_option maxRecDepth 20000 in
set_option maxHeartbeats 2000000 in
theorem rf_e_E_readsEngine (d : Nat) (o : Nat) (a1 : Option Nat) (a2 : Option Nat) (h : rf_H) : rf_call (d + 1) 31 [.inr (.inr (some o)), .inr (.inr a1), .inr (.inr a2)] h = (bif rf_isO h.1 o 1 then ((rf_call d 32 [.inr (.inr (some o)), .inr (.inr a1), .inl 101] h).bind fun q2 => rf_kI q2 fun x3 h1 => (if x3 = 0 then some (some (.inl 0), h1) else (bif rf_isO h1.1 o 1 then ((rf_call d 33 [.inr (.inr (some o)), .inr (.inr a1), .inl 1, .inl 9] h1).bind fun q5 => rf_kI q5 fun x6 h4 => (rf_nn a2 fun k7 => ((rf_pI h4 0 k7 7 x6).bind fun h8 => (rf_nn a2 fun k9 => ((rf_gI h8 0 k9 7).bind fun x10 => (if x10 = (-1) then rf_j_E_readsEngine_45 d o a1 a2 a2 (-1) h8 else (bif rf_isO h8.1 o 1 then ((rf_call d 33 [.inr (.inr (some o)), .inr (.inr a1), .inl 0, .inl 9] h8).bind fun q12 => rf_kI q12 fun x13 h11 => rf_j_E_readsEngine_45 d o a1 a2 a2 x13 h11) else none))))))) else none))) else none) := by
  show rf_den (rf_call d) (rf_mt 31) _ = _
  rw [rf_u_E_readsEngine]
  exact ((rf_s_aload_n rf_f_E_readsEngine_0 rfl (rf_m0 _) (rf_s_aload_n rf_f_E_readsEngine_1 rfl (rf_m0 _) (rf_s_bipush rf_f_E_readsEngine_2 (rf_m0 _) (rf_s_invV0S rf_f_E_readsEngine_4 rfl rfl (rf_m0 _) fun q2 x3 h1 => (rf_s_if_ne rf_f_E_readsEngine_7 rfl (rf_m0 _) (rf_m0 _) (rf_s_aload_n rf_f_E_readsEngine_12 rfl (rf_m0 _) (rf_s_aload_n rf_f_E_readsEngine_13 rfl (rf_m0 _) (rf_s_aload_n rf_f_E_readsEngine_14 rfl (rf_m0 _) (rf_s_iconst rf_f_E_readsEngine_15 (rf_m0 _) (rf_s_bipush rf_f_E_readsEngine_16 (rf_m0 _) (rf_s_invV0S rf_f_E_readsEngine_18 rfl rfl (rf_m0 _) fun q5 x6 h4 => (rf_s_putIR rf_f_E_readsEngine_21 (rf_m0 _) fun k7 h8 => (rf_s_aload_n rf_f_E_readsEngine_24 rfl (rf_m0 _) (rf_s_aload_n rf_f_E_readsEngine_25 rfl (rf_m0 _) (rf_s_getIR rf_f_E_readsEngine_26 (rf_m0 _) fun k9 x10 => (rf_s_iconst rf_f_E_readsEngine_29 (rf_m0 _) (rf_s_icmp_ne rf_f_E_readsEngine_30 rfl (rf_m0 _) (rf_m0 _) (rf_s_aload_n rf_f_E_readsEngine_37 rfl (rf_m0 _) (rf_s_aload_n rf_f_E_readsEngine_38 rfl (rf_m0 _) (rf_s_iconst rf_f_E_readsEngine_39 (rf_m0 _) (rf_s_bipush rf_f_E_readsEngine_40 (rf_m0 _) (rf_s_invV0S rf_f_E_readsEngine_42 rfl rfl rfl fun q12 x13 h11 => rfl))))) (rf_s_iconst rf_f_E_readsEngine_33 (rf_m0 _) (rf_s_goto rf_f_E_readsEngine_34 rfl rfl rfl)))))))))))))) (rf_s_iconst rf_f_E_readsEngine_10 (rf_m0 _) (rf_s_zretK rf_f_E_readsEngine_11 (by decide)))))))) : rf_den (rf_call d) rf_m_E_readsEngine (0, [some (.inr (.inr (some o))), some (.inr (.inr a1)), some (.inr (.inr a2))], [], h) = _)
set_option maxRecDepth 20000 in
set_option maxHeartbeats 2000000 in
theorem rf_e_E_readsEngine_45 (d : Nat) (o : Nat) (l1 : Option Nat) (l2 : Option Nat) (s0 : Option Nat) (s1 : Int) (h : rf_H) : rf_j_E_readsEngine_45 d o l1 l2 s0 s1 h = (rf_nn s0 fun k1 => ((rf_pI h 0 k1 8 s1).bind fun h2 => (rf_nn l2 fun k3 => ((rf_gI h2 0 k3 8).bind fun x4 => (if x4 = (-1) then rf_j_E_readsEngine_69 d o l1 l2 l2 (-1) h2 else (bif rf_isO h2.1 o 1 then ((rf_call d 33 [.inr (.inr (some o)), .inr (.inr l1), .inl 0, .inl 9] h2).bind fun q6 => rf_kI q6 fun x7 h5 => rf_j_E_readsEngine_69 d o l1 l2 l2 x7 h5) else none)))))) :=
  ((rf_s_putIR rf_f_E_readsEngine_45 (rf_m0 _) fun k1 h2 => (rf_s_aload_n rf_f_E_readsEngine_48 rfl (rf_m0 _) (rf_s_aload_n rf_f_E_readsEngine_49 rfl (rf_m0 _) (rf_s_getIR rf_f_E_readsEngine_50 (rf_m0 _) fun k3 x4 => (rf_s_iconst rf_f_E_readsEngine_53 (rf_m0 _) (rf_s_icmp_ne rf_f_E_readsEngine_54 rfl (rf_m0 _) (rf_m0 _) (rf_s_aload_n rf_f_E_readsEngine_61 rfl (rf_m0 _) (rf_s_aload_n rf_f_E_readsEngine_62 rfl (rf_m0 _) (rf_s_iconst rf_f_E_readsEngine_63 (rf_m0 _) (rf_s_bipush rf_f_E_readsEngine_64 (rf_m0 _) (rf_s_invV0S rf_f_E_readsEngine_66 rfl rfl rfl fun q6 x7 h5 => rfl))))) (rf_s_iconst rf_f_E_readsEngine_57 (rf_m0 _) (rf_s_goto rf_f_E_readsEngine_58 rfl rfl rfl)))))))) : rf_den (rf_call d) rf_m_E_readsEngine (45, [some (.inr (.inr (some o))), some (.inr (.inr l1)), some (.inr (.inr l2))], [.inl s1, .inr (.inr s0)], h) = _)
set_option maxRecDepth 20000 in
set_option maxHeartbeats 2000000 in
theorem rf_e_E_readsEngine_69 (d : Nat) (o : Nat) (l1 : Option Nat) (l2 : Option Nat) (s0 : Option Nat) (s1 : Int) (h : rf_H) : rf_j_E_readsEngine_69 d o l1 l2 s0 s1 h = (rf_nn s0 fun k1 => ((rf_pI h 0 k1 9 s1).bind fun h2 => (rf_nn l2 fun k3 => ((rf_gI h2 0 k3 9).bind fun x4 => (if x4 = (-1) then (rf_nn l2 fun k12 => ((rf_pI h2 0 k12 10 (-1)).bind fun h13 => (rf_nn l2 fun k14 => ((rf_gI h13 0 k14 10).bind fun x15 => (if x15 = (-1) then some (some (.inl 0), h13) else some (some (.inl 1), h13)))))) else (bif rf_isO h2.1 o 1 then ((rf_call d 33 [.inr (.inr (some o)), .inr (.inr l1), .inl 0, .inl 3] h2).bind fun q6 => rf_kI q6 fun x7 h5 => (rf_nn l2 fun k8 => ((rf_pI h5 0 k8 10 x7).bind fun h9 => (rf_nn l2 fun k10 => ((rf_gI h9 0 k10 10).bind fun x11 => (if x11 = (-1) then some (some (.inl 0), h9) else some (some (.inl 1), h9))))))) else none)))))) :=
  ((rf_s_putIR rf_f_E_readsEngine_69 (rf_m0 _) fun k1 h2 => (rf_s_aload_n rf_f_E_readsEngine_72 rfl (rf_m0 _) (rf_s_aload_n rf_f_E_readsEngine_73 rfl (rf_m0 _) (rf_s_getIR rf_f_E_readsEngine_74 (rf_m0 _) fun k3 x4 => (rf_s_iconst rf_f_E_readsEngine_77 (rf_m0 _) (rf_s_icmp_ne rf_f_E_readsEngine_78 rfl (rf_m0 _) (rf_m0 _) (rf_s_aload_n rf_f_E_readsEngine_85 rfl (rf_m0 _) (rf_s_aload_n rf_f_E_readsEngine_86 rfl (rf_m0 _) (rf_s_iconst rf_f_E_readsEngine_87 (rf_m0 _) (rf_s_iconst rf_f_E_readsEngine_88 (rf_m0 _) (rf_s_invV0S rf_f_E_readsEngine_89 rfl rfl (rf_m0 _) fun q6 x7 h5 => (rf_s_putIR rf_f_E_readsEngine_92 (rf_m0 _) fun k8 h9 => (rf_s_aload_n rf_f_E_readsEngine_95 rfl (rf_m0 _) (rf_s_getIR rf_f_E_readsEngine_96 (rf_m0 _) fun k10 x11 => (rf_s_iconst rf_f_E_readsEngine_99 (rf_m0 _) (rf_s_icmp_eq rf_f_E_readsEngine_100 rfl (rf_m0 _) (rf_m0 _) (rf_s_iconst rf_f_E_readsEngine_107 (rf_m0 _) (rf_s_zretK rf_f_E_readsEngine_108 (by decide))) (rf_s_iconst rf_f_E_readsEngine_103 (rf_m0 _) (rf_s_goto rf_f_E_readsEngine_104 rfl (rf_m0 _) (rf_s_zretK rf_f_E_readsEngine_108 (by decide)))))))))))))) (rf_s_iconst rf_f_E_readsEngine_81 (rf_m0 _) (rf_s_goto rf_f_E_readsEngine_82 rfl (rf_m0 _) (rf_s_putIR rf_f_E_readsEngine_92 (rf_m0 _) fun k12 h13 => (rf_s_aload_n rf_f_E_readsEngine_95 rfl (rf_m0 _) (rf_s_getIR rf_f_E_readsEngine_96 (rf_m0 _) fun k14 x15 => (rf_s_iconst rf_f_E_readsEngine_99 (rf_m0 _) (rf_s_icmp_eq rf_f_E_readsEngine_100 rfl (rf_m0 _) (rf_m0 _) (rf_s_iconst rf_f_E_readsEngine_107 (rf_m0 _) (rf_s_zretK rf_f_E_readsEngine_108 (by decide))) (rf_s_iconst rf_f_E_readsEngine_103 (rf_m0 _) (rf_s_goto rf_f_E_readsEngine_104 rfl (rf_m0 _) (rf_s_zretK rf_f_E_readsEngine_108 (by decide))))))))))))))))) : rf_den (rf_call d) rf_m_E_readsEngine (69, [some (.inr (.inr (some o))), some (.inr (.inr l1)), some (.inr (.inr l2))], [.inl s1, .inr (.inr s0)], h) = _)
theorem rf_u_E_readsLetter : rf_mt 32 = rf_m_E_readsLetter := rfl
theorem rf_f_E_readsLetter_0 : rf_Fb rf_m_E_readsLetter 0 1 (.aload_n 0) 0 0 0 0 [] [] = true := by decide +kernel
theorem rf_f_E_readsLetter_1 : rf_Fb rf_m_E_readsLetter 1 2 (.aload_n 1) 0 0 0 0 [] [] = true := by decide +kernel
theorem rf_f_E_readsLetter_2 : rf_Fb rf_m_E_readsLetter 2 5 (.invokevirtual 63) 30 1 0 1 [] [] = true := by decide +kernel
theorem rf_f_E_readsLetter_5 : rf_Fb rf_m_E_readsLetter 5 6 (.iload_n 2) 0 0 0 0 [] [] = true := by decide +kernel
theorem rf_f_E_readsLetter_6 : rf_Fb rf_m_E_readsLetter 6 9 (.if_icmp .eq 5) 11 0 0 0 [] [] = true := by decide +kernel
theorem rf_f_E_readsLetter_9 : rf_Fb rf_m_E_readsLetter 9 10 (.iconst 0) 0 0 0 0 [] [] = true := by decide +kernel
theorem rf_f_E_readsLetter_10 : rf_Fb rf_m_E_readsLetter 10 11 (.ireturn) 0 0 1 0 [] [] = true := by decide +kernel
theorem rf_f_E_readsLetter_11 : rf_Fb rf_m_E_readsLetter 11 12 (.aload_n 0) 0 0 0 0 [] [] = true := by decide +kernel
theorem rf_f_E_readsLetter_12 : rf_Fb rf_m_E_readsLetter 12 13 (.dup) 0 0 0 0 [] [] = true := by decide +kernel
theorem rf_f_E_readsLetter_13 : rf_Fb rf_m_E_readsLetter 13 16 (.getfield 9) 1 0 0 0 [] [] = true := by decide +kernel
theorem rf_f_E_readsLetter_16 : rf_Fb rf_m_E_readsLetter 16 17 (.iconst 1) 0 0 0 0 [] [] = true := by decide +kernel
theorem rf_f_E_readsLetter_17 : rf_Fb rf_m_E_readsLetter 17 18 (.iadd) 0 0 0 0 [] [] = true := by decide +kernel
theorem rf_f_E_readsLetter_18 : rf_Fb rf_m_E_readsLetter 18 21 (.putfield 9) 1 0 0 0 [] [] = true := by decide +kernel
theorem rf_f_E_readsLetter_21 : rf_Fb rf_m_E_readsLetter 21 22 (.iconst 1) 0 0 0 0 [] [] = true := by decide +kernel
theorem rf_f_E_readsLetter_22 : rf_Fb rf_m_E_readsLetter 22 23 (.ireturn) 0 0 1 0 [] [] = true := by decide +kernel
set_option maxRecDepth 20000 in
set_option maxHeartbeats 2000000 in
theorem rf_e_E_readsLetter (d : Nat) (o : Nat) (a1 : Option Nat) (a2 : Int) (h : rf_H) : rf_call (d + 1) 32 [.inr (.inr (some o)), .inr (.inr a1), .inl a2] h = (bif rf_isO h.1 o 1 then ((rf_call d 30 [.inr (.inr (some o)), .inr (.inr a1)] h).bind fun q2 => rf_kI q2 fun x3 h1 => (if x3 = a2 then ((rf_gI h1 1 o 0).bind fun x4 => ((rf_pI h1 1 o 0 (rf_w (x4 + 1))).bind fun h5 => some (some (.inl 1), h5))) else some (some (.inl 0), h1))) else none) := by
  show rf_den (rf_call d) (rf_mt 32) _ = _
  rw [rf_u_E_readsLetter]
  exact ((rf_s_aload_n rf_f_E_readsLetter_0 rfl (rf_m0 _) (rf_s_aload_n rf_f_E_readsLetter_1 rfl (rf_m0 _) (rf_s_invV0S rf_f_E_readsLetter_2 rfl rfl (rf_m0 _) fun q2 x3 h1 => (rf_s_iload_n rf_f_E_readsLetter_5 rfl (rf_m0 _) (rf_s_icmp_eq rf_f_E_readsLetter_6 rfl (rf_m0 _) (rf_m0 _) (rf_s_aload_n rf_f_E_readsLetter_11 rfl (rf_m0 _) (rf_s_dupA rf_f_E_readsLetter_12 (rf_m0 _) (rf_s_getIS rf_f_E_readsLetter_13 (rf_m0 _) fun x4 => (rf_s_iconst rf_f_E_readsLetter_16 (rf_m0 _) (rf_s_iadd rf_f_E_readsLetter_17 (rf_m0 _) (rf_s_putIS rf_f_E_readsLetter_18 (rf_m0 _) fun h5 => (rf_s_iconst rf_f_E_readsLetter_21 (rf_m0 _) (rf_s_zretK rf_f_E_readsLetter_22 (by decide))))))))) (rf_s_iconst rf_f_E_readsLetter_9 (rf_m0 _) (rf_s_zretK rf_f_E_readsLetter_10 (by decide)))))))) : rf_den (rf_call d) rf_m_E_readsLetter (0, [some (.inr (.inr (some o))), some (.inr (.inr a1)), some (.inl a2)], [], h) = _)
theorem rf_u_E_readFigure : rf_mt 33 = rf_m_E_readFigure := rfl
theorem rf_f_E_readFigure_0 : rf_Fb rf_m_E_readFigure 0 1 (.aload_n 0) 0 0 0 0 [] [] = true := by decide +kernel
theorem rf_f_E_readFigure_1 : rf_Fb rf_m_E_readFigure 1 2 (.aload_n 1) 0 0 0 0 [] [] = true := by decide +kernel
theorem rf_f_E_readFigure_2 : rf_Fb rf_m_E_readFigure 2 5 (.invokevirtual 63) 30 1 0 1 [] [] = true := by decide +kernel
theorem rf_f_E_readFigure_5 : rf_Fb rf_m_E_readFigure 5 7 (.bipush 48) 0 0 0 0 [] [] = true := by decide +kernel
theorem rf_f_E_readFigure_7 : rf_Fb rf_m_E_readFigure 7 8 (.isub) 0 0 0 0 [] [] = true := by decide +kernel
theorem rf_f_E_readFigure_8 : rf_Fb rf_m_E_readFigure 8 10 (.istore 4) 0 0 0 0 [] [] = true := by decide +kernel
theorem rf_f_E_readFigure_10 : rf_Fb rf_m_E_readFigure 10 12 (.iload 4) 0 0 0 0 [] [] = true := by decide +kernel
theorem rf_f_E_readFigure_12 : rf_Fb rf_m_E_readFigure 12 13 (.iload_n 2) 0 0 0 0 [] [] = true := by decide +kernel
theorem rf_f_E_readFigure_13 : rf_Fb rf_m_E_readFigure 13 16 (.if_icmp .lt 9) 22 0 0 0 [] [] = true := by decide +kernel
theorem rf_f_E_readFigure_16 : rf_Fb rf_m_E_readFigure 16 18 (.iload 4) 0 0 0 0 [] [] = true := by decide +kernel
theorem rf_f_E_readFigure_18 : rf_Fb rf_m_E_readFigure 18 19 (.iload_n 3) 0 0 0 0 [] [] = true := by decide +kernel
theorem rf_f_E_readFigure_19 : rf_Fb rf_m_E_readFigure 19 22 (.if_icmp .le 5) 24 0 0 0 [] [] = true := by decide +kernel
theorem rf_f_E_readFigure_22 : rf_Fb rf_m_E_readFigure 22 23 (.iconst (-1)) 0 0 0 0 [] [] = true := by decide +kernel
theorem rf_f_E_readFigure_23 : rf_Fb rf_m_E_readFigure 23 24 (.ireturn) 0 0 0 0 [] [] = true := by decide +kernel
theorem rf_f_E_readFigure_24 : rf_Fb rf_m_E_readFigure 24 25 (.aload_n 0) 0 0 0 0 [] [] = true := by decide +kernel
theorem rf_f_E_readFigure_25 : rf_Fb rf_m_E_readFigure 25 26 (.dup) 0 0 0 0 [] [] = true := by decide +kernel
theorem rf_f_E_readFigure_26 : rf_Fb rf_m_E_readFigure 26 29 (.getfield 9) 1 0 0 0 [] [] = true := by decide +kernel
theorem rf_f_E_readFigure_29 : rf_Fb rf_m_E_readFigure 29 30 (.iconst 1) 0 0 0 0 [] [] = true := by decide +kernel
theorem rf_f_E_readFigure_30 : rf_Fb rf_m_E_readFigure 30 31 (.iadd) 0 0 0 0 [] [] = true := by decide +kernel
theorem rf_f_E_readFigure_31 : rf_Fb rf_m_E_readFigure 31 34 (.putfield 9) 1 0 0 0 [] [] = true := by decide +kernel
theorem rf_f_E_readFigure_34 : rf_Fb rf_m_E_readFigure 34 36 (.iload 4) 0 0 0 0 [] [] = true := by decide +kernel
theorem rf_f_E_readFigure_36 : rf_Fb rf_m_E_readFigure 36 37 (.ireturn) 0 0 0 0 [] [] = true := by decide +kernel
set_option maxRecDepth 20000 in
set_option maxHeartbeats 2000000 in
theorem rf_e_E_readFigure (d : Nat) (o : Nat) (a1 : Option Nat) (a2 : Int) (a3 : Int) (h : rf_H) : rf_call (d + 1) 33 [.inr (.inr (some o)), .inr (.inr a1), .inl a2, .inl a3] h = (bif rf_isO h.1 o 1 then ((rf_call d 30 [.inr (.inr (some o)), .inr (.inr a1)] h).bind fun q2 => rf_kI q2 fun x3 h1 => (if (rf_w (x3 - 48)) < a2 then some (some (.inl (-1)), h1) else (if a3 < (rf_w (x3 - 48)) then some (some (.inl (-1)), h1) else ((rf_gI h1 1 o 0).bind fun x4 => ((rf_pI h1 1 o 0 (rf_w (x4 + 1))).bind fun h5 => some (some (.inl (rf_w (x3 - 48))), h5)))))) else none) := by
  show rf_den (rf_call d) (rf_mt 33) _ = _
  rw [rf_u_E_readFigure]
  exact ((rf_s_aload_n rf_f_E_readFigure_0 rfl (rf_m0 _) (rf_s_aload_n rf_f_E_readFigure_1 rfl (rf_m0 _) (rf_s_invV0S rf_f_E_readFigure_2 rfl rfl (rf_m0 _) fun q2 x3 h1 => (rf_s_bipush rf_f_E_readFigure_5 (rf_m0 _) (rf_s_isub rf_f_E_readFigure_7 (rf_m0 _) (rf_s_istore (L' := [some (.inr (.inr (some o))), some (.inr (.inr a1)), some (.inl a2), some (.inl a3), some (.inl (rf_w (x3 - 48)))]) rf_f_E_readFigure_8 rfl (rf_s_iload rf_f_E_readFigure_10 rfl (rf_m0 _) (rf_s_iload_n rf_f_E_readFigure_12 rfl (rf_m0 _) (rf_s_icmp_lt rf_f_E_readFigure_13 rfl (rf_m0 _) (rf_m0 _) (rf_s_iconst rf_f_E_readFigure_22 (rf_m0 _) (rf_s_iret rf_f_E_readFigure_23)) (rf_s_iload rf_f_E_readFigure_16 rfl (rf_m0 _) (rf_s_iload_n rf_f_E_readFigure_18 rfl (rf_m0 _) (rf_s_icmp_le rf_f_E_readFigure_19 rfl (rf_m0 _) (rf_m0 _) (rf_s_aload_n rf_f_E_readFigure_24 rfl (rf_m0 _) (rf_s_dupA rf_f_E_readFigure_25 (rf_m0 _) (rf_s_getIS rf_f_E_readFigure_26 (rf_m0 _) fun x4 => (rf_s_iconst rf_f_E_readFigure_29 (rf_m0 _) (rf_s_iadd rf_f_E_readFigure_30 (rf_m0 _) (rf_s_putIS rf_f_E_readFigure_31 (rf_m0 _) fun h5 => (rf_s_iload rf_f_E_readFigure_34 rfl (rf_m0 _) (rf_s_iret rf_f_E_readFigure_36)))))))) (rf_s_iconst rf_f_E_readFigure_22 (rf_m0 _) (rf_s_iret rf_f_E_readFigure_23)))))))))))))) : rf_den (rf_call d) rf_m_E_readFigure (0, [some (.inr (.inr (some o))), some (.inr (.inr a1)), some (.inl a2), some (.inl a3), none], [], h) = _)
noncomputable def rf_j_E_readsRails_14 (d : Nat) (o : Nat) (l1 : Option Nat) (l2 : Option Nat) (l3 : Int) (h : rf_H) : Option rf_R := rf_den (rf_call d) rf_m_E_readsRails (14, [some (.inr (.inr (some o))), some (.inr (.inr l1)), some (.inr (.inr l2)), some (.inl l3), none], [], h)
theorem rf_u_E_readsRails : rf_mt 34 = rf_m_E_readsRails := rfl
theorem rf_f_E_readsRails_0 : rf_Fb rf_m_E_readsRails 0 1 (.aload_n 0) 0 0 0 0 [] [] = true := by decide +kernel
theorem rf_f_E_readsRails_1 : rf_Fb rf_m_E_readsRails 1 2 (.aload_n 1) 0 0 0 0 [] [] = true := by decide +kernel
theorem rf_f_E_readsRails_2 : rf_Fb rf_m_E_readsRails 2 4 (.bipush 105) 0 0 0 0 [] [] = true := by decide +kernel
theorem rf_f_E_readsRails_4 : rf_Fb rf_m_E_readsRails 4 7 (.invokevirtual 39) 32 2 0 1 [] [] = true := by decide +kernel
theorem rf_f_E_readsRails_7 : rf_Fb rf_m_E_readsRails 7 10 (.ifCond .ne 5) 12 0 0 0 [] [] = true := by decide +kernel
theorem rf_f_E_readsRails_10 : rf_Fb rf_m_E_readsRails 10 11 (.iconst 0) 0 0 0 0 [] [] = true := by decide +kernel
theorem rf_f_E_readsRails_11 : rf_Fb rf_m_E_readsRails 11 12 (.ireturn) 0 0 1 0 [] [] = true := by decide +kernel
theorem rf_f_E_readsRails_12 : rf_Fb rf_m_E_readsRails 12 13 (.iconst 0) 0 0 0 0 [] [] = true := by decide +kernel
theorem rf_f_E_readsRails_13 : rf_Fb rf_m_E_readsRails 13 14 (.istore_n 3) 0 0 0 0 [] [true, true, true, true, false] = true := by decide +kernel
theorem rf_f_E_readsRails_14 : rf_Fb rf_m_E_readsRails 14 15 (.iload_n 3) 0 0 0 0 [] [] = true := by decide +kernel
theorem rf_f_E_readsRails_15 : rf_Fb rf_m_E_readsRails 15 17 (.bipush 6) 0 0 0 0 [] [] = true := by decide +kernel
theorem rf_f_E_readsRails_17 : rf_Fb rf_m_E_readsRails 17 20 (.if_icmp .ge 51) 68 0 0 0 [] [] = true := by decide +kernel
theorem rf_f_E_readsRails_20 : rf_Fb rf_m_E_readsRails 20 23 (.getstatic 59) 1000001 0 0 0 [] [] = true := by decide +kernel
theorem rf_f_E_readsRails_23 : rf_Fb rf_m_E_readsRails 23 24 (.aload_n 0) 0 0 0 0 [] [] = true := by decide +kernel
theorem rf_f_E_readsRails_24 : rf_Fb rf_m_E_readsRails 24 25 (.aload_n 1) 0 0 0 0 [] [] = true := by decide +kernel
theorem rf_f_E_readsRails_25 : rf_Fb rf_m_E_readsRails 25 28 (.invokevirtual 63) 30 1 0 1 [] [] = true := by decide +kernel
theorem rf_f_E_readsRails_28 : rf_Fb rf_m_E_readsRails 28 31 (.invokestatic 67) 35 2 0 0 [] [] = true := by decide +kernel
theorem rf_f_E_readsRails_31 : rf_Fb rf_m_E_readsRails 31 33 (.istore 4) 0 0 0 0 [] [] = true := by decide +kernel
theorem rf_f_E_readsRails_33 : rf_Fb rf_m_E_readsRails 33 35 (.iload 4) 0 0 0 0 [] [] = true := by decide +kernel
theorem rf_f_E_readsRails_35 : rf_Fb rf_m_E_readsRails 35 37 (.bipush (-9)) 0 0 0 0 [] [] = true := by decide +kernel
theorem rf_f_E_readsRails_37 : rf_Fb rf_m_E_readsRails 37 40 (.if_icmp .ne 6) 43 0 0 0 [] [] = true := by decide +kernel
theorem rf_f_E_readsRails_40 : rf_Fb rf_m_E_readsRails 40 43 (.goto 28) 68 0 0 0 [] [] = true := by decide +kernel
theorem rf_f_E_readsRails_43 : rf_Fb rf_m_E_readsRails 43 44 (.aload_n 2) 0 0 0 0 [] [] = true := by decide +kernel
theorem rf_f_E_readsRails_44 : rf_Fb rf_m_E_readsRails 44 47 (.getfield 71) 0 0 2 0 [] [] = true := by decide +kernel
theorem rf_f_E_readsRails_47 : rf_Fb rf_m_E_readsRails 47 49 (.iload 4) 0 0 0 0 [] [] = true := by decide +kernel
theorem rf_f_E_readsRails_49 : rf_Fb rf_m_E_readsRails 49 52 (.invokevirtual 75) 10 1 3 2 [] [] = true := by decide +kernel
theorem rf_f_E_readsRails_52 : rf_Fb rf_m_E_readsRails 52 53 (.aload_n 0) 0 0 0 0 [] [] = true := by decide +kernel
theorem rf_f_E_readsRails_53 : rf_Fb rf_m_E_readsRails 53 54 (.dup) 0 0 0 0 [] [] = true := by decide +kernel
theorem rf_f_E_readsRails_54 : rf_Fb rf_m_E_readsRails 54 57 (.getfield 9) 1 0 0 0 [] [] = true := by decide +kernel
theorem rf_f_E_readsRails_57 : rf_Fb rf_m_E_readsRails 57 58 (.iconst 1) 0 0 0 0 [] [] = true := by decide +kernel
theorem rf_f_E_readsRails_58 : rf_Fb rf_m_E_readsRails 58 59 (.iadd) 0 0 0 0 [] [] = true := by decide +kernel
theorem rf_f_E_readsRails_59 : rf_Fb rf_m_E_readsRails 59 62 (.putfield 9) 1 0 0 0 [] [] = true := by decide +kernel
theorem rf_f_E_readsRails_62 : rf_Fb rf_m_E_readsRails 62 65 (.iinc 3 1) 0 0 0 0 [] [] = true := by decide +kernel
theorem rf_f_E_readsRails_65 : rf_Fb rf_m_E_readsRails 65 68 (.goto (-51)) 14 0 0 0 [] [] = true := by decide +kernel
theorem rf_f_E_readsRails_68 : rf_Fb rf_m_E_readsRails 68 69 (.aload_n 2) 0 0 0 0 [] [] = true := by decide +kernel
theorem rf_f_E_readsRails_69 : rf_Fb rf_m_E_readsRails 69 72 (.getfield 71) 0 0 2 0 [] [] = true := by decide +kernel
theorem rf_f_E_readsRails_72 : rf_Fb rf_m_E_readsRails 72 75 (.getfield 31) 2 1 0 0 [] [] = true := by decide +kernel
theorem rf_f_E_readsRails_75 : rf_Fb rf_m_E_readsRails 75 78 (.ifCond .le 7) 82 0 0 0 [] [] = true := by decide +kernel
theorem rf_f_E_readsRails_78 : rf_Fb rf_m_E_readsRails 78 79 (.iconst 1) 0 0 0 0 [] [] = true := by decide +kernel
theorem rf_f_E_readsRails_79 : rf_Fb rf_m_E_readsRails 79 82 (.goto 4) 83 0 0 0 [] [] = true := by decide +kernel
theorem rf_f_E_readsRails_82 : rf_Fb rf_m_E_readsRails 82 83 (.iconst 0) 0 0 0 0 [] [] = true := by decide +kernel
theorem rf_f_E_readsRails_83 : rf_Fb rf_m_E_readsRails 83 84 (.ireturn) 0 0 1 0 [] [] = true := by decide +kernel
set_option maxRecDepth 20000 in
set_option maxHeartbeats 2000000 in
theorem rf_e_E_readsRails (d : Nat) (o : Nat) (a1 : Option Nat) (a2 : Option Nat) (h : rf_H) : rf_call (d + 1) 34 [.inr (.inr (some o)), .inr (.inr a1), .inr (.inr a2)] h = (bif rf_isO h.1 o 1 then ((rf_call d 32 [.inr (.inr (some o)), .inr (.inr a1), .inl 105] h).bind fun q2 => rf_kI q2 fun x3 h1 => (if x3 = 0 then some (some (.inl 0), h1) else rf_j_E_readsRails_14 d o a1 a2 0 h1)) else none) := by
  show rf_den (rf_call d) (rf_mt 34) _ = _
  rw [rf_u_E_readsRails]
  exact ((rf_s_aload_n rf_f_E_readsRails_0 rfl (rf_m0 _) (rf_s_aload_n rf_f_E_readsRails_1 rfl (rf_m0 _) (rf_s_bipush rf_f_E_readsRails_2 (rf_m0 _) (rf_s_invV0S rf_f_E_readsRails_4 rfl rfl (rf_m0 _) fun q2 x3 h1 => (rf_s_if_ne rf_f_E_readsRails_7 rfl (rf_m0 _) (rf_m0 _) (rf_s_iconst rf_f_E_readsRails_12 (rf_m0 _) (rf_s_istore_n rf_f_E_readsRails_13 rfl rfl)) (rf_s_iconst rf_f_E_readsRails_10 (rf_m0 _) (rf_s_zretK rf_f_E_readsRails_11 (by decide)))))))) : rf_den (rf_call d) rf_m_E_readsRails (0, [some (.inr (.inr (some o))), some (.inr (.inr a1)), some (.inr (.inr a2)), none, none], [], h) = _)
set_option maxRecDepth 20000 in
set_option maxHeartbeats 2000000 in
theorem rf_e_E_readsRails_14 (d : Nat) (o : Nat) (l1 : Option Nat) (l2 : Option Nat) (l3 : Int) (h : rf_H) : rf_j_E_readsRails_14 d o l1 l2 l3 h = (if l3 < 6 then (bif rf_isO h.1 o 1 then ((rf_call d 30 [.inr (.inr (some o)), .inr (.inr l1)] h).bind fun q6 => rf_kI q6 fun x7 h5 => ((rf_call d 35 [.inr (.inr (some 1000001)), .inl x7] h5).bind fun q9 => rf_kI q9 fun x10 h8 => (if x10 = (-9) then (rf_nn l2 fun k18 => ((rf_gR h8 0 k18 0).bind fun x19 => (rf_nn x19 fun k20 => ((rf_gI h8 2 k20 1).bind fun x21 => (if 0 < x21 then some (some (.inl 1), h8) else some (some (.inl 0), h8)))))) else (rf_nn l2 fun k11 => ((rf_gR h8 0 k11 0).bind fun x12 => (rf_nn x12 fun k13 => (bif rf_isO h8.1 k13 2 then ((rf_call d 10 [.inr (.inr (some k13)), .inl x10] h8).bind fun q15 => rf_kV q15 fun h14 => ((rf_gI h14 1 o 0).bind fun x16 => ((rf_pI h14 1 o 0 (rf_w (x16 + 1))).bind fun h17 => rf_j_E_readsRails_14 d o l1 l2 (rf_w (l3 + 1)) h17))) else none))))))) else none) else (rf_nn l2 fun k1 => ((rf_gR h 0 k1 0).bind fun x2 => (rf_nn x2 fun k3 => ((rf_gI h 2 k3 1).bind fun x4 => (if 0 < x4 then some (some (.inl 1), h) else some (some (.inl 0), h))))))) :=
  ((rf_s_iload_n rf_f_E_readsRails_14 rfl (rf_m0 _) (rf_s_bipush rf_f_E_readsRails_15 (rf_m0 _) (rf_s_icmp_ge rf_f_E_readsRails_17 rfl (rf_m0 _) (rf_m0 _) (rf_s_aload_n rf_f_E_readsRails_68 rfl (rf_m0 _) (rf_s_getAR rf_f_E_readsRails_69 (rf_m0 _) fun k1 x2 => (rf_s_getIR rf_f_E_readsRails_72 (rf_m0 _) fun k3 x4 => (rf_s_if_le rf_f_E_readsRails_75 rfl (rf_m0 _) (rf_m0 _) (rf_s_iconst rf_f_E_readsRails_82 (rf_m0 _) (rf_s_zretK rf_f_E_readsRails_83 (by decide))) (rf_s_iconst rf_f_E_readsRails_78 (rf_m0 _) (rf_s_goto rf_f_E_readsRails_79 rfl (rf_m0 _) (rf_s_zretK rf_f_E_readsRails_83 (by decide)))))))) (rf_s_getstatic rf_f_E_readsRails_20 (rf_m0 _) (rf_s_aload_n rf_f_E_readsRails_23 rfl (rf_m0 _) (rf_s_aload_n rf_f_E_readsRails_24 rfl (rf_m0 _) (rf_s_invV0S rf_f_E_readsRails_25 rfl rfl (rf_m0 _) fun q6 x7 h5 => (rf_s_invS0 rf_f_E_readsRails_28 rfl rfl (rf_m0 _) fun q9 x10 h8 => (rf_s_istore (L' := [some (.inr (.inr (some o))), some (.inr (.inr l1)), some (.inr (.inr l2)), some (.inl l3), some (.inl x10)]) rf_f_E_readsRails_31 rfl (rf_s_iload rf_f_E_readsRails_33 rfl (rf_m0 _) (rf_s_bipush rf_f_E_readsRails_35 (rf_m0 _) (rf_s_icmp_ne rf_f_E_readsRails_37 rfl (rf_m0 _) (rf_m0 _) (rf_s_aload_n rf_f_E_readsRails_43 rfl (rf_m0 _) (rf_s_getAR rf_f_E_readsRails_44 (rf_m0 _) fun k11 x12 => (rf_s_iload rf_f_E_readsRails_47 rfl (rf_m0 _) (rf_s_invV3R rf_f_E_readsRails_49 rfl rfl (rf_m0 _) fun k13 q15 h14 => (rf_s_aload_n rf_f_E_readsRails_52 rfl (rf_m0 _) (rf_s_dupA rf_f_E_readsRails_53 (rf_m0 _) (rf_s_getIS rf_f_E_readsRails_54 (rf_m0 _) fun x16 => (rf_s_iconst rf_f_E_readsRails_57 (rf_m0 _) (rf_s_iadd rf_f_E_readsRails_58 (rf_m0 _) (rf_s_putIS rf_f_E_readsRails_59 (rf_m0 _) fun h17 => (rf_s_iinc (L' := [some (.inr (.inr (some o))), some (.inr (.inr l1)), some (.inr (.inr l2)), some (.inl (rf_w (l3 + 1))), some (.inl x10)]) rf_f_E_readsRails_62 rfl rfl (rf_s_goto rf_f_E_readsRails_65 rfl rfl rfl)))))))))))) (rf_s_goto rf_f_E_readsRails_40 rfl (rf_m0 _) (rf_s_aload_n rf_f_E_readsRails_68 rfl (rf_m0 _) (rf_s_getAR rf_f_E_readsRails_69 (rf_m0 _) fun k18 x19 => (rf_s_getIR rf_f_E_readsRails_72 (rf_m0 _) fun k20 x21 => (rf_s_if_le rf_f_E_readsRails_75 rfl (rf_m0 _) (rf_m0 _) (rf_s_iconst rf_f_E_readsRails_82 (rf_m0 _) (rf_s_zretK rf_f_E_readsRails_83 (by decide))) (rf_s_iconst rf_f_E_readsRails_78 (rf_m0 _) (rf_s_goto rf_f_E_readsRails_79 rfl (rf_m0 _) (rf_s_zretK rf_f_E_readsRails_83 (by decide))))))))))))))))))))) : rf_den (rf_call d) rf_m_E_readsRails (14, [some (.inr (.inr (some o))), some (.inr (.inr l1)), some (.inr (.inr l2)), some (.inl l3), none], [], h) = _)
noncomputable def rf_j_E_indexOf_2 (d : Nat) (l0 : Option Nat) (l1 : Int) (l2 : Int) (h : rf_H) : Option rf_R := rf_den (rf_call d) rf_m_E_indexOf (2, [some (.inr (.inr l0)), some (.inl l1), some (.inl l2)], [], h)
theorem rf_u_E_indexOf : rf_mt 35 = rf_m_E_indexOf := rfl
theorem rf_f_E_indexOf_0 : rf_Fb rf_m_E_indexOf 0 1 (.iconst 0) 0 0 0 0 [] [] = true := by decide +kernel
theorem rf_f_E_indexOf_1 : rf_Fb rf_m_E_indexOf 1 2 (.istore_n 2) 0 0 0 0 [] [true, true, true] = true := by decide +kernel
theorem rf_f_E_indexOf_2 : rf_Fb rf_m_E_indexOf 2 3 (.iload_n 2) 0 0 0 0 [] [] = true := by decide +kernel
theorem rf_f_E_indexOf_3 : rf_Fb rf_m_E_indexOf 3 4 (.aload_n 0) 0 0 0 0 [] [] = true := by decide +kernel
theorem rf_f_E_indexOf_4 : rf_Fb rf_m_E_indexOf 4 5 (.arraylength) 0 0 0 0 [] [] = true := by decide +kernel
theorem rf_f_E_indexOf_5 : rf_Fb rf_m_E_indexOf 5 8 (.if_icmp .ge 18) 23 0 0 0 [] [] = true := by decide +kernel
theorem rf_f_E_indexOf_8 : rf_Fb rf_m_E_indexOf 8 9 (.aload_n 0) 0 0 0 0 [] [] = true := by decide +kernel
theorem rf_f_E_indexOf_9 : rf_Fb rf_m_E_indexOf 9 10 (.iload_n 2) 0 0 0 0 [] [] = true := by decide +kernel
theorem rf_f_E_indexOf_10 : rf_Fb rf_m_E_indexOf 10 11 (.iaload) 0 0 0 0 [] [] = true := by decide +kernel
theorem rf_f_E_indexOf_11 : rf_Fb rf_m_E_indexOf 11 12 (.iload_n 1) 0 0 0 0 [] [] = true := by decide +kernel
theorem rf_f_E_indexOf_12 : rf_Fb rf_m_E_indexOf 12 15 (.if_icmp .ne 5) 17 0 0 0 [] [] = true := by decide +kernel
theorem rf_f_E_indexOf_15 : rf_Fb rf_m_E_indexOf 15 16 (.iload_n 2) 0 0 0 0 [] [] = true := by decide +kernel
theorem rf_f_E_indexOf_16 : rf_Fb rf_m_E_indexOf 16 17 (.ireturn) 0 0 0 0 [] [] = true := by decide +kernel
theorem rf_f_E_indexOf_17 : rf_Fb rf_m_E_indexOf 17 20 (.iinc 2 1) 0 0 0 0 [] [] = true := by decide +kernel
theorem rf_f_E_indexOf_20 : rf_Fb rf_m_E_indexOf 20 23 (.goto (-18)) 2 0 0 0 [] [] = true := by decide +kernel
theorem rf_f_E_indexOf_23 : rf_Fb rf_m_E_indexOf 23 25 (.bipush (-9)) 0 0 0 0 [] [] = true := by decide +kernel
theorem rf_f_E_indexOf_25 : rf_Fb rf_m_E_indexOf 25 26 (.ireturn) 0 0 0 0 [] [] = true := by decide +kernel
set_option maxRecDepth 20000 in
set_option maxHeartbeats 2000000 in
theorem rf_e_E_indexOf (d : Nat) (a1 : Option Nat) (a2 : Int) (h : rf_H) : rf_call (d + 1) 35 [.inr (.inr a1), .inl a2] h = rf_j_E_indexOf_2 d a1 a2 0 h := by
  show rf_den (rf_call d) (rf_mt 35) _ = _
  rw [rf_u_E_indexOf]
  exact ((rf_s_iconst rf_f_E_indexOf_0 (rf_m0 _) (rf_s_istore_n rf_f_E_indexOf_1 rfl rfl)) : rf_den (rf_call d) rf_m_E_indexOf (0, [some (.inr (.inr a1)), some (.inl a2), none], [], h) = _)
set_option maxRecDepth 20000 in
set_option maxHeartbeats 2000000 in
theorem rf_e_E_indexOf_2 (d : Nat) (l0 : Option Nat) (l1 : Int) (l2 : Int) (h : rf_H) : rf_j_E_indexOf_2 d l0 l1 l2 h = (rf_nn l0 fun k1 => ((rf_aL h k1).bind fun x2 => (if l2 < x2 then (rf_nn l0 fun k3 => ((rf_aI h k3 l2).bind fun x4 => (if x4 = l1 then some (some (.inl l2), h) else rf_j_E_indexOf_2 d l0 l1 (rf_w (l2 + 1)) h))) else some (some (.inl (-9)), h)))) :=
  ((rf_s_iload_n rf_f_E_indexOf_2 rfl (rf_m0 _) (rf_s_aload_n rf_f_E_indexOf_3 rfl (rf_m0 _) (rf_s_alenR rf_f_E_indexOf_4 (rf_m0 _) fun k1 x2 => (rf_s_icmp_ge rf_f_E_indexOf_5 rfl (rf_m0 _) (rf_m0 _) (rf_s_bipush rf_f_E_indexOf_23 (rf_m0 _) (rf_s_iret rf_f_E_indexOf_25)) (rf_s_aload_n rf_f_E_indexOf_8 rfl (rf_m0 _) (rf_s_iload_n rf_f_E_indexOf_9 rfl (rf_m0 _) (rf_s_ialdR rf_f_E_indexOf_10 (rf_m0 _) fun k3 x4 => (rf_s_iload_n rf_f_E_indexOf_11 rfl (rf_m0 _) (rf_s_icmp_ne rf_f_E_indexOf_12 rfl (rf_m0 _) (rf_m0 _) (rf_s_iinc (L' := [some (.inr (.inr l0)), some (.inl l1), some (.inl (rf_w (l2 + 1)))]) rf_f_E_indexOf_17 rfl rfl (rf_s_goto rf_f_E_indexOf_20 rfl rfl rfl)) (rf_s_iload_n rf_f_E_indexOf_15 rfl (rf_m0 _) (rf_s_iret rf_f_E_indexOf_16))))))))))) : rf_den (rf_call d) rf_m_E_indexOf (2, [some (.inr (.inr l0)), some (.inl l1), some (.inl l2)], [], h) = _)
noncomputable def rf_j_E_readsWagon_58 (d : Nat) (l2 : Option Nat) (l3 : Int) (l4 : Int) (s0 : Int) (h : rf_H) : Option rf_R := rf_den (rf_call d) rf_m_E_readsWagon (58, [none, none, some (.inr (.inr l2)), some (.inl l3), some (.inl l4), none], [.inl s0], h)
theorem rf_u_E_readsWagon : rf_mt 36 = rf_m_E_readsWagon := rfl
theorem rf_f_E_readsWagon_0 : rf_Fb rf_m_E_readsWagon 0 3 (.getstatic 79) 1000002 0 0 0 [] [] = true := by decide +kernel
theorem rf_f_E_readsWagon_3 : rf_Fb rf_m_E_readsWagon 3 4 (.aload_n 0) 0 0 0 0 [] [] = true := by decide +kernel
theorem rf_f_E_readsWagon_4 : rf_Fb rf_m_E_readsWagon 4 5 (.aload_n 1) 0 0 0 0 [] [] = true := by decide +kernel
theorem rf_f_E_readsWagon_5 : rf_Fb rf_m_E_readsWagon 5 8 (.invokevirtual 63) 30 1 0 1 [] [] = true := by decide +kernel
theorem rf_f_E_readsWagon_8 : rf_Fb rf_m_E_readsWagon 8 11 (.invokestatic 67) 35 2 0 0 [] [] = true := by decide +kernel
theorem rf_f_E_readsWagon_11 : rf_Fb rf_m_E_readsWagon 11 12 (.istore_n 3) 0 0 0 0 [] [] = true := by decide +kernel
theorem rf_f_E_readsWagon_12 : rf_Fb rf_m_E_readsWagon 12 13 (.iload_n 3) 0 0 0 0 [] [] = true := by decide +kernel
theorem rf_f_E_readsWagon_13 : rf_Fb rf_m_E_readsWagon 13 15 (.bipush (-9)) 0 0 0 0 [] [] = true := by decide +kernel
theorem rf_f_E_readsWagon_15 : rf_Fb rf_m_E_readsWagon 15 18 (.if_icmp .ne 5) 20 0 0 0 [] [] = true := by decide +kernel
theorem rf_f_E_readsWagon_18 : rf_Fb rf_m_E_readsWagon 18 19 (.iconst 0) 0 0 0 0 [] [] = true := by decide +kernel
theorem rf_f_E_readsWagon_19 : rf_Fb rf_m_E_readsWagon 19 20 (.ireturn) 0 0 1 0 [] [] = true := by decide +kernel
theorem rf_f_E_readsWagon_20 : rf_Fb rf_m_E_readsWagon 20 21 (.aload_n 0) 0 0 0 0 [] [] = true := by decide +kernel
theorem rf_f_E_readsWagon_21 : rf_Fb rf_m_E_readsWagon 21 22 (.dup) 0 0 0 0 [] [] = true := by decide +kernel
theorem rf_f_E_readsWagon_22 : rf_Fb rf_m_E_readsWagon 22 25 (.getfield 9) 1 0 0 0 [] [] = true := by decide +kernel
theorem rf_f_E_readsWagon_25 : rf_Fb rf_m_E_readsWagon 25 26 (.iconst 1) 0 0 0 0 [] [] = true := by decide +kernel
theorem rf_f_E_readsWagon_26 : rf_Fb rf_m_E_readsWagon 26 27 (.iadd) 0 0 0 0 [] [] = true := by decide +kernel
theorem rf_f_E_readsWagon_27 : rf_Fb rf_m_E_readsWagon 27 30 (.putfield 9) 1 0 0 0 [] [] = true := by decide +kernel
theorem rf_f_E_readsWagon_30 : rf_Fb rf_m_E_readsWagon 30 31 (.aload_n 0) 0 0 0 0 [] [] = true := by decide +kernel
theorem rf_f_E_readsWagon_31 : rf_Fb rf_m_E_readsWagon 31 32 (.aload_n 1) 0 0 0 0 [] [] = true := by decide +kernel
theorem rf_f_E_readsWagon_32 : rf_Fb rf_m_E_readsWagon 32 33 (.iconst 1) 0 0 0 0 [] [] = true := by decide +kernel
theorem rf_f_E_readsWagon_33 : rf_Fb rf_m_E_readsWagon 33 35 (.bipush 9) 0 0 0 0 [] [] = true := by decide +kernel
theorem rf_f_E_readsWagon_35 : rf_Fb rf_m_E_readsWagon 35 38 (.invokevirtual 43) 33 3 0 1 [] [] = true := by decide +kernel
theorem rf_f_E_readsWagon_38 : rf_Fb rf_m_E_readsWagon 38 40 (.istore 4) 0 0 0 0 [] [] = true := by decide +kernel
theorem rf_f_E_readsWagon_40 : rf_Fb rf_m_E_readsWagon 40 42 (.iload 4) 0 0 0 0 [] [] = true := by decide +kernel
theorem rf_f_E_readsWagon_42 : rf_Fb rf_m_E_readsWagon 42 43 (.iconst (-1)) 0 0 0 0 [] [] = true := by decide +kernel
theorem rf_f_E_readsWagon_43 : rf_Fb rf_m_E_readsWagon 43 46 (.if_icmp .ne 7) 50 0 0 0 [] [] = true := by decide +kernel
theorem rf_f_E_readsWagon_46 : rf_Fb rf_m_E_readsWagon 46 47 (.iconst (-1)) 0 0 0 0 [] [] = true := by decide +kernel
theorem rf_f_E_readsWagon_47 : rf_Fb rf_m_E_readsWagon 47 50 (.goto 11) 58 0 0 0 [] [] = true := by decide +kernel
theorem rf_f_E_readsWagon_50 : rf_Fb rf_m_E_readsWagon 50 51 (.aload_n 0) 0 0 0 0 [] [] = true := by decide +kernel
theorem rf_f_E_readsWagon_51 : rf_Fb rf_m_E_readsWagon 51 52 (.aload_n 1) 0 0 0 0 [] [] = true := by decide +kernel
theorem rf_f_E_readsWagon_52 : rf_Fb rf_m_E_readsWagon 52 53 (.iconst 1) 0 0 0 0 [] [] = true := by decide +kernel
theorem rf_f_E_readsWagon_53 : rf_Fb rf_m_E_readsWagon 53 55 (.bipush 9) 0 0 0 0 [] [] = true := by decide +kernel
theorem rf_f_E_readsWagon_55 : rf_Fb rf_m_E_readsWagon 55 58 (.invokevirtual 43) 33 3 0 1 [] [false, false, true, true, true, false] = true := by decide +kernel
theorem rf_f_E_readsWagon_58 : rf_Fb rf_m_E_readsWagon 58 60 (.istore 5) 0 0 0 0 [] [] = true := by decide +kernel
theorem rf_f_E_readsWagon_60 : rf_Fb rf_m_E_readsWagon 60 62 (.iload 5) 0 0 0 0 [] [] = true := by decide +kernel
theorem rf_f_E_readsWagon_62 : rf_Fb rf_m_E_readsWagon 62 63 (.iconst (-1)) 0 0 0 0 [] [] = true := by decide +kernel
theorem rf_f_E_readsWagon_63 : rf_Fb rf_m_E_readsWagon 63 66 (.if_icmp .ne 5) 68 0 0 0 [] [] = true := by decide +kernel
theorem rf_f_E_readsWagon_66 : rf_Fb rf_m_E_readsWagon 66 67 (.iconst 0) 0 0 0 0 [] [] = true := by decide +kernel
theorem rf_f_E_readsWagon_67 : rf_Fb rf_m_E_readsWagon 67 68 (.ireturn) 0 0 1 0 [] [] = true := by decide +kernel
theorem rf_f_E_readsWagon_68 : rf_Fb rf_m_E_readsWagon 68 69 (.aload_n 2) 0 0 0 0 [] [] = true := by decide +kernel
theorem rf_f_E_readsWagon_69 : rf_Fb rf_m_E_readsWagon 69 70 (.iload_n 3) 0 0 0 0 [] [] = true := by decide +kernel
theorem rf_f_E_readsWagon_70 : rf_Fb rf_m_E_readsWagon 70 72 (.iload 4) 0 0 0 0 [] [] = true := by decide +kernel
theorem rf_f_E_readsWagon_72 : rf_Fb rf_m_E_readsWagon 72 74 (.iload 5) 0 0 0 0 [] [] = true := by decide +kernel
theorem rf_f_E_readsWagon_74 : rf_Fb rf_m_E_readsWagon 74 77 (.invokevirtual 82) 20 3 3 0 [] [] = true := by decide +kernel
theorem rf_f_E_readsWagon_77 : rf_Fb rf_m_E_readsWagon 77 78 (.iconst 1) 0 0 0 0 [] [] = true := by decide +kernel
theorem rf_f_E_readsWagon_78 : rf_Fb rf_m_E_readsWagon 78 79 (.ireturn) 0 0 1 0 [] [] = true := by decide +kernel
set_option maxRecDepth 20000 in
set_option maxHeartbeats 2000000 in
theorem rf_e_E_readsWagon (d : Nat) (o : Nat) (a1 : Option Nat) (a2 : Option Nat) (h : rf_H) : rf_call (d + 1) 36 [.inr (.inr (some o)), .inr (.inr a1), .inr (.inr a2)] h = (bif rf_isO h.1 o 1 then ((rf_call d 30 [.inr (.inr (some o)), .inr (.inr a1)] h).bind fun q2 => rf_kI q2 fun x3 h1 => ((rf_call d 35 [.inr (.inr (some 1000002)), .inl x3] h1).bind fun q5 => rf_kI q5 fun x6 h4 => (if x6 = (-9) then some (some (.inl 0), h4) else ((rf_gI h4 1 o 0).bind fun x7 => ((rf_pI h4 1 o 0 (rf_w (x7 + 1))).bind fun h8 => (bif rf_isO h8.1 o 1 then ((rf_call d 33 [.inr (.inr (some o)), .inr (.inr a1), .inl 1, .inl 9] h8).bind fun q10 => rf_kI q10 fun x11 h9 => (if x11 = (-1) then rf_j_E_readsWagon_58 d a2 x6 x11 (-1) h9 else (bif rf_isO h9.1 o 1 then ((rf_call d 33 [.inr (.inr (some o)), .inr (.inr a1), .inl 1, .inl 9] h9).bind fun q13 => rf_kI q13 fun x14 h12 => rf_j_E_readsWagon_58 d a2 x6 x11 x14 h12) else none))) else none)))))) else none) := by
  show rf_den (rf_call d) (rf_mt 36) _ = _
  rw [rf_u_E_readsWagon]
  exact ((rf_s_getstatic rf_f_E_readsWagon_0 (rf_m0 _) (rf_s_aload_n rf_f_E_readsWagon_3 rfl (rf_m0 _) (rf_s_aload_n rf_f_E_readsWagon_4 rfl (rf_m0 _) (rf_s_invV0S rf_f_E_readsWagon_5 rfl rfl (rf_m0 _) fun q2 x3 h1 => (rf_s_invS0 rf_f_E_readsWagon_8 rfl rfl (rf_m0 _) fun q5 x6 h4 => (rf_s_istore_n (L' := [some (.inr (.inr (some o))), some (.inr (.inr a1)), some (.inr (.inr a2)), some (.inl x6), none, none]) rf_f_E_readsWagon_11 rfl (rf_s_iload_n rf_f_E_readsWagon_12 rfl (rf_m0 _) (rf_s_bipush rf_f_E_readsWagon_13 (rf_m0 _) (rf_s_icmp_ne rf_f_E_readsWagon_15 rfl (rf_m0 _) (rf_m0 _) (rf_s_aload_n rf_f_E_readsWagon_20 rfl (rf_m0 _) (rf_s_dupA rf_f_E_readsWagon_21 (rf_m0 _) (rf_s_getIS rf_f_E_readsWagon_22 (rf_m0 _) fun x7 => (rf_s_iconst rf_f_E_readsWagon_25 (rf_m0 _) (rf_s_iadd rf_f_E_readsWagon_26 (rf_m0 _) (rf_s_putIS rf_f_E_readsWagon_27 (rf_m0 _) fun h8 => (rf_s_aload_n rf_f_E_readsWagon_30 rfl (rf_m0 _) (rf_s_aload_n rf_f_E_readsWagon_31 rfl (rf_m0 _) (rf_s_iconst rf_f_E_readsWagon_32 (rf_m0 _) (rf_s_bipush rf_f_E_readsWagon_33 (rf_m0 _) (rf_s_invV0S rf_f_E_readsWagon_35 rfl rfl (rf_m0 _) fun q10 x11 h9 => (rf_s_istore (L' := [some (.inr (.inr (some o))), some (.inr (.inr a1)), some (.inr (.inr a2)), some (.inl x6), some (.inl x11), none]) rf_f_E_readsWagon_38 rfl (rf_s_iload rf_f_E_readsWagon_40 rfl (rf_m0 _) (rf_s_iconst rf_f_E_readsWagon_42 (rf_m0 _) (rf_s_icmp_ne rf_f_E_readsWagon_43 rfl (rf_m0 _) (rf_m0 _) (rf_s_aload_n rf_f_E_readsWagon_50 rfl (rf_m0 _) (rf_s_aload_n rf_f_E_readsWagon_51 rfl (rf_m0 _) (rf_s_iconst rf_f_E_readsWagon_52 (rf_m0 _) (rf_s_bipush rf_f_E_readsWagon_53 (rf_m0 _) (rf_s_invV0S rf_f_E_readsWagon_55 rfl rfl rfl fun q13 x14 h12 => rfl))))) (rf_s_iconst rf_f_E_readsWagon_46 (rf_m0 _) (rf_s_goto rf_f_E_readsWagon_47 rfl rfl rfl))))))))))))))))) (rf_s_iconst rf_f_E_readsWagon_18 (rf_m0 _) (rf_s_zretK rf_f_E_readsWagon_19 (by decide)))))))))))) : rf_den (rf_call d) rf_m_E_readsWagon (0, [some (.inr (.inr (some o))), some (.inr (.inr a1)), some (.inr (.inr a2)), none, none, none], [], h) = _)
set_option maxRecDepth 20000 in
set_option maxHeartbeats 2000000 in
theorem rf_e_E_readsWagon_58 (d : Nat) (l2 : Option Nat) (l3 : Int) (l4 : Int) (s0 : Int) (h : rf_H) : rf_j_E_readsWagon_58 d l2 l3 l4 s0 h = (if s0 = (-1) then some (some (.inl 0), h) else (rf_nn l2 fun k1 => (bif rf_isO h.1 k1 0 then ((rf_call d 20 [.inr (.inr (some k1)), .inl l3, .inl l4, .inl s0] h).bind fun q3 => rf_kV q3 fun h2 => some (some (.inl 1), h2)) else none))) :=
  ((rf_s_istore (L' := [none, none, some (.inr (.inr l2)), some (.inl l3), some (.inl l4), some (.inl s0)]) rf_f_E_readsWagon_58 rfl (rf_s_iload rf_f_E_readsWagon_60 rfl (rf_m0 _) (rf_s_iconst rf_f_E_readsWagon_62 (rf_m0 _) (rf_s_icmp_ne rf_f_E_readsWagon_63 rfl (rf_m0 _) (rf_m0 _) (rf_s_aload_n rf_f_E_readsWagon_68 rfl (rf_m0 _) (rf_s_iload_n rf_f_E_readsWagon_69 rfl (rf_m0 _) (rf_s_iload rf_f_E_readsWagon_70 rfl (rf_m0 _) (rf_s_iload rf_f_E_readsWagon_72 rfl (rf_m0 _) (rf_s_invV3R rf_f_E_readsWagon_74 rfl rfl (rf_m0 _) fun k1 q3 h2 => (rf_s_iconst rf_f_E_readsWagon_77 (rf_m0 _) (rf_s_zretK rf_f_E_readsWagon_78 (by decide)))))))) (rf_s_iconst rf_f_E_readsWagon_66 (rf_m0 _) (rf_s_zretK rf_f_E_readsWagon_67 (by decide))))))) : rf_den (rf_call d) rf_m_E_readsWagon (58, [none, none, some (.inr (.inr l2)), some (.inl l3), some (.inl l4), none], [.inl s0], h) = _)
theorem rf_u_T_begins : rf_mt 38 = rf_m_T_begins := rfl
theorem rf_f_T_begins_0 : rf_Fb rf_m_T_begins 0 1 (.aload_n 0) 0 0 0 0 [] [] = true := by decide +kernel
theorem rf_f_T_begins_1 : rf_Fb rf_m_T_begins 1 2 (.aload_n 0) 0 0 0 0 [] [] = true := by decide +kernel
theorem rf_f_T_begins_2 : rf_Fb rf_m_T_begins 2 5 (.getfield 9) 3 0 2 0 [] [] = true := by decide +kernel
theorem rf_f_T_begins_5 : rf_Fb rf_m_T_begins 5 8 (.getfield 19) 0 8 0 0 [] [] = true := by decide +kernel
theorem rf_f_T_begins_8 : rf_Fb rf_m_T_begins 8 11 (.putfield 25) 3 2 0 0 [] [] = true := by decide +kernel
theorem rf_f_T_begins_11 : rf_Fb rf_m_T_begins 11 12 (.aload_n 0) 0 0 0 0 [] [] = true := by decide +kernel
theorem rf_f_T_begins_12 : rf_Fb rf_m_T_begins 12 13 (.aload_n 0) 0 0 0 0 [] [] = true := by decide +kernel
theorem rf_f_T_begins_13 : rf_Fb rf_m_T_begins 13 16 (.getfield 9) 3 0 2 0 [] [] = true := by decide +kernel
theorem rf_f_T_begins_16 : rf_Fb rf_m_T_begins 16 19 (.getfield 26) 0 9 0 0 [] [] = true := by decide +kernel
theorem rf_f_T_begins_19 : rf_Fb rf_m_T_begins 19 22 (.putfield 29) 3 3 0 0 [] [] = true := by decide +kernel
theorem rf_f_T_begins_22 : rf_Fb rf_m_T_begins 22 23 (.aload_n 0) 0 0 0 0 [] [] = true := by decide +kernel
theorem rf_f_T_begins_23 : rf_Fb rf_m_T_begins 23 24 (.iconst 0) 0 0 0 0 [] [] = true := by decide +kernel
theorem rf_f_T_begins_24 : rf_Fb rf_m_T_begins 24 27 (.putfield 30) 3 4 0 0 [] [] = true := by decide +kernel
theorem rf_f_T_begins_27 : rf_Fb rf_m_T_begins 27 28 (.aload_n 0) 0 0 0 0 [] [] = true := by decide +kernel
theorem rf_f_T_begins_28 : rf_Fb rf_m_T_begins 28 29 (.iconst 0) 0 0 0 0 [] [] = true := by decide +kernel
theorem rf_f_T_begins_29 : rf_Fb rf_m_T_begins 29 32 (.putfield 33) 3 5 0 0 [] [] = true := by decide +kernel
theorem rf_f_T_begins_32 : rf_Fb rf_m_T_begins 32 33 (.aload_n 0) 0 0 0 0 [] [] = true := by decide +kernel
theorem rf_f_T_begins_33 : rf_Fb rf_m_T_begins 33 34 (.aload_n 0) 0 0 0 0 [] [] = true := by decide +kernel
theorem rf_f_T_begins_34 : rf_Fb rf_m_T_begins 34 37 (.getfield 9) 3 0 2 0 [] [] = true := by decide +kernel
theorem rf_f_T_begins_37 : rf_Fb rf_m_T_begins 37 40 (.getfield 36) 0 1 2 0 [] [] = true := by decide +kernel
theorem rf_f_T_begins_40 : rf_Fb rf_m_T_begins 40 43 (.getfield 40) 2 1 0 0 [] [] = true := by decide +kernel
theorem rf_f_T_begins_43 : rf_Fb rf_m_T_begins 43 46 (.putfield 45) 3 6 0 0 [] [] = true := by decide +kernel
theorem rf_f_T_begins_46 : rf_Fb rf_m_T_begins 46 47 (.aload_n 0) 0 0 0 0 [] [] = true := by decide +kernel
theorem rf_f_T_begins_47 : rf_Fb rf_m_T_begins 47 48 (.iconst 0) 0 0 0 0 [] [] = true := by decide +kernel
theorem rf_f_T_begins_48 : rf_Fb rf_m_T_begins 48 51 (.putfield 48) 3 7 0 0 [] [] = true := by decide +kernel
theorem rf_f_T_begins_51 : rf_Fb rf_m_T_begins 51 52 (.aload_n 0) 0 0 0 0 [] [] = true := by decide +kernel
theorem rf_f_T_begins_52 : rf_Fb rf_m_T_begins 52 53 (.iconst 0) 0 0 0 0 [] [] = true := by decide +kernel
theorem rf_f_T_begins_53 : rf_Fb rf_m_T_begins 53 56 (.putfield 51) 3 8 0 0 [] [] = true := by decide +kernel
theorem rf_f_T_begins_56 : rf_Fb rf_m_T_begins 56 57 (.aload_n 0) 0 0 0 0 [] [] = true := by decide +kernel
theorem rf_f_T_begins_57 : rf_Fb rf_m_T_begins 57 58 (.iconst 0) 0 0 0 0 [] [] = true := by decide +kernel
theorem rf_f_T_begins_58 : rf_Fb rf_m_T_begins 58 61 (.putfield 54) 3 9 3 0 [] [] = true := by decide +kernel
theorem rf_f_T_begins_61 : rf_Fb rf_m_T_begins 61 62 (.aload_n 0) 0 0 0 0 [] [] = true := by decide +kernel
theorem rf_f_T_begins_62 : rf_Fb rf_m_T_begins 62 63 (.iconst 1) 0 0 0 0 [] [] = true := by decide +kernel
theorem rf_f_T_begins_63 : rf_Fb rf_m_T_begins 63 66 (.putfield 58) 3 10 3 0 [] [] = true := by decide +kernel
theorem rf_f_T_begins_66 : rf_Fb rf_m_T_begins 66 67 (.aload_n 0) 0 0 0 0 [] [] = true := by decide +kernel
theorem rf_f_T_begins_67 : rf_Fb rf_m_T_begins 67 68 (.iconst 0) 0 0 0 0 [] [] = true := by decide +kernel
theorem rf_f_T_begins_68 : rf_Fb rf_m_T_begins 68 71 (.putfield 61) 3 11 3 0 [] [] = true := by decide +kernel
theorem rf_f_T_begins_71 : rf_Fb rf_m_T_begins 71 72 (.return_) 0 0 0 0 [] [] = true := by decide +kernel
set_option maxRecDepth 20000 in
set_option maxHeartbeats 2000000 in
theorem rf_e_T_begins (d : Nat) (o : Nat) (h : rf_H) : rf_call (d + 1) 38 [.inr (.inr (some o))] h = ((rf_gR h 3 o 0).bind fun x1 => (rf_nn x1 fun k2 => ((rf_gI h 0 k2 8).bind fun x3 => ((rf_pI h 3 o 2 x3).bind fun h4 => ((rf_gR h4 3 o 0).bind fun x5 => (rf_nn x5 fun k6 => ((rf_gI h4 0 k6 9).bind fun x7 => ((rf_pI h4 3 o 3 x7).bind fun h8 => ((rf_pI h8 3 o 4 0).bind fun h9 => ((rf_pI h9 3 o 5 0).bind fun h10 => ((rf_gR h10 3 o 0).bind fun x11 => (rf_nn x11 fun k12 => ((rf_gR h10 0 k12 1).bind fun x13 => (rf_nn x13 fun k14 => ((rf_gI h10 2 k14 1).bind fun x15 => ((rf_pI h10 3 o 6 x15).bind fun h16 => ((rf_pI h16 3 o 7 0).bind fun h17 => ((rf_pI h17 3 o 8 0).bind fun h18 => ((rf_pI h18 3 o 9 0).bind fun h19 => ((rf_pI h19 3 o 10 1).bind fun h20 => ((rf_pI h20 3 o 11 0).bind fun h21 => some (none, h21)))))))))))))))))))))) := by
  show rf_den (rf_call d) (rf_mt 38) _ = _
  rw [rf_u_T_begins]
  exact ((rf_s_aload_n rf_f_T_begins_0 rfl (rf_m0 _) (rf_s_aload_n rf_f_T_begins_1 rfl (rf_m0 _) (rf_s_getAS rf_f_T_begins_2 (rf_m0 _) fun x1 => (rf_s_getIR rf_f_T_begins_5 (rf_m0 _) fun k2 x3 => (rf_s_putIS rf_f_T_begins_8 (rf_m0 _) fun h4 => (rf_s_aload_n rf_f_T_begins_11 rfl (rf_m0 _) (rf_s_aload_n rf_f_T_begins_12 rfl (rf_m0 _) (rf_s_getAS rf_f_T_begins_13 (rf_m0 _) fun x5 => (rf_s_getIR rf_f_T_begins_16 (rf_m0 _) fun k6 x7 => (rf_s_putIS rf_f_T_begins_19 (rf_m0 _) fun h8 => (rf_s_aload_n rf_f_T_begins_22 rfl (rf_m0 _) (rf_s_iconst rf_f_T_begins_23 (rf_m0 _) (rf_s_putIS rf_f_T_begins_24 (rf_m0 _) fun h9 => (rf_s_aload_n rf_f_T_begins_27 rfl (rf_m0 _) (rf_s_iconst rf_f_T_begins_28 (rf_m0 _) (rf_s_putIS rf_f_T_begins_29 (rf_m0 _) fun h10 => (rf_s_aload_n rf_f_T_begins_32 rfl (rf_m0 _) (rf_s_aload_n rf_f_T_begins_33 rfl (rf_m0 _) (rf_s_getAS rf_f_T_begins_34 (rf_m0 _) fun x11 => (rf_s_getAR rf_f_T_begins_37 (rf_m0 _) fun k12 x13 => (rf_s_getIR rf_f_T_begins_40 (rf_m0 _) fun k14 x15 => (rf_s_putIS rf_f_T_begins_43 (rf_m0 _) fun h16 => (rf_s_aload_n rf_f_T_begins_46 rfl (rf_m0 _) (rf_s_iconst rf_f_T_begins_47 (rf_m0 _) (rf_s_putIS rf_f_T_begins_48 (rf_m0 _) fun h17 => (rf_s_aload_n rf_f_T_begins_51 rfl (rf_m0 _) (rf_s_iconst rf_f_T_begins_52 (rf_m0 _) (rf_s_putIS rf_f_T_begins_53 (rf_m0 _) fun h18 => (rf_s_aload_n rf_f_T_begins_56 rfl (rf_m0 _) (rf_s_iconst rf_f_T_begins_57 (rf_m0 _) (rf_s_putZS (by decide) rf_f_T_begins_58 (rf_m0 _) fun h19 => (rf_s_aload_n rf_f_T_begins_61 rfl (rf_m0 _) (rf_s_iconst rf_f_T_begins_62 (rf_m0 _) (rf_s_putZS (by decide) rf_f_T_begins_63 (rf_m0 _) fun h20 => (rf_s_aload_n rf_f_T_begins_66 rfl (rf_m0 _) (rf_s_iconst rf_f_T_begins_67 (rf_m0 _) (rf_s_putZS (by decide) rf_f_T_begins_68 (rf_m0 _) fun h21 => (rf_s_vret rf_f_T_begins_71)))))))))))))))))))))))))))))))))))))) : rf_den (rf_call d) rf_m_T_begins (0, [some (.inr (.inr (some o)))], [], h) = _)
theorem rf_u_T_rail : rf_mt 39 = rf_m_T_rail := rfl
theorem rf_f_T_rail_0 : rf_Fb rf_m_T_rail 0 1 (.aload_n 0) 0 0 0 0 [] [] = true := by decide +kernel
theorem rf_f_T_rail_1 : rf_Fb rf_m_T_rail 1 4 (.getfield 9) 3 0 2 0 [] [] = true := by decide +kernel
theorem rf_f_T_rail_4 : rf_Fb rf_m_T_rail 4 5 (.aload_n 0) 0 0 0 0 [] [] = true := by decide +kernel
theorem rf_f_T_rail_5 : rf_Fb rf_m_T_rail 5 8 (.getfield 51) 3 8 0 0 [] [] = true := by decide +kernel
theorem rf_f_T_rail_8 : rf_Fb rf_m_T_rail 8 11 (.invokevirtual 64) 25 1 0 0 [] [] = true := by decide +kernel
theorem rf_f_T_rail_11 : rf_Fb rf_m_T_rail 11 12 (.ireturn) 0 0 0 0 [] [] = true := by decide +kernel
set_option maxRecDepth 20000 in
set_option maxHeartbeats 2000000 in
theorem rf_e_T_rail (d : Nat) (o : Nat) (h : rf_H) : rf_call (d + 1) 39 [.inr (.inr (some o))] h = ((rf_gR h 3 o 0).bind fun x1 => ((rf_gI h 3 o 8).bind fun x2 => (rf_nn x1 fun k3 => (bif rf_isO h.1 k3 0 then ((rf_call d 25 [.inr (.inr (some k3)), .inl x2] h).bind fun q5 => rf_kI q5 fun x6 h4 => some (some (.inl x6), h4)) else none)))) := by
  show rf_den (rf_call d) (rf_mt 39) _ = _
  rw [rf_u_T_rail]
  exact ((rf_s_aload_n rf_f_T_rail_0 rfl (rf_m0 _) (rf_s_getAS rf_f_T_rail_1 (rf_m0 _) fun x1 => (rf_s_aload_n rf_f_T_rail_4 rfl (rf_m0 _) (rf_s_getIS rf_f_T_rail_5 (rf_m0 _) fun x2 => (rf_s_invV0R rf_f_T_rail_8 rfl rfl (rf_m0 _) fun k3 q5 x6 h4 => (rf_s_iret rf_f_T_rail_11)))))) : rf_den (rf_call d) rf_m_T_rail (0, [some (.inr (.inr (some o)))], [], h) = _)
noncomputable def rf_j_T_does_17 (d : Nat) (o : Nat) (l1 : Int) (s0 : Int) (h : rf_H) : Option rf_R := rf_den (rf_call d) rf_m_T_does (17, [some (.inr (.inr (some o))), some (.inl l1), none, none], [.inl s0], h)
theorem rf_u_T_does : rf_mt 40 = rf_m_T_does := rfl
theorem rf_f_T_does_0 : rf_Fb rf_m_T_does 0 1 (.iload_n 1) 0 0 0 0 [] [] = true := by decide +kernel
theorem rf_f_T_does_1 : rf_Fb rf_m_T_does 1 3 (.bipush 9) 0 0 0 0 [] [] = true := by decide +kernel
theorem rf_f_T_does_3 : rf_Fb rf_m_T_does 3 6 (.if_icmp .gt 12) 15 0 0 0 [] [] = true := by decide +kernel
theorem rf_f_T_does_6 : rf_Fb rf_m_T_does 6 7 (.aload_n 0) 0 0 0 0 [] [] = true := by decide +kernel
theorem rf_f_T_does_7 : rf_Fb rf_m_T_does 7 8 (.iload_n 1) 0 0 0 0 [] [] = true := by decide +kernel
theorem rf_f_T_does_8 : rf_Fb rf_m_T_does 8 9 (.iload_n 2) 0 0 0 0 [] [] = true := by decide +kernel
theorem rf_f_T_does_9 : rf_Fb rf_m_T_does 9 12 (.invokevirtual 106) 41 2 0 3 [] [] = true := by decide +kernel
theorem rf_f_T_does_12 : rf_Fb rf_m_T_does 12 15 (.goto 5) 17 0 0 0 [] [] = true := by decide +kernel
theorem rf_f_T_does_15 : rf_Fb rf_m_T_does 15 17 (.bipush 6) 0 0 0 0 [] [true, true, false, false] = true := by decide +kernel
theorem rf_f_T_does_17 : rf_Fb rf_m_T_does 17 18 (.istore_n 3) 0 0 0 0 [] [] = true := by decide +kernel
theorem rf_f_T_does_18 : rf_Fb rf_m_T_does 18 19 (.aload_n 0) 0 0 0 0 [] [] = true := by decide +kernel
theorem rf_f_T_does_19 : rf_Fb rf_m_T_does 19 20 (.dup) 0 0 0 0 [] [] = true := by decide +kernel
theorem rf_f_T_does_20 : rf_Fb rf_m_T_does 20 23 (.getfield 51) 3 8 0 0 [] [] = true := by decide +kernel
theorem rf_f_T_does_23 : rf_Fb rf_m_T_does 23 24 (.iconst 1) 0 0 0 0 [] [] = true := by decide +kernel
theorem rf_f_T_does_24 : rf_Fb rf_m_T_does 24 25 (.iadd) 0 0 0 0 [] [] = true := by decide +kernel
theorem rf_f_T_does_25 : rf_Fb rf_m_T_does 25 28 (.putfield 51) 3 8 0 0 [] [] = true := by decide +kernel
theorem rf_f_T_does_28 : rf_Fb rf_m_T_does 28 29 (.iload_n 3) 0 0 0 0 [] [] = true := by decide +kernel
theorem rf_f_T_does_29 : rf_Fb rf_m_T_does 29 31 (.bipush 6) 0 0 0 0 [] [] = true := by decide +kernel
theorem rf_f_T_does_31 : rf_Fb rf_m_T_does 31 34 (.if_icmp .ne 11) 42 0 0 0 [] [] = true := by decide +kernel
theorem rf_f_T_does_34 : rf_Fb rf_m_T_does 34 35 (.aload_n 0) 0 0 0 0 [] [] = true := by decide +kernel
theorem rf_f_T_does_35 : rf_Fb rf_m_T_does 35 36 (.iload_n 1) 0 0 0 0 [] [] = true := by decide +kernel
theorem rf_f_T_does_36 : rf_Fb rf_m_T_does 36 39 (.invokevirtual 109) 45 1 3 3 [] [] = true := by decide +kernel
theorem rf_f_T_does_39 : rf_Fb rf_m_T_does 39 42 (.goto 9) 48 0 0 0 [] [] = true := by decide +kernel
theorem rf_f_T_does_42 : rf_Fb rf_m_T_does 42 43 (.aload_n 0) 0 0 0 0 [] [] = true := by decide +kernel
theorem rf_f_T_does_43 : rf_Fb rf_m_T_does 43 44 (.iload_n 1) 0 0 0 0 [] [] = true := by decide +kernel
theorem rf_f_T_does_44 : rf_Fb rf_m_T_does 44 45 (.iload_n 3) 0 0 0 0 [] [] = true := by decide +kernel
theorem rf_f_T_does_45 : rf_Fb rf_m_T_does 45 48 (.invokevirtual 113) 46 2 3 3 [] [] = true := by decide +kernel
theorem rf_f_T_does_48 : rf_Fb rf_m_T_does 48 49 (.iload_n 3) 0 0 0 0 [] [] = true := by decide +kernel
theorem rf_f_T_does_49 : rf_Fb rf_m_T_does 49 50 (.ireturn) 0 0 0 0 [] [] = true := by decide +kernel
set_option maxRecDepth 20000 in
set_option maxHeartbeats 2000000 in
theorem rf_e_T_does (d : Nat) (o : Nat) (a1 : Int) (a2 : Int) (h : rf_H) : rf_call (d + 1) 40 [.inr (.inr (some o)), .inl a1, .inl a2] h = (if 9 < a1 then rf_j_T_does_17 d o a1 6 h else (bif rf_isO h.1 o 3 then ((rf_call d 41 [.inr (.inr (some o)), .inl a1, .inl a2] h).bind fun q2 => rf_kI q2 fun x3 h1 => rf_j_T_does_17 d o a1 x3 h1) else none)) := by
  show rf_den (rf_call d) (rf_mt 40) _ = _
  rw [rf_u_T_does]
  exact ((rf_s_iload_n rf_f_T_does_0 rfl (rf_m0 _) (rf_s_bipush rf_f_T_does_1 (rf_m0 _) (rf_s_icmp_gt rf_f_T_does_3 rfl (rf_m0 _) (rf_m0 _) (rf_s_bipush rf_f_T_does_15 rfl rfl) (rf_s_aload_n rf_f_T_does_6 rfl (rf_m0 _) (rf_s_iload_n rf_f_T_does_7 rfl (rf_m0 _) (rf_s_iload_n rf_f_T_does_8 rfl (rf_m0 _) (rf_s_invV0S rf_f_T_does_9 rfl rfl (rf_m0 _) fun q2 x3 h1 => (rf_s_goto rf_f_T_does_12 rfl rfl rfl)))))))) : rf_den (rf_call d) rf_m_T_does (0, [some (.inr (.inr (some o))), some (.inl a1), some (.inl a2), none], [], h) = _)
set_option maxRecDepth 20000 in
set_option maxHeartbeats 2000000 in
theorem rf_e_T_does_17 (d : Nat) (o : Nat) (l1 : Int) (s0 : Int) (h : rf_H) : rf_j_T_does_17 d o l1 s0 h = ((rf_gI h 3 o 8).bind fun x1 => ((rf_pI h 3 o 8 (rf_w (x1 + 1))).bind fun h2 => (if s0 = 6 then (bif rf_isO h2.1 o 3 then ((rf_call d 45 [.inr (.inr (some o)), .inl l1] h2).bind fun q6 => rf_kV q6 fun h5 => some (some (.inl s0), h5)) else none) else (bif rf_isO h2.1 o 3 then ((rf_call d 46 [.inr (.inr (some o)), .inl l1, .inl s0] h2).bind fun q4 => rf_kV q4 fun h3 => some (some (.inl s0), h3)) else none)))) :=
  ((rf_s_istore_n (L' := [some (.inr (.inr (some o))), some (.inl l1), none, some (.inl s0)]) rf_f_T_does_17 rfl (rf_s_aload_n rf_f_T_does_18 rfl (rf_m0 _) (rf_s_dupA rf_f_T_does_19 (rf_m0 _) (rf_s_getIS rf_f_T_does_20 (rf_m0 _) fun x1 => (rf_s_iconst rf_f_T_does_23 (rf_m0 _) (rf_s_iadd rf_f_T_does_24 (rf_m0 _) (rf_s_putIS rf_f_T_does_25 (rf_m0 _) fun h2 => (rf_s_iload_n rf_f_T_does_28 rfl (rf_m0 _) (rf_s_bipush rf_f_T_does_29 (rf_m0 _) (rf_s_icmp_ne rf_f_T_does_31 rfl (rf_m0 _) (rf_m0 _) (rf_s_aload_n rf_f_T_does_42 rfl (rf_m0 _) (rf_s_iload_n rf_f_T_does_43 rfl (rf_m0 _) (rf_s_iload_n rf_f_T_does_44 rfl (rf_m0 _) (rf_s_invV3S rf_f_T_does_45 rfl rfl (rf_m0 _) fun q4 h3 => (rf_s_iload_n rf_f_T_does_48 rfl (rf_m0 _) (rf_s_iret rf_f_T_does_49)))))) (rf_s_aload_n rf_f_T_does_34 rfl (rf_m0 _) (rf_s_iload_n rf_f_T_does_35 rfl (rf_m0 _) (rf_s_invV3S rf_f_T_does_36 rfl rfl (rf_m0 _) fun q6 h5 => (rf_s_goto rf_f_T_does_39 rfl (rf_m0 _) (rf_s_iload_n rf_f_T_does_48 rfl (rf_m0 _) (rf_s_iret rf_f_T_does_49)))))))))))))))) : rf_den (rf_call d) rf_m_T_does (17, [some (.inr (.inr (some o))), some (.inl l1), none, none], [.inl s0], h) = _)
noncomputable def rf_j_T_comesOf_103 (d : Nat) (o : Nat) (l3 : Int) (h : rf_H) : Option rf_R := rf_den (rf_call d) rf_m_T_comesOf (103, [some (.inr (.inr (some o))), none, none, some (.inl l3)], [], h)
theorem rf_u_T_comesOf : rf_mt 41 = rf_m_T_comesOf := rfl
theorem rf_f_T_comesOf_0 : rf_Fb rf_m_T_comesOf 0 1 (.iconst 2) 0 0 0 0 [] [] = true := by decide +kernel
theorem rf_f_T_comesOf_1 : rf_Fb rf_m_T_comesOf 1 2 (.iload_n 1) 0 0 0 0 [] [] = true := by decide +kernel
theorem rf_f_T_comesOf_2 : rf_Fb rf_m_T_comesOf 2 3 (.imul) 0 0 0 0 [] [] = true := by decide +kernel
theorem rf_f_T_comesOf_3 : rf_Fb rf_m_T_comesOf 3 4 (.istore_n 3) 0 0 0 0 [] [] = true := by decide +kernel
theorem rf_f_T_comesOf_4 : rf_Fb rf_m_T_comesOf 4 5 (.iload_n 3) 0 0 0 0 [] [] = true := by decide +kernel
theorem rf_f_T_comesOf_5 : rf_Fb rf_m_T_comesOf 5 6 (.aload_n 0) 0 0 0 0 [] [] = true := by decide +kernel
theorem rf_f_T_comesOf_6 : rf_Fb rf_m_T_comesOf 6 7 (.iload_n 2) 0 0 0 0 [] [] = true := by decide +kernel
theorem rf_f_T_comesOf_7 : rf_Fb rf_m_T_comesOf 7 8 (.aload_n 0) 0 0 0 0 [] [] = true := by decide +kernel
theorem rf_f_T_comesOf_8 : rf_Fb rf_m_T_comesOf 8 11 (.getfield 54) 3 9 0 0 [] [] = true := by decide +kernel
theorem rf_f_T_comesOf_11 : rf_Fb rf_m_T_comesOf 11 14 (.invokevirtual 95) 42 2 0 3 [] [] = true := by decide +kernel
theorem rf_f_T_comesOf_14 : rf_Fb rf_m_T_comesOf 14 17 (.if_icmp .le 5) 19 0 0 0 [] [] = true := by decide +kernel
theorem rf_f_T_comesOf_17 : rf_Fb rf_m_T_comesOf 17 18 (.iconst 1) 0 0 0 0 [] [] = true := by decide +kernel
theorem rf_f_T_comesOf_18 : rf_Fb rf_m_T_comesOf 18 19 (.ireturn) 0 0 0 0 [] [] = true := by decide +kernel
theorem rf_f_T_comesOf_19 : rf_Fb rf_m_T_comesOf 19 20 (.aload_n 0) 0 0 0 0 [] [] = true := by decide +kernel
theorem rf_f_T_comesOf_20 : rf_Fb rf_m_T_comesOf 20 23 (.getfield 33) 3 5 0 0 [] [] = true := by decide +kernel
theorem rf_f_T_comesOf_23 : rf_Fb rf_m_T_comesOf 23 24 (.aload_n 0) 0 0 0 0 [] [] = true := by decide +kernel
theorem rf_f_T_comesOf_24 : rf_Fb rf_m_T_comesOf 24 27 (.getfield 45) 3 6 0 0 [] [] = true := by decide +kernel
theorem rf_f_T_comesOf_27 : rf_Fb rf_m_T_comesOf 27 30 (.if_icmp .ne 24) 51 0 0 0 [] [] = true := by decide +kernel
theorem rf_f_T_comesOf_30 : rf_Fb rf_m_T_comesOf 30 31 (.aload_n 0) 0 0 0 0 [] [] = true := by decide +kernel
theorem rf_f_T_comesOf_31 : rf_Fb rf_m_T_comesOf 31 34 (.getfield 58) 3 10 0 0 [] [] = true := by decide +kernel
theorem rf_f_T_comesOf_34 : rf_Fb rf_m_T_comesOf 34 37 (.ifCond .ne 69) 103 0 0 0 [] [] = true := by decide +kernel
theorem rf_f_T_comesOf_37 : rf_Fb rf_m_T_comesOf 37 38 (.iload_n 3) 0 0 0 0 [] [] = true := by decide +kernel
theorem rf_f_T_comesOf_38 : rf_Fb rf_m_T_comesOf 38 39 (.aload_n 0) 0 0 0 0 [] [] = true := by decide +kernel
theorem rf_f_T_comesOf_39 : rf_Fb rf_m_T_comesOf 39 40 (.aload_n 0) 0 0 0 0 [] [] = true := by decide +kernel
theorem rf_f_T_comesOf_40 : rf_Fb rf_m_T_comesOf 40 43 (.getfield 45) 3 6 0 0 [] [] = true := by decide +kernel
theorem rf_f_T_comesOf_43 : rf_Fb rf_m_T_comesOf 43 46 (.invokevirtual 89) 43 1 0 3 [] [] = true := by decide +kernel
theorem rf_f_T_comesOf_46 : rf_Fb rf_m_T_comesOf 46 49 (.if_icmp .lt 57) 103 0 0 0 [] [] = true := by decide +kernel
theorem rf_f_T_comesOf_49 : rf_Fb rf_m_T_comesOf 49 50 (.iconst 4) 0 0 0 0 [] [] = true := by decide +kernel
theorem rf_f_T_comesOf_50 : rf_Fb rf_m_T_comesOf 50 51 (.ireturn) 0 0 0 0 [] [] = true := by decide +kernel
theorem rf_f_T_comesOf_51 : rf_Fb rf_m_T_comesOf 51 52 (.iload_n 3) 0 0 0 0 [] [] = true := by decide +kernel
theorem rf_f_T_comesOf_52 : rf_Fb rf_m_T_comesOf 52 53 (.aload_n 0) 0 0 0 0 [] [] = true := by decide +kernel
theorem rf_f_T_comesOf_53 : rf_Fb rf_m_T_comesOf 53 54 (.aload_n 0) 0 0 0 0 [] [] = true := by decide +kernel
theorem rf_f_T_comesOf_54 : rf_Fb rf_m_T_comesOf 54 57 (.getfield 33) 3 5 0 0 [] [] = true := by decide +kernel
theorem rf_f_T_comesOf_57 : rf_Fb rf_m_T_comesOf 57 58 (.iconst 1) 0 0 0 0 [] [] = true := by decide +kernel
theorem rf_f_T_comesOf_58 : rf_Fb rf_m_T_comesOf 58 59 (.iadd) 0 0 0 0 [] [] = true := by decide +kernel
theorem rf_f_T_comesOf_59 : rf_Fb rf_m_T_comesOf 59 62 (.invokevirtual 89) 43 1 0 3 [] [] = true := by decide +kernel
theorem rf_f_T_comesOf_62 : rf_Fb rf_m_T_comesOf 62 65 (.if_icmp .lt 41) 103 0 0 0 [] [] = true := by decide +kernel
theorem rf_f_T_comesOf_65 : rf_Fb rf_m_T_comesOf 65 66 (.aload_n 0) 0 0 0 0 [] [] = true := by decide +kernel
theorem rf_f_T_comesOf_66 : rf_Fb rf_m_T_comesOf 66 69 (.getfield 33) 3 5 0 0 [] [] = true := by decide +kernel
theorem rf_f_T_comesOf_69 : rf_Fb rf_m_T_comesOf 69 70 (.iconst 1) 0 0 0 0 [] [] = true := by decide +kernel
theorem rf_f_T_comesOf_70 : rf_Fb rf_m_T_comesOf 70 71 (.iadd) 0 0 0 0 [] [] = true := by decide +kernel
theorem rf_f_T_comesOf_71 : rf_Fb rf_m_T_comesOf 71 72 (.aload_n 0) 0 0 0 0 [] [] = true := by decide +kernel
theorem rf_f_T_comesOf_72 : rf_Fb rf_m_T_comesOf 72 75 (.getfield 45) 3 6 0 0 [] [] = true := by decide +kernel
theorem rf_f_T_comesOf_75 : rf_Fb rf_m_T_comesOf 75 78 (.if_icmp .lt 10) 85 0 0 0 [] [] = true := by decide +kernel
theorem rf_f_T_comesOf_78 : rf_Fb rf_m_T_comesOf 78 79 (.aload_n 0) 0 0 0 0 [] [] = true := by decide +kernel
theorem rf_f_T_comesOf_79 : rf_Fb rf_m_T_comesOf 79 82 (.getfield 58) 3 10 0 0 [] [] = true := by decide +kernel
theorem rf_f_T_comesOf_82 : rf_Fb rf_m_T_comesOf 82 85 (.ifCond .ne 21) 103 0 0 0 [] [] = true := by decide +kernel
theorem rf_f_T_comesOf_85 : rf_Fb rf_m_T_comesOf 85 86 (.aload_n 0) 0 0 0 0 [] [] = true := by decide +kernel
theorem rf_f_T_comesOf_86 : rf_Fb rf_m_T_comesOf 86 87 (.aload_n 0) 0 0 0 0 [] [] = true := by decide +kernel
theorem rf_f_T_comesOf_87 : rf_Fb rf_m_T_comesOf 87 90 (.getfield 33) 3 5 0 0 [] [] = true := by decide +kernel
theorem rf_f_T_comesOf_90 : rf_Fb rf_m_T_comesOf 90 91 (.iload_n 1) 0 0 0 0 [] [] = true := by decide +kernel
theorem rf_f_T_comesOf_91 : rf_Fb rf_m_T_comesOf 91 94 (.invokevirtual 99) 44 2 0 3 [] [] = true := by decide +kernel
theorem rf_f_T_comesOf_94 : rf_Fb rf_m_T_comesOf 94 97 (.ifCond .le 7) 101 0 0 0 [] [] = true := by decide +kernel
theorem rf_f_T_comesOf_97 : rf_Fb rf_m_T_comesOf 97 98 (.iconst 3) 0 0 0 0 [] [] = true := by decide +kernel
theorem rf_f_T_comesOf_98 : rf_Fb rf_m_T_comesOf 98 101 (.goto 4) 102 0 0 0 [] [] = true := by decide +kernel
theorem rf_f_T_comesOf_101 : rf_Fb rf_m_T_comesOf 101 102 (.iconst 2) 0 0 0 0 [] [] = true := by decide +kernel
theorem rf_f_T_comesOf_102 : rf_Fb rf_m_T_comesOf 102 103 (.ireturn) 0 0 0 0 [] [true, false, false, true] = true := by decide +kernel
theorem rf_f_T_comesOf_103 : rf_Fb rf_m_T_comesOf 103 104 (.aload_n 0) 0 0 0 0 [] [] = true := by decide +kernel
theorem rf_f_T_comesOf_104 : rf_Fb rf_m_T_comesOf 104 107 (.getfield 58) 3 10 0 0 [] [] = true := by decide +kernel
theorem rf_f_T_comesOf_107 : rf_Fb rf_m_T_comesOf 107 110 (.ifCond .ne 19) 126 0 0 0 [] [] = true := by decide +kernel
theorem rf_f_T_comesOf_110 : rf_Fb rf_m_T_comesOf 110 111 (.iload_n 3) 0 0 0 0 [] [] = true := by decide +kernel
theorem rf_f_T_comesOf_111 : rf_Fb rf_m_T_comesOf 111 112 (.aload_n 0) 0 0 0 0 [] [] = true := by decide +kernel
theorem rf_f_T_comesOf_112 : rf_Fb rf_m_T_comesOf 112 113 (.aload_n 0) 0 0 0 0 [] [] = true := by decide +kernel
theorem rf_f_T_comesOf_113 : rf_Fb rf_m_T_comesOf 113 116 (.getfield 33) 3 5 0 0 [] [] = true := by decide +kernel
theorem rf_f_T_comesOf_116 : rf_Fb rf_m_T_comesOf 116 119 (.invokevirtual 89) 43 1 0 3 [] [] = true := by decide +kernel
theorem rf_f_T_comesOf_119 : rf_Fb rf_m_T_comesOf 119 122 (.if_icmp .ge 7) 126 0 0 0 [] [] = true := by decide +kernel
theorem rf_f_T_comesOf_122 : rf_Fb rf_m_T_comesOf 122 123 (.iconst 5) 0 0 0 0 [] [] = true := by decide +kernel
theorem rf_f_T_comesOf_123 : rf_Fb rf_m_T_comesOf 123 126 (.goto 4) 127 0 0 0 [] [] = true := by decide +kernel
theorem rf_f_T_comesOf_126 : rf_Fb rf_m_T_comesOf 126 127 (.iconst 0) 0 0 0 0 [] [] = true := by decide +kernel
theorem rf_f_T_comesOf_127 : rf_Fb rf_m_T_comesOf 127 128 (.ireturn) 0 0 0 0 [] [] = true := by decide +kernel
set_option maxRecDepth 20000 in
set_option maxHeartbeats 2000000 in
theorem rf_e_T_comesOf (d : Nat) (o : Nat) (a1 : Int) (a2 : Int) (h : rf_H) : rf_call (d + 1) 41 [.inr (.inr (some o)), .inl a1, .inl a2] h = ((rf_gI h 3 o 9).bind fun x1 => (bif rf_isO h.1 o 3 then ((rf_call d 42 [.inr (.inr (some o)), .inl a2, .inl x1] h).bind fun q3 => rf_kI q3 fun x4 h2 => (if x4 < (rf_w (2 * a1)) then some (some (.inl 1), h2) else ((rf_gI h2 3 o 5).bind fun x5 => ((rf_gI h2 3 o 6).bind fun x6 => (if x5 = x6 then ((rf_gI h2 3 o 10).bind fun x22 => (if x22 = 0 then ((rf_gI h2 3 o 6).bind fun x23 => (bif rf_isO h2.1 o 3 then ((rf_call d 43 [.inr (.inr (some o)), .inl x23] h2).bind fun q25 => rf_kI q25 fun x26 h24 => (if (rf_w (2 * a1)) < x26 then rf_j_T_comesOf_103 d o (rf_w (2 * a1)) h24 else some (some (.inl 4), h24))) else none)) else rf_j_T_comesOf_103 d o (rf_w (2 * a1)) h2)) else ((rf_gI h2 3 o 5).bind fun x7 => (bif rf_isO h2.1 o 3 then ((rf_call d 43 [.inr (.inr (some o)), .inl (rf_w (x7 + 1))] h2).bind fun q9 => rf_kI q9 fun x10 h8 => (if (rf_w (2 * a1)) < x10 then rf_j_T_comesOf_103 d o (rf_w (2 * a1)) h8 else ((rf_gI h8 3 o 5).bind fun x11 => ((rf_gI h8 3 o 6).bind fun x12 => (if (rf_w (x11 + 1)) < x12 then ((rf_gI h8 3 o 5).bind fun x13 => (bif rf_isO h8.1 o 3 then ((rf_call d 44 [.inr (.inr (some o)), .inl x13, .inl a1] h8).bind fun q15 => rf_kI q15 fun x16 h14 => (if 0 < x16 then some (some (.inl 3), h14) else some (some (.inl 2), h14))) else none)) else ((rf_gI h8 3 o 10).bind fun x17 => (if x17 = 0 then ((rf_gI h8 3 o 5).bind fun x18 => (bif rf_isO h8.1 o 3 then ((rf_call d 44 [.inr (.inr (some o)), .inl x18, .inl a1] h8).bind fun q20 => rf_kI q20 fun x21 h19 => (if 0 < x21 then some (some (.inl 3), h19) else some (some (.inl 2), h19))) else none)) else rf_j_T_comesOf_103 d o (rf_w (2 * a1)) h8))))))) else none))))))) else none)) := by
  show rf_den (rf_call d) (rf_mt 41) _ = _
  rw [rf_u_T_comesOf]
  exact ((rf_s_iconst rf_f_T_comesOf_0 (rf_m0 _) (rf_s_iload_n rf_f_T_comesOf_1 rfl (rf_m0 _) (rf_s_imul rf_f_T_comesOf_2 (rf_m0 _) (rf_s_istore_n (L' := [some (.inr (.inr (some o))), some (.inl a1), some (.inl a2), some (.inl (rf_w (2 * a1)))]) rf_f_T_comesOf_3 rfl (rf_s_iload_n rf_f_T_comesOf_4 rfl (rf_m0 _) (rf_s_aload_n rf_f_T_comesOf_5 rfl (rf_m0 _) (rf_s_iload_n rf_f_T_comesOf_6 rfl (rf_m0 _) (rf_s_aload_n rf_f_T_comesOf_7 rfl (rf_m0 _) (rf_s_getIS rf_f_T_comesOf_8 (rf_m0 _) fun x1 => (rf_s_invV0S rf_f_T_comesOf_11 rfl rfl (rf_m0 _) fun q3 x4 h2 => (rf_s_icmp_le rf_f_T_comesOf_14 rfl (rf_m0 _) (rf_m0 _) (rf_s_aload_n rf_f_T_comesOf_19 rfl (rf_m0 _) (rf_s_getIS rf_f_T_comesOf_20 (rf_m0 _) fun x5 => (rf_s_aload_n rf_f_T_comesOf_23 rfl (rf_m0 _) (rf_s_getIS rf_f_T_comesOf_24 (rf_m0 _) fun x6 => (rf_s_icmp_ne rf_f_T_comesOf_27 rfl (rf_m0 _) (rf_m0 _) (rf_s_iload_n rf_f_T_comesOf_51 rfl (rf_m0 _) (rf_s_aload_n rf_f_T_comesOf_52 rfl (rf_m0 _) (rf_s_aload_n rf_f_T_comesOf_53 rfl (rf_m0 _) (rf_s_getIS rf_f_T_comesOf_54 (rf_m0 _) fun x7 => (rf_s_iconst rf_f_T_comesOf_57 (rf_m0 _) (rf_s_iadd rf_f_T_comesOf_58 (rf_m0 _) (rf_s_invV0S rf_f_T_comesOf_59 rfl rfl (rf_m0 _) fun q9 x10 h8 => (rf_s_icmp_lt rf_f_T_comesOf_62 rfl rfl (rf_m0 _) rfl (rf_s_aload_n rf_f_T_comesOf_65 rfl (rf_m0 _) (rf_s_getIS rf_f_T_comesOf_66 (rf_m0 _) fun x11 => (rf_s_iconst rf_f_T_comesOf_69 (rf_m0 _) (rf_s_iadd rf_f_T_comesOf_70 (rf_m0 _) (rf_s_aload_n rf_f_T_comesOf_71 rfl (rf_m0 _) (rf_s_getIS rf_f_T_comesOf_72 (rf_m0 _) fun x12 => (rf_s_icmp_lt rf_f_T_comesOf_75 rfl (rf_m0 _) (rf_m0 _) (rf_s_aload_n rf_f_T_comesOf_85 rfl (rf_m0 _) (rf_s_aload_n rf_f_T_comesOf_86 rfl (rf_m0 _) (rf_s_getIS rf_f_T_comesOf_87 (rf_m0 _) fun x13 => (rf_s_iload_n rf_f_T_comesOf_90 rfl (rf_m0 _) (rf_s_invV0S rf_f_T_comesOf_91 rfl rfl (rf_m0 _) fun q15 x16 h14 => (rf_s_if_le rf_f_T_comesOf_94 rfl (rf_m0 _) (rf_m0 _) (rf_s_iconst rf_f_T_comesOf_101 (rf_m0 _) (rf_s_iret rf_f_T_comesOf_102)) (rf_s_iconst rf_f_T_comesOf_97 (rf_m0 _) (rf_s_goto rf_f_T_comesOf_98 rfl (rf_m0 _) (rf_s_iret rf_f_T_comesOf_102))))))))) (rf_s_aload_n rf_f_T_comesOf_78 rfl (rf_m0 _) (rf_s_getIS rf_f_T_comesOf_79 (rf_m0 _) fun x17 => (rf_s_if_ne rf_f_T_comesOf_82 rfl rfl (rf_m0 _) rfl (rf_s_aload_n rf_f_T_comesOf_85 rfl (rf_m0 _) (rf_s_aload_n rf_f_T_comesOf_86 rfl (rf_m0 _) (rf_s_getIS rf_f_T_comesOf_87 (rf_m0 _) fun x18 => (rf_s_iload_n rf_f_T_comesOf_90 rfl (rf_m0 _) (rf_s_invV0S rf_f_T_comesOf_91 rfl rfl (rf_m0 _) fun q20 x21 h19 => (rf_s_if_le rf_f_T_comesOf_94 rfl (rf_m0 _) (rf_m0 _) (rf_s_iconst rf_f_T_comesOf_101 (rf_m0 _) (rf_s_iret rf_f_T_comesOf_102)) (rf_s_iconst rf_f_T_comesOf_97 (rf_m0 _) (rf_s_goto rf_f_T_comesOf_98 rfl (rf_m0 _) (rf_s_iret rf_f_T_comesOf_102))))))))))))))))))))))))))) (rf_s_aload_n rf_f_T_comesOf_30 rfl (rf_m0 _) (rf_s_getIS rf_f_T_comesOf_31 (rf_m0 _) fun x22 => (rf_s_if_ne rf_f_T_comesOf_34 rfl rfl (rf_m0 _) rfl (rf_s_iload_n rf_f_T_comesOf_37 rfl (rf_m0 _) (rf_s_aload_n rf_f_T_comesOf_38 rfl (rf_m0 _) (rf_s_aload_n rf_f_T_comesOf_39 rfl (rf_m0 _) (rf_s_getIS rf_f_T_comesOf_40 (rf_m0 _) fun x23 => (rf_s_invV0S rf_f_T_comesOf_43 rfl rfl (rf_m0 _) fun q25 x26 h24 => (rf_s_icmp_lt rf_f_T_comesOf_46 rfl rfl (rf_m0 _) rfl (rf_s_iconst rf_f_T_comesOf_49 (rf_m0 _) (rf_s_iret rf_f_T_comesOf_50)))))))))))))))) (rf_s_iconst rf_f_T_comesOf_17 (rf_m0 _) (rf_s_iret rf_f_T_comesOf_18))))))))))))) : rf_den (rf_call d) rf_m_T_comesOf (0, [some (.inr (.inr (some o))), some (.inl a1), some (.inl a2), none], [], h) = _)
set_option maxRecDepth 20000 in
set_option maxHeartbeats 2000000 in
theorem rf_e_T_comesOf_103 (d : Nat) (o : Nat) (l3 : Int) (h : rf_H) : rf_j_T_comesOf_103 d o l3 h = ((rf_gI h 3 o 10).bind fun x1 => (if x1 = 0 then ((rf_gI h 3 o 5).bind fun x2 => (bif rf_isO h.1 o 3 then ((rf_call d 43 [.inr (.inr (some o)), .inl x2] h).bind fun q4 => rf_kI q4 fun x5 h3 => (if l3 < x5 then some (some (.inl 5), h3) else some (some (.inl 0), h3))) else none)) else some (some (.inl 0), h))) :=
  ((rf_s_aload_n rf_f_T_comesOf_103 rfl (rf_m0 _) (rf_s_getIS rf_f_T_comesOf_104 (rf_m0 _) fun x1 => (rf_s_if_ne rf_f_T_comesOf_107 rfl (rf_m0 _) (rf_m0 _) (rf_s_iconst rf_f_T_comesOf_126 (rf_m0 _) (rf_s_iret rf_f_T_comesOf_127)) (rf_s_iload_n rf_f_T_comesOf_110 rfl (rf_m0 _) (rf_s_aload_n rf_f_T_comesOf_111 rfl (rf_m0 _) (rf_s_aload_n rf_f_T_comesOf_112 rfl (rf_m0 _) (rf_s_getIS rf_f_T_comesOf_113 (rf_m0 _) fun x2 => (rf_s_invV0S rf_f_T_comesOf_116 rfl rfl (rf_m0 _) fun q4 x5 h3 => (rf_s_icmp_ge rf_f_T_comesOf_119 rfl (rf_m0 _) (rf_m0 _) (rf_s_iconst rf_f_T_comesOf_126 (rf_m0 _) (rf_s_iret rf_f_T_comesOf_127)) (rf_s_iconst rf_f_T_comesOf_122 (rf_m0 _) (rf_s_goto rf_f_T_comesOf_123 rfl (rf_m0 _) (rf_s_iret rf_f_T_comesOf_127)))))))))))) : rf_den (rf_call d) rf_m_T_comesOf (103, [some (.inr (.inr (some o))), none, none, some (.inl l3)], [], h) = _)
theorem rf_u_T_gripOn : rf_mt 42 = rf_m_T_gripOn := rfl
theorem rf_f_T_gripOn_0 : rf_Fb rf_m_T_gripOn 0 1 (.iconst 0) 0 0 0 0 [] [] = true := by decide +kernel
theorem rf_f_T_gripOn_1 : rf_Fb rf_m_T_gripOn 1 2 (.aload_n 0) 0 0 0 0 [] [] = true := by decide +kernel
theorem rf_f_T_gripOn_2 : rf_Fb rf_m_T_gripOn 2 5 (.getfield 9) 3 0 2 0 [] [] = true := by decide +kernel
theorem rf_f_T_gripOn_5 : rf_Fb rf_m_T_gripOn 5 8 (.getfield 68) 0 7 0 0 [] [] = true := by decide +kernel
theorem rf_f_T_gripOn_8 : rf_Fb rf_m_T_gripOn 8 9 (.iload_n 1) 0 0 0 0 [] [] = true := by decide +kernel
theorem rf_f_T_gripOn_9 : rf_Fb rf_m_T_gripOn 9 12 (.invokestatic 71) 70 1 0 0 [] [] = true := by decide +kernel
theorem rf_f_T_gripOn_12 : rf_Fb rf_m_T_gripOn 12 13 (.imul) 0 0 0 0 [] [] = true := by decide +kernel
theorem rf_f_T_gripOn_13 : rf_Fb rf_m_T_gripOn 13 14 (.aload_n 0) 0 0 0 0 [] [] = true := by decide +kernel
theorem rf_f_T_gripOn_14 : rf_Fb rf_m_T_gripOn 14 17 (.getfield 30) 3 4 0 0 [] [] = true := by decide +kernel
theorem rf_f_T_gripOn_17 : rf_Fb rf_m_T_gripOn 17 18 (.isub) 0 0 0 0 [] [] = true := by decide +kernel
theorem rf_f_T_gripOn_18 : rf_Fb rf_m_T_gripOn 18 21 (.invokestatic 74) 13 2 0 0 [] [] = true := by decide +kernel
theorem rf_f_T_gripOn_21 : rf_Fb rf_m_T_gripOn 21 22 (.istore_n 3) 0 0 0 0 [] [] = true := by decide +kernel
theorem rf_f_T_gripOn_22 : rf_Fb rf_m_T_gripOn 22 23 (.iload_n 2) 0 0 0 0 [] [] = true := by decide +kernel
theorem rf_f_T_gripOn_23 : rf_Fb rf_m_T_gripOn 23 26 (.ifCond .eq 9) 32 0 0 0 [] [] = true := by decide +kernel
theorem rf_f_T_gripOn_26 : rf_Fb rf_m_T_gripOn 26 27 (.iload_n 3) 0 0 0 0 [] [] = true := by decide +kernel
theorem rf_f_T_gripOn_27 : rf_Fb rf_m_T_gripOn 27 28 (.iconst 3) 0 0 0 0 [] [] = true := by decide +kernel
theorem rf_f_T_gripOn_28 : rf_Fb rf_m_T_gripOn 28 29 (.iadd) 0 0 0 0 [] [] = true := by decide +kernel
theorem rf_f_T_gripOn_29 : rf_Fb rf_m_T_gripOn 29 32 (.goto 4) 33 0 0 0 [] [] = true := by decide +kernel
theorem rf_f_T_gripOn_32 : rf_Fb rf_m_T_gripOn 32 33 (.iload_n 3) 0 0 0 0 [] [] = true := by decide +kernel
theorem rf_f_T_gripOn_33 : rf_Fb rf_m_T_gripOn 33 34 (.ireturn) 0 0 0 0 [] [] = true := by decide +kernel
set_option maxRecDepth 20000 in
set_option maxHeartbeats 2000000 in
theorem rf_e_T_gripOn (d : Nat) (o : Nat) (a1 : Int) (a2 : Int) (h : rf_H) : rf_call (d + 1) 42 [.inr (.inr (some o)), .inl a1, .inl a2] h = ((rf_gR h 3 o 0).bind fun x1 => (rf_nn x1 fun k2 => ((rf_gI h 0 k2 7).bind fun x3 => ((rf_call d 70 [.inl a1] h).bind fun q5 => rf_kI q5 fun x6 h4 => ((rf_gI h4 3 o 4).bind fun x7 => ((rf_call d 13 [.inl 0, .inl (rf_w ((rf_w (x3 * x6)) - x7))] h4).bind fun q9 => rf_kI q9 fun x10 h8 => (if a2 = 0 then some (some (.inl x10), h8) else some (some (.inl (rf_w (x10 + 3))), h8)))))))) := by
  show rf_den (rf_call d) (rf_mt 42) _ = _
  rw [rf_u_T_gripOn]
  exact ((rf_s_iconst rf_f_T_gripOn_0 (rf_m0 _) (rf_s_aload_n rf_f_T_gripOn_1 rfl (rf_m0 _) (rf_s_getAS rf_f_T_gripOn_2 (rf_m0 _) fun x1 => (rf_s_getIR rf_f_T_gripOn_5 (rf_m0 _) fun k2 x3 => (rf_s_iload_n rf_f_T_gripOn_8 rfl (rf_m0 _) (rf_s_invS0 rf_f_T_gripOn_9 rfl rfl (rf_m0 _) fun q5 x6 h4 => (rf_s_imul rf_f_T_gripOn_12 (rf_m0 _) (rf_s_aload_n rf_f_T_gripOn_13 rfl (rf_m0 _) (rf_s_getIS rf_f_T_gripOn_14 (rf_m0 _) fun x7 => (rf_s_isub rf_f_T_gripOn_17 (rf_m0 _) (rf_s_invS0 rf_f_T_gripOn_18 rfl rfl (rf_m0 _) fun q9 x10 h8 => (rf_s_istore_n (L' := [some (.inr (.inr (some o))), some (.inl a1), some (.inl a2), some (.inl x10)]) rf_f_T_gripOn_21 rfl (rf_s_iload_n rf_f_T_gripOn_22 rfl (rf_m0 _) (rf_s_if_eq rf_f_T_gripOn_23 rfl (rf_m0 _) (rf_m0 _) (rf_s_iload_n rf_f_T_gripOn_32 rfl (rf_m0 _) (rf_s_iret rf_f_T_gripOn_33)) (rf_s_iload_n rf_f_T_gripOn_26 rfl (rf_m0 _) (rf_s_iconst rf_f_T_gripOn_27 (rf_m0 _) (rf_s_iadd rf_f_T_gripOn_28 (rf_m0 _) (rf_s_goto rf_f_T_gripOn_29 rfl (rf_m0 _) (rf_s_iret rf_f_T_gripOn_33))))))))))))))))))) : rf_den (rf_call d) rf_m_T_gripOn (0, [some (.inr (.inr (some o))), some (.inl a1), some (.inl a2), none], [], h) = _)
theorem rf_u_T_loadOf : rf_mt 43 = rf_m_T_loadOf := rfl
theorem rf_f_T_loadOf_0 : rf_Fb rf_m_T_loadOf 0 1 (.aload_n 0) 0 0 0 0 [] [] = true := by decide +kernel
theorem rf_f_T_loadOf_1 : rf_Fb rf_m_T_loadOf 1 4 (.getfield 58) 3 10 0 0 [] [] = true := by decide +kernel
theorem rf_f_T_loadOf_4 : rf_Fb rf_m_T_loadOf 4 7 (.ifCond .eq 17) 21 0 0 0 [] [] = true := by decide +kernel
theorem rf_f_T_loadOf_7 : rf_Fb rf_m_T_loadOf 7 8 (.aload_n 0) 0 0 0 0 [] [] = true := by decide +kernel
theorem rf_f_T_loadOf_8 : rf_Fb rf_m_T_loadOf 8 11 (.getfield 9) 3 0 2 0 [] [] = true := by decide +kernel
theorem rf_f_T_loadOf_11 : rf_Fb rf_m_T_loadOf 11 14 (.getfield 80) 0 5 2 0 [] [] = true := by decide +kernel
theorem rf_f_T_loadOf_14 : rf_Fb rf_m_T_loadOf 14 15 (.iload_n 1) 0 0 0 0 [] [] = true := by decide +kernel
theorem rf_f_T_loadOf_15 : rf_Fb rf_m_T_loadOf 15 18 (.invokevirtual 83) 4 1 0 2 [] [] = true := by decide +kernel
theorem rf_f_T_loadOf_18 : rf_Fb rf_m_T_loadOf 18 21 (.goto 14) 32 0 0 0 [] [] = true := by decide +kernel
theorem rf_f_T_loadOf_21 : rf_Fb rf_m_T_loadOf 21 22 (.aload_n 0) 0 0 0 0 [] [] = true := by decide +kernel
theorem rf_f_T_loadOf_22 : rf_Fb rf_m_T_loadOf 22 25 (.getfield 9) 3 0 2 0 [] [] = true := by decide +kernel
theorem rf_f_T_loadOf_25 : rf_Fb rf_m_T_loadOf 25 28 (.getfield 86) 0 6 2 0 [] [] = true := by decide +kernel
theorem rf_f_T_loadOf_28 : rf_Fb rf_m_T_loadOf 28 29 (.iload_n 1) 0 0 0 0 [] [] = true := by decide +kernel
theorem rf_f_T_loadOf_29 : rf_Fb rf_m_T_loadOf 29 32 (.invokevirtual 83) 4 1 0 2 [] [] = true := by decide +kernel
theorem rf_f_T_loadOf_32 : rf_Fb rf_m_T_loadOf 32 33 (.ireturn) 0 0 0 0 [] [] = true := by decide +kernel
set_option maxRecDepth 20000 in
set_option maxHeartbeats 2000000 in
theorem rf_e_T_loadOf (d : Nat) (o : Nat) (a1 : Int) (h : rf_H) : rf_call (d + 1) 43 [.inr (.inr (some o)), .inl a1] h = ((rf_gI h 3 o 10).bind fun x1 => (if x1 = 0 then ((rf_gR h 3 o 0).bind fun x2 => (rf_nn x2 fun k3 => ((rf_gR h 0 k3 6).bind fun x4 => (rf_nn x4 fun k5 => (bif rf_isO h.1 k5 2 then ((rf_call d 4 [.inr (.inr (some k5)), .inl a1] h).bind fun q7 => rf_kI q7 fun x8 h6 => some (some (.inl x8), h6)) else none))))) else ((rf_gR h 3 o 0).bind fun x9 => (rf_nn x9 fun k10 => ((rf_gR h 0 k10 5).bind fun x11 => (rf_nn x11 fun k12 => (bif rf_isO h.1 k12 2 then ((rf_call d 4 [.inr (.inr (some k12)), .inl a1] h).bind fun q14 => rf_kI q14 fun x15 h13 => some (some (.inl x15), h13)) else none))))))) := by
  show rf_den (rf_call d) (rf_mt 43) _ = _
  rw [rf_u_T_loadOf]
  exact ((rf_s_aload_n rf_f_T_loadOf_0 rfl (rf_m0 _) (rf_s_getIS rf_f_T_loadOf_1 (rf_m0 _) fun x1 => (rf_s_if_eq rf_f_T_loadOf_4 rfl (rf_m0 _) (rf_m0 _) (rf_s_aload_n rf_f_T_loadOf_21 rfl (rf_m0 _) (rf_s_getAS rf_f_T_loadOf_22 (rf_m0 _) fun x2 => (rf_s_getAR rf_f_T_loadOf_25 (rf_m0 _) fun k3 x4 => (rf_s_iload_n rf_f_T_loadOf_28 rfl (rf_m0 _) (rf_s_invV0R rf_f_T_loadOf_29 rfl rfl (rf_m0 _) fun k5 q7 x8 h6 => (rf_s_iret rf_f_T_loadOf_32)))))) (rf_s_aload_n rf_f_T_loadOf_7 rfl (rf_m0 _) (rf_s_getAS rf_f_T_loadOf_8 (rf_m0 _) fun x9 => (rf_s_getAR rf_f_T_loadOf_11 (rf_m0 _) fun k10 x11 => (rf_s_iload_n rf_f_T_loadOf_14 rfl (rf_m0 _) (rf_s_invV0R rf_f_T_loadOf_15 rfl rfl (rf_m0 _) fun k12 q14 x15 h13 => (rf_s_goto rf_f_T_loadOf_18 rfl (rf_m0 _) (rf_s_iret rf_f_T_loadOf_32)))))))))) : rf_den (rf_call d) rf_m_T_loadOf (0, [some (.inr (.inr (some o))), some (.inl a1)], [], h) = _)
theorem rf_u_T_strainOf : rf_mt 44 = rf_m_T_strainOf := rfl
theorem rf_f_T_strainOf_0 : rf_Fb rf_m_T_strainOf 0 1 (.iconst 2) 0 0 0 0 [] [] = true := by decide +kernel
theorem rf_f_T_strainOf_1 : rf_Fb rf_m_T_strainOf 1 2 (.iload_n 2) 0 0 0 0 [] [] = true := by decide +kernel
theorem rf_f_T_strainOf_2 : rf_Fb rf_m_T_strainOf 2 3 (.imul) 0 0 0 0 [] [] = true := by decide +kernel
theorem rf_f_T_strainOf_3 : rf_Fb rf_m_T_strainOf 3 4 (.aload_n 0) 0 0 0 0 [] [] = true := by decide +kernel
theorem rf_f_T_strainOf_4 : rf_Fb rf_m_T_strainOf 4 5 (.iload_n 1) 0 0 0 0 [] [] = true := by decide +kernel
theorem rf_f_T_strainOf_5 : rf_Fb rf_m_T_strainOf 5 6 (.iconst 1) 0 0 0 0 [] [] = true := by decide +kernel
theorem rf_f_T_strainOf_6 : rf_Fb rf_m_T_strainOf 6 7 (.iadd) 0 0 0 0 [] [] = true := by decide +kernel
theorem rf_f_T_strainOf_7 : rf_Fb rf_m_T_strainOf 7 10 (.invokevirtual 89) 43 1 0 3 [] [] = true := by decide +kernel
theorem rf_f_T_strainOf_10 : rf_Fb rf_m_T_strainOf 10 11 (.isub) 0 0 0 0 [] [] = true := by decide +kernel
theorem rf_f_T_strainOf_11 : rf_Fb rf_m_T_strainOf 11 12 (.aload_n 0) 0 0 0 0 [] [] = true := by decide +kernel
theorem rf_f_T_strainOf_12 : rf_Fb rf_m_T_strainOf 12 15 (.getfield 9) 3 0 2 0 [] [] = true := by decide +kernel
theorem rf_f_T_strainOf_15 : rf_Fb rf_m_T_strainOf 15 18 (.getfield 92) 0 4 2 0 [] [] = true := by decide +kernel
theorem rf_f_T_strainOf_18 : rf_Fb rf_m_T_strainOf 18 19 (.iload_n 1) 0 0 0 0 [] [] = true := by decide +kernel
theorem rf_f_T_strainOf_19 : rf_Fb rf_m_T_strainOf 19 22 (.invokevirtual 83) 4 1 0 2 [] [] = true := by decide +kernel
theorem rf_f_T_strainOf_22 : rf_Fb rf_m_T_strainOf 22 23 (.isub) 0 0 0 0 [] [] = true := by decide +kernel
theorem rf_f_T_strainOf_23 : rf_Fb rf_m_T_strainOf 23 24 (.ireturn) 0 0 0 0 [] [] = true := by decide +kernel
set_option maxRecDepth 20000 in
set_option maxHeartbeats 2000000 in
theorem rf_e_T_strainOf (d : Nat) (o : Nat) (a1 : Int) (a2 : Int) (h : rf_H) : rf_call (d + 1) 44 [.inr (.inr (some o)), .inl a1, .inl a2] h = (bif rf_isO h.1 o 3 then ((rf_call d 43 [.inr (.inr (some o)), .inl (rf_w (a1 + 1))] h).bind fun q2 => rf_kI q2 fun x3 h1 => ((rf_gR h1 3 o 0).bind fun x4 => (rf_nn x4 fun k5 => ((rf_gR h1 0 k5 4).bind fun x6 => (rf_nn x6 fun k7 => (bif rf_isO h1.1 k7 2 then ((rf_call d 4 [.inr (.inr (some k7)), .inl a1] h1).bind fun q9 => rf_kI q9 fun x10 h8 => some (some (.inl (rf_w ((rf_w ((rf_w (2 * a2)) - x3)) - x10))), h8)) else none)))))) else none) := by
  show rf_den (rf_call d) (rf_mt 44) _ = _
  rw [rf_u_T_strainOf]
  exact ((rf_s_iconst rf_f_T_strainOf_0 (rf_m0 _) (rf_s_iload_n rf_f_T_strainOf_1 rfl (rf_m0 _) (rf_s_imul rf_f_T_strainOf_2 (rf_m0 _) (rf_s_aload_n rf_f_T_strainOf_3 rfl (rf_m0 _) (rf_s_iload_n rf_f_T_strainOf_4 rfl (rf_m0 _) (rf_s_iconst rf_f_T_strainOf_5 (rf_m0 _) (rf_s_iadd rf_f_T_strainOf_6 (rf_m0 _) (rf_s_invV0S rf_f_T_strainOf_7 rfl rfl (rf_m0 _) fun q2 x3 h1 => (rf_s_isub rf_f_T_strainOf_10 (rf_m0 _) (rf_s_aload_n rf_f_T_strainOf_11 rfl (rf_m0 _) (rf_s_getAS rf_f_T_strainOf_12 (rf_m0 _) fun x4 => (rf_s_getAR rf_f_T_strainOf_15 (rf_m0 _) fun k5 x6 => (rf_s_iload_n rf_f_T_strainOf_18 rfl (rf_m0 _) (rf_s_invV0R rf_f_T_strainOf_19 rfl rfl (rf_m0 _) fun k7 q9 x10 h8 => (rf_s_isub rf_f_T_strainOf_22 (rf_m0 _) (rf_s_iret rf_f_T_strainOf_23)))))))))))))))) : rf_den (rf_call d) rf_m_T_strainOf (0, [some (.inr (.inr (some o))), some (.inl a1), some (.inl a2)], [], h) = _)
theorem rf_u_T_doesOther : rf_mt 45 = rf_m_T_doesOther := rfl
theorem rf_f_T_doesOther_0 : rf_Fb rf_m_T_doesOther 0 1 (.iload_n 1) 0 0 0 0 [] [] = true := by decide +kernel
theorem rf_f_T_doesOther_1 : rf_Fb rf_m_T_doesOther 1 32 (.tableswitch 83 10 13 #[31, 49, 67, 75]) 84 0 0 10 [32, 50, 68, 76] [] = true := by decide +kernel
theorem rf_f_T_doesOther_32 : rf_Fb rf_m_T_doesOther 32 33 (.aload_n 0) 0 0 0 0 [] [] = true := by decide +kernel
theorem rf_f_T_doesOther_33 : rf_Fb rf_m_T_doesOther 33 34 (.dup) 0 0 0 0 [] [] = true := by decide +kernel
theorem rf_f_T_doesOther_34 : rf_Fb rf_m_T_doesOther 34 37 (.getfield 29) 3 3 0 0 [] [] = true := by decide +kernel
theorem rf_f_T_doesOther_37 : rf_Fb rf_m_T_doesOther 37 38 (.iconst 1) 0 0 0 0 [] [] = true := by decide +kernel
theorem rf_f_T_doesOther_38 : rf_Fb rf_m_T_doesOther 38 39 (.isub) 0 0 0 0 [] [] = true := by decide +kernel
theorem rf_f_T_doesOther_39 : rf_Fb rf_m_T_doesOther 39 42 (.putfield 29) 3 3 0 0 [] [] = true := by decide +kernel
theorem rf_f_T_doesOther_42 : rf_Fb rf_m_T_doesOther 42 43 (.aload_n 0) 0 0 0 0 [] [] = true := by decide +kernel
theorem rf_f_T_doesOther_43 : rf_Fb rf_m_T_doesOther 43 44 (.iconst 1) 0 0 0 0 [] [] = true := by decide +kernel
theorem rf_f_T_doesOther_44 : rf_Fb rf_m_T_doesOther 44 47 (.putfield 54) 3 9 3 0 [] [] = true := by decide +kernel
theorem rf_f_T_doesOther_47 : rf_Fb rf_m_T_doesOther 47 50 (.goto 42) 89 0 0 0 [] [] = true := by decide +kernel
theorem rf_f_T_doesOther_50 : rf_Fb rf_m_T_doesOther 50 51 (.aload_n 0) 0 0 0 0 [] [] = true := by decide +kernel
theorem rf_f_T_doesOther_51 : rf_Fb rf_m_T_doesOther 51 53 (.bipush 9) 0 0 0 0 [] [] = true := by decide +kernel
theorem rf_f_T_doesOther_53 : rf_Fb rf_m_T_doesOther 53 54 (.aload_n 0) 0 0 0 0 [] [] = true := by decide +kernel
theorem rf_f_T_doesOther_54 : rf_Fb rf_m_T_doesOther 54 57 (.getfield 25) 3 2 0 0 [] [] = true := by decide +kernel
theorem rf_f_T_doesOther_57 : rf_Fb rf_m_T_doesOther 57 58 (.iconst 2) 0 0 0 0 [] [] = true := by decide +kernel
theorem rf_f_T_doesOther_58 : rf_Fb rf_m_T_doesOther 58 59 (.iadd) 0 0 0 0 [] [] = true := by decide +kernel
theorem rf_f_T_doesOther_59 : rf_Fb rf_m_T_doesOther 59 62 (.invokestatic 117) 14 2 0 0 [] [] = true := by decide +kernel
theorem rf_f_T_doesOther_62 : rf_Fb rf_m_T_doesOther 62 65 (.putfield 25) 3 2 0 0 [] [] = true := by decide +kernel
theorem rf_f_T_doesOther_65 : rf_Fb rf_m_T_doesOther 65 68 (.goto 24) 89 0 0 0 [] [] = true := by decide +kernel
theorem rf_f_T_doesOther_68 : rf_Fb rf_m_T_doesOther 68 69 (.aload_n 0) 0 0 0 0 [] [] = true := by decide +kernel
theorem rf_f_T_doesOther_69 : rf_Fb rf_m_T_doesOther 69 70 (.iconst 0) 0 0 0 0 [] [] = true := by decide +kernel
theorem rf_f_T_doesOther_70 : rf_Fb rf_m_T_doesOther 70 73 (.putfield 33) 3 5 0 0 [] [] = true := by decide +kernel
theorem rf_f_T_doesOther_73 : rf_Fb rf_m_T_doesOther 73 76 (.goto 16) 89 0 0 0 [] [] = true := by decide +kernel
theorem rf_f_T_doesOther_76 : rf_Fb rf_m_T_doesOther 76 77 (.aload_n 0) 0 0 0 0 [] [] = true := by decide +kernel
theorem rf_f_T_doesOther_77 : rf_Fb rf_m_T_doesOther 77 78 (.iconst 0) 0 0 0 0 [] [] = true := by decide +kernel
theorem rf_f_T_doesOther_78 : rf_Fb rf_m_T_doesOther 78 81 (.putfield 58) 3 10 3 0 [] [] = true := by decide +kernel
theorem rf_f_T_doesOther_81 : rf_Fb rf_m_T_doesOther 81 84 (.goto 8) 89 0 0 0 [] [] = true := by decide +kernel
theorem rf_f_T_doesOther_84 : rf_Fb rf_m_T_doesOther 84 85 (.aload_n 0) 0 0 0 0 [] [] = true := by decide +kernel
theorem rf_f_T_doesOther_85 : rf_Fb rf_m_T_doesOther 85 86 (.iconst 1) 0 0 0 0 [] [] = true := by decide +kernel
theorem rf_f_T_doesOther_86 : rf_Fb rf_m_T_doesOther 86 89 (.putfield 58) 3 10 3 0 [] [] = true := by decide +kernel
theorem rf_f_T_doesOther_89 : rf_Fb rf_m_T_doesOther 89 90 (.return_) 0 0 0 0 [] [] = true := by decide +kernel
set_option maxRecDepth 20000 in
set_option maxHeartbeats 2000000 in
theorem rf_e_T_doesOther (d : Nat) (o : Nat) (a1 : Int) (h : rf_H) : rf_call (d + 1) 45 [.inr (.inr (some o)), .inl a1] h = (if a1 = 10 then ((rf_gI h 3 o 3).bind fun x9 => ((rf_pI h 3 o 3 (rf_w (x9 - 1))).bind fun h10 => ((rf_pI h10 3 o 9 1).bind fun h11 => some (none, h11)))) else (if a1 = (10 + 1) then ((rf_gI h 3 o 2).bind fun x4 => ((rf_call d 14 [.inl 9, .inl (rf_w (x4 + 2))] h).bind fun q6 => rf_kI q6 fun x7 h5 => ((rf_pI h5 3 o 2 x7).bind fun h8 => some (none, h8)))) else (if a1 = ((10 + 1) + 1) then ((rf_pI h 3 o 5 0).bind fun h3 => some (none, h3)) else (if a1 = (((10 + 1) + 1) + 1) then ((rf_pI h 3 o 10 0).bind fun h2 => some (none, h2)) else ((rf_pI h 3 o 10 1).bind fun h1 => some (none, h1)))))) := by
  show rf_den (rf_call d) (rf_mt 45) _ = _
  rw [rf_u_T_doesOther]
  exact ((rf_s_iload_n rf_f_T_doesOther_0 rfl (rf_m0 _) (rf_s_tsw rf_f_T_doesOther_1 (rf_tsw_c (rf_tsw_g rfl (rf_m0 _) (rf_s_aload_n rf_f_T_doesOther_32 rfl (rf_m0 _) (rf_s_dupA rf_f_T_doesOther_33 (rf_m0 _) (rf_s_getIS rf_f_T_doesOther_34 (rf_m0 _) fun x9 => (rf_s_iconst rf_f_T_doesOther_37 (rf_m0 _) (rf_s_isub rf_f_T_doesOther_38 (rf_m0 _) (rf_s_putIS rf_f_T_doesOther_39 (rf_m0 _) fun h10 => (rf_s_aload_n rf_f_T_doesOther_42 rfl (rf_m0 _) (rf_s_iconst rf_f_T_doesOther_43 (rf_m0 _) (rf_s_putZS (by decide) rf_f_T_doesOther_44 (rf_m0 _) fun h11 => (rf_s_goto rf_f_T_doesOther_47 rfl (rf_m0 _) (rf_s_vret rf_f_T_doesOther_89)))))))))))) (rf_tsw_c (rf_tsw_g rfl (rf_m0 _) (rf_s_aload_n rf_f_T_doesOther_50 rfl (rf_m0 _) (rf_s_bipush rf_f_T_doesOther_51 (rf_m0 _) (rf_s_aload_n rf_f_T_doesOther_53 rfl (rf_m0 _) (rf_s_getIS rf_f_T_doesOther_54 (rf_m0 _) fun x4 => (rf_s_iconst rf_f_T_doesOther_57 (rf_m0 _) (rf_s_iadd rf_f_T_doesOther_58 (rf_m0 _) (rf_s_invS0 rf_f_T_doesOther_59 rfl rfl (rf_m0 _) fun q6 x7 h5 => (rf_s_putIS rf_f_T_doesOther_62 (rf_m0 _) fun h8 => (rf_s_goto rf_f_T_doesOther_65 rfl (rf_m0 _) (rf_s_vret rf_f_T_doesOther_89))))))))))) (rf_tsw_c (rf_tsw_g rfl (rf_m0 _) (rf_s_aload_n rf_f_T_doesOther_68 rfl (rf_m0 _) (rf_s_iconst rf_f_T_doesOther_69 (rf_m0 _) (rf_s_putIS rf_f_T_doesOther_70 (rf_m0 _) fun h3 => (rf_s_goto rf_f_T_doesOther_73 rfl (rf_m0 _) (rf_s_vret rf_f_T_doesOther_89)))))) (rf_tsw_c (rf_tsw_g rfl (rf_m0 _) (rf_s_aload_n rf_f_T_doesOther_76 rfl (rf_m0 _) (rf_s_iconst rf_f_T_doesOther_77 (rf_m0 _) (rf_s_putZS (by decide) rf_f_T_doesOther_78 (rf_m0 _) fun h2 => (rf_s_goto rf_f_T_doesOther_81 rfl (rf_m0 _) (rf_s_vret rf_f_T_doesOther_89)))))) (rf_tsw_n (rf_tsw_g rfl (rf_m0 _) (rf_s_aload_n rf_f_T_doesOther_84 rfl (rf_m0 _) (rf_s_iconst rf_f_T_doesOther_85 (rf_m0 _) (rf_s_putZS (by decide) rf_f_T_doesOther_86 (rf_m0 _) fun h1 => (rf_s_vret rf_f_T_doesOther_89)))))))))))) : rf_den (rf_call d) rf_m_T_doesOther (0, [some (.inr (.inr (some o))), some (.inl a1)], [], h) = _)
noncomputable def rf_j_T_givesSteam_29 (d : Nat) (o : Nat) (l2 : Int) (s0 : Option Nat) (s1 : Int) (s2 : Int) (s3 : Int) (h : rf_H) : Option rf_R := rf_den (rf_call d) rf_m_T_givesSteam (29, [some (.inr (.inr (some o))), none, some (.inl l2)], [.inl s3, .inl s2, .inl s1, .inr (.inr s0)], h)
theorem rf_u_T_givesSteam : rf_mt 46 = rf_m_T_givesSteam := rfl
theorem rf_f_T_givesSteam_0 : rf_Fb rf_m_T_givesSteam 0 1 (.aload_n 0) 0 0 0 0 [] [] = true := by decide +kernel
theorem rf_f_T_givesSteam_1 : rf_Fb rf_m_T_givesSteam 1 2 (.iconst 0) 0 0 0 0 [] [] = true := by decide +kernel
theorem rf_f_T_givesSteam_2 : rf_Fb rf_m_T_givesSteam 2 5 (.putfield 54) 3 9 3 0 [] [] = true := by decide +kernel
theorem rf_f_T_givesSteam_5 : rf_Fb rf_m_T_givesSteam 5 6 (.aload_n 0) 0 0 0 0 [] [] = true := by decide +kernel
theorem rf_f_T_givesSteam_6 : rf_Fb rf_m_T_givesSteam 6 7 (.iconst 0) 0 0 0 0 [] [] = true := by decide +kernel
theorem rf_f_T_givesSteam_7 : rf_Fb rf_m_T_givesSteam 7 8 (.aload_n 0) 0 0 0 0 [] [] = true := by decide +kernel
theorem rf_f_T_givesSteam_8 : rf_Fb rf_m_T_givesSteam 8 11 (.getfield 25) 3 2 0 0 [] [] = true := by decide +kernel
theorem rf_f_T_givesSteam_11 : rf_Fb rf_m_T_givesSteam 11 12 (.iload_n 2) 0 0 0 0 [] [] = true := by decide +kernel
theorem rf_f_T_givesSteam_12 : rf_Fb rf_m_T_givesSteam 12 13 (.iconst 1) 0 0 0 0 [] [] = true := by decide +kernel
theorem rf_f_T_givesSteam_13 : rf_Fb rf_m_T_givesSteam 13 16 (.if_icmp .ne 7) 20 0 0 0 [] [] = true := by decide +kernel
theorem rf_f_T_givesSteam_16 : rf_Fb rf_m_T_givesSteam 16 17 (.iconst 2) 0 0 0 0 [] [] = true := by decide +kernel
theorem rf_f_T_givesSteam_17 : rf_Fb rf_m_T_givesSteam 17 20 (.goto 12) 29 0 0 0 [] [] = true := by decide +kernel
theorem rf_f_T_givesSteam_20 : rf_Fb rf_m_T_givesSteam 20 21 (.iload_n 1) 0 0 0 0 [] [] = true := by decide +kernel
theorem rf_f_T_givesSteam_21 : rf_Fb rf_m_T_givesSteam 21 24 (.ifCond .le 7) 28 0 0 0 [] [] = true := by decide +kernel
theorem rf_f_T_givesSteam_24 : rf_Fb rf_m_T_givesSteam 24 25 (.iconst 1) 0 0 0 0 [] [] = true := by decide +kernel
theorem rf_f_T_givesSteam_25 : rf_Fb rf_m_T_givesSteam 25 28 (.goto 4) 29 0 0 0 [] [] = true := by decide +kernel
theorem rf_f_T_givesSteam_28 : rf_Fb rf_m_T_givesSteam 28 29 (.iconst 0) 0 0 0 0 [] [true, false, true] = true := by decide +kernel
theorem rf_f_T_givesSteam_29 : rf_Fb rf_m_T_givesSteam 29 30 (.isub) 0 0 0 0 [] [] = true := by decide +kernel
theorem rf_f_T_givesSteam_30 : rf_Fb rf_m_T_givesSteam 30 33 (.invokestatic 74) 13 2 0 0 [] [] = true := by decide +kernel
theorem rf_f_T_givesSteam_33 : rf_Fb rf_m_T_givesSteam 33 36 (.putfield 25) 3 2 0 0 [] [] = true := by decide +kernel
theorem rf_f_T_givesSteam_36 : rf_Fb rf_m_T_givesSteam 36 37 (.iload_n 2) 0 0 0 0 [] [] = true := by decide +kernel
theorem rf_f_T_givesSteam_37 : rf_Fb rf_m_T_givesSteam 37 72 (.tableswitch 108 1 5 #[35, 53, 66, 87, 100]) 145 0 0 1 [72, 90, 103, 124, 137] [] = true := by decide +kernel
theorem rf_f_T_givesSteam_72 : rf_Fb rf_m_T_givesSteam 72 73 (.aload_n 0) 0 0 0 0 [] [] = true := by decide +kernel
theorem rf_f_T_givesSteam_73 : rf_Fb rf_m_T_givesSteam 73 75 (.bipush 9) 0 0 0 0 [] [] = true := by decide +kernel
theorem rf_f_T_givesSteam_75 : rf_Fb rf_m_T_givesSteam 75 76 (.aload_n 0) 0 0 0 0 [] [] = true := by decide +kernel
theorem rf_f_T_givesSteam_76 : rf_Fb rf_m_T_givesSteam 76 79 (.getfield 30) 3 4 0 0 [] [] = true := by decide +kernel
theorem rf_f_T_givesSteam_79 : rf_Fb rf_m_T_givesSteam 79 80 (.iconst 1) 0 0 0 0 [] [] = true := by decide +kernel
theorem rf_f_T_givesSteam_80 : rf_Fb rf_m_T_givesSteam 80 81 (.iadd) 0 0 0 0 [] [] = true := by decide +kernel
theorem rf_f_T_givesSteam_81 : rf_Fb rf_m_T_givesSteam 81 84 (.invokestatic 117) 14 2 0 0 [] [] = true := by decide +kernel
theorem rf_f_T_givesSteam_84 : rf_Fb rf_m_T_givesSteam 84 87 (.putfield 30) 3 4 0 0 [] [] = true := by decide +kernel
theorem rf_f_T_givesSteam_87 : rf_Fb rf_m_T_givesSteam 87 90 (.goto 58) 145 0 0 0 [] [] = true := by decide +kernel
theorem rf_f_T_givesSteam_90 : rf_Fb rf_m_T_givesSteam 90 91 (.aload_n 0) 0 0 0 0 [] [] = true := by decide +kernel
theorem rf_f_T_givesSteam_91 : rf_Fb rf_m_T_givesSteam 91 92 (.dup) 0 0 0 0 [] [] = true := by decide +kernel
theorem rf_f_T_givesSteam_92 : rf_Fb rf_m_T_givesSteam 92 95 (.getfield 33) 3 5 0 0 [] [] = true := by decide +kernel
theorem rf_f_T_givesSteam_95 : rf_Fb rf_m_T_givesSteam 95 96 (.iconst 1) 0 0 0 0 [] [] = true := by decide +kernel
theorem rf_f_T_givesSteam_96 : rf_Fb rf_m_T_givesSteam 96 97 (.iadd) 0 0 0 0 [] [] = true := by decide +kernel
theorem rf_f_T_givesSteam_97 : rf_Fb rf_m_T_givesSteam 97 100 (.putfield 33) 3 5 0 0 [] [] = true := by decide +kernel
theorem rf_f_T_givesSteam_100 : rf_Fb rf_m_T_givesSteam 100 103 (.goto 45) 145 0 0 0 [] [] = true := by decide +kernel
theorem rf_f_T_givesSteam_103 : rf_Fb rf_m_T_givesSteam 103 104 (.aload_n 0) 0 0 0 0 [] [] = true := by decide +kernel
theorem rf_f_T_givesSteam_104 : rf_Fb rf_m_T_givesSteam 104 105 (.aload_n 0) 0 0 0 0 [] [] = true := by decide +kernel
theorem rf_f_T_givesSteam_105 : rf_Fb rf_m_T_givesSteam 105 108 (.getfield 33) 3 5 0 0 [] [] = true := by decide +kernel
theorem rf_f_T_givesSteam_108 : rf_Fb rf_m_T_givesSteam 108 111 (.putfield 45) 3 6 0 0 [] [] = true := by decide +kernel
theorem rf_f_T_givesSteam_111 : rf_Fb rf_m_T_givesSteam 111 112 (.aload_n 0) 0 0 0 0 [] [] = true := by decide +kernel
theorem rf_f_T_givesSteam_112 : rf_Fb rf_m_T_givesSteam 112 113 (.iconst 0) 0 0 0 0 [] [] = true := by decide +kernel
theorem rf_f_T_givesSteam_113 : rf_Fb rf_m_T_givesSteam 113 116 (.putfield 58) 3 10 3 0 [] [] = true := by decide +kernel
theorem rf_f_T_givesSteam_116 : rf_Fb rf_m_T_givesSteam 116 117 (.aload_n 0) 0 0 0 0 [] [] = true := by decide +kernel
theorem rf_f_T_givesSteam_117 : rf_Fb rf_m_T_givesSteam 117 118 (.iconst 1) 0 0 0 0 [] [] = true := by decide +kernel
theorem rf_f_T_givesSteam_118 : rf_Fb rf_m_T_givesSteam 118 121 (.putfield 61) 3 11 3 0 [] [] = true := by decide +kernel
theorem rf_f_T_givesSteam_121 : rf_Fb rf_m_T_givesSteam 121 124 (.goto 24) 145 0 0 0 [] [] = true := by decide +kernel
theorem rf_f_T_givesSteam_124 : rf_Fb rf_m_T_givesSteam 124 125 (.aload_n 0) 0 0 0 0 [] [] = true := by decide +kernel
theorem rf_f_T_givesSteam_125 : rf_Fb rf_m_T_givesSteam 125 126 (.dup) 0 0 0 0 [] [] = true := by decide +kernel
theorem rf_f_T_givesSteam_126 : rf_Fb rf_m_T_givesSteam 126 129 (.getfield 48) 3 7 0 0 [] [] = true := by decide +kernel
theorem rf_f_T_givesSteam_129 : rf_Fb rf_m_T_givesSteam 129 130 (.iconst 1) 0 0 0 0 [] [] = true := by decide +kernel
theorem rf_f_T_givesSteam_130 : rf_Fb rf_m_T_givesSteam 130 131 (.iadd) 0 0 0 0 [] [] = true := by decide +kernel
theorem rf_f_T_givesSteam_131 : rf_Fb rf_m_T_givesSteam 131 134 (.putfield 48) 3 7 0 0 [] [] = true := by decide +kernel
theorem rf_f_T_givesSteam_134 : rf_Fb rf_m_T_givesSteam 134 137 (.goto 11) 145 0 0 0 [] [] = true := by decide +kernel
theorem rf_f_T_givesSteam_137 : rf_Fb rf_m_T_givesSteam 137 138 (.aload_n 0) 0 0 0 0 [] [] = true := by decide +kernel
theorem rf_f_T_givesSteam_138 : rf_Fb rf_m_T_givesSteam 138 139 (.iconst 0) 0 0 0 0 [] [] = true := by decide +kernel
theorem rf_f_T_givesSteam_139 : rf_Fb rf_m_T_givesSteam 139 142 (.putfield 33) 3 5 0 0 [] [] = true := by decide +kernel
theorem rf_f_T_givesSteam_142 : rf_Fb rf_m_T_givesSteam 142 145 (.goto 3) 145 0 0 0 [] [] = true := by decide +kernel
theorem rf_f_T_givesSteam_145 : rf_Fb rf_m_T_givesSteam 145 146 (.return_) 0 0 0 0 [] [] = true := by decide +kernel
set_option maxRecDepth 20000 in
set_option maxHeartbeats 2000000 in
theorem rf_e_T_givesSteam (d : Nat) (o : Nat) (a1 : Int) (a2 : Int) (h : rf_H) : rf_call (d + 1) 46 [.inr (.inr (some o)), .inl a1, .inl a2] h = ((rf_pI h 3 o 9 0).bind fun h1 => ((rf_gI h1 3 o 2).bind fun x2 => (if a2 = 1 then rf_j_T_givesSteam_29 d o a2 (some o) 0 x2 2 h1 else (if 0 < a1 then rf_j_T_givesSteam_29 d o a2 (some o) 0 x2 1 h1 else rf_j_T_givesSteam_29 d o a2 (some o) 0 x2 0 h1)))) := by
  show rf_den (rf_call d) (rf_mt 46) _ = _
  rw [rf_u_T_givesSteam]
  exact ((rf_s_aload_n rf_f_T_givesSteam_0 rfl (rf_m0 _) (rf_s_iconst rf_f_T_givesSteam_1 (rf_m0 _) (rf_s_putZS (by decide) rf_f_T_givesSteam_2 (rf_m0 _) fun h1 => (rf_s_aload_n rf_f_T_givesSteam_5 rfl (rf_m0 _) (rf_s_iconst rf_f_T_givesSteam_6 (rf_m0 _) (rf_s_aload_n rf_f_T_givesSteam_7 rfl (rf_m0 _) (rf_s_getIS rf_f_T_givesSteam_8 (rf_m0 _) fun x2 => (rf_s_iload_n rf_f_T_givesSteam_11 rfl (rf_m0 _) (rf_s_iconst rf_f_T_givesSteam_12 (rf_m0 _) (rf_s_icmp_ne rf_f_T_givesSteam_13 rfl (rf_m0 _) (rf_m0 _) (rf_s_iload_n rf_f_T_givesSteam_20 rfl (rf_m0 _) (rf_s_if_le rf_f_T_givesSteam_21 rfl (rf_m0 _) (rf_m0 _) (rf_s_iconst rf_f_T_givesSteam_28 rfl rfl) (rf_s_iconst rf_f_T_givesSteam_24 (rf_m0 _) (rf_s_goto rf_f_T_givesSteam_25 rfl rfl rfl)))) (rf_s_iconst rf_f_T_givesSteam_16 (rf_m0 _) (rf_s_goto rf_f_T_givesSteam_17 rfl rfl rfl)))))))))))) : rf_den (rf_call d) rf_m_T_givesSteam (0, [some (.inr (.inr (some o))), some (.inl a1), some (.inl a2)], [], h) = _)
set_option maxRecDepth 20000 in
set_option maxHeartbeats 2000000 in
theorem rf_e_T_givesSteam_29 (d : Nat) (o : Nat) (l2 : Int) (s0 : Option Nat) (s1 : Int) (s2 : Int) (s3 : Int) (h : rf_H) : rf_j_T_givesSteam_29 d o l2 s0 s1 s2 s3 h = ((rf_call d 13 [.inl s1, .inl (rf_w (s2 - s3))] h).bind fun q2 => rf_kI q2 fun x3 h1 => (rf_nn s0 fun k4 => ((rf_pI h1 3 k4 2 x3).bind fun h5 => (if l2 = 1 then ((rf_gI h5 3 o 4).bind fun x15 => ((rf_call d 14 [.inl 9, .inl (rf_w (x15 + 1))] h5).bind fun q17 => rf_kI q17 fun x18 h16 => ((rf_pI h16 3 o 4 x18).bind fun h19 => some (none, h19)))) else (if l2 = (1 + 1) then ((rf_gI h5 3 o 5).bind fun x13 => ((rf_pI h5 3 o 5 (rf_w (x13 + 1))).bind fun h14 => some (none, h14))) else (if l2 = ((1 + 1) + 1) then ((rf_gI h5 3 o 5).bind fun x9 => ((rf_pI h5 3 o 6 x9).bind fun h10 => ((rf_pI h10 3 o 10 0).bind fun h11 => ((rf_pI h11 3 o 11 1).bind fun h12 => some (none, h12))))) else (if l2 = (((1 + 1) + 1) + 1) then ((rf_gI h5 3 o 7).bind fun x7 => ((rf_pI h5 3 o 7 (rf_w (x7 + 1))).bind fun h8 => some (none, h8))) else (if l2 = ((((1 + 1) + 1) + 1) + 1) then ((rf_pI h5 3 o 5 0).bind fun h6 => some (none, h6)) else some (none, h5))))))))) :=
  ((rf_s_isub rf_f_T_givesSteam_29 (rf_m0 _) (rf_s_invS0 rf_f_T_givesSteam_30 rfl rfl (rf_m0 _) fun q2 x3 h1 => (rf_s_putIR rf_f_T_givesSteam_33 (rf_m0 _) fun k4 h5 => (rf_s_iload_n rf_f_T_givesSteam_36 rfl (rf_m0 _) (rf_s_tsw rf_f_T_givesSteam_37 (rf_tsw_c (rf_tsw_g rfl (rf_m0 _) (rf_s_aload_n rf_f_T_givesSteam_72 rfl (rf_m0 _) (rf_s_bipush rf_f_T_givesSteam_73 (rf_m0 _) (rf_s_aload_n rf_f_T_givesSteam_75 rfl (rf_m0 _) (rf_s_getIS rf_f_T_givesSteam_76 (rf_m0 _) fun x15 => (rf_s_iconst rf_f_T_givesSteam_79 (rf_m0 _) (rf_s_iadd rf_f_T_givesSteam_80 (rf_m0 _) (rf_s_invS0 rf_f_T_givesSteam_81 rfl rfl (rf_m0 _) fun q17 x18 h16 => (rf_s_putIS rf_f_T_givesSteam_84 (rf_m0 _) fun h19 => (rf_s_goto rf_f_T_givesSteam_87 rfl (rf_m0 _) (rf_s_vret rf_f_T_givesSteam_145))))))))))) (rf_tsw_c (rf_tsw_g rfl (rf_m0 _) (rf_s_aload_n rf_f_T_givesSteam_90 rfl (rf_m0 _) (rf_s_dupA rf_f_T_givesSteam_91 (rf_m0 _) (rf_s_getIS rf_f_T_givesSteam_92 (rf_m0 _) fun x13 => (rf_s_iconst rf_f_T_givesSteam_95 (rf_m0 _) (rf_s_iadd rf_f_T_givesSteam_96 (rf_m0 _) (rf_s_putIS rf_f_T_givesSteam_97 (rf_m0 _) fun h14 => (rf_s_goto rf_f_T_givesSteam_100 rfl (rf_m0 _) (rf_s_vret rf_f_T_givesSteam_145))))))))) (rf_tsw_c (rf_tsw_g rfl (rf_m0 _) (rf_s_aload_n rf_f_T_givesSteam_103 rfl (rf_m0 _) (rf_s_aload_n rf_f_T_givesSteam_104 rfl (rf_m0 _) (rf_s_getIS rf_f_T_givesSteam_105 (rf_m0 _) fun x9 => (rf_s_putIS rf_f_T_givesSteam_108 (rf_m0 _) fun h10 => (rf_s_aload_n rf_f_T_givesSteam_111 rfl (rf_m0 _) (rf_s_iconst rf_f_T_givesSteam_112 (rf_m0 _) (rf_s_putZS (by decide) rf_f_T_givesSteam_113 (rf_m0 _) fun h11 => (rf_s_aload_n rf_f_T_givesSteam_116 rfl (rf_m0 _) (rf_s_iconst rf_f_T_givesSteam_117 (rf_m0 _) (rf_s_putZS (by decide) rf_f_T_givesSteam_118 (rf_m0 _) fun h12 => (rf_s_goto rf_f_T_givesSteam_121 rfl (rf_m0 _) (rf_s_vret rf_f_T_givesSteam_145))))))))))))) (rf_tsw_c (rf_tsw_g rfl (rf_m0 _) (rf_s_aload_n rf_f_T_givesSteam_124 rfl (rf_m0 _) (rf_s_dupA rf_f_T_givesSteam_125 (rf_m0 _) (rf_s_getIS rf_f_T_givesSteam_126 (rf_m0 _) fun x7 => (rf_s_iconst rf_f_T_givesSteam_129 (rf_m0 _) (rf_s_iadd rf_f_T_givesSteam_130 (rf_m0 _) (rf_s_putIS rf_f_T_givesSteam_131 (rf_m0 _) fun h8 => (rf_s_goto rf_f_T_givesSteam_134 rfl (rf_m0 _) (rf_s_vret rf_f_T_givesSteam_145))))))))) (rf_tsw_c (rf_tsw_g rfl (rf_m0 _) (rf_s_aload_n rf_f_T_givesSteam_137 rfl (rf_m0 _) (rf_s_iconst rf_f_T_givesSteam_138 (rf_m0 _) (rf_s_putIS rf_f_T_givesSteam_139 (rf_m0 _) fun h6 => (rf_s_goto rf_f_T_givesSteam_142 rfl (rf_m0 _) (rf_s_vret rf_f_T_givesSteam_145)))))) (rf_tsw_n (rf_tsw_g rfl (rf_m0 _) (rf_s_vret rf_f_T_givesSteam_145))))))))))))) : rf_den (rf_call d) rf_m_T_givesSteam (29, [some (.inr (.inr (some o))), none, some (.inl l2)], [.inl s3, .inl s2, .inl s1, .inr (.inr s0)], h) = _)
theorem rf_u_T_canBe : rf_mt 47 = rf_m_T_canBe := rfl
theorem rf_f_T_canBe_0 : rf_Fb rf_m_T_canBe 0 1 (.iload_n 1) 0 0 0 0 [] [] = true := by decide +kernel
theorem rf_f_T_canBe_1 : rf_Fb rf_m_T_canBe 1 3 (.bipush 9) 0 0 0 0 [] [] = true := by decide +kernel
theorem rf_f_T_canBe_3 : rf_Fb rf_m_T_canBe 3 6 (.if_icmp .gt 17) 20 0 0 0 [] [] = true := by decide +kernel
theorem rf_f_T_canBe_6 : rf_Fb rf_m_T_canBe 6 7 (.iload_n 1) 0 0 0 0 [] [] = true := by decide +kernel
theorem rf_f_T_canBe_7 : rf_Fb rf_m_T_canBe 7 8 (.aload_n 0) 0 0 0 0 [] [] = true := by decide +kernel
theorem rf_f_T_canBe_8 : rf_Fb rf_m_T_canBe 8 11 (.getfield 25) 3 2 0 0 [] [] = true := by decide +kernel
theorem rf_f_T_canBe_11 : rf_Fb rf_m_T_canBe 11 14 (.if_icmp .gt 7) 18 0 0 0 [] [] = true := by decide +kernel
theorem rf_f_T_canBe_14 : rf_Fb rf_m_T_canBe 14 15 (.iconst 1) 0 0 0 0 [] [] = true := by decide +kernel
theorem rf_f_T_canBe_15 : rf_Fb rf_m_T_canBe 15 18 (.goto 4) 19 0 0 0 [] [] = true := by decide +kernel
theorem rf_f_T_canBe_18 : rf_Fb rf_m_T_canBe 18 19 (.iconst 0) 0 0 0 0 [] [] = true := by decide +kernel
theorem rf_f_T_canBe_19 : rf_Fb rf_m_T_canBe 19 20 (.ireturn) 0 0 1 0 [] [] = true := by decide +kernel
theorem rf_f_T_canBe_20 : rf_Fb rf_m_T_canBe 20 21 (.iload_n 1) 0 0 0 0 [] [] = true := by decide +kernel
theorem rf_f_T_canBe_21 : rf_Fb rf_m_T_canBe 21 23 (.bipush 10) 0 0 0 0 [] [] = true := by decide +kernel
theorem rf_f_T_canBe_23 : rf_Fb rf_m_T_canBe 23 26 (.if_icmp .ne 16) 39 0 0 0 [] [] = true := by decide +kernel
theorem rf_f_T_canBe_26 : rf_Fb rf_m_T_canBe 26 27 (.aload_n 0) 0 0 0 0 [] [] = true := by decide +kernel
theorem rf_f_T_canBe_27 : rf_Fb rf_m_T_canBe 27 30 (.getfield 29) 3 3 0 0 [] [] = true := by decide +kernel
theorem rf_f_T_canBe_30 : rf_Fb rf_m_T_canBe 30 33 (.ifCond .le 7) 37 0 0 0 [] [] = true := by decide +kernel
theorem rf_f_T_canBe_33 : rf_Fb rf_m_T_canBe 33 34 (.iconst 1) 0 0 0 0 [] [] = true := by decide +kernel
theorem rf_f_T_canBe_34 : rf_Fb rf_m_T_canBe 34 37 (.goto 4) 38 0 0 0 [] [] = true := by decide +kernel
theorem rf_f_T_canBe_37 : rf_Fb rf_m_T_canBe 37 38 (.iconst 0) 0 0 0 0 [] [] = true := by decide +kernel
theorem rf_f_T_canBe_38 : rf_Fb rf_m_T_canBe 38 39 (.ireturn) 0 0 1 0 [] [] = true := by decide +kernel
theorem rf_f_T_canBe_39 : rf_Fb rf_m_T_canBe 39 40 (.iload_n 1) 0 0 0 0 [] [] = true := by decide +kernel
theorem rf_f_T_canBe_40 : rf_Fb rf_m_T_canBe 40 42 (.bipush 14) 0 0 0 0 [] [] = true := by decide +kernel
theorem rf_f_T_canBe_42 : rf_Fb rf_m_T_canBe 42 45 (.if_icmp .ne 10) 52 0 0 0 [] [] = true := by decide +kernel
theorem rf_f_T_canBe_45 : rf_Fb rf_m_T_canBe 45 46 (.aload_n 0) 0 0 0 0 [] [] = true := by decide +kernel
theorem rf_f_T_canBe_46 : rf_Fb rf_m_T_canBe 46 49 (.getfield 61) 3 11 0 0 [] [] = true := by decide +kernel
theorem rf_f_T_canBe_49 : rf_Fb rf_m_T_canBe 49 52 (.ifCond .ne 7) 56 0 0 0 [] [] = true := by decide +kernel
theorem rf_f_T_canBe_52 : rf_Fb rf_m_T_canBe 52 53 (.iconst 1) 0 0 0 0 [] [] = true := by decide +kernel
theorem rf_f_T_canBe_53 : rf_Fb rf_m_T_canBe 53 56 (.goto 4) 57 0 0 0 [] [] = true := by decide +kernel
theorem rf_f_T_canBe_56 : rf_Fb rf_m_T_canBe 56 57 (.iconst 0) 0 0 0 0 [] [] = true := by decide +kernel
theorem rf_f_T_canBe_57 : rf_Fb rf_m_T_canBe 57 58 (.ireturn) 0 0 1 0 [] [] = true := by decide +kernel
set_option maxRecDepth 20000 in
set_option maxHeartbeats 2000000 in
theorem rf_e_T_canBe (d : Nat) (o : Nat) (a1 : Int) (h : rf_H) : rf_call (d + 1) 47 [.inr (.inr (some o)), .inl a1] h = (if 9 < a1 then (if a1 = 10 then ((rf_gI h 3 o 3).bind fun x2 => (if 0 < x2 then some (some (.inl 1), h) else some (some (.inl 0), h))) else (if a1 = 14 then ((rf_gI h 3 o 11).bind fun x1 => (if x1 = 0 then some (some (.inl 1), h) else some (some (.inl 0), h))) else some (some (.inl 1), h))) else ((rf_gI h 3 o 2).bind fun x3 => (if x3 < a1 then some (some (.inl 0), h) else some (some (.inl 1), h)))) := by
  show rf_den (rf_call d) (rf_mt 47) _ = _
  rw [rf_u_T_canBe]
  exact ((rf_s_iload_n rf_f_T_canBe_0 rfl (rf_m0 _) (rf_s_bipush rf_f_T_canBe_1 (rf_m0 _) (rf_s_icmp_gt rf_f_T_canBe_3 rfl (rf_m0 _) (rf_m0 _) (rf_s_iload_n rf_f_T_canBe_20 rfl (rf_m0 _) (rf_s_bipush rf_f_T_canBe_21 (rf_m0 _) (rf_s_icmp_ne rf_f_T_canBe_23 rfl (rf_m0 _) (rf_m0 _) (rf_s_iload_n rf_f_T_canBe_39 rfl (rf_m0 _) (rf_s_bipush rf_f_T_canBe_40 (rf_m0 _) (rf_s_icmp_ne rf_f_T_canBe_42 rfl (rf_m0 _) (rf_m0 _) (rf_s_iconst rf_f_T_canBe_52 (rf_m0 _) (rf_s_goto rf_f_T_canBe_53 rfl (rf_m0 _) (rf_s_zretK rf_f_T_canBe_57 (by decide)))) (rf_s_aload_n rf_f_T_canBe_45 rfl (rf_m0 _) (rf_s_getIS rf_f_T_canBe_46 (rf_m0 _) fun x1 => (rf_s_if_ne rf_f_T_canBe_49 rfl (rf_m0 _) (rf_m0 _) (rf_s_iconst rf_f_T_canBe_56 (rf_m0 _) (rf_s_zretK rf_f_T_canBe_57 (by decide))) (rf_s_iconst rf_f_T_canBe_52 (rf_m0 _) (rf_s_goto rf_f_T_canBe_53 rfl (rf_m0 _) (rf_s_zretK rf_f_T_canBe_57 (by decide)))))))))) (rf_s_aload_n rf_f_T_canBe_26 rfl (rf_m0 _) (rf_s_getIS rf_f_T_canBe_27 (rf_m0 _) fun x2 => (rf_s_if_le rf_f_T_canBe_30 rfl (rf_m0 _) (rf_m0 _) (rf_s_iconst rf_f_T_canBe_37 (rf_m0 _) (rf_s_zretK rf_f_T_canBe_38 (by decide))) (rf_s_iconst rf_f_T_canBe_33 (rf_m0 _) (rf_s_goto rf_f_T_canBe_34 rfl (rf_m0 _) (rf_s_zretK rf_f_T_canBe_38 (by decide)))))))))) (rf_s_iload_n rf_f_T_canBe_6 rfl (rf_m0 _) (rf_s_aload_n rf_f_T_canBe_7 rfl (rf_m0 _) (rf_s_getIS rf_f_T_canBe_8 (rf_m0 _) fun x3 => (rf_s_icmp_gt rf_f_T_canBe_11 rfl (rf_m0 _) (rf_m0 _) (rf_s_iconst rf_f_T_canBe_18 (rf_m0 _) (rf_s_zretK rf_f_T_canBe_19 (by decide))) (rf_s_iconst rf_f_T_canBe_14 (rf_m0 _) (rf_s_goto rf_f_T_canBe_15 rfl (rf_m0 _) (rf_s_zretK rf_f_T_canBe_19 (by decide))))))))))) : rf_den (rf_call d) rf_m_T_canBe (0, [some (.inr (.inr (some o))), some (.inl a1)], [], h) = _)
theorem rf_u_T_becomes : rf_mt 48 = rf_m_T_becomes := rfl
theorem rf_f_T_becomes_0 : rf_Fb rf_m_T_becomes 0 1 (.aload_n 0) 0 0 0 0 [] [] = true := by decide +kernel
theorem rf_f_T_becomes_1 : rf_Fb rf_m_T_becomes 1 2 (.aload_n 1) 0 0 0 0 [] [] = true := by decide +kernel
theorem rf_f_T_becomes_2 : rf_Fb rf_m_T_becomes 2 5 (.getfield 25) 3 2 0 0 [] [] = true := by decide +kernel
theorem rf_f_T_becomes_5 : rf_Fb rf_m_T_becomes 5 8 (.putfield 25) 3 2 0 0 [] [] = true := by decide +kernel
theorem rf_f_T_becomes_8 : rf_Fb rf_m_T_becomes 8 9 (.aload_n 0) 0 0 0 0 [] [] = true := by decide +kernel
theorem rf_f_T_becomes_9 : rf_Fb rf_m_T_becomes 9 10 (.aload_n 1) 0 0 0 0 [] [] = true := by decide +kernel
theorem rf_f_T_becomes_10 : rf_Fb rf_m_T_becomes 10 13 (.getfield 29) 3 3 0 0 [] [] = true := by decide +kernel
theorem rf_f_T_becomes_13 : rf_Fb rf_m_T_becomes 13 16 (.putfield 29) 3 3 0 0 [] [] = true := by decide +kernel
theorem rf_f_T_becomes_16 : rf_Fb rf_m_T_becomes 16 17 (.aload_n 0) 0 0 0 0 [] [] = true := by decide +kernel
theorem rf_f_T_becomes_17 : rf_Fb rf_m_T_becomes 17 18 (.aload_n 1) 0 0 0 0 [] [] = true := by decide +kernel
theorem rf_f_T_becomes_18 : rf_Fb rf_m_T_becomes 18 21 (.getfield 30) 3 4 0 0 [] [] = true := by decide +kernel
theorem rf_f_T_becomes_21 : rf_Fb rf_m_T_becomes 21 24 (.putfield 30) 3 4 0 0 [] [] = true := by decide +kernel
theorem rf_f_T_becomes_24 : rf_Fb rf_m_T_becomes 24 25 (.aload_n 0) 0 0 0 0 [] [] = true := by decide +kernel
theorem rf_f_T_becomes_25 : rf_Fb rf_m_T_becomes 25 26 (.aload_n 1) 0 0 0 0 [] [] = true := by decide +kernel
theorem rf_f_T_becomes_26 : rf_Fb rf_m_T_becomes 26 29 (.getfield 33) 3 5 0 0 [] [] = true := by decide +kernel
theorem rf_f_T_becomes_29 : rf_Fb rf_m_T_becomes 29 32 (.putfield 33) 3 5 0 0 [] [] = true := by decide +kernel
theorem rf_f_T_becomes_32 : rf_Fb rf_m_T_becomes 32 33 (.aload_n 0) 0 0 0 0 [] [] = true := by decide +kernel
theorem rf_f_T_becomes_33 : rf_Fb rf_m_T_becomes 33 34 (.aload_n 1) 0 0 0 0 [] [] = true := by decide +kernel
theorem rf_f_T_becomes_34 : rf_Fb rf_m_T_becomes 34 37 (.getfield 45) 3 6 0 0 [] [] = true := by decide +kernel
theorem rf_f_T_becomes_37 : rf_Fb rf_m_T_becomes 37 40 (.putfield 45) 3 6 0 0 [] [] = true := by decide +kernel
theorem rf_f_T_becomes_40 : rf_Fb rf_m_T_becomes 40 41 (.aload_n 0) 0 0 0 0 [] [] = true := by decide +kernel
theorem rf_f_T_becomes_41 : rf_Fb rf_m_T_becomes 41 42 (.aload_n 1) 0 0 0 0 [] [] = true := by decide +kernel
theorem rf_f_T_becomes_42 : rf_Fb rf_m_T_becomes 42 45 (.getfield 48) 3 7 0 0 [] [] = true := by decide +kernel
theorem rf_f_T_becomes_45 : rf_Fb rf_m_T_becomes 45 48 (.putfield 48) 3 7 0 0 [] [] = true := by decide +kernel
theorem rf_f_T_becomes_48 : rf_Fb rf_m_T_becomes 48 49 (.aload_n 0) 0 0 0 0 [] [] = true := by decide +kernel
theorem rf_f_T_becomes_49 : rf_Fb rf_m_T_becomes 49 50 (.aload_n 1) 0 0 0 0 [] [] = true := by decide +kernel
theorem rf_f_T_becomes_50 : rf_Fb rf_m_T_becomes 50 53 (.getfield 51) 3 8 0 0 [] [] = true := by decide +kernel
theorem rf_f_T_becomes_53 : rf_Fb rf_m_T_becomes 53 56 (.putfield 51) 3 8 0 0 [] [] = true := by decide +kernel
theorem rf_f_T_becomes_56 : rf_Fb rf_m_T_becomes 56 57 (.aload_n 0) 0 0 0 0 [] [] = true := by decide +kernel
theorem rf_f_T_becomes_57 : rf_Fb rf_m_T_becomes 57 58 (.aload_n 1) 0 0 0 0 [] [] = true := by decide +kernel
theorem rf_f_T_becomes_58 : rf_Fb rf_m_T_becomes 58 61 (.getfield 54) 3 9 0 0 [] [] = true := by decide +kernel
theorem rf_f_T_becomes_61 : rf_Fb rf_m_T_becomes 61 64 (.putfield 54) 3 9 3 0 [] [] = true := by decide +kernel
theorem rf_f_T_becomes_64 : rf_Fb rf_m_T_becomes 64 65 (.aload_n 0) 0 0 0 0 [] [] = true := by decide +kernel
theorem rf_f_T_becomes_65 : rf_Fb rf_m_T_becomes 65 66 (.aload_n 1) 0 0 0 0 [] [] = true := by decide +kernel
theorem rf_f_T_becomes_66 : rf_Fb rf_m_T_becomes 66 69 (.getfield 58) 3 10 0 0 [] [] = true := by decide +kernel
theorem rf_f_T_becomes_69 : rf_Fb rf_m_T_becomes 69 72 (.putfield 58) 3 10 3 0 [] [] = true := by decide +kernel
theorem rf_f_T_becomes_72 : rf_Fb rf_m_T_becomes 72 73 (.aload_n 0) 0 0 0 0 [] [] = true := by decide +kernel
theorem rf_f_T_becomes_73 : rf_Fb rf_m_T_becomes 73 74 (.aload_n 1) 0 0 0 0 [] [] = true := by decide +kernel
theorem rf_f_T_becomes_74 : rf_Fb rf_m_T_becomes 74 77 (.getfield 61) 3 11 0 0 [] [] = true := by decide +kernel
theorem rf_f_T_becomes_77 : rf_Fb rf_m_T_becomes 77 80 (.putfield 61) 3 11 3 0 [] [] = true := by decide +kernel
theorem rf_f_T_becomes_80 : rf_Fb rf_m_T_becomes 80 81 (.return_) 0 0 0 0 [] [] = true := by decide +kernel
set_option maxRecDepth 20000 in
set_option maxHeartbeats 2000000 in
theorem rf_e_T_becomes (d : Nat) (o : Nat) (a1 : Option Nat) (h : rf_H) : rf_call (d + 1) 48 [.inr (.inr (some o)), .inr (.inr a1)] h = (rf_nn a1 fun k1 => ((rf_gI h 3 k1 2).bind fun x2 => ((rf_pI h 3 o 2 x2).bind fun h3 => (rf_nn a1 fun k4 => ((rf_gI h3 3 k4 3).bind fun x5 => ((rf_pI h3 3 o 3 x5).bind fun h6 => (rf_nn a1 fun k7 => ((rf_gI h6 3 k7 4).bind fun x8 => ((rf_pI h6 3 o 4 x8).bind fun h9 => (rf_nn a1 fun k10 => ((rf_gI h9 3 k10 5).bind fun x11 => ((rf_pI h9 3 o 5 x11).bind fun h12 => (rf_nn a1 fun k13 => ((rf_gI h12 3 k13 6).bind fun x14 => ((rf_pI h12 3 o 6 x14).bind fun h15 => (rf_nn a1 fun k16 => ((rf_gI h15 3 k16 7).bind fun x17 => ((rf_pI h15 3 o 7 x17).bind fun h18 => (rf_nn a1 fun k19 => ((rf_gI h18 3 k19 8).bind fun x20 => ((rf_pI h18 3 o 8 x20).bind fun h21 => (rf_nn a1 fun k22 => ((rf_gI h21 3 k22 9).bind fun x23 => (if x23 = 0 ∨ x23 = 1 then ((rf_pI h21 3 o 9 x23).bind fun h24 => (rf_nn a1 fun k25 => ((rf_gI h24 3 k25 10).bind fun x26 => (if x26 = 0 ∨ x26 = 1 then ((rf_pI h24 3 o 10 x26).bind fun h27 => (rf_nn a1 fun k28 => ((rf_gI h27 3 k28 11).bind fun x29 => (if x29 = 0 ∨ x29 = 1 then ((rf_pI h27 3 o 11 x29).bind fun h30 => some (none, h30)) else none)))) else none)))) else none)))))))))))))))))))))))) := by
  show rf_den (rf_call d) (rf_mt 48) _ = _
  rw [rf_u_T_becomes]
  exact ((rf_s_aload_n rf_f_T_becomes_0 rfl (rf_m0 _) (rf_s_aload_n rf_f_T_becomes_1 rfl (rf_m0 _) (rf_s_getIR rf_f_T_becomes_2 (rf_m0 _) fun k1 x2 => (rf_s_putIS rf_f_T_becomes_5 (rf_m0 _) fun h3 => (rf_s_aload_n rf_f_T_becomes_8 rfl (rf_m0 _) (rf_s_aload_n rf_f_T_becomes_9 rfl (rf_m0 _) (rf_s_getIR rf_f_T_becomes_10 (rf_m0 _) fun k4 x5 => (rf_s_putIS rf_f_T_becomes_13 (rf_m0 _) fun h6 => (rf_s_aload_n rf_f_T_becomes_16 rfl (rf_m0 _) (rf_s_aload_n rf_f_T_becomes_17 rfl (rf_m0 _) (rf_s_getIR rf_f_T_becomes_18 (rf_m0 _) fun k7 x8 => (rf_s_putIS rf_f_T_becomes_21 (rf_m0 _) fun h9 => (rf_s_aload_n rf_f_T_becomes_24 rfl (rf_m0 _) (rf_s_aload_n rf_f_T_becomes_25 rfl (rf_m0 _) (rf_s_getIR rf_f_T_becomes_26 (rf_m0 _) fun k10 x11 => (rf_s_putIS rf_f_T_becomes_29 (rf_m0 _) fun h12 => (rf_s_aload_n rf_f_T_becomes_32 rfl (rf_m0 _) (rf_s_aload_n rf_f_T_becomes_33 rfl (rf_m0 _) (rf_s_getIR rf_f_T_becomes_34 (rf_m0 _) fun k13 x14 => (rf_s_putIS rf_f_T_becomes_37 (rf_m0 _) fun h15 => (rf_s_aload_n rf_f_T_becomes_40 rfl (rf_m0 _) (rf_s_aload_n rf_f_T_becomes_41 rfl (rf_m0 _) (rf_s_getIR rf_f_T_becomes_42 (rf_m0 _) fun k16 x17 => (rf_s_putIS rf_f_T_becomes_45 (rf_m0 _) fun h18 => (rf_s_aload_n rf_f_T_becomes_48 rfl (rf_m0 _) (rf_s_aload_n rf_f_T_becomes_49 rfl (rf_m0 _) (rf_s_getIR rf_f_T_becomes_50 (rf_m0 _) fun k19 x20 => (rf_s_putIS rf_f_T_becomes_53 (rf_m0 _) fun h21 => (rf_s_aload_n rf_f_T_becomes_56 rfl (rf_m0 _) (rf_s_aload_n rf_f_T_becomes_57 rfl (rf_m0 _) (rf_s_getIR rf_f_T_becomes_58 (rf_m0 _) fun k22 x23 => (rf_s_putZgS rf_f_T_becomes_61 (rf_m0 _) fun h24 => (rf_s_aload_n rf_f_T_becomes_64 rfl (rf_m0 _) (rf_s_aload_n rf_f_T_becomes_65 rfl (rf_m0 _) (rf_s_getIR rf_f_T_becomes_66 (rf_m0 _) fun k25 x26 => (rf_s_putZgS rf_f_T_becomes_69 (rf_m0 _) fun h27 => (rf_s_aload_n rf_f_T_becomes_72 rfl (rf_m0 _) (rf_s_aload_n rf_f_T_becomes_73 rfl (rf_m0 _) (rf_s_getIR rf_f_T_becomes_74 (rf_m0 _) fun k28 x29 => (rf_s_putZgS rf_f_T_becomes_77 (rf_m0 _) fun h30 => (rf_s_vret rf_f_T_becomes_80))))))))))))))))))))))))))))))))))))))))) : rf_den (rf_call d) rf_m_T_becomes (0, [some (.inr (.inr (some o))), some (.inr (.inr a1))], [], h) = _)
theorem rf_u_T_doesAsOneLess : rf_mt 49 = rf_m_T_doesAsOneLess := rfl
theorem rf_f_T_doesAsOneLess_0 : rf_Fb rf_m_T_doesAsOneLess 0 1 (.iload_n 1) 0 0 0 0 [] [] = true := by decide +kernel
theorem rf_f_T_doesAsOneLess_1 : rf_Fb rf_m_T_doesAsOneLess 1 2 (.iconst 1) 0 0 0 0 [] [] = true := by decide +kernel
theorem rf_f_T_doesAsOneLess_2 : rf_Fb rf_m_T_doesAsOneLess 2 5 (.if_icmp .le 36) 38 0 0 0 [] [] = true := by decide +kernel
theorem rf_f_T_doesAsOneLess_5 : rf_Fb rf_m_T_doesAsOneLess 5 6 (.iload_n 1) 0 0 0 0 [] [] = true := by decide +kernel
theorem rf_f_T_doesAsOneLess_6 : rf_Fb rf_m_T_doesAsOneLess 6 8 (.bipush 9) 0 0 0 0 [] [] = true := by decide +kernel
theorem rf_f_T_doesAsOneLess_8 : rf_Fb rf_m_T_doesAsOneLess 8 11 (.if_icmp .gt 30) 38 0 0 0 [] [] = true := by decide +kernel
theorem rf_f_T_doesAsOneLess_11 : rf_Fb rf_m_T_doesAsOneLess 11 12 (.aload_n 0) 0 0 0 0 [] [] = true := by decide +kernel
theorem rf_f_T_doesAsOneLess_12 : rf_Fb rf_m_T_doesAsOneLess 12 13 (.iload_n 1) 0 0 0 0 [] [] = true := by decide +kernel
theorem rf_f_T_doesAsOneLess_13 : rf_Fb rf_m_T_doesAsOneLess 13 14 (.aload_n 0) 0 0 0 0 [] [] = true := by decide +kernel
theorem rf_f_T_doesAsOneLess_14 : rf_Fb rf_m_T_doesAsOneLess 14 17 (.invokevirtual 102) 39 0 0 3 [] [] = true := by decide +kernel
theorem rf_f_T_doesAsOneLess_17 : rf_Fb rf_m_T_doesAsOneLess 17 20 (.invokevirtual 106) 41 2 0 3 [] [] = true := by decide +kernel
theorem rf_f_T_doesAsOneLess_20 : rf_Fb rf_m_T_doesAsOneLess 20 21 (.aload_n 0) 0 0 0 0 [] [] = true := by decide +kernel
theorem rf_f_T_doesAsOneLess_21 : rf_Fb rf_m_T_doesAsOneLess 21 22 (.iload_n 1) 0 0 0 0 [] [] = true := by decide +kernel
theorem rf_f_T_doesAsOneLess_22 : rf_Fb rf_m_T_doesAsOneLess 22 23 (.iconst 1) 0 0 0 0 [] [] = true := by decide +kernel
theorem rf_f_T_doesAsOneLess_23 : rf_Fb rf_m_T_doesAsOneLess 23 24 (.isub) 0 0 0 0 [] [] = true := by decide +kernel
theorem rf_f_T_doesAsOneLess_24 : rf_Fb rf_m_T_doesAsOneLess 24 25 (.aload_n 0) 0 0 0 0 [] [] = true := by decide +kernel
theorem rf_f_T_doesAsOneLess_25 : rf_Fb rf_m_T_doesAsOneLess 25 28 (.invokevirtual 102) 39 0 0 3 [] [] = true := by decide +kernel
theorem rf_f_T_doesAsOneLess_28 : rf_Fb rf_m_T_doesAsOneLess 28 31 (.invokevirtual 106) 41 2 0 3 [] [] = true := by decide +kernel
theorem rf_f_T_doesAsOneLess_31 : rf_Fb rf_m_T_doesAsOneLess 31 34 (.if_icmp .ne 7) 38 0 0 0 [] [] = true := by decide +kernel
theorem rf_f_T_doesAsOneLess_34 : rf_Fb rf_m_T_doesAsOneLess 34 35 (.iconst 1) 0 0 0 0 [] [] = true := by decide +kernel
theorem rf_f_T_doesAsOneLess_35 : rf_Fb rf_m_T_doesAsOneLess 35 38 (.goto 4) 39 0 0 0 [] [] = true := by decide +kernel
theorem rf_f_T_doesAsOneLess_38 : rf_Fb rf_m_T_doesAsOneLess 38 39 (.iconst 0) 0 0 0 0 [] [] = true := by decide +kernel
theorem rf_f_T_doesAsOneLess_39 : rf_Fb rf_m_T_doesAsOneLess 39 40 (.ireturn) 0 0 1 0 [] [] = true := by decide +kernel
set_option maxRecDepth 20000 in
set_option maxHeartbeats 2000000 in
theorem rf_e_T_doesAsOneLess (d : Nat) (o : Nat) (a1 : Int) (h : rf_H) : rf_call (d + 1) 49 [.inr (.inr (some o)), .inl a1] h = (if 1 < a1 then (if 9 < a1 then some (some (.inl 0), h) else (bif rf_isO h.1 o 3 then ((rf_call d 39 [.inr (.inr (some o))] h).bind fun q2 => rf_kI q2 fun x3 h1 => (bif rf_isO h1.1 o 3 then ((rf_call d 41 [.inr (.inr (some o)), .inl a1, .inl x3] h1).bind fun q5 => rf_kI q5 fun x6 h4 => (bif rf_isO h4.1 o 3 then ((rf_call d 39 [.inr (.inr (some o))] h4).bind fun q8 => rf_kI q8 fun x9 h7 => (bif rf_isO h7.1 o 3 then ((rf_call d 41 [.inr (.inr (some o)), .inl (rf_w (a1 - 1)), .inl x9] h7).bind fun q11 => rf_kI q11 fun x12 h10 => (if x6 = x12 then some (some (.inl 1), h10) else some (some (.inl 0), h10))) else none)) else none)) else none)) else none)) else some (some (.inl 0), h)) := by
  show rf_den (rf_call d) (rf_mt 49) _ = _
  rw [rf_u_T_doesAsOneLess]
  exact ((rf_s_iload_n rf_f_T_doesAsOneLess_0 rfl (rf_m0 _) (rf_s_iconst rf_f_T_doesAsOneLess_1 (rf_m0 _) (rf_s_icmp_le rf_f_T_doesAsOneLess_2 rfl (rf_m0 _) (rf_m0 _) (rf_s_iconst rf_f_T_doesAsOneLess_38 (rf_m0 _) (rf_s_zretK rf_f_T_doesAsOneLess_39 (by decide))) (rf_s_iload_n rf_f_T_doesAsOneLess_5 rfl (rf_m0 _) (rf_s_bipush rf_f_T_doesAsOneLess_6 (rf_m0 _) (rf_s_icmp_gt rf_f_T_doesAsOneLess_8 rfl (rf_m0 _) (rf_m0 _) (rf_s_iconst rf_f_T_doesAsOneLess_38 (rf_m0 _) (rf_s_zretK rf_f_T_doesAsOneLess_39 (by decide))) (rf_s_aload_n rf_f_T_doesAsOneLess_11 rfl (rf_m0 _) (rf_s_iload_n rf_f_T_doesAsOneLess_12 rfl (rf_m0 _) (rf_s_aload_n rf_f_T_doesAsOneLess_13 rfl (rf_m0 _) (rf_s_invV0S rf_f_T_doesAsOneLess_14 rfl rfl (rf_m0 _) fun q2 x3 h1 => (rf_s_invV0S rf_f_T_doesAsOneLess_17 rfl rfl (rf_m0 _) fun q5 x6 h4 => (rf_s_aload_n rf_f_T_doesAsOneLess_20 rfl (rf_m0 _) (rf_s_iload_n rf_f_T_doesAsOneLess_21 rfl (rf_m0 _) (rf_s_iconst rf_f_T_doesAsOneLess_22 (rf_m0 _) (rf_s_isub rf_f_T_doesAsOneLess_23 (rf_m0 _) (rf_s_aload_n rf_f_T_doesAsOneLess_24 rfl (rf_m0 _) (rf_s_invV0S rf_f_T_doesAsOneLess_25 rfl rfl (rf_m0 _) fun q8 x9 h7 => (rf_s_invV0S rf_f_T_doesAsOneLess_28 rfl rfl (rf_m0 _) fun q11 x12 h10 => (rf_s_icmp_ne rf_f_T_doesAsOneLess_31 rfl (rf_m0 _) (rf_m0 _) (rf_s_iconst rf_f_T_doesAsOneLess_38 (rf_m0 _) (rf_s_zretK rf_f_T_doesAsOneLess_39 (by decide))) (rf_s_iconst rf_f_T_doesAsOneLess_34 (rf_m0 _) (rf_s_goto rf_f_T_doesAsOneLess_35 rfl (rf_m0 _) (rf_s_zretK rf_f_T_doesAsOneLess_39 (by decide))))))))))))))))))))))) : rf_den (rf_call d) rf_m_T_doesAsOneLess (0, [some (.inr (.inr (some o))), some (.inl a1)], [], h) = _)
noncomputable def rf_j_P_startsWithin_37 (d : Nat) (l0 : Option Nat) (l1 : Int) (l2 : Int) (l3 : Option Nat) (l4 : Option Nat) (l5 : Int) (l6 : Int) (h : rf_H) : Option rf_R := rf_den (rf_call d) rf_m_P_startsWithin (37, [some (.inr (.inr l0)), some (.inl l1), some (.inl l2), some (.inr (.inr l3)), some (.inr (.inr l4)), some (.inl l5), some (.inl l6)], [], h)
theorem rf_u_P_startsWithin : rf_mt 50 = rf_m_P_startsWithin := rfl
theorem rf_f_P_startsWithin_0 : rf_Fb rf_m_P_startsWithin 0 1 (.aload_n 0) 0 0 0 0 [] [] = true := by decide +kernel
theorem rf_f_P_startsWithin_1 : rf_Fb rf_m_P_startsWithin 1 4 (.getfield 9) 3 1 2 0 [] [] = true := by decide +kernel
theorem rf_f_P_startsWithin_4 : rf_Fb rf_m_P_startsWithin 4 6 (.astore 4) 0 0 0 0 [] [] = true := by decide +kernel
theorem rf_f_P_startsWithin_6 : rf_Fb rf_m_P_startsWithin 6 7 (.iload_n 1) 0 0 0 0 [] [] = true := by decide +kernel
theorem rf_f_P_startsWithin_7 : rf_Fb rf_m_P_startsWithin 7 8 (.iload_n 2) 0 0 0 0 [] [] = true := by decide +kernel
theorem rf_f_P_startsWithin_8 : rf_Fb rf_m_P_startsWithin 8 11 (.if_icmp .ge 8) 16 0 0 0 [] [] = true := by decide +kernel
theorem rf_f_P_startsWithin_11 : rf_Fb rf_m_P_startsWithin 11 13 (.aload 4) 0 0 0 0 [] [] = true := by decide +kernel
theorem rf_f_P_startsWithin_13 : rf_Fb rf_m_P_startsWithin 13 16 (.ifnonnull 5) 18 0 0 0 [] [] = true := by decide +kernel
theorem rf_f_P_startsWithin_16 : rf_Fb rf_m_P_startsWithin 16 17 (.iconst 0) 0 0 0 0 [] [] = true := by decide +kernel
theorem rf_f_P_startsWithin_17 : rf_Fb rf_m_P_startsWithin 17 18 (.ireturn) 0 0 1 0 [] [] = true := by decide +kernel
theorem rf_f_P_startsWithin_18 : rf_Fb rf_m_P_startsWithin 18 19 (.iload_n 1) 0 0 0 0 [] [] = true := by decide +kernel
theorem rf_f_P_startsWithin_19 : rf_Fb rf_m_P_startsWithin 19 20 (.iconst 1) 0 0 0 0 [] [] = true := by decide +kernel
theorem rf_f_P_startsWithin_20 : rf_Fb rf_m_P_startsWithin 20 21 (.iadd) 0 0 0 0 [] [] = true := by decide +kernel
theorem rf_f_P_startsWithin_21 : rf_Fb rf_m_P_startsWithin 21 22 (.iload_n 2) 0 0 0 0 [] [] = true := by decide +kernel
theorem rf_f_P_startsWithin_22 : rf_Fb rf_m_P_startsWithin 22 25 (.if_icmp .ge 8) 30 0 0 0 [] [] = true := by decide +kernel
theorem rf_f_P_startsWithin_25 : rf_Fb rf_m_P_startsWithin 25 27 (.bipush 15) 0 0 0 0 [] [] = true := by decide +kernel
theorem rf_f_P_startsWithin_27 : rf_Fb rf_m_P_startsWithin 27 30 (.goto 5) 32 0 0 0 [] [] = true := by decide +kernel
theorem rf_f_P_startsWithin_30 : rf_Fb rf_m_P_startsWithin 30 32 (.bipush 10) 0 0 0 0 [] [] = true := by decide +kernel
theorem rf_f_P_startsWithin_32 : rf_Fb rf_m_P_startsWithin 32 34 (.istore 5) 0 0 0 0 [] [] = true := by decide +kernel
theorem rf_f_P_startsWithin_34 : rf_Fb rf_m_P_startsWithin 34 35 (.iconst 0) 0 0 0 0 [] [] = true := by decide +kernel
theorem rf_f_P_startsWithin_35 : rf_Fb rf_m_P_startsWithin 35 37 (.istore 6) 0 0 0 0 [] [true, true, true, true, true, true, true] = true := by decide +kernel
theorem rf_f_P_startsWithin_37 : rf_Fb rf_m_P_startsWithin 37 39 (.iload 6) 0 0 0 0 [] [] = true := by decide +kernel
theorem rf_f_P_startsWithin_39 : rf_Fb rf_m_P_startsWithin 39 41 (.iload 5) 0 0 0 0 [] [] = true := by decide +kernel
theorem rf_f_P_startsWithin_41 : rf_Fb rf_m_P_startsWithin 41 44 (.if_icmp .ge 75) 116 0 0 0 [] [] = true := by decide +kernel
theorem rf_f_P_startsWithin_44 : rf_Fb rf_m_P_startsWithin 44 45 (.aload_n 0) 0 0 0 0 [] [] = true := by decide +kernel
theorem rf_f_P_startsWithin_45 : rf_Fb rf_m_P_startsWithin 45 47 (.iload 6) 0 0 0 0 [] [] = true := by decide +kernel
theorem rf_f_P_startsWithin_47 : rf_Fb rf_m_P_startsWithin 47 50 (.invokevirtual 15) 47 1 0 3 [] [] = true := by decide +kernel
theorem rf_f_P_startsWithin_50 : rf_Fb rf_m_P_startsWithin 50 53 (.ifCond .eq 60) 110 0 0 0 [] [] = true := by decide +kernel
theorem rf_f_P_startsWithin_53 : rf_Fb rf_m_P_startsWithin 53 54 (.aload_n 0) 0 0 0 0 [] [] = true := by decide +kernel
theorem rf_f_P_startsWithin_54 : rf_Fb rf_m_P_startsWithin 54 56 (.iload 6) 0 0 0 0 [] [] = true := by decide +kernel
theorem rf_f_P_startsWithin_56 : rf_Fb rf_m_P_startsWithin 56 59 (.invokevirtual 19) 49 1 0 3 [] [] = true := by decide +kernel
theorem rf_f_P_startsWithin_59 : rf_Fb rf_m_P_startsWithin 59 62 (.ifCond .ne 51) 110 0 0 0 [] [] = true := by decide +kernel
theorem rf_f_P_startsWithin_62 : rf_Fb rf_m_P_startsWithin 62 64 (.aload 4) 0 0 0 0 [] [] = true := by decide +kernel
theorem rf_f_P_startsWithin_64 : rf_Fb rf_m_P_startsWithin 64 65 (.aload_n 0) 0 0 0 0 [] [] = true := by decide +kernel
theorem rf_f_P_startsWithin_65 : rf_Fb rf_m_P_startsWithin 65 68 (.invokevirtual 22) 48 1 3 3 [] [] = true := by decide +kernel
theorem rf_f_P_startsWithin_68 : rf_Fb rf_m_P_startsWithin 68 70 (.aload 4) 0 0 0 0 [] [] = true := by decide +kernel
theorem rf_f_P_startsWithin_70 : rf_Fb rf_m_P_startsWithin 70 72 (.iload 6) 0 0 0 0 [] [] = true := by decide +kernel
theorem rf_f_P_startsWithin_72 : rf_Fb rf_m_P_startsWithin 72 73 (.aload_n 0) 0 0 0 0 [] [] = true := by decide +kernel
theorem rf_f_P_startsWithin_73 : rf_Fb rf_m_P_startsWithin 73 76 (.invokevirtual 26) 39 0 0 3 [] [] = true := by decide +kernel
theorem rf_f_P_startsWithin_76 : rf_Fb rf_m_P_startsWithin 76 79 (.invokevirtual 30) 40 2 0 3 [] [] = true := by decide +kernel
theorem rf_f_P_startsWithin_79 : rf_Fb rf_m_P_startsWithin 79 80 (.pop) 0 0 0 0 [] [] = true := by decide +kernel
theorem rf_f_P_startsWithin_80 : rf_Fb rf_m_P_startsWithin 80 81 (.aload_n 3) 0 0 0 0 [] [] = true := by decide +kernel
theorem rf_f_P_startsWithin_81 : rf_Fb rf_m_P_startsWithin 81 82 (.iload_n 1) 0 0 0 0 [] [] = true := by decide +kernel
theorem rf_f_P_startsWithin_82 : rf_Fb rf_m_P_startsWithin 82 84 (.iload 6) 0 0 0 0 [] [] = true := by decide +kernel
theorem rf_f_P_startsWithin_84 : rf_Fb rf_m_P_startsWithin 84 87 (.invokevirtual 34) 2 2 3 2 [] [] = true := by decide +kernel
theorem rf_f_P_startsWithin_87 : rf_Fb rf_m_P_startsWithin 87 89 (.aload 4) 0 0 0 0 [] [] = true := by decide +kernel
theorem rf_f_P_startsWithin_89 : rf_Fb rf_m_P_startsWithin 89 92 (.getfield 40) 3 7 0 0 [] [] = true := by decide +kernel
theorem rf_f_P_startsWithin_92 : rf_Fb rf_m_P_startsWithin 92 95 (.ifCond .gt 16) 108 0 0 0 [] [] = true := by decide +kernel
theorem rf_f_P_startsWithin_95 : rf_Fb rf_m_P_startsWithin 95 97 (.aload 4) 0 0 0 0 [] [] = true := by decide +kernel
theorem rf_f_P_startsWithin_97 : rf_Fb rf_m_P_startsWithin 97 98 (.iload_n 1) 0 0 0 0 [] [] = true := by decide +kernel
theorem rf_f_P_startsWithin_98 : rf_Fb rf_m_P_startsWithin 98 99 (.iconst 1) 0 0 0 0 [] [] = true := by decide +kernel
theorem rf_f_P_startsWithin_99 : rf_Fb rf_m_P_startsWithin 99 100 (.iadd) 0 0 0 0 [] [] = true := by decide +kernel
theorem rf_f_P_startsWithin_100 : rf_Fb rf_m_P_startsWithin 100 101 (.iload_n 2) 0 0 0 0 [] [] = true := by decide +kernel
theorem rf_f_P_startsWithin_101 : rf_Fb rf_m_P_startsWithin 101 102 (.aload_n 3) 0 0 0 0 [] [] = true := by decide +kernel
theorem rf_f_P_startsWithin_102 : rf_Fb rf_m_P_startsWithin 102 105 (.invokestatic 44) 50 4 0 0 [] [] = true := by decide +kernel
theorem rf_f_P_startsWithin_105 : rf_Fb rf_m_P_startsWithin 105 108 (.ifCond .eq 5) 110 0 0 0 [] [] = true := by decide +kernel
theorem rf_f_P_startsWithin_108 : rf_Fb rf_m_P_startsWithin 108 109 (.iconst 1) 0 0 0 0 [] [] = true := by decide +kernel
theorem rf_f_P_startsWithin_109 : rf_Fb rf_m_P_startsWithin 109 110 (.ireturn) 0 0 1 0 [] [] = true := by decide +kernel
theorem rf_f_P_startsWithin_110 : rf_Fb rf_m_P_startsWithin 110 113 (.iinc 6 1) 0 0 0 0 [] [] = true := by decide +kernel
theorem rf_f_P_startsWithin_113 : rf_Fb rf_m_P_startsWithin 113 116 (.goto (-76)) 37 0 0 0 [] [] = true := by decide +kernel
theorem rf_f_P_startsWithin_116 : rf_Fb rf_m_P_startsWithin 116 117 (.iconst 0) 0 0 0 0 [] [] = true := by decide +kernel
theorem rf_f_P_startsWithin_117 : rf_Fb rf_m_P_startsWithin 117 118 (.ireturn) 0 0 1 0 [] [] = true := by decide +kernel
set_option maxRecDepth 20000 in
set_option maxHeartbeats 2000000 in
theorem rf_e_P_startsWithin (d : Nat) (a1 : Option Nat) (a2 : Int) (a3 : Int) (a4 : Option Nat) (h : rf_H) : rf_call (d + 1) 50 [.inr (.inr a1), .inl a2, .inl a3, .inr (.inr a4)] h = (rf_nn a1 fun k1 => ((rf_gR h 3 k1 1).bind fun x2 => (if a2 < a3 then (rf_nz x2 (some (some (.inl 0), h)) ((if (rf_w (a2 + 1)) < a3 then rf_j_P_startsWithin_37 d a1 a2 a3 a4 x2 15 0 h else rf_j_P_startsWithin_37 d a1 a2 a3 a4 x2 10 0 h))) else some (some (.inl 0), h)))) := by
  show rf_den (rf_call d) (rf_mt 50) _ = _
  rw [rf_u_P_startsWithin]
  exact ((rf_s_aload_n rf_f_P_startsWithin_0 rfl (rf_m0 _) (rf_s_getAR rf_f_P_startsWithin_1 (rf_m0 _) fun k1 x2 => (rf_s_astore (L' := [some (.inr (.inr a1)), some (.inl a2), some (.inl a3), some (.inr (.inr a4)), some (.inr (.inr x2)), none, none]) rf_f_P_startsWithin_4 rfl (rf_s_iload_n rf_f_P_startsWithin_6 rfl (rf_m0 _) (rf_s_iload_n rf_f_P_startsWithin_7 rfl (rf_m0 _) (rf_s_icmp_ge rf_f_P_startsWithin_8 rfl (rf_m0 _) (rf_m0 _) (rf_s_iconst rf_f_P_startsWithin_16 (rf_m0 _) (rf_s_zretK rf_f_P_startsWithin_17 (by decide))) (rf_s_aload rf_f_P_startsWithin_11 rfl (rf_m0 _) (rf_s_ifnonnull rf_f_P_startsWithin_13 rfl (rf_m0 _) (rf_m0 _) (rf_s_iload_n rf_f_P_startsWithin_18 rfl (rf_m0 _) (rf_s_iconst rf_f_P_startsWithin_19 (rf_m0 _) (rf_s_iadd rf_f_P_startsWithin_20 (rf_m0 _) (rf_s_iload_n rf_f_P_startsWithin_21 rfl (rf_m0 _) (rf_s_icmp_ge rf_f_P_startsWithin_22 rfl (rf_m0 _) (rf_m0 _) (rf_s_bipush rf_f_P_startsWithin_30 (rf_m0 _) (rf_s_istore (L' := [some (.inr (.inr a1)), some (.inl a2), some (.inl a3), some (.inr (.inr a4)), some (.inr (.inr x2)), some (.inl 10), none]) rf_f_P_startsWithin_32 rfl (rf_s_iconst rf_f_P_startsWithin_34 (rf_m0 _) (rf_s_istore rf_f_P_startsWithin_35 rfl rfl)))) (rf_s_bipush rf_f_P_startsWithin_25 (rf_m0 _) (rf_s_goto rf_f_P_startsWithin_27 rfl (rf_m0 _) (rf_s_istore (L' := [some (.inr (.inr a1)), some (.inl a2), some (.inl a3), some (.inr (.inr a4)), some (.inr (.inr x2)), some (.inl 15), none]) rf_f_P_startsWithin_32 rfl (rf_s_iconst rf_f_P_startsWithin_34 (rf_m0 _) (rf_s_istore rf_f_P_startsWithin_35 rfl rfl)))))))))) (rf_s_iconst rf_f_P_startsWithin_16 (rf_m0 _) (rf_s_zretK rf_f_P_startsWithin_17 (by decide))))))))))) : rf_den (rf_call d) rf_m_P_startsWithin (0, [some (.inr (.inr a1)), some (.inl a2), some (.inl a3), some (.inr (.inr a4)), none, none, none], [], h) = _)
set_option maxRecDepth 20000 in
set_option maxHeartbeats 2000000 in
theorem rf_e_P_startsWithin_37 (d : Nat) (l0 : Option Nat) (l1 : Int) (l2 : Int) (l3 : Option Nat) (l4 : Option Nat) (l5 : Int) (l6 : Int) (h : rf_H) : rf_j_P_startsWithin_37 d l0 l1 l2 l3 l4 l5 l6 h = (if l6 < l5 then (rf_nn l0 fun k1 => (bif rf_isO h.1 k1 3 then ((rf_call d 47 [.inr (.inr (some k1)), .inl l6] h).bind fun q3 => rf_kI q3 fun x4 h2 => (if x4 = 0 then rf_j_P_startsWithin_37 d l0 l1 l2 l3 l4 l5 (rf_w (l6 + 1)) h2 else (rf_nn l0 fun k5 => (bif rf_isO h2.1 k5 3 then ((rf_call d 49 [.inr (.inr (some k5)), .inl l6] h2).bind fun q7 => rf_kI q7 fun x8 h6 => (if x8 = 0 then (rf_nn l4 fun k9 => (bif rf_isO h6.1 k9 3 then ((rf_call d 48 [.inr (.inr (some k9)), .inr (.inr l0)] h6).bind fun q11 => rf_kV q11 fun h10 => (rf_nn l0 fun k12 => (bif rf_isO h10.1 k12 3 then ((rf_call d 39 [.inr (.inr (some k12))] h10).bind fun q14 => rf_kI q14 fun x15 h13 => (rf_nn l4 fun k16 => (bif rf_isO h13.1 k16 3 then ((rf_call d 40 [.inr (.inr (some k16)), .inl l6, .inl x15] h13).bind fun q18 => rf_kI q18 fun x19 h17 => (rf_nn l3 fun k20 => (bif rf_isO h17.1 k20 2 then ((rf_call d 2 [.inr (.inr (some k20)), .inl l1, .inl l6] h17).bind fun q22 => rf_kV q22 fun h21 => (rf_nn l4 fun k23 => ((rf_gI h21 3 k23 7).bind fun x24 => (if 0 < x24 then some (some (.inl 1), h21) else ((rf_call d 50 [.inr (.inr l4), .inl (rf_w (l1 + 1)), .inl l2, .inr (.inr l3)] h21).bind fun q26 => rf_kI q26 fun x27 h25 => (if x27 = 0 then rf_j_P_startsWithin_37 d l0 l1 l2 l3 l4 l5 (rf_w (l6 + 1)) h25 else some (some (.inl 1), h25))))))) else none))) else none))) else none))) else none)) else rf_j_P_startsWithin_37 d l0 l1 l2 l3 l4 l5 (rf_w (l6 + 1)) h6)) else none)))) else none)) else some (some (.inl 0), h)) :=
  ((rf_s_iload rf_f_P_startsWithin_37 rfl (rf_m0 _) (rf_s_iload rf_f_P_startsWithin_39 rfl (rf_m0 _) (rf_s_icmp_ge rf_f_P_startsWithin_41 rfl (rf_m0 _) (rf_m0 _) (rf_s_iconst rf_f_P_startsWithin_116 (rf_m0 _) (rf_s_zretK rf_f_P_startsWithin_117 (by decide))) (rf_s_aload_n rf_f_P_startsWithin_44 rfl (rf_m0 _) (rf_s_iload rf_f_P_startsWithin_45 rfl (rf_m0 _) (rf_s_invV0R rf_f_P_startsWithin_47 rfl rfl (rf_m0 _) fun k1 q3 x4 h2 => (rf_s_if_eq rf_f_P_startsWithin_50 rfl (rf_m0 _) (rf_m0 _) (rf_s_iinc (L' := [some (.inr (.inr l0)), some (.inl l1), some (.inl l2), some (.inr (.inr l3)), some (.inr (.inr l4)), some (.inl l5), some (.inl (rf_w (l6 + 1)))]) rf_f_P_startsWithin_110 rfl rfl (rf_s_goto rf_f_P_startsWithin_113 rfl rfl rfl)) (rf_s_aload_n rf_f_P_startsWithin_53 rfl (rf_m0 _) (rf_s_iload rf_f_P_startsWithin_54 rfl (rf_m0 _) (rf_s_invV0R rf_f_P_startsWithin_56 rfl rfl (rf_m0 _) fun k5 q7 x8 h6 => (rf_s_if_ne rf_f_P_startsWithin_59 rfl (rf_m0 _) (rf_m0 _) (rf_s_iinc (L' := [some (.inr (.inr l0)), some (.inl l1), some (.inl l2), some (.inr (.inr l3)), some (.inr (.inr l4)), some (.inl l5), some (.inl (rf_w (l6 + 1)))]) rf_f_P_startsWithin_110 rfl rfl (rf_s_goto rf_f_P_startsWithin_113 rfl rfl rfl)) (rf_s_aload rf_f_P_startsWithin_62 rfl (rf_m0 _) (rf_s_aload_n rf_f_P_startsWithin_64 rfl (rf_m0 _) (rf_s_invV3R rf_f_P_startsWithin_65 rfl rfl (rf_m0 _) fun k9 q11 h10 => (rf_s_aload rf_f_P_startsWithin_68 rfl (rf_m0 _) (rf_s_iload rf_f_P_startsWithin_70 rfl (rf_m0 _) (rf_s_aload_n rf_f_P_startsWithin_72 rfl (rf_m0 _) (rf_s_invV0R rf_f_P_startsWithin_73 rfl rfl (rf_m0 _) fun k12 q14 x15 h13 => (rf_s_invV0R rf_f_P_startsWithin_76 rfl rfl (rf_m0 _) fun k16 q18 x19 h17 => (rf_s_popI rf_f_P_startsWithin_79 (rf_m0 _) (rf_s_aload_n rf_f_P_startsWithin_80 rfl (rf_m0 _) (rf_s_iload_n rf_f_P_startsWithin_81 rfl (rf_m0 _) (rf_s_iload rf_f_P_startsWithin_82 rfl (rf_m0 _) (rf_s_invV3R rf_f_P_startsWithin_84 rfl rfl (rf_m0 _) fun k20 q22 h21 => (rf_s_aload rf_f_P_startsWithin_87 rfl (rf_m0 _) (rf_s_getIR rf_f_P_startsWithin_89 (rf_m0 _) fun k23 x24 => (rf_s_if_gt rf_f_P_startsWithin_92 rfl (rf_m0 _) (rf_m0 _) (rf_s_iconst rf_f_P_startsWithin_108 (rf_m0 _) (rf_s_zretK rf_f_P_startsWithin_109 (by decide))) (rf_s_aload rf_f_P_startsWithin_95 rfl (rf_m0 _) (rf_s_iload_n rf_f_P_startsWithin_97 rfl (rf_m0 _) (rf_s_iconst rf_f_P_startsWithin_98 (rf_m0 _) (rf_s_iadd rf_f_P_startsWithin_99 (rf_m0 _) (rf_s_iload_n rf_f_P_startsWithin_100 rfl (rf_m0 _) (rf_s_aload_n rf_f_P_startsWithin_101 rfl (rf_m0 _) (rf_s_invS0 rf_f_P_startsWithin_102 rfl rfl (rf_m0 _) fun q26 x27 h25 => (rf_s_if_eq rf_f_P_startsWithin_105 rfl (rf_m0 _) (rf_m0 _) (rf_s_iinc (L' := [some (.inr (.inr l0)), some (.inl l1), some (.inl l2), some (.inr (.inr l3)), some (.inr (.inr l4)), some (.inl l5), some (.inl (rf_w (l6 + 1)))]) rf_f_P_startsWithin_110 rfl rfl (rf_s_goto rf_f_P_startsWithin_113 rfl rfl rfl)) (rf_s_iconst rf_f_P_startsWithin_108 (rf_m0 _) (rf_s_zretK rf_f_P_startsWithin_109 (by decide)))))))))))))))))))))))))))))))))))))) : rf_den (rf_call d) rf_m_P_startsWithin (37, [some (.inr (.inr l0)), some (.inl l1), some (.inl l2), some (.inr (.inr l3)), some (.inr (.inr l4)), some (.inl l5), some (.inl l6)], [], h) = _)
noncomputable def rf_j_P_startingWays_35 (d : Nat) (l0 : Option Nat) (l1 : Int) (l2 : Int) (l3 : Option Nat) (l4 : Int) (l5 : Int) (l6 : Int) (h : rf_H) : Option rf_R := rf_den (rf_call d) rf_m_P_startingWays (35, [some (.inr (.inr l0)), some (.inl l1), some (.inl l2), some (.inr (.inr l3)), some (.inl l4), some (.inl l5), some (.inl l6), none], [], h)
noncomputable def rf_j_P_startingWays_91 (d : Nat) (l0 : Option Nat) (l1 : Int) (l2 : Int) (l3 : Option Nat) (l4 : Int) (l6 : Int) (h : rf_H) : Option rf_R := rf_den (rf_call d) rf_m_P_startingWays (91, [some (.inr (.inr l0)), some (.inl l1), some (.inl l2), some (.inr (.inr l3)), some (.inl l4), none, some (.inl l6), none], [], h)
theorem rf_u_P_startingWays : rf_mt 51 = rf_m_P_startingWays := rfl
theorem rf_f_P_startingWays_0 : rf_Fb rf_m_P_startingWays 0 1 (.aload_n 0) 0 0 0 0 [] [] = true := by decide +kernel
theorem rf_f_P_startingWays_1 : rf_Fb rf_m_P_startingWays 1 4 (.getfield 9) 3 1 2 0 [] [] = true := by decide +kernel
theorem rf_f_P_startingWays_4 : rf_Fb rf_m_P_startingWays 4 5 (.astore_n 3) 0 0 0 0 [] [] = true := by decide +kernel
theorem rf_f_P_startingWays_5 : rf_Fb rf_m_P_startingWays 5 6 (.iload_n 1) 0 0 0 0 [] [] = true := by decide +kernel
theorem rf_f_P_startingWays_6 : rf_Fb rf_m_P_startingWays 6 9 (.ifCond .le 7) 13 0 0 0 [] [] = true := by decide +kernel
theorem rf_f_P_startingWays_9 : rf_Fb rf_m_P_startingWays 9 10 (.aload_n 3) 0 0 0 0 [] [] = true := by decide +kernel
theorem rf_f_P_startingWays_10 : rf_Fb rf_m_P_startingWays 10 13 (.ifnonnull 16) 26 0 0 0 [] [] = true := by decide +kernel
theorem rf_f_P_startingWays_13 : rf_Fb rf_m_P_startingWays 13 14 (.aload_n 0) 0 0 0 0 [] [] = true := by decide +kernel
theorem rf_f_P_startingWays_14 : rf_Fb rf_m_P_startingWays 14 17 (.getfield 40) 3 7 0 0 [] [] = true := by decide +kernel
theorem rf_f_P_startingWays_17 : rf_Fb rf_m_P_startingWays 17 20 (.ifCond .le 7) 24 0 0 0 [] [] = true := by decide +kernel
theorem rf_f_P_startingWays_20 : rf_Fb rf_m_P_startingWays 20 21 (.iconst 1) 0 0 0 0 [] [] = true := by decide +kernel
theorem rf_f_P_startingWays_21 : rf_Fb rf_m_P_startingWays 21 24 (.goto 4) 25 0 0 0 [] [] = true := by decide +kernel
theorem rf_f_P_startingWays_24 : rf_Fb rf_m_P_startingWays 24 25 (.iconst 0) 0 0 0 0 [] [] = true := by decide +kernel
theorem rf_f_P_startingWays_25 : rf_Fb rf_m_P_startingWays 25 26 (.ireturn) 0 0 0 0 [] [] = true := by decide +kernel
theorem rf_f_P_startingWays_26 : rf_Fb rf_m_P_startingWays 26 27 (.iconst 0) 0 0 0 0 [] [] = true := by decide +kernel
theorem rf_f_P_startingWays_27 : rf_Fb rf_m_P_startingWays 27 29 (.istore 4) 0 0 0 0 [] [] = true := by decide +kernel
theorem rf_f_P_startingWays_29 : rf_Fb rf_m_P_startingWays 29 30 (.iconst 0) 0 0 0 0 [] [] = true := by decide +kernel
theorem rf_f_P_startingWays_30 : rf_Fb rf_m_P_startingWays 30 32 (.istore 5) 0 0 0 0 [] [] = true := by decide +kernel
theorem rf_f_P_startingWays_32 : rf_Fb rf_m_P_startingWays 32 33 (.iconst 0) 0 0 0 0 [] [] = true := by decide +kernel
theorem rf_f_P_startingWays_33 : rf_Fb rf_m_P_startingWays 33 35 (.istore 6) 0 0 0 0 [] [true, true, true, true, true, true, true, false] = true := by decide +kernel
theorem rf_f_P_startingWays_35 : rf_Fb rf_m_P_startingWays 35 37 (.iload 6) 0 0 0 0 [] [] = true := by decide +kernel
theorem rf_f_P_startingWays_37 : rf_Fb rf_m_P_startingWays 37 39 (.bipush 15) 0 0 0 0 [] [] = true := by decide +kernel
theorem rf_f_P_startingWays_39 : rf_Fb rf_m_P_startingWays 39 42 (.if_icmp .ge 75) 114 0 0 0 [] [] = true := by decide +kernel
theorem rf_f_P_startingWays_42 : rf_Fb rf_m_P_startingWays 42 43 (.aload_n 0) 0 0 0 0 [] [] = true := by decide +kernel
theorem rf_f_P_startingWays_43 : rf_Fb rf_m_P_startingWays 43 45 (.iload 6) 0 0 0 0 [] [] = true := by decide +kernel
theorem rf_f_P_startingWays_45 : rf_Fb rf_m_P_startingWays 45 48 (.invokevirtual 15) 47 1 0 3 [] [] = true := by decide +kernel
theorem rf_f_P_startingWays_48 : rf_Fb rf_m_P_startingWays 48 51 (.ifCond .eq 60) 108 0 0 0 [] [] = true := by decide +kernel
theorem rf_f_P_startingWays_51 : rf_Fb rf_m_P_startingWays 51 52 (.aload_n 0) 0 0 0 0 [] [] = true := by decide +kernel
theorem rf_f_P_startingWays_52 : rf_Fb rf_m_P_startingWays 52 54 (.iload 6) 0 0 0 0 [] [] = true := by decide +kernel
theorem rf_f_P_startingWays_54 : rf_Fb rf_m_P_startingWays 54 57 (.invokevirtual 19) 49 1 0 3 [] [] = true := by decide +kernel
theorem rf_f_P_startingWays_57 : rf_Fb rf_m_P_startingWays 57 60 (.ifCond .ne 44) 101 0 0 0 [] [] = true := by decide +kernel
theorem rf_f_P_startingWays_60 : rf_Fb rf_m_P_startingWays 60 61 (.aload_n 3) 0 0 0 0 [] [] = true := by decide +kernel
theorem rf_f_P_startingWays_61 : rf_Fb rf_m_P_startingWays 61 62 (.aload_n 0) 0 0 0 0 [] [] = true := by decide +kernel
theorem rf_f_P_startingWays_62 : rf_Fb rf_m_P_startingWays 62 65 (.invokevirtual 22) 48 1 3 3 [] [] = true := by decide +kernel
theorem rf_f_P_startingWays_65 : rf_Fb rf_m_P_startingWays 65 66 (.aload_n 3) 0 0 0 0 [] [] = true := by decide +kernel
theorem rf_f_P_startingWays_66 : rf_Fb rf_m_P_startingWays 66 68 (.iload 6) 0 0 0 0 [] [] = true := by decide +kernel
theorem rf_f_P_startingWays_68 : rf_Fb rf_m_P_startingWays 68 69 (.aload_n 0) 0 0 0 0 [] [] = true := by decide +kernel
theorem rf_f_P_startingWays_69 : rf_Fb rf_m_P_startingWays 69 72 (.invokevirtual 26) 39 0 0 3 [] [] = true := by decide +kernel
theorem rf_f_P_startingWays_72 : rf_Fb rf_m_P_startingWays 72 75 (.invokevirtual 30) 40 2 0 3 [] [] = true := by decide +kernel
theorem rf_f_P_startingWays_75 : rf_Fb rf_m_P_startingWays 75 77 (.istore 7) 0 0 0 0 [] [] = true := by decide +kernel
theorem rf_f_P_startingWays_77 : rf_Fb rf_m_P_startingWays 77 79 (.iload 7) 0 0 0 0 [] [] = true := by decide +kernel
theorem rf_f_P_startingWays_79 : rf_Fb rf_m_P_startingWays 79 80 (.iconst 3) 0 0 0 0 [] [] = true := by decide +kernel
theorem rf_f_P_startingWays_80 : rf_Fb rf_m_P_startingWays 80 83 (.if_icmp .ne 11) 91 0 0 0 [] [] = true := by decide +kernel
theorem rf_f_P_startingWays_83 : rf_Fb rf_m_P_startingWays 83 84 (.iload_n 2) 0 0 0 0 [] [] = true := by decide +kernel
theorem rf_f_P_startingWays_84 : rf_Fb rf_m_P_startingWays 84 87 (.ifCond .ne 7) 91 0 0 0 [] [] = true := by decide +kernel
theorem rf_f_P_startingWays_87 : rf_Fb rf_m_P_startingWays 87 88 (.iconst 0) 0 0 0 0 [] [] = true := by decide +kernel
theorem rf_f_P_startingWays_88 : rf_Fb rf_m_P_startingWays 88 91 (.goto 11) 99 0 0 0 [] [true, true, true, true, true, false, true, false] = true := by decide +kernel
theorem rf_f_P_startingWays_91 : rf_Fb rf_m_P_startingWays 91 92 (.aload_n 3) 0 0 0 0 [] [] = true := by decide +kernel
theorem rf_f_P_startingWays_92 : rf_Fb rf_m_P_startingWays 92 93 (.iload_n 1) 0 0 0 0 [] [] = true := by decide +kernel
theorem rf_f_P_startingWays_93 : rf_Fb rf_m_P_startingWays 93 94 (.iconst 1) 0 0 0 0 [] [] = true := by decide +kernel
theorem rf_f_P_startingWays_94 : rf_Fb rf_m_P_startingWays 94 95 (.isub) 0 0 0 0 [] [] = true := by decide +kernel
theorem rf_f_P_startingWays_95 : rf_Fb rf_m_P_startingWays 95 96 (.iload_n 2) 0 0 0 0 [] [] = true := by decide +kernel
theorem rf_f_P_startingWays_96 : rf_Fb rf_m_P_startingWays 96 99 (.invokestatic 50) 51 3 0 0 [] [] = true := by decide +kernel
theorem rf_f_P_startingWays_99 : rf_Fb rf_m_P_startingWays 99 101 (.istore 5) 0 0 0 0 [] [] = true := by decide +kernel
theorem rf_f_P_startingWays_101 : rf_Fb rf_m_P_startingWays 101 103 (.iload 4) 0 0 0 0 [] [] = true := by decide +kernel
theorem rf_f_P_startingWays_103 : rf_Fb rf_m_P_startingWays 103 105 (.iload 5) 0 0 0 0 [] [] = true := by decide +kernel
theorem rf_f_P_startingWays_105 : rf_Fb rf_m_P_startingWays 105 106 (.iadd) 0 0 0 0 [] [] = true := by decide +kernel
theorem rf_f_P_startingWays_106 : rf_Fb rf_m_P_startingWays 106 108 (.istore 4) 0 0 0 0 [] [] = true := by decide +kernel
theorem rf_f_P_startingWays_108 : rf_Fb rf_m_P_startingWays 108 111 (.iinc 6 1) 0 0 0 0 [] [] = true := by decide +kernel
theorem rf_f_P_startingWays_111 : rf_Fb rf_m_P_startingWays 111 114 (.goto (-76)) 35 0 0 0 [] [] = true := by decide +kernel
theorem rf_f_P_startingWays_114 : rf_Fb rf_m_P_startingWays 114 116 (.iload 4) 0 0 0 0 [] [] = true := by decide +kernel
theorem rf_f_P_startingWays_116 : rf_Fb rf_m_P_startingWays 116 117 (.ireturn) 0 0 0 0 [] [] = true := by decide +kernel
set_option maxRecDepth 20000 in
set_option maxHeartbeats 2000000 in
theorem rf_e_P_startingWays (d : Nat) (a1 : Option Nat) (a2 : Int) (a3 : Int) (h : rf_H) : rf_call (d + 1) 51 [.inr (.inr a1), .inl a2, .inl a3] h = (rf_nn a1 fun k1 => ((rf_gR h 3 k1 1).bind fun x2 => (if 0 < a2 then (rf_nz x2 ((rf_nn a1 fun k5 => ((rf_gI h 3 k5 7).bind fun x6 => (if 0 < x6 then some (some (.inl 1), h) else some (some (.inl 0), h))))) (rf_j_P_startingWays_35 d a1 a2 a3 x2 0 0 0 h)) else (rf_nn a1 fun k3 => ((rf_gI h 3 k3 7).bind fun x4 => (if 0 < x4 then some (some (.inl 1), h) else some (some (.inl 0), h))))))) := by
  show rf_den (rf_call d) (rf_mt 51) _ = _
  rw [rf_u_P_startingWays]
  exact ((rf_s_aload_n rf_f_P_startingWays_0 rfl (rf_m0 _) (rf_s_getAR rf_f_P_startingWays_1 (rf_m0 _) fun k1 x2 => (rf_s_astore_n (L' := [some (.inr (.inr a1)), some (.inl a2), some (.inl a3), some (.inr (.inr x2)), none, none, none, none]) rf_f_P_startingWays_4 rfl (rf_s_iload_n rf_f_P_startingWays_5 rfl (rf_m0 _) (rf_s_if_le rf_f_P_startingWays_6 rfl (rf_m0 _) (rf_m0 _) (rf_s_aload_n rf_f_P_startingWays_13 rfl (rf_m0 _) (rf_s_getIR rf_f_P_startingWays_14 (rf_m0 _) fun k3 x4 => (rf_s_if_le rf_f_P_startingWays_17 rfl (rf_m0 _) (rf_m0 _) (rf_s_iconst rf_f_P_startingWays_24 (rf_m0 _) (rf_s_iret rf_f_P_startingWays_25)) (rf_s_iconst rf_f_P_startingWays_20 (rf_m0 _) (rf_s_goto rf_f_P_startingWays_21 rfl (rf_m0 _) (rf_s_iret rf_f_P_startingWays_25)))))) (rf_s_aload_n rf_f_P_startingWays_9 rfl (rf_m0 _) (rf_s_ifnonnull rf_f_P_startingWays_10 rfl (rf_m0 _) (rf_m0 _) (rf_s_iconst rf_f_P_startingWays_26 (rf_m0 _) (rf_s_istore (L' := [some (.inr (.inr a1)), some (.inl a2), some (.inl a3), some (.inr (.inr x2)), some (.inl 0), none, none, none]) rf_f_P_startingWays_27 rfl (rf_s_iconst rf_f_P_startingWays_29 (rf_m0 _) (rf_s_istore (L' := [some (.inr (.inr a1)), some (.inl a2), some (.inl a3), some (.inr (.inr x2)), some (.inl 0), some (.inl 0), none, none]) rf_f_P_startingWays_30 rfl (rf_s_iconst rf_f_P_startingWays_32 (rf_m0 _) (rf_s_istore rf_f_P_startingWays_33 rfl rfl)))))) (rf_s_aload_n rf_f_P_startingWays_13 rfl (rf_m0 _) (rf_s_getIR rf_f_P_startingWays_14 (rf_m0 _) fun k5 x6 => (rf_s_if_le rf_f_P_startingWays_17 rfl (rf_m0 _) (rf_m0 _) (rf_s_iconst rf_f_P_startingWays_24 (rf_m0 _) (rf_s_iret rf_f_P_startingWays_25)) (rf_s_iconst rf_f_P_startingWays_20 (rf_m0 _) (rf_s_goto rf_f_P_startingWays_21 rfl (rf_m0 _) (rf_s_iret rf_f_P_startingWays_25))))))))))))) : rf_den (rf_call d) rf_m_P_startingWays (0, [some (.inr (.inr a1)), some (.inl a2), some (.inl a3), none, none, none, none, none], [], h) = _)
set_option maxRecDepth 20000 in
set_option maxHeartbeats 2000000 in
theorem rf_e_P_startingWays_35 (d : Nat) (l0 : Option Nat) (l1 : Int) (l2 : Int) (l3 : Option Nat) (l4 : Int) (l5 : Int) (l6 : Int) (h : rf_H) : rf_j_P_startingWays_35 d l0 l1 l2 l3 l4 l5 l6 h = (if l6 < 15 then (rf_nn l0 fun k1 => (bif rf_isO h.1 k1 3 then ((rf_call d 47 [.inr (.inr (some k1)), .inl l6] h).bind fun q3 => rf_kI q3 fun x4 h2 => (if x4 = 0 then rf_j_P_startingWays_35 d l0 l1 l2 l3 l4 l5 (rf_w (l6 + 1)) h2 else (rf_nn l0 fun k5 => (bif rf_isO h2.1 k5 3 then ((rf_call d 49 [.inr (.inr (some k5)), .inl l6] h2).bind fun q7 => rf_kI q7 fun x8 h6 => (if x8 = 0 then (rf_nn l3 fun k9 => (bif rf_isO h6.1 k9 3 then ((rf_call d 48 [.inr (.inr (some k9)), .inr (.inr l0)] h6).bind fun q11 => rf_kV q11 fun h10 => (rf_nn l0 fun k12 => (bif rf_isO h10.1 k12 3 then ((rf_call d 39 [.inr (.inr (some k12))] h10).bind fun q14 => rf_kI q14 fun x15 h13 => (rf_nn l3 fun k16 => (bif rf_isO h13.1 k16 3 then ((rf_call d 40 [.inr (.inr (some k16)), .inl l6, .inl x15] h13).bind fun q18 => rf_kI q18 fun x19 h17 => (if x19 = 3 then (if l2 = 0 then rf_j_P_startingWays_35 d l0 l1 l2 l3 (rf_w (l4 + 0)) 0 (rf_w (l6 + 1)) h17 else rf_j_P_startingWays_91 d l0 l1 l2 l3 l4 l6 h17) else rf_j_P_startingWays_91 d l0 l1 l2 l3 l4 l6 h17)) else none))) else none))) else none)) else rf_j_P_startingWays_35 d l0 l1 l2 l3 (rf_w (l4 + l5)) l5 (rf_w (l6 + 1)) h6)) else none)))) else none)) else some (some (.inl l4), h)) :=
  ((rf_s_iload rf_f_P_startingWays_35 rfl (rf_m0 _) (rf_s_bipush rf_f_P_startingWays_37 (rf_m0 _) (rf_s_icmp_ge rf_f_P_startingWays_39 rfl (rf_m0 _) (rf_m0 _) (rf_s_iload rf_f_P_startingWays_114 rfl (rf_m0 _) (rf_s_iret rf_f_P_startingWays_116)) (rf_s_aload_n rf_f_P_startingWays_42 rfl (rf_m0 _) (rf_s_iload rf_f_P_startingWays_43 rfl (rf_m0 _) (rf_s_invV0R rf_f_P_startingWays_45 rfl rfl (rf_m0 _) fun k1 q3 x4 h2 => (rf_s_if_eq rf_f_P_startingWays_48 rfl (rf_m0 _) (rf_m0 _) (rf_s_iinc (L' := [some (.inr (.inr l0)), some (.inl l1), some (.inl l2), some (.inr (.inr l3)), some (.inl l4), some (.inl l5), some (.inl (rf_w (l6 + 1))), none]) rf_f_P_startingWays_108 rfl rfl (rf_s_goto rf_f_P_startingWays_111 rfl rfl rfl)) (rf_s_aload_n rf_f_P_startingWays_51 rfl (rf_m0 _) (rf_s_iload rf_f_P_startingWays_52 rfl (rf_m0 _) (rf_s_invV0R rf_f_P_startingWays_54 rfl rfl (rf_m0 _) fun k5 q7 x8 h6 => (rf_s_if_ne rf_f_P_startingWays_57 rfl (rf_m0 _) (rf_m0 _) (rf_s_iload rf_f_P_startingWays_101 rfl (rf_m0 _) (rf_s_iload rf_f_P_startingWays_103 rfl (rf_m0 _) (rf_s_iadd rf_f_P_startingWays_105 (rf_m0 _) (rf_s_istore (L' := [some (.inr (.inr l0)), some (.inl l1), some (.inl l2), some (.inr (.inr l3)), some (.inl (rf_w (l4 + l5))), some (.inl l5), some (.inl l6), none]) rf_f_P_startingWays_106 rfl (rf_s_iinc (L' := [some (.inr (.inr l0)), some (.inl l1), some (.inl l2), some (.inr (.inr l3)), some (.inl (rf_w (l4 + l5))), some (.inl l5), some (.inl (rf_w (l6 + 1))), none]) rf_f_P_startingWays_108 rfl rfl (rf_s_goto rf_f_P_startingWays_111 rfl rfl rfl)))))) (rf_s_aload_n rf_f_P_startingWays_60 rfl (rf_m0 _) (rf_s_aload_n rf_f_P_startingWays_61 rfl (rf_m0 _) (rf_s_invV3R rf_f_P_startingWays_62 rfl rfl (rf_m0 _) fun k9 q11 h10 => (rf_s_aload_n rf_f_P_startingWays_65 rfl (rf_m0 _) (rf_s_iload rf_f_P_startingWays_66 rfl (rf_m0 _) (rf_s_aload_n rf_f_P_startingWays_68 rfl (rf_m0 _) (rf_s_invV0R rf_f_P_startingWays_69 rfl rfl (rf_m0 _) fun k12 q14 x15 h13 => (rf_s_invV0R rf_f_P_startingWays_72 rfl rfl (rf_m0 _) fun k16 q18 x19 h17 => (rf_s_istore (L' := [some (.inr (.inr l0)), some (.inl l1), some (.inl l2), some (.inr (.inr l3)), some (.inl l4), some (.inl l5), some (.inl l6), some (.inl x19)]) rf_f_P_startingWays_75 rfl (rf_s_iload rf_f_P_startingWays_77 rfl (rf_m0 _) (rf_s_iconst rf_f_P_startingWays_79 (rf_m0 _) (rf_s_icmp_ne rf_f_P_startingWays_80 rfl rfl (rf_m0 _) rfl (rf_s_iload_n rf_f_P_startingWays_83 rfl (rf_m0 _) (rf_s_if_ne rf_f_P_startingWays_84 rfl rfl (rf_m0 _) rfl (rf_s_iconst rf_f_P_startingWays_87 (rf_m0 _) (rf_s_goto rf_f_P_startingWays_88 rfl (rf_m0 _) (rf_s_istore (L' := [some (.inr (.inr l0)), some (.inl l1), some (.inl l2), some (.inr (.inr l3)), some (.inl l4), some (.inl 0), some (.inl l6), some (.inl x19)]) rf_f_P_startingWays_99 rfl (rf_s_iload rf_f_P_startingWays_101 rfl (rf_m0 _) (rf_s_iload rf_f_P_startingWays_103 rfl (rf_m0 _) (rf_s_iadd rf_f_P_startingWays_105 (rf_m0 _) (rf_s_istore (L' := [some (.inr (.inr l0)), some (.inl l1), some (.inl l2), some (.inr (.inr l3)), some (.inl (rf_w (l4 + 0))), some (.inl 0), some (.inl l6), some (.inl x19)]) rf_f_P_startingWays_106 rfl (rf_s_iinc (L' := [some (.inr (.inr l0)), some (.inl l1), some (.inl l2), some (.inr (.inr l3)), some (.inl (rf_w (l4 + 0))), some (.inl 0), some (.inl (rf_w (l6 + 1))), some (.inl x19)]) rf_f_P_startingWays_108 rfl rfl (rf_s_goto rf_f_P_startingWays_111 rfl rfl rfl)))))))))))))))))))))))))))))))))) : rf_den (rf_call d) rf_m_P_startingWays (35, [some (.inr (.inr l0)), some (.inl l1), some (.inl l2), some (.inr (.inr l3)), some (.inl l4), some (.inl l5), some (.inl l6), none], [], h) = _)
set_option maxRecDepth 20000 in
set_option maxHeartbeats 2000000 in
theorem rf_e_P_startingWays_91 (d : Nat) (l0 : Option Nat) (l1 : Int) (l2 : Int) (l3 : Option Nat) (l4 : Int) (l6 : Int) (h : rf_H) : rf_j_P_startingWays_91 d l0 l1 l2 l3 l4 l6 h = ((rf_call d 51 [.inr (.inr l3), .inl (rf_w (l1 - 1)), .inl l2] h).bind fun q2 => rf_kI q2 fun x3 h1 => rf_j_P_startingWays_35 d l0 l1 l2 l3 (rf_w (l4 + x3)) x3 (rf_w (l6 + 1)) h1) :=
  ((rf_s_aload_n rf_f_P_startingWays_91 rfl (rf_m0 _) (rf_s_iload_n rf_f_P_startingWays_92 rfl (rf_m0 _) (rf_s_iconst rf_f_P_startingWays_93 (rf_m0 _) (rf_s_isub rf_f_P_startingWays_94 (rf_m0 _) (rf_s_iload_n rf_f_P_startingWays_95 rfl (rf_m0 _) (rf_s_invS0 rf_f_P_startingWays_96 rfl rfl (rf_m0 _) fun q2 x3 h1 => (rf_s_istore (L' := [some (.inr (.inr l0)), some (.inl l1), some (.inl l2), some (.inr (.inr l3)), some (.inl l4), some (.inl x3), some (.inl l6), none]) rf_f_P_startingWays_99 rfl (rf_s_iload rf_f_P_startingWays_101 rfl (rf_m0 _) (rf_s_iload rf_f_P_startingWays_103 rfl (rf_m0 _) (rf_s_iadd rf_f_P_startingWays_105 (rf_m0 _) (rf_s_istore (L' := [some (.inr (.inr l0)), some (.inl l1), some (.inl l2), some (.inr (.inr l3)), some (.inl (rf_w (l4 + x3))), some (.inl x3), some (.inl l6), none]) rf_f_P_startingWays_106 rfl (rf_s_iinc (L' := [some (.inr (.inr l0)), some (.inl l1), some (.inl l2), some (.inr (.inr l3)), some (.inl (rf_w (l4 + x3))), some (.inl x3), some (.inl (rf_w (l6 + 1))), none]) rf_f_P_startingWays_108 rfl rfl (rf_s_goto rf_f_P_startingWays_111 rfl rfl rfl))))))))))))) : rf_den (rf_call d) rf_m_P_startingWays (91, [some (.inr (.inr l0)), some (.inl l1), some (.inl l2), some (.inr (.inr l3)), some (.inl l4), none, some (.inl l6), none], [], h) = _)
noncomputable def rf_j_P_startingChances_25 (d : Nat) (l0 : Option Nat) (h : rf_H) : Option rf_R := rf_den (rf_call d) rf_m_P_startingChances (25, [some (.inr (.inr l0)), none, none, none, none, none, none, none, none], [], h)
noncomputable def rf_j_P_startingChances_111 (d : Nat) (l0 : Option Nat) (l1 : Option Nat) (l2 : Int) (l3 : Option Nat) (l4 : Option Nat) (l5 : Int) (l6 : Int) (l8 : Int) (h : rf_H) : Option rf_R := rf_den (rf_call d) rf_m_P_startingChances (111, [some (.inr (.inr l0)), some (.inr (.inr l1)), some (.inl l2), some (.inr (.inr l3)), some (.inr (.inr l4)), some (.inl l5), some (.inr (.inl l6)), none, some (.inl l8)], [], h)
theorem rf_u_P_startingChances : rf_mt 52 = rf_m_P_startingChances := rfl
theorem rf_f_P_startingChances_0 : rf_Fb rf_m_P_startingChances 0 1 (.aload_n 0) 0 0 0 0 [] [] = true := by decide +kernel
theorem rf_f_P_startingChances_1 : rf_Fb rf_m_P_startingChances 1 4 (.getfield 9) 3 1 2 0 [] [] = true := by decide +kernel
theorem rf_f_P_startingChances_4 : rf_Fb rf_m_P_startingChances 4 6 (.astore 4) 0 0 0 0 [] [] = true := by decide +kernel
theorem rf_f_P_startingChances_6 : rf_Fb rf_m_P_startingChances 6 7 (.iload_n 2) 0 0 0 0 [] [] = true := by decide +kernel
theorem rf_f_P_startingChances_7 : rf_Fb rf_m_P_startingChances 7 8 (.aload_n 1) 0 0 0 0 [] [] = true := by decide +kernel
theorem rf_f_P_startingChances_8 : rf_Fb rf_m_P_startingChances 8 11 (.getfield 54) 2 1 0 0 [] [] = true := by decide +kernel
theorem rf_f_P_startingChances_11 : rf_Fb rf_m_P_startingChances 11 14 (.if_icmp .ge 14) 25 0 0 0 [] [] = true := by decide +kernel
theorem rf_f_P_startingChances_14 : rf_Fb rf_m_P_startingChances 14 15 (.iload_n 2) 0 0 0 0 [] [] = true := by decide +kernel
theorem rf_f_P_startingChances_15 : rf_Fb rf_m_P_startingChances 15 17 (.bipush 6) 0 0 0 0 [] [] = true := by decide +kernel
theorem rf_f_P_startingChances_17 : rf_Fb rf_m_P_startingChances 17 20 (.if_icmp .ge 8) 25 0 0 0 [] [] = true := by decide +kernel
theorem rf_f_P_startingChances_20 : rf_Fb rf_m_P_startingChances 20 22 (.aload 4) 0 0 0 0 [] [] = true := by decide +kernel
theorem rf_f_P_startingChances_22 : rf_Fb rf_m_P_startingChances 22 25 (.ifnonnull 16) 38 0 0 0 [] [true, false, false, false, false, false, false, false, false] = true := by decide +kernel
theorem rf_f_P_startingChances_25 : rf_Fb rf_m_P_startingChances 25 26 (.aload_n 0) 0 0 0 0 [] [] = true := by decide +kernel
theorem rf_f_P_startingChances_26 : rf_Fb rf_m_P_startingChances 26 29 (.getfield 40) 3 7 0 0 [] [] = true := by decide +kernel
theorem rf_f_P_startingChances_29 : rf_Fb rf_m_P_startingChances 29 32 (.ifCond .le 7) 36 0 0 0 [] [] = true := by decide +kernel
theorem rf_f_P_startingChances_32 : rf_Fb rf_m_P_startingChances 32 33 (.lconst 1) 0 0 0 1 [] [] = true := by decide +kernel
theorem rf_f_P_startingChances_33 : rf_Fb rf_m_P_startingChances 33 36 (.goto 4) 37 0 0 0 [] [] = true := by decide +kernel
theorem rf_f_P_startingChances_36 : rf_Fb rf_m_P_startingChances 36 37 (.lconst 0) 0 0 0 0 [] [] = true := by decide +kernel
theorem rf_f_P_startingChances_37 : rf_Fb rf_m_P_startingChances 37 38 (.lreturn) 0 0 0 0 [] [] = true := by decide +kernel
theorem rf_f_P_startingChances_38 : rf_Fb rf_m_P_startingChances 38 39 (.aload_n 1) 0 0 0 0 [] [] = true := by decide +kernel
theorem rf_f_P_startingChances_39 : rf_Fb rf_m_P_startingChances 39 40 (.iload_n 2) 0 0 0 0 [] [] = true := by decide +kernel
theorem rf_f_P_startingChances_40 : rf_Fb rf_m_P_startingChances 40 43 (.invokevirtual 57) 4 1 0 2 [] [] = true := by decide +kernel
theorem rf_f_P_startingChances_43 : rf_Fb rf_m_P_startingChances 43 45 (.istore 5) 0 0 0 0 [] [] = true := by decide +kernel
theorem rf_f_P_startingChances_45 : rf_Fb rf_m_P_startingChances 45 46 (.aload_n 0) 0 0 0 0 [] [] = true := by decide +kernel
theorem rf_f_P_startingChances_46 : rf_Fb rf_m_P_startingChances 46 48 (.iload 5) 0 0 0 0 [] [] = true := by decide +kernel
theorem rf_f_P_startingChances_48 : rf_Fb rf_m_P_startingChances 48 51 (.invokevirtual 15) 47 1 0 3 [] [] = true := by decide +kernel
theorem rf_f_P_startingChances_51 : rf_Fb rf_m_P_startingChances 51 54 (.ifCond .ne 17) 68 0 0 0 [] [] = true := by decide +kernel
theorem rf_f_P_startingChances_54 : rf_Fb rf_m_P_startingChances 54 57 (.ldc2_w 61) 0 0 0 12 [] [] = true := by decide +kernel
theorem rf_f_P_startingChances_57 : rf_Fb rf_m_P_startingChances 57 58 (.aload_n 0) 0 0 0 0 [] [] = true := by decide +kernel
theorem rf_f_P_startingChances_58 : rf_Fb rf_m_P_startingChances 58 59 (.aload_n 1) 0 0 0 0 [] [] = true := by decide +kernel
theorem rf_f_P_startingChances_59 : rf_Fb rf_m_P_startingChances 59 60 (.iload_n 2) 0 0 0 0 [] [] = true := by decide +kernel
theorem rf_f_P_startingChances_60 : rf_Fb rf_m_P_startingChances 60 61 (.iconst 1) 0 0 0 0 [] [] = true := by decide +kernel
theorem rf_f_P_startingChances_61 : rf_Fb rf_m_P_startingChances 61 62 (.iadd) 0 0 0 0 [] [] = true := by decide +kernel
theorem rf_f_P_startingChances_62 : rf_Fb rf_m_P_startingChances 62 63 (.aload_n 3) 0 0 0 0 [] [] = true := by decide +kernel
theorem rf_f_P_startingChances_63 : rf_Fb rf_m_P_startingChances 63 66 (.invokestatic 63) 52 4 1 0 [] [] = true := by decide +kernel
theorem rf_f_P_startingChances_66 : rf_Fb rf_m_P_startingChances 66 67 (.lmul) 0 0 0 0 [] [] = true := by decide +kernel
theorem rf_f_P_startingChances_67 : rf_Fb rf_m_P_startingChances 67 68 (.lreturn) 0 0 0 0 [] [] = true := by decide +kernel
theorem rf_f_P_startingChances_68 : rf_Fb rf_m_P_startingChances 68 70 (.iload 5) 0 0 0 0 [] [] = true := by decide +kernel
theorem rf_f_P_startingChances_70 : rf_Fb rf_m_P_startingChances 70 72 (.bipush 9) 0 0 0 0 [] [] = true := by decide +kernel
theorem rf_f_P_startingChances_72 : rf_Fb rf_m_P_startingChances 72 75 (.if_icmp .le 33) 105 0 0 0 [] [] = true := by decide +kernel
theorem rf_f_P_startingChances_75 : rf_Fb rf_m_P_startingChances 75 77 (.aload 4) 0 0 0 0 [] [] = true := by decide +kernel
theorem rf_f_P_startingChances_77 : rf_Fb rf_m_P_startingChances 77 78 (.aload_n 0) 0 0 0 0 [] [] = true := by decide +kernel
theorem rf_f_P_startingChances_78 : rf_Fb rf_m_P_startingChances 78 81 (.invokevirtual 22) 48 1 3 3 [] [] = true := by decide +kernel
theorem rf_f_P_startingChances_81 : rf_Fb rf_m_P_startingChances 81 83 (.aload 4) 0 0 0 0 [] [] = true := by decide +kernel
theorem rf_f_P_startingChances_83 : rf_Fb rf_m_P_startingChances 83 85 (.iload 5) 0 0 0 0 [] [] = true := by decide +kernel
theorem rf_f_P_startingChances_85 : rf_Fb rf_m_P_startingChances 85 86 (.iconst 0) 0 0 0 0 [] [] = true := by decide +kernel
theorem rf_f_P_startingChances_86 : rf_Fb rf_m_P_startingChances 86 89 (.invokevirtual 30) 40 2 0 3 [] [] = true := by decide +kernel
theorem rf_f_P_startingChances_89 : rf_Fb rf_m_P_startingChances 89 90 (.pop) 0 0 0 0 [] [] = true := by decide +kernel
theorem rf_f_P_startingChances_90 : rf_Fb rf_m_P_startingChances 90 93 (.ldc2_w 61) 0 0 0 12 [] [] = true := by decide +kernel
theorem rf_f_P_startingChances_93 : rf_Fb rf_m_P_startingChances 93 95 (.aload 4) 0 0 0 0 [] [] = true := by decide +kernel
theorem rf_f_P_startingChances_95 : rf_Fb rf_m_P_startingChances 95 96 (.aload_n 1) 0 0 0 0 [] [] = true := by decide +kernel
theorem rf_f_P_startingChances_96 : rf_Fb rf_m_P_startingChances 96 97 (.iload_n 2) 0 0 0 0 [] [] = true := by decide +kernel
theorem rf_f_P_startingChances_97 : rf_Fb rf_m_P_startingChances 97 98 (.iconst 1) 0 0 0 0 [] [] = true := by decide +kernel
theorem rf_f_P_startingChances_98 : rf_Fb rf_m_P_startingChances 98 99 (.iadd) 0 0 0 0 [] [] = true := by decide +kernel
theorem rf_f_P_startingChances_99 : rf_Fb rf_m_P_startingChances 99 100 (.aload_n 3) 0 0 0 0 [] [] = true := by decide +kernel
theorem rf_f_P_startingChances_100 : rf_Fb rf_m_P_startingChances 100 103 (.invokestatic 63) 52 4 1 0 [] [] = true := by decide +kernel
theorem rf_f_P_startingChances_103 : rf_Fb rf_m_P_startingChances 103 104 (.lmul) 0 0 0 0 [] [] = true := by decide +kernel
theorem rf_f_P_startingChances_104 : rf_Fb rf_m_P_startingChances 104 105 (.lreturn) 0 0 0 0 [] [] = true := by decide +kernel
theorem rf_f_P_startingChances_105 : rf_Fb rf_m_P_startingChances 105 106 (.lconst 0) 0 0 0 0 [] [] = true := by decide +kernel
theorem rf_f_P_startingChances_106 : rf_Fb rf_m_P_startingChances 106 108 (.lstore 6) 0 0 0 0 [] [] = true := by decide +kernel
theorem rf_f_P_startingChances_108 : rf_Fb rf_m_P_startingChances 108 109 (.iconst 0) 0 0 0 0 [] [] = true := by decide +kernel
theorem rf_f_P_startingChances_109 : rf_Fb rf_m_P_startingChances 109 111 (.istore 8) 0 0 0 0 [] [true, true, true, true, true, true, true, false, true] = true := by decide +kernel
theorem rf_f_P_startingChances_111 : rf_Fb rf_m_P_startingChances 111 113 (.iload 8) 0 0 0 0 [] [] = true := by decide +kernel
theorem rf_f_P_startingChances_113 : rf_Fb rf_m_P_startingChances 113 114 (.iconst 2) 0 0 0 0 [] [] = true := by decide +kernel
theorem rf_f_P_startingChances_114 : rf_Fb rf_m_P_startingChances 114 117 (.if_icmp .gt 48) 162 0 0 0 [] [] = true := by decide +kernel
theorem rf_f_P_startingChances_117 : rf_Fb rf_m_P_startingChances 117 119 (.aload 4) 0 0 0 0 [] [] = true := by decide +kernel
theorem rf_f_P_startingChances_119 : rf_Fb rf_m_P_startingChances 119 120 (.aload_n 0) 0 0 0 0 [] [] = true := by decide +kernel
theorem rf_f_P_startingChances_120 : rf_Fb rf_m_P_startingChances 120 123 (.invokevirtual 22) 48 1 3 3 [] [] = true := by decide +kernel
theorem rf_f_P_startingChances_123 : rf_Fb rf_m_P_startingChances 123 125 (.aload 4) 0 0 0 0 [] [] = true := by decide +kernel
theorem rf_f_P_startingChances_125 : rf_Fb rf_m_P_startingChances 125 127 (.iload 5) 0 0 0 0 [] [] = true := by decide +kernel
theorem rf_f_P_startingChances_127 : rf_Fb rf_m_P_startingChances 127 129 (.iload 8) 0 0 0 0 [] [] = true := by decide +kernel
theorem rf_f_P_startingChances_129 : rf_Fb rf_m_P_startingChances 129 132 (.invokevirtual 30) 40 2 0 3 [] [] = true := by decide +kernel
theorem rf_f_P_startingChances_132 : rf_Fb rf_m_P_startingChances 132 133 (.pop) 0 0 0 0 [] [] = true := by decide +kernel
theorem rf_f_P_startingChances_133 : rf_Fb rf_m_P_startingChances 133 135 (.lload 6) 0 0 0 0 [] [] = true := by decide +kernel
theorem rf_f_P_startingChances_135 : rf_Fb rf_m_P_startingChances 135 136 (.aload_n 3) 0 0 0 0 [] [] = true := by decide +kernel
theorem rf_f_P_startingChances_136 : rf_Fb rf_m_P_startingChances 136 138 (.iload 8) 0 0 0 0 [] [] = true := by decide +kernel
theorem rf_f_P_startingChances_138 : rf_Fb rf_m_P_startingChances 138 141 (.invokevirtual 57) 4 1 0 2 [] [] = true := by decide +kernel
theorem rf_f_P_startingChances_141 : rf_Fb rf_m_P_startingChances 141 142 (.i2l) 0 0 0 0 [] [] = true := by decide +kernel
theorem rf_f_P_startingChances_142 : rf_Fb rf_m_P_startingChances 142 144 (.aload 4) 0 0 0 0 [] [] = true := by decide +kernel
theorem rf_f_P_startingChances_144 : rf_Fb rf_m_P_startingChances 144 145 (.aload_n 1) 0 0 0 0 [] [] = true := by decide +kernel
theorem rf_f_P_startingChances_145 : rf_Fb rf_m_P_startingChances 145 146 (.iload_n 2) 0 0 0 0 [] [] = true := by decide +kernel
theorem rf_f_P_startingChances_146 : rf_Fb rf_m_P_startingChances 146 147 (.iconst 1) 0 0 0 0 [] [] = true := by decide +kernel
theorem rf_f_P_startingChances_147 : rf_Fb rf_m_P_startingChances 147 148 (.iadd) 0 0 0 0 [] [] = true := by decide +kernel
theorem rf_f_P_startingChances_148 : rf_Fb rf_m_P_startingChances 148 149 (.aload_n 3) 0 0 0 0 [] [] = true := by decide +kernel
theorem rf_f_P_startingChances_149 : rf_Fb rf_m_P_startingChances 149 152 (.invokestatic 63) 52 4 1 0 [] [] = true := by decide +kernel
theorem rf_f_P_startingChances_152 : rf_Fb rf_m_P_startingChances 152 153 (.lmul) 0 0 0 0 [] [] = true := by decide +kernel
theorem rf_f_P_startingChances_153 : rf_Fb rf_m_P_startingChances 153 154 (.ladd) 0 0 0 0 [] [] = true := by decide +kernel
theorem rf_f_P_startingChances_154 : rf_Fb rf_m_P_startingChances 154 156 (.lstore 6) 0 0 0 0 [] [] = true := by decide +kernel
theorem rf_f_P_startingChances_156 : rf_Fb rf_m_P_startingChances 156 159 (.iinc 8 1) 0 0 0 0 [] [] = true := by decide +kernel
theorem rf_f_P_startingChances_159 : rf_Fb rf_m_P_startingChances 159 162 (.goto (-48)) 111 0 0 0 [] [] = true := by decide +kernel
theorem rf_f_P_startingChances_162 : rf_Fb rf_m_P_startingChances 162 164 (.lload 6) 0 0 0 0 [] [] = true := by decide +kernel
theorem rf_f_P_startingChances_164 : rf_Fb rf_m_P_startingChances 164 165 (.lreturn) 0 0 0 0 [] [] = true := by decide +kernel
set_option maxRecDepth 20000 in
set_option maxHeartbeats 2000000 in
theorem rf_e_P_startingChances (d : Nat) (a1 : Option Nat) (a2 : Option Nat) (a3 : Int) (a4 : Option Nat) (h : rf_H) : rf_call (d + 1) 52 [.inr (.inr a1), .inr (.inr a2), .inl a3, .inr (.inr a4)] h = (rf_nn a1 fun k1 => ((rf_gR h 3 k1 1).bind fun x2 => (rf_nn a2 fun k3 => ((rf_gI h 2 k3 1).bind fun x4 => (if a3 < x4 then (if a3 < 6 then (rf_nz x2 (rf_j_P_startingChances_25 d a1 h) ((rf_nn a2 fun k5 => (bif rf_isO h.1 k5 2 then ((rf_call d 4 [.inr (.inr (some k5)), .inl a3] h).bind fun q7 => rf_kI q7 fun x8 h6 => (rf_nn a1 fun k9 => (bif rf_isO h6.1 k9 3 then ((rf_call d 47 [.inr (.inr (some k9)), .inl x8] h6).bind fun q11 => rf_kI q11 fun x12 h10 => (if x12 = 0 then ((rf_call d 52 [.inr (.inr a1), .inr (.inr a2), .inl (rf_w (a3 + 1)), .inr (.inr a4)] h10).bind fun q24 => rf_kL q24 fun x25 h23 => some (some (.inr (.inl (rf_wl (12 * x25)))), h23)) else (if 9 < x8 then (rf_nn x2 fun k13 => (bif rf_isO h10.1 k13 3 then ((rf_call d 48 [.inr (.inr (some k13)), .inr (.inr a1)] h10).bind fun q15 => rf_kV q15 fun h14 => (rf_nn x2 fun k16 => (bif rf_isO h14.1 k16 3 then ((rf_call d 40 [.inr (.inr (some k16)), .inl x8, .inl 0] h14).bind fun q18 => rf_kI q18 fun x19 h17 => ((rf_call d 52 [.inr (.inr x2), .inr (.inr a2), .inl (rf_w (a3 + 1)), .inr (.inr a4)] h17).bind fun q21 => rf_kL q21 fun x22 h20 => some (some (.inr (.inl (rf_wl (12 * x22)))), h20))) else none))) else none)) else rf_j_P_startingChances_111 d a1 a2 a3 a4 x2 x8 0 0 h10))) else none))) else none)))) else rf_j_P_startingChances_25 d a1 h) else rf_j_P_startingChances_25 d a1 h))))) := by
  show rf_den (rf_call d) (rf_mt 52) _ = _
  rw [rf_u_P_startingChances]
  exact ((rf_s_aload_n rf_f_P_startingChances_0 rfl (rf_m0 _) (rf_s_getAR rf_f_P_startingChances_1 (rf_m0 _) fun k1 x2 => (rf_s_astore (L' := [some (.inr (.inr a1)), some (.inr (.inr a2)), some (.inl a3), some (.inr (.inr a4)), some (.inr (.inr x2)), none, none, none, none]) rf_f_P_startingChances_4 rfl (rf_s_iload_n rf_f_P_startingChances_6 rfl (rf_m0 _) (rf_s_aload_n rf_f_P_startingChances_7 rfl (rf_m0 _) (rf_s_getIR rf_f_P_startingChances_8 (rf_m0 _) fun k3 x4 => (rf_s_icmp_ge rf_f_P_startingChances_11 rfl rfl (rf_m0 _) rfl (rf_s_iload_n rf_f_P_startingChances_14 rfl (rf_m0 _) (rf_s_bipush rf_f_P_startingChances_15 (rf_m0 _) (rf_s_icmp_ge rf_f_P_startingChances_17 rfl rfl (rf_m0 _) rfl (rf_s_aload rf_f_P_startingChances_20 rfl (rf_m0 _) (rf_s_ifnonnull rf_f_P_startingChances_22 rfl (rf_m0 _) rfl (rf_s_aload_n rf_f_P_startingChances_38 rfl (rf_m0 _) (rf_s_iload_n rf_f_P_startingChances_39 rfl (rf_m0 _) (rf_s_invV0R rf_f_P_startingChances_40 rfl rfl (rf_m0 _) fun k5 q7 x8 h6 => (rf_s_istore (L' := [some (.inr (.inr a1)), some (.inr (.inr a2)), some (.inl a3), some (.inr (.inr a4)), some (.inr (.inr x2)), some (.inl x8), none, none, none]) rf_f_P_startingChances_43 rfl (rf_s_aload_n rf_f_P_startingChances_45 rfl (rf_m0 _) (rf_s_iload rf_f_P_startingChances_46 rfl (rf_m0 _) (rf_s_invV0R rf_f_P_startingChances_48 rfl rfl (rf_m0 _) fun k9 q11 x12 h10 => (rf_s_if_ne rf_f_P_startingChances_51 rfl (rf_m0 _) (rf_m0 _) (rf_s_iload rf_f_P_startingChances_68 rfl (rf_m0 _) (rf_s_bipush rf_f_P_startingChances_70 (rf_m0 _) (rf_s_icmp_le rf_f_P_startingChances_72 rfl (rf_m0 _) (rf_m0 _) (rf_s_lconst rf_f_P_startingChances_105 (rf_m0 _) (rf_s_lstore (L' := [some (.inr (.inr a1)), some (.inr (.inr a2)), some (.inl a3), some (.inr (.inr a4)), some (.inr (.inr x2)), some (.inl x8), some (.inr (.inl 0)), none, none]) rf_f_P_startingChances_106 rfl (rf_s_iconst rf_f_P_startingChances_108 (rf_m0 _) (rf_s_istore rf_f_P_startingChances_109 rfl rfl)))) (rf_s_aload rf_f_P_startingChances_75 rfl (rf_m0 _) (rf_s_aload_n rf_f_P_startingChances_77 rfl (rf_m0 _) (rf_s_invV3R rf_f_P_startingChances_78 rfl rfl (rf_m0 _) fun k13 q15 h14 => (rf_s_aload rf_f_P_startingChances_81 rfl (rf_m0 _) (rf_s_iload rf_f_P_startingChances_83 rfl (rf_m0 _) (rf_s_iconst rf_f_P_startingChances_85 (rf_m0 _) (rf_s_invV0R rf_f_P_startingChances_86 rfl rfl (rf_m0 _) fun k16 q18 x19 h17 => (rf_s_popI rf_f_P_startingChances_89 (rf_m0 _) (rf_s_ldc2_w rf_f_P_startingChances_90 (rf_m0 _) (rf_s_aload rf_f_P_startingChances_93 rfl (rf_m0 _) (rf_s_aload_n rf_f_P_startingChances_95 rfl (rf_m0 _) (rf_s_iload_n rf_f_P_startingChances_96 rfl (rf_m0 _) (rf_s_iconst rf_f_P_startingChances_97 (rf_m0 _) (rf_s_iadd rf_f_P_startingChances_98 (rf_m0 _) (rf_s_aload_n rf_f_P_startingChances_99 rfl (rf_m0 _) (rf_s_invS1 rf_f_P_startingChances_100 rfl rfl (rf_m0 _) fun q21 x22 h20 => (rf_s_lmul rf_f_P_startingChances_103 (rf_m0 _) (rf_s_lret rf_f_P_startingChances_104))))))))))))))))))))) (rf_s_ldc2_w rf_f_P_startingChances_54 (rf_m0 _) (rf_s_aload_n rf_f_P_startingChances_57 rfl (rf_m0 _) (rf_s_aload_n rf_f_P_startingChances_58 rfl (rf_m0 _) (rf_s_iload_n rf_f_P_startingChances_59 rfl (rf_m0 _) (rf_s_iconst rf_f_P_startingChances_60 (rf_m0 _) (rf_s_iadd rf_f_P_startingChances_61 (rf_m0 _) (rf_s_aload_n rf_f_P_startingChances_62 rfl (rf_m0 _) (rf_s_invS1 rf_f_P_startingChances_63 rfl rfl (rf_m0 _) fun q24 x25 h23 => (rf_s_lmul rf_f_P_startingChances_66 (rf_m0 _) (rf_s_lret rf_f_P_startingChances_67)))))))))))))))))) rfl)))))))))))) : rf_den (rf_call d) rf_m_P_startingChances (0, [some (.inr (.inr a1)), some (.inr (.inr a2)), some (.inl a3), some (.inr (.inr a4)), none, none, none, none, none], [], h) = _)
set_option maxRecDepth 20000 in
set_option maxHeartbeats 2000000 in
theorem rf_e_P_startingChances_25 (d : Nat) (l0 : Option Nat) (h : rf_H) : rf_j_P_startingChances_25 d l0 h = (rf_nn l0 fun k1 => ((rf_gI h 3 k1 7).bind fun x2 => (if 0 < x2 then some (some (.inr (.inl 1)), h) else some (some (.inr (.inl 0)), h)))) :=
  ((rf_s_aload_n rf_f_P_startingChances_25 rfl (rf_m0 _) (rf_s_getIR rf_f_P_startingChances_26 (rf_m0 _) fun k1 x2 => (rf_s_if_le rf_f_P_startingChances_29 rfl (rf_m0 _) (rf_m0 _) (rf_s_lconst rf_f_P_startingChances_36 (rf_m0 _) (rf_s_lret rf_f_P_startingChances_37)) (rf_s_lconst rf_f_P_startingChances_32 (rf_m0 _) (rf_s_goto rf_f_P_startingChances_33 rfl (rf_m0 _) (rf_s_lret rf_f_P_startingChances_37)))))) : rf_den (rf_call d) rf_m_P_startingChances (25, [some (.inr (.inr l0)), none, none, none, none, none, none, none, none], [], h) = _)
set_option maxRecDepth 20000 in
set_option maxHeartbeats 2000000 in
theorem rf_e_P_startingChances_111 (d : Nat) (l0 : Option Nat) (l1 : Option Nat) (l2 : Int) (l3 : Option Nat) (l4 : Option Nat) (l5 : Int) (l6 : Int) (l8 : Int) (h : rf_H) : rf_j_P_startingChances_111 d l0 l1 l2 l3 l4 l5 l6 l8 h = (if 2 < l8 then some (some (.inr (.inl l6)), h) else (rf_nn l4 fun k1 => (bif rf_isO h.1 k1 3 then ((rf_call d 48 [.inr (.inr (some k1)), .inr (.inr l0)] h).bind fun q3 => rf_kV q3 fun h2 => (rf_nn l4 fun k4 => (bif rf_isO h2.1 k4 3 then ((rf_call d 40 [.inr (.inr (some k4)), .inl l5, .inl l8] h2).bind fun q6 => rf_kI q6 fun x7 h5 => (rf_nn l3 fun k8 => (bif rf_isO h5.1 k8 2 then ((rf_call d 4 [.inr (.inr (some k8)), .inl l8] h5).bind fun q10 => rf_kI q10 fun x11 h9 => ((rf_call d 52 [.inr (.inr l4), .inr (.inr l1), .inl (rf_w (l2 + 1)), .inr (.inr l3)] h9).bind fun q13 => rf_kL q13 fun x14 h12 => rf_j_P_startingChances_111 d l0 l1 l2 l3 l4 l5 (rf_wl (l6 + (rf_wl (x11 * x14)))) (rf_w (l8 + 1)) h12)) else none))) else none))) else none))) :=
  ((rf_s_iload rf_f_P_startingChances_111 rfl (rf_m0 _) (rf_s_iconst rf_f_P_startingChances_113 (rf_m0 _) (rf_s_icmp_gt rf_f_P_startingChances_114 rfl (rf_m0 _) (rf_m0 _) (rf_s_lload rf_f_P_startingChances_162 rfl (rf_m0 _) (rf_s_lret rf_f_P_startingChances_164)) (rf_s_aload rf_f_P_startingChances_117 rfl (rf_m0 _) (rf_s_aload_n rf_f_P_startingChances_119 rfl (rf_m0 _) (rf_s_invV3R rf_f_P_startingChances_120 rfl rfl (rf_m0 _) fun k1 q3 h2 => (rf_s_aload rf_f_P_startingChances_123 rfl (rf_m0 _) (rf_s_iload rf_f_P_startingChances_125 rfl (rf_m0 _) (rf_s_iload rf_f_P_startingChances_127 rfl (rf_m0 _) (rf_s_invV0R rf_f_P_startingChances_129 rfl rfl (rf_m0 _) fun k4 q6 x7 h5 => (rf_s_popI rf_f_P_startingChances_132 (rf_m0 _) (rf_s_lload rf_f_P_startingChances_133 rfl (rf_m0 _) (rf_s_aload_n rf_f_P_startingChances_135 rfl (rf_m0 _) (rf_s_iload rf_f_P_startingChances_136 rfl (rf_m0 _) (rf_s_invV0R rf_f_P_startingChances_138 rfl rfl (rf_m0 _) fun k8 q10 x11 h9 => (rf_s_i2l rf_f_P_startingChances_141 (rf_m0 _) (rf_s_aload rf_f_P_startingChances_142 rfl (rf_m0 _) (rf_s_aload_n rf_f_P_startingChances_144 rfl (rf_m0 _) (rf_s_iload_n rf_f_P_startingChances_145 rfl (rf_m0 _) (rf_s_iconst rf_f_P_startingChances_146 (rf_m0 _) (rf_s_iadd rf_f_P_startingChances_147 (rf_m0 _) (rf_s_aload_n rf_f_P_startingChances_148 rfl (rf_m0 _) (rf_s_invS1 rf_f_P_startingChances_149 rfl rfl (rf_m0 _) fun q13 x14 h12 => (rf_s_lmul rf_f_P_startingChances_152 (rf_m0 _) (rf_s_ladd rf_f_P_startingChances_153 (rf_m0 _) (rf_s_lstore (L' := [some (.inr (.inr l0)), some (.inr (.inr l1)), some (.inl l2), some (.inr (.inr l3)), some (.inr (.inr l4)), some (.inl l5), some (.inr (.inl (rf_wl (l6 + (rf_wl (x11 * x14)))))), none, some (.inl l8)]) rf_f_P_startingChances_154 rfl (rf_s_iinc (L' := [some (.inr (.inr l0)), some (.inr (.inr l1)), some (.inl l2), some (.inr (.inr l3)), some (.inr (.inr l4)), some (.inl l5), some (.inr (.inl (rf_wl (l6 + (rf_wl (x11 * x14)))))), none, some (.inl (rf_w (l8 + 1)))]) rf_f_P_startingChances_156 rfl rfl (rf_s_goto rf_f_P_startingChances_159 rfl rfl rfl)))))))))))))))))))))))))))) : rf_den (rf_call d) rf_m_P_startingChances (111, [some (.inr (.inr l0)), some (.inr (.inr l1)), some (.inl l2), some (.inr (.inr l3)), some (.inr (.inr l4)), some (.inl l5), some (.inr (.inl l6)), none, some (.inl l8)], [], h) = _)
