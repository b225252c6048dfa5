theorem rf_m0 (L : List (Option rf_V)) : rf_msk [] L = L := by cases L <;> rfl

noncomputable def rf_j_R_renew_19 (d : Nat) (o : Nat) (l2 : Int) (l3 : Int) (h : rf_H) : Option rf_R := rf_den (rf_call d) rf_m_R_renew (19, [some (.inr (.inr (some o))), none, some (.inl l2), some (.inl l3)], [], h)
theorem rf_u_R_renew : rf_mt 1 = rf_m_R_renew := rfl
theorem rf_f_R_renew_0 : rf_Fb rf_m_R_renew 0 1 (.aload_n 0) 0 0 0 0 [] [] = true := by decide +kernel
theorem rf_f_R_renew_1 : rf_Fb rf_m_R_renew 1 2 (.iconst 0) 0 0 0 0 [] [] = true := by decide +kernel
theorem rf_f_R_renew_2 : rf_Fb rf_m_R_renew 2 3 (.iload_n 1) 0 0 0 0 [] [] = true := by decide +kernel
theorem rf_f_R_renew_3 : rf_Fb rf_m_R_renew 3 4 (.aload_n 0) 0 0 0 0 [] [] = true := by decide +kernel
theorem rf_f_R_renew_4 : rf_Fb rf_m_R_renew 4 7 (.getfield 19) 2 0 2 0 [] [] = true := by decide +kernel
theorem rf_f_R_renew_7 : rf_Fb rf_m_R_renew 7 8 (.arraylength) 0 0 0 0 [] [] = true := by decide +kernel
theorem rf_f_R_renew_8 : rf_Fb rf_m_R_renew 8 11 (.invokestatic 35) 14 2 0 0 [] [] = true := by decide +kernel
theorem rf_f_R_renew_11 : rf_Fb rf_m_R_renew 11 14 (.invokestatic 13) 13 2 0 0 [] [] = true := by decide +kernel
theorem rf_f_R_renew_14 : rf_Fb rf_m_R_renew 14 17 (.putfield 9) 2 1 0 0 [] [] = true := by decide +kernel
theorem rf_f_R_renew_17 : rf_Fb rf_m_R_renew 17 18 (.iconst 0) 0 0 0 0 [] [] = true := by decide +kernel
theorem rf_f_R_renew_18 : rf_Fb rf_m_R_renew 18 19 (.istore_n 3) 0 0 0 0 [] [true, false, true, true] = true := by decide +kernel
theorem rf_f_R_renew_19 : rf_Fb rf_m_R_renew 19 20 (.iload_n 3) 0 0 0 0 [] [] = true := by decide +kernel
theorem rf_f_R_renew_20 : rf_Fb rf_m_R_renew 20 21 (.aload_n 0) 0 0 0 0 [] [] = true := by decide +kernel
theorem rf_f_R_renew_21 : rf_Fb rf_m_R_renew 21 24 (.getfield 9) 2 1 0 0 [] [] = true := by decide +kernel
theorem rf_f_R_renew_24 : rf_Fb rf_m_R_renew 24 27 (.if_icmp .ge 15) 39 0 0 0 [] [] = true := by decide +kernel
theorem rf_f_R_renew_27 : rf_Fb rf_m_R_renew 27 28 (.aload_n 0) 0 0 0 0 [] [] = true := by decide +kernel
theorem rf_f_R_renew_28 : rf_Fb rf_m_R_renew 28 29 (.iload_n 3) 0 0 0 0 [] [] = true := by decide +kernel
theorem rf_f_R_renew_29 : rf_Fb rf_m_R_renew 29 30 (.iload_n 2) 0 0 0 0 [] [] = true := by decide +kernel
theorem rf_f_R_renew_30 : rf_Fb rf_m_R_renew 30 33 (.invokevirtual 31) 2 2 3 2 [] [] = true := by decide +kernel
theorem rf_f_R_renew_33 : rf_Fb rf_m_R_renew 33 36 (.iinc 3 1) 0 0 0 0 [] [] = true := by decide +kernel
theorem rf_f_R_renew_36 : rf_Fb rf_m_R_renew 36 39 (.goto (-17)) 19 0 0 0 [] [] = true := by decide +kernel
theorem rf_f_R_renew_39 : rf_Fb rf_m_R_renew 39 40 (.return_) 0 0 0 0 [] [] = true := by decide +kernel
set_option maxRecDepth 20000 in
set_option maxHeartbeats 2000000 in
theorem rf_e_R_renew (d : Nat) (o : Nat) (a1 : Int) (a2 : Int) (h : rf_H) : rf_call (d + 1) 1 [.inr (.inr (some o)), .inl a1, .inl a2] h = ((rf_gR h 2 o 0).bind fun x1 => (rf_nn x1 fun k2 => ((rf_aL h k2).bind fun x3 => ((rf_call d 14 [.inl a1, .inl x3] h).bind fun q5 => rf_kI q5 fun x6 h4 => ((rf_call d 13 [.inl 0, .inl x6] h4).bind fun q8 => rf_kI q8 fun x9 h7 => ((rf_pI h7 2 o 1 x9).bind fun h10 => rf_j_R_renew_19 d o a2 0 h10)))))) := by
  show rf_den (rf_call d) (rf_mt 1) _ = _
  rw [rf_u_R_renew]
  exact ((rf_s_aload_n rf_f_R_renew_0 rfl (rf_m0 _) (rf_s_iconst rf_f_R_renew_1 (rf_m0 _) (rf_s_iload_n rf_f_R_renew_2 rfl (rf_m0 _) (rf_s_aload_n rf_f_R_renew_3 rfl (rf_m0 _) (rf_s_getAS rf_f_R_renew_4 (rf_m0 _) fun x1 => (rf_s_alenR rf_f_R_renew_7 (rf_m0 _) fun k2 x3 => (rf_s_invS0 rf_f_R_renew_8 rfl rfl (rf_m0 _) fun q5 x6 h4 => (rf_s_invS0 rf_f_R_renew_11 rfl rfl (rf_m0 _) fun q8 x9 h7 => (rf_s_putIS rf_f_R_renew_14 (rf_m0 _) fun h10 => (rf_s_iconst rf_f_R_renew_17 (rf_m0 _) (rf_s_istore_n rf_f_R_renew_18 rfl rfl))))))))))) : rf_den (rf_call d) rf_m_R_renew (0, [some (.inr (.inr (some o))), some (.inl a1), some (.inl a2), none], [], h) = _)
set_option maxRecDepth 20000 in
set_option maxHeartbeats 2000000 in
theorem rf_e_R_renew_19 (d : Nat) (o : Nat) (l2 : Int) (l3 : Int) (h : rf_H) : rf_j_R_renew_19 d o l2 l3 h = ((rf_gI h 2 o 1).bind fun x1 => (if l3 < x1 then (bif rf_isO h.1 o 2 then ((rf_call d 2 [.inr (.inr (some o)), .inl l3, .inl l2] h).bind fun q3 => rf_kV q3 fun h2 => rf_j_R_renew_19 d o l2 (rf_w (l3 + 1)) h2) else none) else some (none, h))) :=
  ((rf_s_iload_n rf_f_R_renew_19 rfl (rf_m0 _) (rf_s_aload_n rf_f_R_renew_20 rfl (rf_m0 _) (rf_s_getIS rf_f_R_renew_21 (rf_m0 _) fun x1 => (rf_s_icmp_ge rf_f_R_renew_24 rfl (rf_m0 _) (rf_m0 _) (rf_s_vret rf_f_R_renew_39) (rf_s_aload_n rf_f_R_renew_27 rfl (rf_m0 _) (rf_s_iload_n rf_f_R_renew_28 rfl (rf_m0 _) (rf_s_iload_n rf_f_R_renew_29 rfl (rf_m0 _) (rf_s_invV3S rf_f_R_renew_30 rfl rfl (rf_m0 _) fun q3 h2 => (rf_s_iinc (L' := [some (.inr (.inr (some o))), none, some (.inl l2), some (.inl (rf_w (l3 + 1)))]) rf_f_R_renew_33 rfl rfl (rf_s_goto rf_f_R_renew_36 rfl rfl rfl)))))))))) : rf_den (rf_call d) rf_m_R_renew (19, [some (.inr (.inr (some o))), none, some (.inl l2), some (.inl l3)], [], h) = _)
theorem rf_u_R_set : rf_mt 2 = rf_m_R_set := rfl
theorem rf_f_R_set_0 : rf_Fb rf_m_R_set 0 1 (.aload_n 0) 0 0 0 0 [] [] = true := by decide +kernel
theorem rf_f_R_set_1 : rf_Fb rf_m_R_set 1 2 (.iload_n 1) 0 0 0 0 [] [] = true := by decide +kernel
theorem rf_f_R_set_2 : rf_Fb rf_m_R_set 2 5 (.invokevirtual 23) 3 1 0 2 [] [] = true := by decide +kernel
theorem rf_f_R_set_5 : rf_Fb rf_m_R_set 5 8 (.ifCond .eq 10) 15 0 0 0 [] [] = true := by decide +kernel
theorem rf_f_R_set_8 : rf_Fb rf_m_R_set 8 9 (.aload_n 0) 0 0 0 0 [] [] = true := by decide +kernel
theorem rf_f_R_set_9 : rf_Fb rf_m_R_set 9 12 (.getfield 19) 2 0 2 0 [] [] = true := by decide +kernel
theorem rf_f_R_set_12 : rf_Fb rf_m_R_set 12 13 (.iload_n 1) 0 0 0 0 [] [] = true := by decide +kernel
theorem rf_f_R_set_13 : rf_Fb rf_m_R_set 13 14 (.iload_n 2) 0 0 0 0 [] [] = true := by decide +kernel
theorem rf_f_R_set_14 : rf_Fb rf_m_R_set 14 15 (.iastore) 0 0 0 0 [] [] = true := by decide +kernel
theorem rf_f_R_set_15 : rf_Fb rf_m_R_set 15 16 (.return_) 0 0 0 0 [] [] = true := by decide +kernel
set_option maxRecDepth 20000 in
set_option maxHeartbeats 2000000 in
theorem rf_e_R_set (d : Nat) (o : Nat) (a1 : Int) (a2 : Int) (h : rf_H) : rf_call (d + 1) 2 [.inr (.inr (some o)), .inl a1, .inl a2] h = (bif rf_isO h.1 o 2 then ((rf_call d 3 [.inr (.inr (some o)), .inl a1] h).bind fun q2 => rf_kI q2 fun x3 h1 => (if x3 = 0 then some (none, h1) else ((rf_gR h1 2 o 0).bind fun x4 => (rf_nn x4 fun k5 => ((rf_sI h1 k5 a1 a2).bind fun h6 => some (none, h6)))))) else none) := by
  show rf_den (rf_call d) (rf_mt 2) _ = _
  rw [rf_u_R_set]
  exact ((rf_s_aload_n rf_f_R_set_0 rfl (rf_m0 _) (rf_s_iload_n rf_f_R_set_1 rfl (rf_m0 _) (rf_s_invV0S rf_f_R_set_2 rfl rfl (rf_m0 _) fun q2 x3 h1 => (rf_s_if_eq rf_f_R_set_5 rfl (rf_m0 _) (rf_m0 _) (rf_s_vret rf_f_R_set_15) (rf_s_aload_n rf_f_R_set_8 rfl (rf_m0 _) (rf_s_getAS rf_f_R_set_9 (rf_m0 _) fun x4 => (rf_s_iload_n rf_f_R_set_12 rfl (rf_m0 _) (rf_s_iload_n rf_f_R_set_13 rfl (rf_m0 _) (rf_s_iastR rf_f_R_set_14 (rf_m0 _) fun k5 h6 => (rf_s_vret rf_f_R_set_15)))))))))) : rf_den (rf_call d) rf_m_R_set (0, [some (.inr (.inr (some o))), some (.inl a1), some (.inl a2)], [], h) = _)
theorem rf_u_R_has : rf_mt 3 = rf_m_R_has := rfl
theorem rf_f_R_has_0 : rf_Fb rf_m_R_has 0 1 (.iload_n 1) 0 0 0 0 [] [] = true := by decide +kernel
theorem rf_f_R_has_1 : rf_Fb rf_m_R_has 1 4 (.ifCond .lt 24) 25 0 0 0 [] [] = true := by decide +kernel
theorem rf_f_R_has_4 : rf_Fb rf_m_R_has 4 5 (.iload_n 1) 0 0 0 0 [] [] = true := by decide +kernel
theorem rf_f_R_has_5 : rf_Fb rf_m_R_has 5 6 (.aload_n 0) 0 0 0 0 [] [] = true := by decide +kernel
theorem rf_f_R_has_6 : rf_Fb rf_m_R_has 6 9 (.getfield 9) 2 1 0 0 [] [] = true := by decide +kernel
theorem rf_f_R_has_9 : rf_Fb rf_m_R_has 9 12 (.if_icmp .ge 16) 25 0 0 0 [] [] = true := by decide +kernel
theorem rf_f_R_has_12 : rf_Fb rf_m_R_has 12 13 (.iload_n 1) 0 0 0 0 [] [] = true := by decide +kernel
theorem rf_f_R_has_13 : rf_Fb rf_m_R_has 13 14 (.aload_n 0) 0 0 0 0 [] [] = true := by decide +kernel
theorem rf_f_R_has_14 : rf_Fb rf_m_R_has 14 17 (.getfield 19) 2 0 2 0 [] [] = true := by decide +kernel
theorem rf_f_R_has_17 : rf_Fb rf_m_R_has 17 18 (.arraylength) 0 0 0 0 [] [] = true := by decide +kernel
theorem rf_f_R_has_18 : rf_Fb rf_m_R_has 18 21 (.if_icmp .ge 7) 25 0 0 0 [] [] = true := by decide +kernel
theorem rf_f_R_has_21 : rf_Fb rf_m_R_has 21 22 (.iconst 1) 0 0 0 0 [] [] = true := by decide +kernel
theorem rf_f_R_has_22 : rf_Fb rf_m_R_has 22 25 (.goto 4) 26 0 0 0 [] [] = true := by decide +kernel
theorem rf_f_R_has_25 : rf_Fb rf_m_R_has 25 26 (.iconst 0) 0 0 0 0 [] [] = true := by decide +kernel
theorem rf_f_R_has_26 : rf_Fb rf_m_R_has 26 27 (.ireturn) 0 0 1 0 [] [] = true := by decide +kernel
set_option maxRecDepth 20000 in
set_option maxHeartbeats 2000000 in
theorem rf_e_R_has (d : Nat) (o : Nat) (a1 : Int) (h : rf_H) : rf_call (d + 1) 3 [.inr (.inr (some o)), .inl a1] h = (if a1 < 0 then some (some (.inl 0), h) else ((rf_gI h 2 o 1).bind fun x1 => (if a1 < x1 then ((rf_gR h 2 o 0).bind fun x2 => (rf_nn x2 fun k3 => ((rf_aL h k3).bind fun x4 => (if a1 < x4 then some (some (.inl 1), h) else some (some (.inl 0), h))))) else some (some (.inl 0), h)))) := by
  show rf_den (rf_call d) (rf_mt 3) _ = _
  rw [rf_u_R_has]
  exact ((rf_s_iload_n rf_f_R_has_0 rfl (rf_m0 _) (rf_s_if_lt rf_f_R_has_1 rfl (rf_m0 _) (rf_m0 _) (rf_s_iconst rf_f_R_has_25 (rf_m0 _) (rf_s_zretK rf_f_R_has_26 (by decide))) (rf_s_iload_n rf_f_R_has_4 rfl (rf_m0 _) (rf_s_aload_n rf_f_R_has_5 rfl (rf_m0 _) (rf_s_getIS rf_f_R_has_6 (rf_m0 _) fun x1 => (rf_s_icmp_ge rf_f_R_has_9 rfl (rf_m0 _) (rf_m0 _) (rf_s_iconst rf_f_R_has_25 (rf_m0 _) (rf_s_zretK rf_f_R_has_26 (by decide))) (rf_s_iload_n rf_f_R_has_12 rfl (rf_m0 _) (rf_s_aload_n rf_f_R_has_13 rfl (rf_m0 _) (rf_s_getAS rf_f_R_has_14 (rf_m0 _) fun x2 => (rf_s_alenR rf_f_R_has_17 (rf_m0 _) fun k3 x4 => (rf_s_icmp_ge rf_f_R_has_18 rfl (rf_m0 _) (rf_m0 _) (rf_s_iconst rf_f_R_has_25 (rf_m0 _) (rf_s_zretK rf_f_R_has_26 (by decide))) (rf_s_iconst rf_f_R_has_21 (rf_m0 _) (rf_s_goto rf_f_R_has_22 rfl (rf_m0 _) (rf_s_zretK rf_f_R_has_26 (by decide))))))))))))))) : rf_den (rf_call d) rf_m_R_has (0, [some (.inr (.inr (some o))), some (.inl a1)], [], h) = _)
theorem rf_u_R_cell : rf_mt 4 = rf_m_R_cell := rfl
theorem rf_f_R_cell_0 : rf_Fb rf_m_R_cell 0 1 (.iload_n 1) 0 0 0 0 [] [] = true := by decide +kernel
theorem rf_f_R_cell_1 : rf_Fb rf_m_R_cell 1 4 (.ifCond .lt 29) 30 0 0 0 [] [] = true := by decide +kernel
theorem rf_f_R_cell_4 : rf_Fb rf_m_R_cell 4 5 (.iload_n 1) 0 0 0 0 [] [] = true := by decide +kernel
theorem rf_f_R_cell_5 : rf_Fb rf_m_R_cell 5 6 (.aload_n 0) 0 0 0 0 [] [] = true := by decide +kernel
theorem rf_f_R_cell_6 : rf_Fb rf_m_R_cell 6 9 (.getfield 9) 2 1 0 0 [] [] = true := by decide +kernel
theorem rf_f_R_cell_9 : rf_Fb rf_m_R_cell 9 12 (.if_icmp .ge 21) 30 0 0 0 [] [] = true := by decide +kernel
theorem rf_f_R_cell_12 : rf_Fb rf_m_R_cell 12 13 (.iload_n 1) 0 0 0 0 [] [] = true := by decide +kernel
theorem rf_f_R_cell_13 : rf_Fb rf_m_R_cell 13 14 (.aload_n 0) 0 0 0 0 [] [] = true := by decide +kernel
theorem rf_f_R_cell_14 : rf_Fb rf_m_R_cell 14 17 (.getfield 19) 2 0 2 0 [] [] = true := by decide +kernel
theorem rf_f_R_cell_17 : rf_Fb rf_m_R_cell 17 18 (.arraylength) 0 0 0 0 [] [] = true := by decide +kernel
theorem rf_f_R_cell_18 : rf_Fb rf_m_R_cell 18 21 (.if_icmp .ge 12) 30 0 0 0 [] [] = true := by decide +kernel
theorem rf_f_R_cell_21 : rf_Fb rf_m_R_cell 21 22 (.aload_n 0) 0 0 0 0 [] [] = true := by decide +kernel
theorem rf_f_R_cell_22 : rf_Fb rf_m_R_cell 22 25 (.getfield 19) 2 0 2 0 [] [] = true := by decide +kernel
theorem rf_f_R_cell_25 : rf_Fb rf_m_R_cell 25 26 (.iload_n 1) 0 0 0 0 [] [] = true := by decide +kernel
theorem rf_f_R_cell_26 : rf_Fb rf_m_R_cell 26 27 (.iaload) 0 0 0 0 [] [] = true := by decide +kernel
theorem rf_f_R_cell_27 : rf_Fb rf_m_R_cell 27 30 (.goto 4) 31 0 0 0 [] [] = true := by decide +kernel
theorem rf_f_R_cell_30 : rf_Fb rf_m_R_cell 30 31 (.iconst 0) 0 0 0 0 [] [] = true := by decide +kernel
theorem rf_f_R_cell_31 : rf_Fb rf_m_R_cell 31 32 (.ireturn) 0 0 0 0 [] [] = true := by decide +kernel
set_option maxRecDepth 20000 in
set_option maxHeartbeats 2000000 in
theorem rf_e_R_cell (d : Nat) (o : Nat) (a1 : Int) (h : rf_H) : rf_call (d + 1) 4 [.inr (.inr (some o)), .inl a1] h = (if a1 < 0 then some (some (.inl 0), h) else ((rf_gI h 2 o 1).bind fun x1 => (if a1 < x1 then ((rf_gR h 2 o 0).bind fun x2 => (rf_nn x2 fun k3 => ((rf_aL h k3).bind fun x4 => (if a1 < x4 then ((rf_gR h 2 o 0).bind fun x5 => (rf_nn x5 fun k6 => ((rf_aI h k6 a1).bind fun x7 => some (some (.inl x7), h)))) else some (some (.inl 0), h))))) else some (some (.inl 0), h)))) := by
  show rf_den (rf_call d) (rf_mt 4) _ = _
  rw [rf_u_R_cell]
  exact ((rf_s_iload_n rf_f_R_cell_0 rfl (rf_m0 _) (rf_s_if_lt rf_f_R_cell_1 rfl (rf_m0 _) (rf_m0 _) (rf_s_iconst rf_f_R_cell_30 (rf_m0 _) (rf_s_iret rf_f_R_cell_31)) (rf_s_iload_n rf_f_R_cell_4 rfl (rf_m0 _) (rf_s_aload_n rf_f_R_cell_5 rfl (rf_m0 _) (rf_s_getIS rf_f_R_cell_6 (rf_m0 _) fun x1 => (rf_s_icmp_ge rf_f_R_cell_9 rfl (rf_m0 _) (rf_m0 _) (rf_s_iconst rf_f_R_cell_30 (rf_m0 _) (rf_s_iret rf_f_R_cell_31)) (rf_s_iload_n rf_f_R_cell_12 rfl (rf_m0 _) (rf_s_aload_n rf_f_R_cell_13 rfl (rf_m0 _) (rf_s_getAS rf_f_R_cell_14 (rf_m0 _) fun x2 => (rf_s_alenR rf_f_R_cell_17 (rf_m0 _) fun k3 x4 => (rf_s_icmp_ge rf_f_R_cell_18 rfl (rf_m0 _) (rf_m0 _) (rf_s_iconst rf_f_R_cell_30 (rf_m0 _) (rf_s_iret rf_f_R_cell_31)) (rf_s_aload_n rf_f_R_cell_21 rfl (rf_m0 _) (rf_s_getAS rf_f_R_cell_22 (rf_m0 _) fun x5 => (rf_s_iload_n rf_f_R_cell_25 rfl (rf_m0 _) (rf_s_ialdR rf_f_R_cell_26 (rf_m0 _) fun k6 x7 => (rf_s_goto rf_f_R_cell_27 rfl (rf_m0 _) (rf_s_iret rf_f_R_cell_31))))))))))))))))) : rf_den (rf_call d) rf_m_R_cell (0, [some (.inr (.inr (some o))), some (.inl a1)], [], h) = _)
theorem rf_u_R_isThere : rf_mt 5 = rf_m_R_isThere := rfl
theorem rf_f_R_isThere_0 : rf_Fb rf_m_R_isThere 0 1 (.aload_n 0) 0 0 0 0 [] [] = true := by decide +kernel
theorem rf_f_R_isThere_1 : rf_Fb rf_m_R_isThere 1 4 (.getfield 9) 2 1 0 0 [] [] = true := by decide +kernel
theorem rf_f_R_isThere_4 : rf_Fb rf_m_R_isThere 4 7 (.ifCond .lt 7) 11 0 0 0 [] [] = true := by decide +kernel
theorem rf_f_R_isThere_7 : rf_Fb rf_m_R_isThere 7 8 (.iconst 1) 0 0 0 0 [] [] = true := by decide +kernel
theorem rf_f_R_isThere_8 : rf_Fb rf_m_R_isThere 8 11 (.goto 4) 12 0 0 0 [] [] = true := by decide +kernel
theorem rf_f_R_isThere_11 : rf_Fb rf_m_R_isThere 11 12 (.iconst 0) 0 0 0 0 [] [] = true := by decide +kernel
theorem rf_f_R_isThere_12 : rf_Fb rf_m_R_isThere 12 13 (.ireturn) 0 0 1 0 [] [] = true := by decide +kernel
set_option maxRecDepth 20000 in
set_option maxHeartbeats 2000000 in
theorem rf_e_R_isThere (d : Nat) (o : Nat) (h : rf_H) : rf_call (d + 1) 5 [.inr (.inr (some o))] h = ((rf_gI h 2 o 1).bind fun x1 => (if x1 < 0 then some (some (.inl 0), h) else some (some (.inl 1), h))) := by
  show rf_den (rf_call d) (rf_mt 5) _ = _
  rw [rf_u_R_isThere]
  exact ((rf_s_aload_n rf_f_R_isThere_0 rfl (rf_m0 _) (rf_s_getIS rf_f_R_isThere_1 (rf_m0 _) fun x1 => (rf_s_if_lt rf_f_R_isThere_4 rfl (rf_m0 _) (rf_m0 _) (rf_s_iconst rf_f_R_isThere_11 (rf_m0 _) (rf_s_zretK rf_f_R_isThere_12 (by decide))) (rf_s_iconst rf_f_R_isThere_7 (rf_m0 _) (rf_s_goto rf_f_R_isThere_8 rfl (rf_m0 _) (rf_s_zretK rf_f_R_isThere_12 (by decide))))))) : rf_den (rf_call d) rf_m_R_isThere (0, [some (.inr (.inr (some o)))], [], h) = _)
theorem rf_u_R_goMissing : rf_mt 6 = rf_m_R_goMissing := rfl
theorem rf_f_R_goMissing_0 : rf_Fb rf_m_R_goMissing 0 1 (.aload_n 0) 0 0 0 0 [] [] = true := by decide +kernel
theorem rf_f_R_goMissing_1 : rf_Fb rf_m_R_goMissing 1 2 (.iconst (-1)) 0 0 0 0 [] [] = true := by decide +kernel
theorem rf_f_R_goMissing_2 : rf_Fb rf_m_R_goMissing 2 5 (.putfield 9) 2 1 0 0 [] [] = true := by decide +kernel
theorem rf_f_R_goMissing_5 : rf_Fb rf_m_R_goMissing 5 6 (.return_) 0 0 0 0 [] [] = true := by decide +kernel
set_option maxRecDepth 20000 in
set_option maxHeartbeats 2000000 in
theorem rf_e_R_goMissing (d : Nat) (o : Nat) (h : rf_H) : rf_call (d + 1) 6 [.inr (.inr (some o))] h = ((rf_pI h 2 o 1 (-1)).bind fun h1 => some (none, h1)) := by
  show rf_den (rf_call d) (rf_mt 6) _ = _
  rw [rf_u_R_goMissing]
  exact ((rf_s_aload_n rf_f_R_goMissing_0 rfl (rf_m0 _) (rf_s_iconst rf_f_R_goMissing_1 (rf_m0 _) (rf_s_putIS rf_f_R_goMissing_2 (rf_m0 _) fun h1 => (rf_s_vret rf_f_R_goMissing_5)))) : rf_den (rf_call d) rf_m_R_goMissing (0, [some (.inr (.inr (some o)))], [], h) = _)
theorem rf_u_R_takes : rf_mt 7 = rf_m_R_takes := rfl
theorem rf_f_R_takes_0 : rf_Fb rf_m_R_takes 0 1 (.aload_n 1) 0 0 0 0 [] [] = true := by decide +kernel
theorem rf_f_R_takes_1 : rf_Fb rf_m_R_takes 1 2 (.iload_n 2) 0 0 0 0 [] [] = true := by decide +kernel
theorem rf_f_R_takes_2 : rf_Fb rf_m_R_takes 2 4 (.iload 4) 0 0 0 0 [] [] = true := by decide +kernel
theorem rf_f_R_takes_4 : rf_Fb rf_m_R_takes 4 7 (.invokevirtual 42) 8 2 0 2 [] [] = true := by decide +kernel
theorem rf_f_R_takes_7 : rf_Fb rf_m_R_takes 7 10 (.ifCond .eq 13) 20 0 0 0 [] [] = true := by decide +kernel
theorem rf_f_R_takes_10 : rf_Fb rf_m_R_takes 10 11 (.aload_n 0) 0 0 0 0 [] [] = true := by decide +kernel
theorem rf_f_R_takes_11 : rf_Fb rf_m_R_takes 11 12 (.iload_n 3) 0 0 0 0 [] [] = true := by decide +kernel
theorem rf_f_R_takes_12 : rf_Fb rf_m_R_takes 12 14 (.iload 4) 0 0 0 0 [] [] = true := by decide +kernel
theorem rf_f_R_takes_14 : rf_Fb rf_m_R_takes 14 17 (.invokevirtual 42) 8 2 0 2 [] [] = true := by decide +kernel
theorem rf_f_R_takes_17 : rf_Fb rf_m_R_takes 17 20 (.ifCond .ne 5) 22 0 0 0 [] [] = true := by decide +kernel
theorem rf_f_R_takes_20 : rf_Fb rf_m_R_takes 20 21 (.iconst 0) 0 0 0 0 [] [] = true := by decide +kernel
theorem rf_f_R_takes_21 : rf_Fb rf_m_R_takes 21 22 (.ireturn) 0 0 1 0 [] [] = true := by decide +kernel
theorem rf_f_R_takes_22 : rf_Fb rf_m_R_takes 22 23 (.aload_n 1) 0 0 0 0 [] [] = true := by decide +kernel
theorem rf_f_R_takes_23 : rf_Fb rf_m_R_takes 23 26 (.getfield 19) 2 0 2 0 [] [] = true := by decide +kernel
theorem rf_f_R_takes_26 : rf_Fb rf_m_R_takes 26 27 (.iload_n 2) 0 0 0 0 [] [] = true := by decide +kernel
theorem rf_f_R_takes_27 : rf_Fb rf_m_R_takes 27 28 (.aload_n 0) 0 0 0 0 [] [] = true := by decide +kernel
theorem rf_f_R_takes_28 : rf_Fb rf_m_R_takes 28 31 (.getfield 19) 2 0 2 0 [] [] = true := by decide +kernel
theorem rf_f_R_takes_31 : rf_Fb rf_m_R_takes 31 32 (.iload_n 3) 0 0 0 0 [] [] = true := by decide +kernel
theorem rf_f_R_takes_32 : rf_Fb rf_m_R_takes 32 34 (.iload 4) 0 0 0 0 [] [] = true := by decide +kernel
theorem rf_f_R_takes_34 : rf_Fb rf_m_R_takes 34 37 (.invokestatic 46) 0 0 9 0 [] [] = true := by decide +kernel
theorem rf_f_R_takes_37 : rf_Fb rf_m_R_takes 37 38 (.iconst 1) 0 0 0 0 [] [] = true := by decide +kernel
theorem rf_f_R_takes_38 : rf_Fb rf_m_R_takes 38 39 (.ireturn) 0 0 1 0 [] [] = true := by decide +kernel
set_option maxRecDepth 20000 in
set_option maxHeartbeats 2000000 in
theorem rf_e_R_takes (d : Nat) (o : Nat) (a1 : Option Nat) (a2 : Int) (a3 : Int) (a4 : Int) (h : rf_H) : rf_call (d + 1) 7 [.inr (.inr (some o)), .inr (.inr a1), .inl a2, .inl a3, .inl a4] h = (rf_nn a1 fun k1 => (bif rf_isO h.1 k1 2 then ((rf_call d 8 [.inr (.inr (some k1)), .inl a2, .inl a4] h).bind fun q3 => rf_kI q3 fun x4 h2 => (if x4 = 0 then some (some (.inl 0), h2) else (bif rf_isO h2.1 o 2 then ((rf_call d 8 [.inr (.inr (some o)), .inl a3, .inl a4] h2).bind fun q6 => rf_kI q6 fun x7 h5 => (if x7 = 0 then some (some (.inl 0), h5) else (rf_nn a1 fun k8 => ((rf_gR h5 2 k8 0).bind fun x9 => ((rf_gR h5 2 o 0).bind fun x10 => (rf_nn x9 fun k11 => rf_nn x10 fun k12 => ((rf_cp h5 k11 a2 k12 a3 a4).bind fun h13 => some (some (.inl 1), h13)))))))) else none))) else none)) := by
  show rf_den (rf_call d) (rf_mt 7) _ = _
  rw [rf_u_R_takes]
  exact ((rf_s_aload_n rf_f_R_takes_0 rfl (rf_m0 _) (rf_s_iload_n rf_f_R_takes_1 rfl (rf_m0 _) (rf_s_iload rf_f_R_takes_2 rfl (rf_m0 _) (rf_s_invV0R rf_f_R_takes_4 rfl rfl (rf_m0 _) fun k1 q3 x4 h2 => (rf_s_if_eq rf_f_R_takes_7 rfl (rf_m0 _) (rf_m0 _) (rf_s_iconst rf_f_R_takes_20 (rf_m0 _) (rf_s_zretK rf_f_R_takes_21 (by decide))) (rf_s_aload_n rf_f_R_takes_10 rfl (rf_m0 _) (rf_s_iload_n rf_f_R_takes_11 rfl (rf_m0 _) (rf_s_iload rf_f_R_takes_12 rfl (rf_m0 _) (rf_s_invV0S rf_f_R_takes_14 rfl rfl (rf_m0 _) fun q6 x7 h5 => (rf_s_if_ne rf_f_R_takes_17 rfl (rf_m0 _) (rf_m0 _) (rf_s_aload_n rf_f_R_takes_22 rfl (rf_m0 _) (rf_s_getAR rf_f_R_takes_23 (rf_m0 _) fun k8 x9 => (rf_s_iload_n rf_f_R_takes_26 rfl (rf_m0 _) (rf_s_aload_n rf_f_R_takes_27 rfl (rf_m0 _) (rf_s_getAS rf_f_R_takes_28 (rf_m0 _) fun x10 => (rf_s_iload_n rf_f_R_takes_31 rfl (rf_m0 _) (rf_s_iload rf_f_R_takes_32 rfl (rf_m0 _) (rf_s_cp rf_f_R_takes_34 rfl (rf_m0 _) fun k11 k12 h13 => (rf_s_iconst rf_f_R_takes_37 (rf_m0 _) (rf_s_zretK rf_f_R_takes_38 (by decide))))))))))) (rf_s_iconst rf_f_R_takes_20 (rf_m0 _) (rf_s_zretK rf_f_R_takes_21 (by decide))))))))))))) : rf_den (rf_call d) rf_m_R_takes (0, [some (.inr (.inr (some o))), some (.inr (.inr a1)), some (.inl a2), some (.inl a3), some (.inl a4)], [], h) = _)
theorem rf_u_R_spans : rf_mt 8 = rf_m_R_spans := rfl
theorem rf_f_R_spans_0 : rf_Fb rf_m_R_spans 0 1 (.iload_n 1) 0 0 0 0 [] [] = true := by decide +kernel
theorem rf_f_R_spans_1 : rf_Fb rf_m_R_spans 1 4 (.ifCond .lt 29) 30 0 0 0 [] [] = true := by decide +kernel
theorem rf_f_R_spans_4 : rf_Fb rf_m_R_spans 4 5 (.iload_n 2) 0 0 0 0 [] [] = true := by decide +kernel
theorem rf_f_R_spans_5 : rf_Fb rf_m_R_spans 5 8 (.ifCond .lt 25) 30 0 0 0 [] [] = true := by decide +kernel
theorem rf_f_R_spans_8 : rf_Fb rf_m_R_spans 8 9 (.iload_n 1) 0 0 0 0 [] [] = true := by decide +kernel
theorem rf_f_R_spans_9 : rf_Fb rf_m_R_spans 9 10 (.aload_n 0) 0 0 0 0 [] [] = true := by decide +kernel
theorem rf_f_R_spans_10 : rf_Fb rf_m_R_spans 10 13 (.getfield 9) 2 1 0 0 [] [] = true := by decide +kernel
theorem rf_f_R_spans_13 : rf_Fb rf_m_R_spans 13 16 (.if_icmp .gt 17) 30 0 0 0 [] [] = true := by decide +kernel
theorem rf_f_R_spans_16 : rf_Fb rf_m_R_spans 16 17 (.iload_n 2) 0 0 0 0 [] [] = true := by decide +kernel
theorem rf_f_R_spans_17 : rf_Fb rf_m_R_spans 17 18 (.aload_n 0) 0 0 0 0 [] [] = true := by decide +kernel
theorem rf_f_R_spans_18 : rf_Fb rf_m_R_spans 18 21 (.getfield 9) 2 1 0 0 [] [] = true := by decide +kernel
theorem rf_f_R_spans_21 : rf_Fb rf_m_R_spans 21 22 (.iload_n 1) 0 0 0 0 [] [] = true := by decide +kernel
theorem rf_f_R_spans_22 : rf_Fb rf_m_R_spans 22 23 (.isub) 0 0 0 0 [] [] = true := by decide +kernel
theorem rf_f_R_spans_23 : rf_Fb rf_m_R_spans 23 26 (.if_icmp .gt 7) 30 0 0 0 [] [] = true := by decide +kernel
theorem rf_f_R_spans_26 : rf_Fb rf_m_R_spans 26 27 (.iconst 1) 0 0 0 0 [] [] = true := by decide +kernel
theorem rf_f_R_spans_27 : rf_Fb rf_m_R_spans 27 30 (.goto 4) 31 0 0 0 [] [] = true := by decide +kernel
theorem rf_f_R_spans_30 : rf_Fb rf_m_R_spans 30 31 (.iconst 0) 0 0 0 0 [] [] = true := by decide +kernel
theorem rf_f_R_spans_31 : rf_Fb rf_m_R_spans 31 32 (.ireturn) 0 0 1 0 [] [] = true := by decide +kernel
set_option maxRecDepth 20000 in
set_option maxHeartbeats 2000000 in
theorem rf_e_R_spans (d : Nat) (o : Nat) (a1 : Int) (a2 : Int) (h : rf_H) : rf_call (d + 1) 8 [.inr (.inr (some o)), .inl a1, .inl a2] h = (if a1 < 0 then some (some (.inl 0), h) else (if a2 < 0 then some (some (.inl 0), h) else ((rf_gI h 2 o 1).bind fun x1 => (if x1 < a1 then some (some (.inl 0), h) else ((rf_gI h 2 o 1).bind fun x2 => (if (rf_w (x2 - a1)) < a2 then some (some (.inl 0), h) else some (some (.inl 1), h))))))) := by
  show rf_den (rf_call d) (rf_mt 8) _ = _
  rw [rf_u_R_spans]
  exact ((rf_s_iload_n rf_f_R_spans_0 rfl (rf_m0 _) (rf_s_if_lt rf_f_R_spans_1 rfl (rf_m0 _) (rf_m0 _) (rf_s_iconst rf_f_R_spans_30 (rf_m0 _) (rf_s_zretK rf_f_R_spans_31 (by decide))) (rf_s_iload_n rf_f_R_spans_4 rfl (rf_m0 _) (rf_s_if_lt rf_f_R_spans_5 rfl (rf_m0 _) (rf_m0 _) (rf_s_iconst rf_f_R_spans_30 (rf_m0 _) (rf_s_zretK rf_f_R_spans_31 (by decide))) (rf_s_iload_n rf_f_R_spans_8 rfl (rf_m0 _) (rf_s_aload_n rf_f_R_spans_9 rfl (rf_m0 _) (rf_s_getIS rf_f_R_spans_10 (rf_m0 _) fun x1 => (rf_s_icmp_gt rf_f_R_spans_13 rfl (rf_m0 _) (rf_m0 _) (rf_s_iconst rf_f_R_spans_30 (rf_m0 _) (rf_s_zretK rf_f_R_spans_31 (by decide))) (rf_s_iload_n rf_f_R_spans_16 rfl (rf_m0 _) (rf_s_aload_n rf_f_R_spans_17 rfl (rf_m0 _) (rf_s_getIS rf_f_R_spans_18 (rf_m0 _) fun x2 => (rf_s_iload_n rf_f_R_spans_21 rfl (rf_m0 _) (rf_s_isub rf_f_R_spans_22 (rf_m0 _) (rf_s_icmp_gt rf_f_R_spans_23 rfl (rf_m0 _) (rf_m0 _) (rf_s_iconst rf_f_R_spans_30 (rf_m0 _) (rf_s_zretK rf_f_R_spans_31 (by decide))) (rf_s_iconst rf_f_R_spans_26 (rf_m0 _) (rf_s_goto rf_f_R_spans_27 rfl (rf_m0 _) (rf_s_zretK rf_f_R_spans_31 (by decide)))))))))))))))))) : rf_den (rf_call d) rf_m_R_spans (0, [some (.inr (.inr (some o))), some (.inl a1), some (.inl a2)], [], h) = _)
noncomputable def rf_j_R_sum_4 (d : Nat) (o : Nat) (l1 : Int) (l3 : Int) (h : rf_H) : Option rf_R := rf_den (rf_call d) rf_m_R_sum (4, [some (.inr (.inr (some o))), some (.inr (.inl l1)), none, some (.inl l3)], [], h)
theorem rf_u_R_sum : rf_mt 9 = rf_m_R_sum := rfl
theorem rf_f_R_sum_0 : rf_Fb rf_m_R_sum 0 1 (.lconst 0) 0 0 0 0 [] [] = true := by decide +kernel
theorem rf_f_R_sum_1 : rf_Fb rf_m_R_sum 1 2 (.lstore_n 1) 0 0 0 0 [] [] = true := by decide +kernel
theorem rf_f_R_sum_2 : rf_Fb rf_m_R_sum 2 3 (.iconst 0) 0 0 0 0 [] [] = true := by decide +kernel
theorem rf_f_R_sum_3 : rf_Fb rf_m_R_sum 3 4 (.istore_n 3) 0 0 0 0 [] [true, true, false, true] = true := by decide +kernel
theorem rf_f_R_sum_4 : rf_Fb rf_m_R_sum 4 5 (.iload_n 3) 0 0 0 0 [] [] = true := by decide +kernel
theorem rf_f_R_sum_5 : rf_Fb rf_m_R_sum 5 6 (.aload_n 0) 0 0 0 0 [] [] = true := by decide +kernel
theorem rf_f_R_sum_6 : rf_Fb rf_m_R_sum 6 9 (.getfield 9) 2 1 0 0 [] [] = true := by decide +kernel
theorem rf_f_R_sum_9 : rf_Fb rf_m_R_sum 9 12 (.if_icmp .ge 18) 27 0 0 0 [] [] = true := by decide +kernel
theorem rf_f_R_sum_12 : rf_Fb rf_m_R_sum 12 13 (.lload_n 1) 0 0 0 0 [] [] = true := by decide +kernel
theorem rf_f_R_sum_13 : rf_Fb rf_m_R_sum 13 14 (.aload_n 0) 0 0 0 0 [] [] = true := by decide +kernel
theorem rf_f_R_sum_14 : rf_Fb rf_m_R_sum 14 15 (.iload_n 3) 0 0 0 0 [] [] = true := by decide +kernel
theorem rf_f_R_sum_15 : rf_Fb rf_m_R_sum 15 18 (.invokevirtual 38) 4 1 0 2 [] [] = true := by decide +kernel
theorem rf_f_R_sum_18 : rf_Fb rf_m_R_sum 18 19 (.i2l) 0 0 0 0 [] [] = true := by decide +kernel
theorem rf_f_R_sum_19 : rf_Fb rf_m_R_sum 19 20 (.ladd) 0 0 0 0 [] [] = true := by decide +kernel
theorem rf_f_R_sum_20 : rf_Fb rf_m_R_sum 20 21 (.lstore_n 1) 0 0 0 0 [] [] = true := by decide +kernel
theorem rf_f_R_sum_21 : rf_Fb rf_m_R_sum 21 24 (.iinc 3 1) 0 0 0 0 [] [] = true := by decide +kernel
theorem rf_f_R_sum_24 : rf_Fb rf_m_R_sum 24 27 (.goto (-20)) 4 0 0 0 [] [] = true := by decide +kernel
theorem rf_f_R_sum_27 : rf_Fb rf_m_R_sum 27 28 (.lload_n 1) 0 0 0 0 [] [] = true := by decide +kernel
theorem rf_f_R_sum_28 : rf_Fb rf_m_R_sum 28 29 (.lreturn) 0 0 0 0 [] [] = true := by decide +kernel
set_option maxRecDepth 20000 in
set_option maxHeartbeats 2000000 in
theorem rf_e_R_sum (d : Nat) (o : Nat) (h : rf_H) : rf_call (d + 1) 9 [.inr (.inr (some o))] h = rf_j_R_sum_4 d o 0 0 h := by
  show rf_den (rf_call d) (rf_mt 9) _ = _
  rw [rf_u_R_sum]
  exact ((rf_s_lconst rf_f_R_sum_0 (rf_m0 _) (rf_s_lstore_n (L' := [some (.inr (.inr (some o))), some (.inr (.inl 0)), none, none]) rf_f_R_sum_1 rfl (rf_s_iconst rf_f_R_sum_2 (rf_m0 _) (rf_s_istore_n rf_f_R_sum_3 rfl rfl)))) : rf_den (rf_call d) rf_m_R_sum (0, [some (.inr (.inr (some o))), none, none, none], [], h) = _)
set_option maxRecDepth 20000 in
set_option maxHeartbeats 2000000 in
theorem rf_e_R_sum_4 (d : Nat) (o : Nat) (l1 : Int) (l3 : Int) (h : rf_H) : rf_j_R_sum_4 d o l1 l3 h = ((rf_gI h 2 o 1).bind fun x1 => (if l3 < x1 then (bif rf_isO h.1 o 2 then ((rf_call d 4 [.inr (.inr (some o)), .inl l3] h).bind fun q3 => rf_kI q3 fun x4 h2 => rf_j_R_sum_4 d o (rf_wl (l1 + x4)) (rf_w (l3 + 1)) h2) else none) else some (some (.inr (.inl l1)), h))) :=
  ((rf_s_iload_n rf_f_R_sum_4 rfl (rf_m0 _) (rf_s_aload_n rf_f_R_sum_5 rfl (rf_m0 _) (rf_s_getIS rf_f_R_sum_6 (rf_m0 _) fun x1 => (rf_s_icmp_ge rf_f_R_sum_9 rfl (rf_m0 _) (rf_m0 _) (rf_s_lload_n rf_f_R_sum_27 rfl (rf_m0 _) (rf_s_lret rf_f_R_sum_28)) (rf_s_lload_n rf_f_R_sum_12 rfl (rf_m0 _) (rf_s_aload_n rf_f_R_sum_13 rfl (rf_m0 _) (rf_s_iload_n rf_f_R_sum_14 rfl (rf_m0 _) (rf_s_invV0S rf_f_R_sum_15 rfl rfl (rf_m0 _) fun q3 x4 h2 => (rf_s_i2l rf_f_R_sum_18 (rf_m0 _) (rf_s_ladd rf_f_R_sum_19 (rf_m0 _) (rf_s_lstore_n (L' := [some (.inr (.inr (some o))), some (.inr (.inl (rf_wl (l1 + x4)))), none, some (.inl l3)]) rf_f_R_sum_20 rfl (rf_s_iinc (L' := [some (.inr (.inr (some o))), some (.inr (.inl (rf_wl (l1 + x4)))), none, some (.inl (rf_w (l3 + 1)))]) rf_f_R_sum_21 rfl rfl (rf_s_goto rf_f_R_sum_24 rfl rfl rfl))))))))))))) : rf_den (rf_call d) rf_m_R_sum (4, [some (.inr (.inr (some o))), some (.inr (.inl l1)), none, some (.inl l3)], [], h) = _)
theorem rf_u_R_add : rf_mt 10 = rf_m_R_add := rfl
theorem rf_f_R_add_0 : rf_Fb rf_m_R_add 0 1 (.aload_n 0) 0 0 0 0 [] [] = true := by decide +kernel
theorem rf_f_R_add_1 : rf_Fb rf_m_R_add 1 4 (.invokevirtual 27) 5 0 0 2 [] [] = true := by decide +kernel
theorem rf_f_R_add_4 : rf_Fb rf_m_R_add 4 7 (.ifCond .eq 36) 40 0 0 0 [] [] = true := by decide +kernel
theorem rf_f_R_add_7 : rf_Fb rf_m_R_add 7 8 (.aload_n 0) 0 0 0 0 [] [] = true := by decide +kernel
theorem rf_f_R_add_8 : rf_Fb rf_m_R_add 8 11 (.getfield 9) 2 1 0 0 [] [] = true := by decide +kernel
theorem rf_f_R_add_11 : rf_Fb rf_m_R_add 11 12 (.aload_n 0) 0 0 0 0 [] [] = true := by decide +kernel
theorem rf_f_R_add_12 : rf_Fb rf_m_R_add 12 15 (.getfield 19) 2 0 2 0 [] [] = true := by decide +kernel
theorem rf_f_R_add_15 : rf_Fb rf_m_R_add 15 16 (.arraylength) 0 0 0 0 [] [] = true := by decide +kernel
theorem rf_f_R_add_16 : rf_Fb rf_m_R_add 16 19 (.if_icmp .ge 24) 40 0 0 0 [] [] = true := by decide +kernel
theorem rf_f_R_add_19 : rf_Fb rf_m_R_add 19 20 (.aload_n 0) 0 0 0 0 [] [] = true := by decide +kernel
theorem rf_f_R_add_20 : rf_Fb rf_m_R_add 20 21 (.dup) 0 0 0 0 [] [] = true := by decide +kernel
theorem rf_f_R_add_21 : rf_Fb rf_m_R_add 21 24 (.getfield 9) 2 1 0 0 [] [] = true := by decide +kernel
theorem rf_f_R_add_24 : rf_Fb rf_m_R_add 24 25 (.iconst 1) 0 0 0 0 [] [] = true := by decide +kernel
theorem rf_f_R_add_25 : rf_Fb rf_m_R_add 25 26 (.iadd) 0 0 0 0 [] [] = true := by decide +kernel
theorem rf_f_R_add_26 : rf_Fb rf_m_R_add 26 29 (.putfield 9) 2 1 0 0 [] [] = true := by decide +kernel
theorem rf_f_R_add_29 : rf_Fb rf_m_R_add 29 30 (.aload_n 0) 0 0 0 0 [] [] = true := by decide +kernel
theorem rf_f_R_add_30 : rf_Fb rf_m_R_add 30 31 (.aload_n 0) 0 0 0 0 [] [] = true := by decide +kernel
theorem rf_f_R_add_31 : rf_Fb rf_m_R_add 31 34 (.getfield 9) 2 1 0 0 [] [] = true := by decide +kernel
theorem rf_f_R_add_34 : rf_Fb rf_m_R_add 34 35 (.iconst 1) 0 0 0 0 [] [] = true := by decide +kernel
theorem rf_f_R_add_35 : rf_Fb rf_m_R_add 35 36 (.isub) 0 0 0 0 [] [] = true := by decide +kernel
theorem rf_f_R_add_36 : rf_Fb rf_m_R_add 36 37 (.iload_n 1) 0 0 0 0 [] [] = true := by decide +kernel
theorem rf_f_R_add_37 : rf_Fb rf_m_R_add 37 40 (.invokevirtual 31) 2 2 3 2 [] [] = true := by decide +kernel
theorem rf_f_R_add_40 : rf_Fb rf_m_R_add 40 41 (.return_) 0 0 0 0 [] [] = true := by decide +kernel
set_option maxRecDepth 20000 in
set_option maxHeartbeats 2000000 in
theorem rf_e_R_add (d : Nat) (o : Nat) (a1 : Int) (h : rf_H) : rf_call (d + 1) 10 [.inr (.inr (some o)), .inl a1] h = (bif rf_isO h.1 o 2 then ((rf_call d 5 [.inr (.inr (some o))] h).bind fun q2 => rf_kI q2 fun x3 h1 => (if x3 = 0 then some (none, h1) else ((rf_gI h1 2 o 1).bind fun x4 => ((rf_gR h1 2 o 0).bind fun x5 => (rf_nn x5 fun k6 => ((rf_aL h1 k6).bind fun x7 => (if x4 < x7 then ((rf_gI h1 2 o 1).bind fun x8 => ((rf_pI h1 2 o 1 (rf_w (x8 + 1))).bind fun h9 => ((rf_gI h9 2 o 1).bind fun x10 => (bif rf_isO h9.1 o 2 then ((rf_call d 2 [.inr (.inr (some o)), .inl (rf_w (x10 - 1)), .inl a1] h9).bind fun q12 => rf_kV q12 fun h11 => some (none, h11)) else none)))) else some (none, h1)))))))) else none) := by
  show rf_den (rf_call d) (rf_mt 10) _ = _
  rw [rf_u_R_add]
  exact ((rf_s_aload_n rf_f_R_add_0 rfl (rf_m0 _) (rf_s_invV0S rf_f_R_add_1 rfl rfl (rf_m0 _) fun q2 x3 h1 => (rf_s_if_eq rf_f_R_add_4 rfl (rf_m0 _) (rf_m0 _) (rf_s_vret rf_f_R_add_40) (rf_s_aload_n rf_f_R_add_7 rfl (rf_m0 _) (rf_s_getIS rf_f_R_add_8 (rf_m0 _) fun x4 => (rf_s_aload_n rf_f_R_add_11 rfl (rf_m0 _) (rf_s_getAS rf_f_R_add_12 (rf_m0 _) fun x5 => (rf_s_alenR rf_f_R_add_15 (rf_m0 _) fun k6 x7 => (rf_s_icmp_ge rf_f_R_add_16 rfl (rf_m0 _) (rf_m0 _) (rf_s_vret rf_f_R_add_40) (rf_s_aload_n rf_f_R_add_19 rfl (rf_m0 _) (rf_s_dupA rf_f_R_add_20 (rf_m0 _) (rf_s_getIS rf_f_R_add_21 (rf_m0 _) fun x8 => (rf_s_iconst rf_f_R_add_24 (rf_m0 _) (rf_s_iadd rf_f_R_add_25 (rf_m0 _) (rf_s_putIS rf_f_R_add_26 (rf_m0 _) fun h9 => (rf_s_aload_n rf_f_R_add_29 rfl (rf_m0 _) (rf_s_aload_n rf_f_R_add_30 rfl (rf_m0 _) (rf_s_getIS rf_f_R_add_31 (rf_m0 _) fun x10 => (rf_s_iconst rf_f_R_add_34 (rf_m0 _) (rf_s_isub rf_f_R_add_35 (rf_m0 _) (rf_s_iload_n rf_f_R_add_36 rfl (rf_m0 _) (rf_s_invV3S rf_f_R_add_37 rfl rfl (rf_m0 _) fun q12 h11 => (rf_s_vret rf_f_R_add_40))))))))))))))))))))))) : rf_den (rf_call d) rf_m_R_add (0, [some (.inr (.inr (some o))), some (.inl a1)], [], h) = _)
theorem rf_u_R_shorten : rf_mt 11 = rf_m_R_shorten := rfl
theorem rf_f_R_shorten_0 : rf_Fb rf_m_R_shorten 0 1 (.aload_n 0) 0 0 0 0 [] [] = true := by decide +kernel
theorem rf_f_R_shorten_1 : rf_Fb rf_m_R_shorten 1 2 (.aload_n 0) 0 0 0 0 [] [] = true := by decide +kernel
theorem rf_f_R_shorten_2 : rf_Fb rf_m_R_shorten 2 5 (.getfield 9) 2 1 0 0 [] [] = true := by decide +kernel
theorem rf_f_R_shorten_5 : rf_Fb rf_m_R_shorten 5 6 (.iload_n 1) 0 0 0 0 [] [] = true := by decide +kernel
theorem rf_f_R_shorten_6 : rf_Fb rf_m_R_shorten 6 9 (.invokestatic 35) 14 2 0 0 [] [] = true := by decide +kernel
theorem rf_f_R_shorten_9 : rf_Fb rf_m_R_shorten 9 12 (.putfield 9) 2 1 0 0 [] [] = true := by decide +kernel
theorem rf_f_R_shorten_12 : rf_Fb rf_m_R_shorten 12 13 (.return_) 0 0 0 0 [] [] = true := by decide +kernel
set_option maxRecDepth 20000 in
set_option maxHeartbeats 2000000 in
theorem rf_e_R_shorten (d : Nat) (o : Nat) (a1 : Int) (h : rf_H) : rf_call (d + 1) 11 [.inr (.inr (some o)), .inl a1] h = ((rf_gI h 2 o 1).bind fun x1 => ((rf_call d 14 [.inl x1, .inl a1] h).bind fun q3 => rf_kI q3 fun x4 h2 => ((rf_pI h2 2 o 1 x4).bind fun h5 => some (none, h5)))) := by
  show rf_den (rf_call d) (rf_mt 11) _ = _
  rw [rf_u_R_shorten]
  exact ((rf_s_aload_n rf_f_R_shorten_0 rfl (rf_m0 _) (rf_s_aload_n rf_f_R_shorten_1 rfl (rf_m0 _) (rf_s_getIS rf_f_R_shorten_2 (rf_m0 _) fun x1 => (rf_s_iload_n rf_f_R_shorten_5 rfl (rf_m0 _) (rf_s_invS0 rf_f_R_shorten_6 rfl rfl (rf_m0 _) fun q3 x4 h2 => (rf_s_putIS rf_f_R_shorten_9 (rf_m0 _) fun h5 => (rf_s_vret rf_f_R_shorten_12))))))) : rf_den (rf_call d) rf_m_R_shorten (0, [some (.inr (.inr (some o))), some (.inl a1)], [], h) = _)
noncomputable def rf_j_R_becomes_18 (d : Nat) (o : Nat) (l1 : Option Nat) (l2 : Int) (h : rf_H) : Option rf_R := rf_den (rf_call d) rf_m_R_becomes (18, [some (.inr (.inr (some o))), some (.inr (.inr l1)), some (.inl l2)], [], h)
theorem rf_u_R_becomes : rf_mt 12 = rf_m_R_becomes := rfl
theorem rf_f_R_becomes_0 : rf_Fb rf_m_R_becomes 0 1 (.aload_n 0) 0 0 0 0 [] [] = true := by decide +kernel
theorem rf_f_R_becomes_1 : rf_Fb rf_m_R_becomes 1 2 (.aload_n 1) 0 0 0 0 [] [] = true := by decide +kernel
theorem rf_f_R_becomes_2 : rf_Fb rf_m_R_becomes 2 5 (.getfield 9) 2 1 0 0 [] [] = true := by decide +kernel
theorem rf_f_R_becomes_5 : rf_Fb rf_m_R_becomes 5 6 (.aload_n 0) 0 0 0 0 [] [] = true := by decide +kernel
theorem rf_f_R_becomes_6 : rf_Fb rf_m_R_becomes 6 9 (.getfield 19) 2 0 2 0 [] [] = true := by decide +kernel
theorem rf_f_R_becomes_9 : rf_Fb rf_m_R_becomes 9 10 (.arraylength) 0 0 0 0 [] [] = true := by decide +kernel
theorem rf_f_R_becomes_10 : rf_Fb rf_m_R_becomes 10 13 (.invokestatic 35) 14 2 0 0 [] [] = true := by decide +kernel
theorem rf_f_R_becomes_13 : rf_Fb rf_m_R_becomes 13 16 (.putfield 9) 2 1 0 0 [] [] = true := by decide +kernel
theorem rf_f_R_becomes_16 : rf_Fb rf_m_R_becomes 16 17 (.iconst 0) 0 0 0 0 [] [] = true := by decide +kernel
theorem rf_f_R_becomes_17 : rf_Fb rf_m_R_becomes 17 18 (.istore_n 2) 0 0 0 0 [] [true, true, true] = true := by decide +kernel
theorem rf_f_R_becomes_18 : rf_Fb rf_m_R_becomes 18 19 (.iload_n 2) 0 0 0 0 [] [] = true := by decide +kernel
theorem rf_f_R_becomes_19 : rf_Fb rf_m_R_becomes 19 20 (.aload_n 0) 0 0 0 0 [] [] = true := by decide +kernel
theorem rf_f_R_becomes_20 : rf_Fb rf_m_R_becomes 20 23 (.getfield 9) 2 1 0 0 [] [] = true := by decide +kernel
theorem rf_f_R_becomes_23 : rf_Fb rf_m_R_becomes 23 26 (.if_icmp .ge 19) 42 0 0 0 [] [] = true := by decide +kernel
theorem rf_f_R_becomes_26 : rf_Fb rf_m_R_becomes 26 27 (.aload_n 0) 0 0 0 0 [] [] = true := by decide +kernel
theorem rf_f_R_becomes_27 : rf_Fb rf_m_R_becomes 27 28 (.iload_n 2) 0 0 0 0 [] [] = true := by decide +kernel
theorem rf_f_R_becomes_28 : rf_Fb rf_m_R_becomes 28 29 (.aload_n 1) 0 0 0 0 [] [] = true := by decide +kernel
theorem rf_f_R_becomes_29 : rf_Fb rf_m_R_becomes 29 30 (.iload_n 2) 0 0 0 0 [] [] = true := by decide +kernel
theorem rf_f_R_becomes_30 : rf_Fb rf_m_R_becomes 30 33 (.invokevirtual 38) 4 1 0 2 [] [] = true := by decide +kernel
theorem rf_f_R_becomes_33 : rf_Fb rf_m_R_becomes 33 36 (.invokevirtual 31) 2 2 3 2 [] [] = true := by decide +kernel
theorem rf_f_R_becomes_36 : rf_Fb rf_m_R_becomes 36 39 (.iinc 2 1) 0 0 0 0 [] [] = true := by decide +kernel
theorem rf_f_R_becomes_39 : rf_Fb rf_m_R_becomes 39 42 (.goto (-21)) 18 0 0 0 [] [] = true := by decide +kernel
theorem rf_f_R_becomes_42 : rf_Fb rf_m_R_becomes 42 43 (.return_) 0 0 0 0 [] [] = true := by decide +kernel
set_option maxRecDepth 20000 in
set_option maxHeartbeats 2000000 in
theorem rf_e_R_becomes (d : Nat) (o : Nat) (a1 : Option Nat) (h : rf_H) : rf_call (d + 1) 12 [.inr (.inr (some o)), .inr (.inr a1)] h = (rf_nn a1 fun k1 => ((rf_gI h 2 k1 1).bind fun x2 => ((rf_gR h 2 o 0).bind fun x3 => (rf_nn x3 fun k4 => ((rf_aL h k4).bind fun x5 => ((rf_call d 14 [.inl x2, .inl x5] h).bind fun q7 => rf_kI q7 fun x8 h6 => ((rf_pI h6 2 o 1 x8).bind fun h9 => rf_j_R_becomes_18 d o a1 0 h9))))))) := by
  show rf_den (rf_call d) (rf_mt 12) _ = _
  rw [rf_u_R_becomes]
  exact ((rf_s_aload_n rf_f_R_becomes_0 rfl (rf_m0 _) (rf_s_aload_n rf_f_R_becomes_1 rfl (rf_m0 _) (rf_s_getIR rf_f_R_becomes_2 (rf_m0 _) fun k1 x2 => (rf_s_aload_n rf_f_R_becomes_5 rfl (rf_m0 _) (rf_s_getAS rf_f_R_becomes_6 (rf_m0 _) fun x3 => (rf_s_alenR rf_f_R_becomes_9 (rf_m0 _) fun k4 x5 => (rf_s_invS0 rf_f_R_becomes_10 rfl rfl (rf_m0 _) fun q7 x8 h6 => (rf_s_putIS rf_f_R_becomes_13 (rf_m0 _) fun h9 => (rf_s_iconst rf_f_R_becomes_16 (rf_m0 _) (rf_s_istore_n rf_f_R_becomes_17 rfl rfl)))))))))) : rf_den (rf_call d) rf_m_R_becomes (0, [some (.inr (.inr (some o))), some (.inr (.inr a1)), none], [], h) = _)
set_option maxRecDepth 20000 in
set_option maxHeartbeats 2000000 in
theorem rf_e_R_becomes_18 (d : Nat) (o : Nat) (l1 : Option Nat) (l2 : Int) (h : rf_H) : rf_j_R_becomes_18 d o l1 l2 h = ((rf_gI h 2 o 1).bind fun x1 => (if l2 < x1 then (rf_nn l1 fun k2 => (bif rf_isO h.1 k2 2 then ((rf_call d 4 [.inr (.inr (some k2)), .inl l2] h).bind fun q4 => rf_kI q4 fun x5 h3 => (bif rf_isO h3.1 o 2 then ((rf_call d 2 [.inr (.inr (some o)), .inl l2, .inl x5] h3).bind fun q7 => rf_kV q7 fun h6 => rf_j_R_becomes_18 d o l1 (rf_w (l2 + 1)) h6) else none)) else none)) else some (none, h))) :=
  ((rf_s_iload_n rf_f_R_becomes_18 rfl (rf_m0 _) (rf_s_aload_n rf_f_R_becomes_19 rfl (rf_m0 _) (rf_s_getIS rf_f_R_becomes_20 (rf_m0 _) fun x1 => (rf_s_icmp_ge rf_f_R_becomes_23 rfl (rf_m0 _) (rf_m0 _) (rf_s_vret rf_f_R_becomes_42) (rf_s_aload_n rf_f_R_becomes_26 rfl (rf_m0 _) (rf_s_iload_n rf_f_R_becomes_27 rfl (rf_m0 _) (rf_s_aload_n rf_f_R_becomes_28 rfl (rf_m0 _) (rf_s_iload_n rf_f_R_becomes_29 rfl (rf_m0 _) (rf_s_invV0R rf_f_R_becomes_30 rfl rfl (rf_m0 _) fun k2 q4 x5 h3 => (rf_s_invV3S rf_f_R_becomes_33 rfl rfl (rf_m0 _) fun q7 h6 => (rf_s_iinc (L' := [some (.inr (.inr (some o))), some (.inr (.inr l1)), some (.inl (rf_w (l2 + 1)))]) rf_f_R_becomes_36 rfl rfl (rf_s_goto rf_f_R_becomes_39 rfl rfl rfl)))))))))))) : rf_den (rf_call d) rf_m_R_becomes (18, [some (.inr (.inr (some o))), some (.inr (.inr l1)), some (.inl l2)], [], h) = _)
theorem rf_u_JM_max_II_I : rf_mt 13 = rf_m_JM_max_II_I := rfl
theorem rf_f_JM_max_II_I_0 : rf_Fb rf_m_JM_max_II_I 0 1 (.iload_n 0) 0 0 0 0 [] [] = true := by decide +kernel
theorem rf_f_JM_max_II_I_1 : rf_Fb rf_m_JM_max_II_I 1 2 (.iload_n 1) 0 0 0 0 [] [] = true := by decide +kernel
theorem rf_f_JM_max_II_I_2 : rf_Fb rf_m_JM_max_II_I 2 5 (.if_icmp .lt 7) 9 0 0 0 [] [] = true := by decide +kernel
theorem rf_f_JM_max_II_I_5 : rf_Fb rf_m_JM_max_II_I 5 6 (.iload_n 0) 0 0 0 0 [] [] = true := by decide +kernel
theorem rf_f_JM_max_II_I_6 : rf_Fb rf_m_JM_max_II_I 6 9 (.goto 4) 10 0 0 0 [] [] = true := by decide +kernel
theorem rf_f_JM_max_II_I_9 : rf_Fb rf_m_JM_max_II_I 9 10 (.iload_n 1) 0 0 0 0 [] [] = true := by decide +kernel
theorem rf_f_JM_max_II_I_10 : rf_Fb rf_m_JM_max_II_I 10 11 (.ireturn) 0 0 0 0 [] [] = true := by decide +kernel
set_option maxRecDepth 20000 in
set_option maxHeartbeats 2000000 in
theorem rf_e_JM_max_II_I (d : Nat) (a1 : Int) (a2 : Int) (h : rf_H) : rf_call (d + 1) 13 [.inl a1, .inl a2] h = (if a1 < a2 then some (some (.inl a2), h) else some (some (.inl a1), h)) := by
  show rf_den (rf_call d) (rf_mt 13) _ = _
  rw [rf_u_JM_max_II_I]
  exact ((rf_s_iload_n rf_f_JM_max_II_I_0 rfl (rf_m0 _) (rf_s_iload_n rf_f_JM_max_II_I_1 rfl (rf_m0 _) (rf_s_icmp_lt rf_f_JM_max_II_I_2 rfl (rf_m0 _) (rf_m0 _) (rf_s_iload_n rf_f_JM_max_II_I_9 rfl (rf_m0 _) (rf_s_iret rf_f_JM_max_II_I_10)) (rf_s_iload_n rf_f_JM_max_II_I_5 rfl (rf_m0 _) (rf_s_goto rf_f_JM_max_II_I_6 rfl (rf_m0 _) (rf_s_iret rf_f_JM_max_II_I_10)))))) : rf_den (rf_call d) rf_m_JM_max_II_I (0, [some (.inl a1), some (.inl a2)], [], h) = _)
theorem rf_u_JM_min : rf_mt 14 = rf_m_JM_min := rfl
theorem rf_f_JM_min_0 : rf_Fb rf_m_JM_min 0 1 (.iload_n 0) 0 0 0 0 [] [] = true := by decide +kernel
theorem rf_f_JM_min_1 : rf_Fb rf_m_JM_min 1 2 (.iload_n 1) 0 0 0 0 [] [] = true := by decide +kernel
theorem rf_f_JM_min_2 : rf_Fb rf_m_JM_min 2 5 (.if_icmp .gt 7) 9 0 0 0 [] [] = true := by decide +kernel
theorem rf_f_JM_min_5 : rf_Fb rf_m_JM_min 5 6 (.iload_n 0) 0 0 0 0 [] [] = true := by decide +kernel
theorem rf_f_JM_min_6 : rf_Fb rf_m_JM_min 6 9 (.goto 4) 10 0 0 0 [] [] = true := by decide +kernel
theorem rf_f_JM_min_9 : rf_Fb rf_m_JM_min 9 10 (.iload_n 1) 0 0 0 0 [] [] = true := by decide +kernel
theorem rf_f_JM_min_10 : rf_Fb rf_m_JM_min 10 11 (.ireturn) 0 0 0 0 [] [] = true := by decide +kernel
set_option maxRecDepth 20000 in
set_option maxHeartbeats 2000000 in
theorem rf_e_JM_min (d : Nat) (a1 : Int) (a2 : Int) (h : rf_H) : rf_call (d + 1) 14 [.inl a1, .inl a2] h = (if a2 < a1 then some (some (.inl a2), h) else some (some (.inl a1), h)) := by
  show rf_den (rf_call d) (rf_mt 14) _ = _
  rw [rf_u_JM_min]
  exact ((rf_s_iload_n rf_f_JM_min_0 rfl (rf_m0 _) (rf_s_iload_n rf_f_JM_min_1 rfl (rf_m0 _) (rf_s_icmp_gt rf_f_JM_min_2 rfl (rf_m0 _) (rf_m0 _) (rf_s_iload_n rf_f_JM_min_9 rfl (rf_m0 _) (rf_s_iret rf_f_JM_min_10)) (rf_s_iload_n rf_f_JM_min_5 rfl (rf_m0 _) (rf_s_goto rf_f_JM_min_6 rfl (rf_m0 _) (rf_s_iret rf_f_JM_min_10)))))) : rf_den (rf_call d) rf_m_JM_min (0, [some (.inl a1), some (.inl a2)], [], h) = _)
theorem rf_u_JM_floorMod : rf_mt 15 = rf_m_JM_floorMod := rfl
theorem rf_f_JM_floorMod_0 : rf_Fb rf_m_JM_floorMod 0 1 (.iload_n 0) 0 0 0 0 [] [] = true := by decide +kernel
theorem rf_f_JM_floorMod_1 : rf_Fb rf_m_JM_floorMod 1 2 (.iload_n 1) 0 0 0 0 [] [] = true := by decide +kernel
theorem rf_f_JM_floorMod_2 : rf_Fb rf_m_JM_floorMod 2 3 (.irem) 0 0 0 0 [] [] = true := by decide +kernel
theorem rf_f_JM_floorMod_3 : rf_Fb rf_m_JM_floorMod 3 4 (.istore_n 2) 0 0 0 0 [] [] = true := by decide +kernel
theorem rf_f_JM_floorMod_4 : rf_Fb rf_m_JM_floorMod 4 5 (.iload_n 0) 0 0 0 0 [] [] = true := by decide +kernel
theorem rf_f_JM_floorMod_5 : rf_Fb rf_m_JM_floorMod 5 6 (.iload_n 1) 0 0 0 0 [] [] = true := by decide +kernel
theorem rf_f_JM_floorMod_6 : rf_Fb rf_m_JM_floorMod 6 7 (.ixor) 0 0 0 0 [] [] = true := by decide +kernel
theorem rf_f_JM_floorMod_7 : rf_Fb rf_m_JM_floorMod 7 10 (.ifCond .ge 11) 18 0 0 0 [] [] = true := by decide +kernel
theorem rf_f_JM_floorMod_10 : rf_Fb rf_m_JM_floorMod 10 11 (.iload_n 2) 0 0 0 0 [] [] = true := by decide +kernel
theorem rf_f_JM_floorMod_11 : rf_Fb rf_m_JM_floorMod 11 14 (.ifCond .eq 7) 18 0 0 0 [] [] = true := by decide +kernel
theorem rf_f_JM_floorMod_14 : rf_Fb rf_m_JM_floorMod 14 15 (.iload_n 2) 0 0 0 0 [] [] = true := by decide +kernel
theorem rf_f_JM_floorMod_15 : rf_Fb rf_m_JM_floorMod 15 16 (.iload_n 1) 0 0 0 0 [] [] = true := by decide +kernel
theorem rf_f_JM_floorMod_16 : rf_Fb rf_m_JM_floorMod 16 17 (.iadd) 0 0 0 0 [] [] = true := by decide +kernel
theorem rf_f_JM_floorMod_17 : rf_Fb rf_m_JM_floorMod 17 18 (.ireturn) 0 0 0 0 [] [] = true := by decide +kernel
theorem rf_f_JM_floorMod_18 : rf_Fb rf_m_JM_floorMod 18 19 (.iload_n 2) 0 0 0 0 [] [] = true := by decide +kernel
theorem rf_f_JM_floorMod_19 : rf_Fb rf_m_JM_floorMod 19 20 (.ireturn) 0 0 0 0 [] [] = true := by decide +kernel
set_option maxRecDepth 20000 in
set_option maxHeartbeats 2000000 in
theorem rf_e_JM_floorMod (d : Nat) (a1 : Int) (a2 : Int) (h : rf_H) : rf_call (d + 1) 15 [.inl a1, .inl a2] h = (if a2 = 0 then none else (if (rf_xor a1 a2) < 0 then (if (Int.tmod a1 a2) = 0 then some (some (.inl (Int.tmod a1 a2)), h) else some (some (.inl (rf_w ((Int.tmod a1 a2) + a2))), h)) else some (some (.inl (Int.tmod a1 a2)), h))) := by
  show rf_den (rf_call d) (rf_mt 15) _ = _
  rw [rf_u_JM_floorMod]
  exact ((rf_s_iload_n rf_f_JM_floorMod_0 rfl (rf_m0 _) (rf_s_iload_n rf_f_JM_floorMod_1 rfl (rf_m0 _) (rf_s_iremZ rf_f_JM_floorMod_2 (rf_m0 _) (rf_s_istore_n (L' := [some (.inl a1), some (.inl a2), some (.inl (Int.tmod a1 a2))]) rf_f_JM_floorMod_3 rfl (rf_s_iload_n rf_f_JM_floorMod_4 rfl (rf_m0 _) (rf_s_iload_n rf_f_JM_floorMod_5 rfl (rf_m0 _) (rf_s_ixor rf_f_JM_floorMod_6 (rf_m0 _) (rf_s_if_ge rf_f_JM_floorMod_7 rfl (rf_m0 _) (rf_m0 _) (rf_s_iload_n rf_f_JM_floorMod_18 rfl (rf_m0 _) (rf_s_iret rf_f_JM_floorMod_19)) (rf_s_iload_n rf_f_JM_floorMod_10 rfl (rf_m0 _) (rf_s_if_eq rf_f_JM_floorMod_11 rfl (rf_m0 _) (rf_m0 _) (rf_s_iload_n rf_f_JM_floorMod_18 rfl (rf_m0 _) (rf_s_iret rf_f_JM_floorMod_19)) (rf_s_iload_n rf_f_JM_floorMod_14 rfl (rf_m0 _) (rf_s_iload_n rf_f_JM_floorMod_15 rfl (rf_m0 _) (rf_s_iadd rf_f_JM_floorMod_16 (rf_m0 _) (rf_s_iret rf_f_JM_floorMod_17)))))))))))))) : rf_den (rf_call d) rf_m_JM_floorMod (0, [some (.inl a1), some (.inl a2), none], [], h) = _)
theorem rf_u_JM_maxJ : rf_mt 16 = rf_m_JM_maxJ := rfl
theorem rf_f_JM_maxJ_0 : rf_Fb rf_m_JM_maxJ 0 1 (.lload_n 0) 0 0 0 0 [] [] = true := by decide +kernel
theorem rf_f_JM_maxJ_1 : rf_Fb rf_m_JM_maxJ 1 2 (.lload_n 2) 0 0 0 0 [] [] = true := by decide +kernel
theorem rf_f_JM_maxJ_2 : rf_Fb rf_m_JM_maxJ 2 3 (.lcmp) 0 0 0 0 [] [] = true := by decide +kernel
theorem rf_f_JM_maxJ_3 : rf_Fb rf_m_JM_maxJ 3 6 (.ifCond .lt 7) 10 0 0 0 [] [] = true := by decide +kernel
theorem rf_f_JM_maxJ_6 : rf_Fb rf_m_JM_maxJ 6 7 (.lload_n 0) 0 0 0 0 [] [] = true := by decide +kernel
theorem rf_f_JM_maxJ_7 : rf_Fb rf_m_JM_maxJ 7 10 (.goto 4) 11 0 0 0 [] [] = true := by decide +kernel
theorem rf_f_JM_maxJ_10 : rf_Fb rf_m_JM_maxJ 10 11 (.lload_n 2) 0 0 0 0 [] [] = true := by decide +kernel
theorem rf_f_JM_maxJ_11 : rf_Fb rf_m_JM_maxJ 11 12 (.lreturn) 0 0 0 0 [] [] = true := by decide +kernel
set_option maxRecDepth 20000 in
set_option maxHeartbeats 2000000 in
theorem rf_e_JM_maxJ (d : Nat) (a1 : Int) (a2 : Int) (h : rf_H) : rf_call (d + 1) 16 [.inr (.inl a1), .inr (.inl a2)] h = (if (rf_cmp a1 a2) < 0 then some (some (.inr (.inl a2)), h) else some (some (.inr (.inl a1)), h)) := by
  show rf_den (rf_call d) (rf_mt 16) _ = _
  rw [rf_u_JM_maxJ]
  exact ((rf_s_lload_n rf_f_JM_maxJ_0 rfl (rf_m0 _) (rf_s_lload_n rf_f_JM_maxJ_1 rfl (rf_m0 _) (rf_s_lcmp rf_f_JM_maxJ_2 (rf_m0 _) (rf_s_if_lt rf_f_JM_maxJ_3 rfl (rf_m0 _) (rf_m0 _) (rf_s_lload_n rf_f_JM_maxJ_10 rfl (rf_m0 _) (rf_s_lret rf_f_JM_maxJ_11)) (rf_s_lload_n rf_f_JM_maxJ_6 rfl (rf_m0 _) (rf_s_goto rf_f_JM_maxJ_7 rfl (rf_m0 _) (rf_s_lret rf_f_JM_maxJ_11))))))) : rf_den (rf_call d) rf_m_JM_maxJ (0, [some (.inr (.inl a1)), none, some (.inr (.inl a2)), none], [], h) = _)
theorem rf_u_JI_bitCount : rf_mt 17 = rf_m_JI_bitCount := rfl
theorem rf_f_JI_bitCount_0 : rf_Fb rf_m_JI_bitCount 0 1 (.iload_n 0) 0 0 0 0 [] [] = true := by decide +kernel
theorem rf_f_JI_bitCount_1 : rf_Fb rf_m_JI_bitCount 1 2 (.iload_n 0) 0 0 0 0 [] [] = true := by decide +kernel
theorem rf_f_JI_bitCount_2 : rf_Fb rf_m_JI_bitCount 2 3 (.iconst 1) 0 0 0 0 [] [] = true := by decide +kernel
theorem rf_f_JI_bitCount_3 : rf_Fb rf_m_JI_bitCount 3 4 (.iushr) 0 0 0 0 [] [] = true := by decide +kernel
theorem rf_f_JI_bitCount_4 : rf_Fb rf_m_JI_bitCount 4 7 (.ldc_w 265) 0 0 0 1431655765 [] [] = true := by decide +kernel
theorem rf_f_JI_bitCount_7 : rf_Fb rf_m_JI_bitCount 7 8 (.iand) 0 0 0 0 [] [] = true := by decide +kernel
theorem rf_f_JI_bitCount_8 : rf_Fb rf_m_JI_bitCount 8 9 (.isub) 0 0 0 0 [] [] = true := by decide +kernel
theorem rf_f_JI_bitCount_9 : rf_Fb rf_m_JI_bitCount 9 10 (.istore_n 0) 0 0 0 0 [] [] = true := by decide +kernel
theorem rf_f_JI_bitCount_10 : rf_Fb rf_m_JI_bitCount 10 11 (.iload_n 0) 0 0 0 0 [] [] = true := by decide +kernel
theorem rf_f_JI_bitCount_11 : rf_Fb rf_m_JI_bitCount 11 14 (.ldc_w 266) 0 0 0 858993459 [] [] = true := by decide +kernel
theorem rf_f_JI_bitCount_14 : rf_Fb rf_m_JI_bitCount 14 15 (.iand) 0 0 0 0 [] [] = true := by decide +kernel
theorem rf_f_JI_bitCount_15 : rf_Fb rf_m_JI_bitCount 15 16 (.iload_n 0) 0 0 0 0 [] [] = true := by decide +kernel
theorem rf_f_JI_bitCount_16 : rf_Fb rf_m_JI_bitCount 16 17 (.iconst 2) 0 0 0 0 [] [] = true := by decide +kernel
theorem rf_f_JI_bitCount_17 : rf_Fb rf_m_JI_bitCount 17 18 (.iushr) 0 0 0 0 [] [] = true := by decide +kernel
theorem rf_f_JI_bitCount_18 : rf_Fb rf_m_JI_bitCount 18 21 (.ldc_w 266) 0 0 0 858993459 [] [] = true := by decide +kernel
theorem rf_f_JI_bitCount_21 : rf_Fb rf_m_JI_bitCount 21 22 (.iand) 0 0 0 0 [] [] = true := by decide +kernel
theorem rf_f_JI_bitCount_22 : rf_Fb rf_m_JI_bitCount 22 23 (.iadd) 0 0 0 0 [] [] = true := by decide +kernel
theorem rf_f_JI_bitCount_23 : rf_Fb rf_m_JI_bitCount 23 24 (.istore_n 0) 0 0 0 0 [] [] = true := by decide +kernel
theorem rf_f_JI_bitCount_24 : rf_Fb rf_m_JI_bitCount 24 25 (.iload_n 0) 0 0 0 0 [] [] = true := by decide +kernel
theorem rf_f_JI_bitCount_25 : rf_Fb rf_m_JI_bitCount 25 26 (.iload_n 0) 0 0 0 0 [] [] = true := by decide +kernel
theorem rf_f_JI_bitCount_26 : rf_Fb rf_m_JI_bitCount 26 27 (.iconst 4) 0 0 0 0 [] [] = true := by decide +kernel
theorem rf_f_JI_bitCount_27 : rf_Fb rf_m_JI_bitCount 27 28 (.iushr) 0 0 0 0 [] [] = true := by decide +kernel
theorem rf_f_JI_bitCount_28 : rf_Fb rf_m_JI_bitCount 28 29 (.iadd) 0 0 0 0 [] [] = true := by decide +kernel
theorem rf_f_JI_bitCount_29 : rf_Fb rf_m_JI_bitCount 29 32 (.ldc_w 267) 0 0 0 252645135 [] [] = true := by decide +kernel
theorem rf_f_JI_bitCount_32 : rf_Fb rf_m_JI_bitCount 32 33 (.iand) 0 0 0 0 [] [] = true := by decide +kernel
theorem rf_f_JI_bitCount_33 : rf_Fb rf_m_JI_bitCount 33 34 (.istore_n 0) 0 0 0 0 [] [] = true := by decide +kernel
theorem rf_f_JI_bitCount_34 : rf_Fb rf_m_JI_bitCount 34 35 (.iload_n 0) 0 0 0 0 [] [] = true := by decide +kernel
theorem rf_f_JI_bitCount_35 : rf_Fb rf_m_JI_bitCount 35 36 (.iload_n 0) 0 0 0 0 [] [] = true := by decide +kernel
theorem rf_f_JI_bitCount_36 : rf_Fb rf_m_JI_bitCount 36 38 (.bipush 8) 0 0 0 0 [] [] = true := by decide +kernel
theorem rf_f_JI_bitCount_38 : rf_Fb rf_m_JI_bitCount 38 39 (.iushr) 0 0 0 0 [] [] = true := by decide +kernel
theorem rf_f_JI_bitCount_39 : rf_Fb rf_m_JI_bitCount 39 40 (.iadd) 0 0 0 0 [] [] = true := by decide +kernel
theorem rf_f_JI_bitCount_40 : rf_Fb rf_m_JI_bitCount 40 41 (.istore_n 0) 0 0 0 0 [] [] = true := by decide +kernel
theorem rf_f_JI_bitCount_41 : rf_Fb rf_m_JI_bitCount 41 42 (.iload_n 0) 0 0 0 0 [] [] = true := by decide +kernel
theorem rf_f_JI_bitCount_42 : rf_Fb rf_m_JI_bitCount 42 43 (.iload_n 0) 0 0 0 0 [] [] = true := by decide +kernel
theorem rf_f_JI_bitCount_43 : rf_Fb rf_m_JI_bitCount 43 45 (.bipush 16) 0 0 0 0 [] [] = true := by decide +kernel
theorem rf_f_JI_bitCount_45 : rf_Fb rf_m_JI_bitCount 45 46 (.iushr) 0 0 0 0 [] [] = true := by decide +kernel
theorem rf_f_JI_bitCount_46 : rf_Fb rf_m_JI_bitCount 46 47 (.iadd) 0 0 0 0 [] [] = true := by decide +kernel
theorem rf_f_JI_bitCount_47 : rf_Fb rf_m_JI_bitCount 47 48 (.istore_n 0) 0 0 0 0 [] [] = true := by decide +kernel
theorem rf_f_JI_bitCount_48 : rf_Fb rf_m_JI_bitCount 48 49 (.iload_n 0) 0 0 0 0 [] [] = true := by decide +kernel
theorem rf_f_JI_bitCount_49 : rf_Fb rf_m_JI_bitCount 49 51 (.bipush 63) 0 0 0 0 [] [] = true := by decide +kernel
theorem rf_f_JI_bitCount_51 : rf_Fb rf_m_JI_bitCount 51 52 (.iand) 0 0 0 0 [] [] = true := by decide +kernel
theorem rf_f_JI_bitCount_52 : rf_Fb rf_m_JI_bitCount 52 53 (.ireturn) 0 0 0 0 [] [] = true := by decide +kernel
set_option maxRecDepth 20000 in
set_option maxHeartbeats 2000000 in
theorem rf_e_JI_bitCount (d : Nat) (a1 : Int) (h : rf_H) : rf_call (d + 1) 17 [.inl a1] h = some (some (.inl (rf_and (rf_w ((rf_w ((rf_and (rf_w ((rf_w ((rf_and (rf_w (a1 - (rf_and (rf_ushr a1 1) 1431655765))) 858993459) + (rf_and (rf_ushr (rf_w (a1 - (rf_and (rf_ushr a1 1) 1431655765))) 2) 858993459))) + (rf_ushr (rf_w ((rf_and (rf_w (a1 - (rf_and (rf_ushr a1 1) 1431655765))) 858993459) + (rf_and (rf_ushr (rf_w (a1 - (rf_and (rf_ushr a1 1) 1431655765))) 2) 858993459))) 4))) 252645135) + (rf_ushr (rf_and (rf_w ((rf_w ((rf_and (rf_w (a1 - (rf_and (rf_ushr a1 1) 1431655765))) 858993459) + (rf_and (rf_ushr (rf_w (a1 - (rf_and (rf_ushr a1 1) 1431655765))) 2) 858993459))) + (rf_ushr (rf_w ((rf_and (rf_w (a1 - (rf_and (rf_ushr a1 1) 1431655765))) 858993459) + (rf_and (rf_ushr (rf_w (a1 - (rf_and (rf_ushr a1 1) 1431655765))) 2) 858993459))) 4))) 252645135) 8))) + (rf_ushr (rf_w ((rf_and (rf_w ((rf_w ((rf_and (rf_w (a1 - (rf_and (rf_ushr a1 1) 1431655765))) 858993459) + (rf_and (rf_ushr (rf_w (a1 - (rf_and (rf_ushr a1 1) 1431655765))) 2) 858993459))) + (rf_ushr (rf_w ((rf_and (rf_w (a1 - (rf_and (rf_ushr a1 1) 1431655765))) 858993459) + (rf_and (rf_ushr (rf_w (a1 - (rf_and (rf_ushr a1 1) 1431655765))) 2) 858993459))) 4))) 252645135) + (rf_ushr (rf_and (rf_w ((rf_w ((rf_and (rf_w (a1 - (rf_and (rf_ushr a1 1) 1431655765))) 858993459) + (rf_and (rf_ushr (rf_w (a1 - (rf_and (rf_ushr a1 1) 1431655765))) 2) 858993459))) + (rf_ushr (rf_w ((rf_and (rf_w (a1 - (rf_and (rf_ushr a1 1) 1431655765))) 858993459) + (rf_and (rf_ushr (rf_w (a1 - (rf_and (rf_ushr a1 1) 1431655765))) 2) 858993459))) 4))) 252645135) 8))) 16))) 63)), h) := by
  show rf_den (rf_call d) (rf_mt 17) _ = _
  rw [rf_u_JI_bitCount]
  exact ((rf_s_iload_n rf_f_JI_bitCount_0 rfl (rf_m0 _) (rf_s_iload_n rf_f_JI_bitCount_1 rfl (rf_m0 _) (rf_s_iconst rf_f_JI_bitCount_2 (rf_m0 _) (rf_s_iushr rf_f_JI_bitCount_3 (rf_m0 _) (rf_s_ldc_w rf_f_JI_bitCount_4 (rf_m0 _) (rf_s_iand rf_f_JI_bitCount_7 (rf_m0 _) (rf_s_isub rf_f_JI_bitCount_8 (rf_m0 _) (rf_s_istore_n (L' := [some (.inl (rf_w (a1 - (rf_and (rf_ushr a1 1) 1431655765))))]) rf_f_JI_bitCount_9 rfl (rf_s_iload_n rf_f_JI_bitCount_10 rfl (rf_m0 _) (rf_s_ldc_w rf_f_JI_bitCount_11 (rf_m0 _) (rf_s_iand rf_f_JI_bitCount_14 (rf_m0 _) (rf_s_iload_n rf_f_JI_bitCount_15 rfl (rf_m0 _) (rf_s_iconst rf_f_JI_bitCount_16 (rf_m0 _) (rf_s_iushr rf_f_JI_bitCount_17 (rf_m0 _) (rf_s_ldc_w rf_f_JI_bitCount_18 (rf_m0 _) (rf_s_iand rf_f_JI_bitCount_21 (rf_m0 _) (rf_s_iadd rf_f_JI_bitCount_22 (rf_m0 _) (rf_s_istore_n (L' := [some (.inl (rf_w ((rf_and (rf_w (a1 - (rf_and (rf_ushr a1 1) 1431655765))) 858993459) + (rf_and (rf_ushr (rf_w (a1 - (rf_and (rf_ushr a1 1) 1431655765))) 2) 858993459))))]) rf_f_JI_bitCount_23 rfl (rf_s_iload_n rf_f_JI_bitCount_24 rfl (rf_m0 _) (rf_s_iload_n rf_f_JI_bitCount_25 rfl (rf_m0 _) (rf_s_iconst rf_f_JI_bitCount_26 (rf_m0 _) (rf_s_iushr rf_f_JI_bitCount_27 (rf_m0 _) (rf_s_iadd rf_f_JI_bitCount_28 (rf_m0 _) (rf_s_ldc_w rf_f_JI_bitCount_29 (rf_m0 _) (rf_s_iand rf_f_JI_bitCount_32 (rf_m0 _) (rf_s_istore_n (L' := [some (.inl (rf_and (rf_w ((rf_w ((rf_and (rf_w (a1 - (rf_and (rf_ushr a1 1) 1431655765))) 858993459) + (rf_and (rf_ushr (rf_w (a1 - (rf_and (rf_ushr a1 1) 1431655765))) 2) 858993459))) + (rf_ushr (rf_w ((rf_and (rf_w (a1 - (rf_and (rf_ushr a1 1) 1431655765))) 858993459) + (rf_and (rf_ushr (rf_w (a1 - (rf_and (rf_ushr a1 1) 1431655765))) 2) 858993459))) 4))) 252645135))]) rf_f_JI_bitCount_33 rfl (rf_s_iload_n rf_f_JI_bitCount_34 rfl (rf_m0 _) (rf_s_iload_n rf_f_JI_bitCount_35 rfl (rf_m0 _) (rf_s_bipush rf_f_JI_bitCount_36 (rf_m0 _) (rf_s_iushr rf_f_JI_bitCount_38 (rf_m0 _) (rf_s_iadd rf_f_JI_bitCount_39 (rf_m0 _) (rf_s_istore_n (L' := [some (.inl (rf_w ((rf_and (rf_w ((rf_w ((rf_and (rf_w (a1 - (rf_and (rf_ushr a1 1) 1431655765))) 858993459) + (rf_and (rf_ushr (rf_w (a1 - (rf_and (rf_ushr a1 1) 1431655765))) 2) 858993459))) + (rf_ushr (rf_w ((rf_and (rf_w (a1 - (rf_and (rf_ushr a1 1) 1431655765))) 858993459) + (rf_and (rf_ushr (rf_w (a1 - (rf_and (rf_ushr a1 1) 1431655765))) 2) 858993459))) 4))) 252645135) + (rf_ushr (rf_and (rf_w ((rf_w ((rf_and (rf_w (a1 - (rf_and (rf_ushr a1 1) 1431655765))) 858993459) + (rf_and (rf_ushr (rf_w (a1 - (rf_and (rf_ushr a1 1) 1431655765))) 2) 858993459))) + (rf_ushr (rf_w ((rf_and (rf_w (a1 - (rf_and (rf_ushr a1 1) 1431655765))) 858993459) + (rf_and (rf_ushr (rf_w (a1 - (rf_and (rf_ushr a1 1) 1431655765))) 2) 858993459))) 4))) 252645135) 8))))]) rf_f_JI_bitCount_40 rfl (rf_s_iload_n rf_f_JI_bitCount_41 rfl (rf_m0 _) (rf_s_iload_n rf_f_JI_bitCount_42 rfl (rf_m0 _) (rf_s_bipush rf_f_JI_bitCount_43 (rf_m0 _) (rf_s_iushr rf_f_JI_bitCount_45 (rf_m0 _) (rf_s_iadd rf_f_JI_bitCount_46 (rf_m0 _) (rf_s_istore_n (L' := [some (.inl (rf_w ((rf_w ((rf_and (rf_w ((rf_w ((rf_and (rf_w (a1 - (rf_and (rf_ushr a1 1) 1431655765))) 858993459) + (rf_and (rf_ushr (rf_w (a1 - (rf_and (rf_ushr a1 1) 1431655765))) 2) 858993459))) + (rf_ushr (rf_w ((rf_and (rf_w (a1 - (rf_and (rf_ushr a1 1) 1431655765))) 858993459) + (rf_and (rf_ushr (rf_w (a1 - (rf_and (rf_ushr a1 1) 1431655765))) 2) 858993459))) 4))) 252645135) + (rf_ushr (rf_and (rf_w ((rf_w ((rf_and (rf_w (a1 - (rf_and (rf_ushr a1 1) 1431655765))) 858993459) + (rf_and (rf_ushr (rf_w (a1 - (rf_and (rf_ushr a1 1) 1431655765))) 2) 858993459))) + (rf_ushr (rf_w ((rf_and (rf_w (a1 - (rf_and (rf_ushr a1 1) 1431655765))) 858993459) + (rf_and (rf_ushr (rf_w (a1 - (rf_and (rf_ushr a1 1) 1431655765))) 2) 858993459))) 4))) 252645135) 8))) + (rf_ushr (rf_w ((rf_and (rf_w ((rf_w ((rf_and (rf_w (a1 - (rf_and (rf_ushr a1 1) 1431655765))) 858993459) + (rf_and (rf_ushr (rf_w (a1 - (rf_and (rf_ushr a1 1) 1431655765))) 2) 858993459))) + (rf_ushr (rf_w ((rf_and (rf_w (a1 - (rf_and (rf_ushr a1 1) 1431655765))) 858993459) + (rf_and (rf_ushr (rf_w (a1 - (rf_and (rf_ushr a1 1) 1431655765))) 2) 858993459))) 4))) 252645135) + (rf_ushr (rf_and (rf_w ((rf_w ((rf_and (rf_w (a1 - (rf_and (rf_ushr a1 1) 1431655765))) 858993459) + (rf_and (rf_ushr (rf_w (a1 - (rf_and (rf_ushr a1 1) 1431655765))) 2) 858993459))) + (rf_ushr (rf_w ((rf_and (rf_w (a1 - (rf_and (rf_ushr a1 1) 1431655765))) 858993459) + (rf_and (rf_ushr (rf_w (a1 - (rf_and (rf_ushr a1 1) 1431655765))) 2) 858993459))) 4))) 252645135) 8))) 16))))]) rf_f_JI_bitCount_47 rfl (rf_s_iload_n rf_f_JI_bitCount_48 rfl (rf_m0 _) (rf_s_bipush rf_f_JI_bitCount_49 (rf_m0 _) (rf_s_iand rf_f_JI_bitCount_51 (rf_m0 _) (rf_s_iret rf_f_JI_bitCount_52)))))))))))))))))))))))))))))))))))))))))) : rf_den (rf_call d) rf_m_JI_bitCount (0, [some (.inl a1)], [], h) = _)
theorem rf_u_C_clear : rf_mt 19 = rf_m_C_clear := rfl
theorem rf_f_C_clear_0 : rf_Fb rf_m_C_clear 0 1 (.aload_n 0) 0 0 0 0 [] [] = true := by decide +kernel
theorem rf_f_C_clear_1 : rf_Fb rf_m_C_clear 1 4 (.getfield 14) 0 0 2 0 [] [] = true := by decide +kernel
theorem rf_f_C_clear_4 : rf_Fb rf_m_C_clear 4 5 (.iconst 0) 0 0 0 0 [] [] = true := by decide +kernel
theorem rf_f_C_clear_5 : rf_Fb rf_m_C_clear 5 6 (.iconst 0) 0 0 0 0 [] [] = true := by decide +kernel
theorem rf_f_C_clear_6 : rf_Fb rf_m_C_clear 6 9 (.invokevirtual 41) 1 2 3 2 [] [] = true := by decide +kernel
theorem rf_f_C_clear_9 : rf_Fb rf_m_C_clear 9 10 (.aload_n 0) 0 0 0 0 [] [] = true := by decide +kernel
theorem rf_f_C_clear_10 : rf_Fb rf_m_C_clear 10 13 (.getfield 20) 0 1 2 0 [] [] = true := by decide +kernel
theorem rf_f_C_clear_13 : rf_Fb rf_m_C_clear 13 14 (.iconst 0) 0 0 0 0 [] [] = true := by decide +kernel
theorem rf_f_C_clear_14 : rf_Fb rf_m_C_clear 14 15 (.iconst 0) 0 0 0 0 [] [] = true := by decide +kernel
theorem rf_f_C_clear_15 : rf_Fb rf_m_C_clear 15 18 (.invokevirtual 41) 1 2 3 2 [] [] = true := by decide +kernel
theorem rf_f_C_clear_18 : rf_Fb rf_m_C_clear 18 19 (.aload_n 0) 0 0 0 0 [] [] = true := by decide +kernel
theorem rf_f_C_clear_19 : rf_Fb rf_m_C_clear 19 22 (.getfield 23) 0 2 2 0 [] [] = true := by decide +kernel
theorem rf_f_C_clear_22 : rf_Fb rf_m_C_clear 22 23 (.iconst 0) 0 0 0 0 [] [] = true := by decide +kernel
theorem rf_f_C_clear_23 : rf_Fb rf_m_C_clear 23 24 (.iconst 0) 0 0 0 0 [] [] = true := by decide +kernel
theorem rf_f_C_clear_24 : rf_Fb rf_m_C_clear 24 27 (.invokevirtual 41) 1 2 3 2 [] [] = true := by decide +kernel
theorem rf_f_C_clear_27 : rf_Fb rf_m_C_clear 27 28 (.aload_n 0) 0 0 0 0 [] [] = true := by decide +kernel
theorem rf_f_C_clear_28 : rf_Fb rf_m_C_clear 28 31 (.getfield 26) 0 3 2 0 [] [] = true := by decide +kernel
theorem rf_f_C_clear_31 : rf_Fb rf_m_C_clear 31 32 (.iconst 0) 0 0 0 0 [] [] = true := by decide +kernel
theorem rf_f_C_clear_32 : rf_Fb rf_m_C_clear 32 33 (.iconst 0) 0 0 0 0 [] [] = true := by decide +kernel
theorem rf_f_C_clear_33 : rf_Fb rf_m_C_clear 33 36 (.invokevirtual 41) 1 2 3 2 [] [] = true := by decide +kernel
theorem rf_f_C_clear_36 : rf_Fb rf_m_C_clear 36 37 (.aload_n 0) 0 0 0 0 [] [] = true := by decide +kernel
theorem rf_f_C_clear_37 : rf_Fb rf_m_C_clear 37 40 (.getfield 29) 0 4 2 0 [] [] = true := by decide +kernel
theorem rf_f_C_clear_40 : rf_Fb rf_m_C_clear 40 41 (.iconst 0) 0 0 0 0 [] [] = true := by decide +kernel
theorem rf_f_C_clear_41 : rf_Fb rf_m_C_clear 41 42 (.iconst 0) 0 0 0 0 [] [] = true := by decide +kernel
theorem rf_f_C_clear_42 : rf_Fb rf_m_C_clear 42 45 (.invokevirtual 41) 1 2 3 2 [] [] = true := by decide +kernel
theorem rf_f_C_clear_45 : rf_Fb rf_m_C_clear 45 46 (.aload_n 0) 0 0 0 0 [] [] = true := by decide +kernel
theorem rf_f_C_clear_46 : rf_Fb rf_m_C_clear 46 49 (.getfield 32) 0 5 2 0 [] [] = true := by decide +kernel
theorem rf_f_C_clear_49 : rf_Fb rf_m_C_clear 49 50 (.iconst 1) 0 0 0 0 [] [] = true := by decide +kernel
theorem rf_f_C_clear_50 : rf_Fb rf_m_C_clear 50 51 (.iconst 0) 0 0 0 0 [] [] = true := by decide +kernel
theorem rf_f_C_clear_51 : rf_Fb rf_m_C_clear 51 54 (.invokevirtual 41) 1 2 3 2 [] [] = true := by decide +kernel
theorem rf_f_C_clear_54 : rf_Fb rf_m_C_clear 54 55 (.aload_n 0) 0 0 0 0 [] [] = true := by decide +kernel
theorem rf_f_C_clear_55 : rf_Fb rf_m_C_clear 55 58 (.getfield 35) 0 6 2 0 [] [] = true := by decide +kernel
theorem rf_f_C_clear_58 : rf_Fb rf_m_C_clear 58 59 (.iconst 1) 0 0 0 0 [] [] = true := by decide +kernel
theorem rf_f_C_clear_59 : rf_Fb rf_m_C_clear 59 60 (.iconst 0) 0 0 0 0 [] [] = true := by decide +kernel
theorem rf_f_C_clear_60 : rf_Fb rf_m_C_clear 60 63 (.invokevirtual 41) 1 2 3 2 [] [] = true := by decide +kernel
theorem rf_f_C_clear_63 : rf_Fb rf_m_C_clear 63 64 (.return_) 0 0 0 0 [] [] = true := by decide +kernel
set_option maxRecDepth 20000 in
set_option maxHeartbeats 2000000 in
theorem rf_e_C_clear (d : Nat) (o : Nat) (h : rf_H) : rf_call (d + 1) 19 [.inr (.inr (some o))] h = ((rf_gR h 0 o 0).bind fun x1 => (rf_nn x1 fun k2 => (bif rf_isO h.1 k2 2 then ((rf_call d 1 [.inr (.inr (some k2)), .inl 0, .inl 0] h).bind fun q4 => rf_kV q4 fun h3 => ((rf_gR h3 0 o 1).bind fun x5 => (rf_nn x5 fun k6 => (bif rf_isO h3.1 k6 2 then ((rf_call d 1 [.inr (.inr (some k6)), .inl 0, .inl 0] h3).bind fun q8 => rf_kV q8 fun h7 => ((rf_gR h7 0 o 2).bind fun x9 => (rf_nn x9 fun k10 => (bif rf_isO h7.1 k10 2 then ((rf_call d 1 [.inr (.inr (some k10)), .inl 0, .inl 0] h7).bind fun q12 => rf_kV q12 fun h11 => ((rf_gR h11 0 o 3).bind fun x13 => (rf_nn x13 fun k14 => (bif rf_isO h11.1 k14 2 then ((rf_call d 1 [.inr (.inr (some k14)), .inl 0, .inl 0] h11).bind fun q16 => rf_kV q16 fun h15 => ((rf_gR h15 0 o 4).bind fun x17 => (rf_nn x17 fun k18 => (bif rf_isO h15.1 k18 2 then ((rf_call d 1 [.inr (.inr (some k18)), .inl 0, .inl 0] h15).bind fun q20 => rf_kV q20 fun h19 => ((rf_gR h19 0 o 5).bind fun x21 => (rf_nn x21 fun k22 => (bif rf_isO h19.1 k22 2 then ((rf_call d 1 [.inr (.inr (some k22)), .inl 1, .inl 0] h19).bind fun q24 => rf_kV q24 fun h23 => ((rf_gR h23 0 o 6).bind fun x25 => (rf_nn x25 fun k26 => (bif rf_isO h23.1 k26 2 then ((rf_call d 1 [.inr (.inr (some k26)), .inl 1, .inl 0] h23).bind fun q28 => rf_kV q28 fun h27 => some (none, h27)) else none)))) else none)))) else none)))) else none)))) else none)))) else none)))) else none))) := by
  show rf_den (rf_call d) (rf_mt 19) _ = _
  rw [rf_u_C_clear]
  exact ((rf_s_aload_n rf_f_C_clear_0 rfl (rf_m0 _) (rf_s_getAS rf_f_C_clear_1 (rf_m0 _) fun x1 => (rf_s_iconst rf_f_C_clear_4 (rf_m0 _) (rf_s_iconst rf_f_C_clear_5 (rf_m0 _) (rf_s_invV3R rf_f_C_clear_6 rfl rfl (rf_m0 _) fun k2 q4 h3 => (rf_s_aload_n rf_f_C_clear_9 rfl (rf_m0 _) (rf_s_getAS rf_f_C_clear_10 (rf_m0 _) fun x5 => (rf_s_iconst rf_f_C_clear_13 (rf_m0 _) (rf_s_iconst rf_f_C_clear_14 (rf_m0 _) (rf_s_invV3R rf_f_C_clear_15 rfl rfl (rf_m0 _) fun k6 q8 h7 => (rf_s_aload_n rf_f_C_clear_18 rfl (rf_m0 _) (rf_s_getAS rf_f_C_clear_19 (rf_m0 _) fun x9 => (rf_s_iconst rf_f_C_clear_22 (rf_m0 _) (rf_s_iconst rf_f_C_clear_23 (rf_m0 _) (rf_s_invV3R rf_f_C_clear_24 rfl rfl (rf_m0 _) fun k10 q12 h11 => (rf_s_aload_n rf_f_C_clear_27 rfl (rf_m0 _) (rf_s_getAS rf_f_C_clear_28 (rf_m0 _) fun x13 => (rf_s_iconst rf_f_C_clear_31 (rf_m0 _) (rf_s_iconst rf_f_C_clear_32 (rf_m0 _) (rf_s_invV3R rf_f_C_clear_33 rfl rfl (rf_m0 _) fun k14 q16 h15 => (rf_s_aload_n rf_f_C_clear_36 rfl (rf_m0 _) (rf_s_getAS rf_f_C_clear_37 (rf_m0 _) fun x17 => (rf_s_iconst rf_f_C_clear_40 (rf_m0 _) (rf_s_iconst rf_f_C_clear_41 (rf_m0 _) (rf_s_invV3R rf_f_C_clear_42 rfl rfl (rf_m0 _) fun k18 q20 h19 => (rf_s_aload_n rf_f_C_clear_45 rfl (rf_m0 _) (rf_s_getAS rf_f_C_clear_46 (rf_m0 _) fun x21 => (rf_s_iconst rf_f_C_clear_49 (rf_m0 _) (rf_s_iconst rf_f_C_clear_50 (rf_m0 _) (rf_s_invV3R rf_f_C_clear_51 rfl rfl (rf_m0 _) fun k22 q24 h23 => (rf_s_aload_n rf_f_C_clear_54 rfl (rf_m0 _) (rf_s_getAS rf_f_C_clear_55 (rf_m0 _) fun x25 => (rf_s_iconst rf_f_C_clear_58 (rf_m0 _) (rf_s_iconst rf_f_C_clear_59 (rf_m0 _) (rf_s_invV3R rf_f_C_clear_60 rfl rfl (rf_m0 _) fun k26 q28 h27 => (rf_s_vret rf_f_C_clear_63)))))))))))))))))))))))))))))))))))) : rf_den (rf_call d) rf_m_C_clear (0, [some (.inr (.inr (some o)))], [], h) = _)
theorem rf_u_C_addWagon : rf_mt 20 = rf_m_C_addWagon := rfl
theorem rf_f_C_addWagon_0 : rf_Fb rf_m_C_addWagon 0 1 (.aload_n 0) 0 0 0 0 [] [] = true := by decide +kernel
theorem rf_f_C_addWagon_1 : rf_Fb rf_m_C_addWagon 1 4 (.getfield 20) 0 1 2 0 [] [] = true := by decide +kernel
theorem rf_f_C_addWagon_4 : rf_Fb rf_m_C_addWagon 4 7 (.getfield 45) 2 1 0 0 [] [] = true := by decide +kernel
theorem rf_f_C_addWagon_7 : rf_Fb rf_m_C_addWagon 7 9 (.istore 4) 0 0 0 0 [] [] = true := by decide +kernel
theorem rf_f_C_addWagon_9 : rf_Fb rf_m_C_addWagon 9 10 (.aload_n 0) 0 0 0 0 [] [] = true := by decide +kernel
theorem rf_f_C_addWagon_10 : rf_Fb rf_m_C_addWagon 10 13 (.getfield 20) 0 1 2 0 [] [] = true := by decide +kernel
theorem rf_f_C_addWagon_13 : rf_Fb rf_m_C_addWagon 13 14 (.iload_n 1) 0 0 0 0 [] [] = true := by decide +kernel
theorem rf_f_C_addWagon_14 : rf_Fb rf_m_C_addWagon 14 17 (.invokevirtual 49) 10 1 3 2 [] [] = true := by decide +kernel
theorem rf_f_C_addWagon_17 : rf_Fb rf_m_C_addWagon 17 18 (.aload_n 0) 0 0 0 0 [] [] = true := by decide +kernel
theorem rf_f_C_addWagon_18 : rf_Fb rf_m_C_addWagon 18 21 (.getfield 23) 0 2 2 0 [] [] = true := by decide +kernel
theorem rf_f_C_addWagon_21 : rf_Fb rf_m_C_addWagon 21 22 (.iload_n 2) 0 0 0 0 [] [] = true := by decide +kernel
theorem rf_f_C_addWagon_22 : rf_Fb rf_m_C_addWagon 22 25 (.invokevirtual 49) 10 1 3 2 [] [] = true := by decide +kernel
theorem rf_f_C_addWagon_25 : rf_Fb rf_m_C_addWagon 25 26 (.aload_n 0) 0 0 0 0 [] [] = true := by decide +kernel
theorem rf_f_C_addWagon_26 : rf_Fb rf_m_C_addWagon 26 29 (.getfield 26) 0 3 2 0 [] [] = true := by decide +kernel
theorem rf_f_C_addWagon_29 : rf_Fb rf_m_C_addWagon 29 30 (.iload_n 3) 0 0 0 0 [] [] = true := by decide +kernel
theorem rf_f_C_addWagon_30 : rf_Fb rf_m_C_addWagon 30 33 (.invokevirtual 49) 10 1 3 2 [] [] = true := by decide +kernel
theorem rf_f_C_addWagon_33 : rf_Fb rf_m_C_addWagon 33 34 (.aload_n 0) 0 0 0 0 [] [] = true := by decide +kernel
theorem rf_f_C_addWagon_34 : rf_Fb rf_m_C_addWagon 34 37 (.getfield 29) 0 4 2 0 [] [] = true := by decide +kernel
theorem rf_f_C_addWagon_37 : rf_Fb rf_m_C_addWagon 37 38 (.aload_n 0) 0 0 0 0 [] [] = true := by decide +kernel
theorem rf_f_C_addWagon_38 : rf_Fb rf_m_C_addWagon 38 40 (.iload 4) 0 0 0 0 [] [] = true := by decide +kernel
theorem rf_f_C_addWagon_40 : rf_Fb rf_m_C_addWagon 40 43 (.invokevirtual 52) 21 1 0 0 [] [] = true := by decide +kernel
theorem rf_f_C_addWagon_43 : rf_Fb rf_m_C_addWagon 43 44 (.aload_n 0) 0 0 0 0 [] [] = true := by decide +kernel
theorem rf_f_C_addWagon_44 : rf_Fb rf_m_C_addWagon 44 46 (.iload 4) 0 0 0 0 [] [] = true := by decide +kernel
theorem rf_f_C_addWagon_46 : rf_Fb rf_m_C_addWagon 46 49 (.invokevirtual 56) 23 1 0 0 [] [] = true := by decide +kernel
theorem rf_f_C_addWagon_49 : rf_Fb rf_m_C_addWagon 49 50 (.isub) 0 0 0 0 [] [] = true := by decide +kernel
theorem rf_f_C_addWagon_50 : rf_Fb rf_m_C_addWagon 50 53 (.invokevirtual 49) 10 1 3 2 [] [] = true := by decide +kernel
theorem rf_f_C_addWagon_53 : rf_Fb rf_m_C_addWagon 53 54 (.aload_n 0) 0 0 0 0 [] [] = true := by decide +kernel
theorem rf_f_C_addWagon_54 : rf_Fb rf_m_C_addWagon 54 57 (.getfield 32) 0 5 2 0 [] [] = true := by decide +kernel
theorem rf_f_C_addWagon_57 : rf_Fb rf_m_C_addWagon 57 58 (.aload_n 0) 0 0 0 0 [] [] = true := by decide +kernel
theorem rf_f_C_addWagon_58 : rf_Fb rf_m_C_addWagon 58 61 (.getfield 32) 0 5 2 0 [] [] = true := by decide +kernel
theorem rf_f_C_addWagon_61 : rf_Fb rf_m_C_addWagon 61 63 (.iload 4) 0 0 0 0 [] [] = true := by decide +kernel
theorem rf_f_C_addWagon_63 : rf_Fb rf_m_C_addWagon 63 66 (.invokevirtual 59) 4 1 0 2 [] [] = true := by decide +kernel
theorem rf_f_C_addWagon_66 : rf_Fb rf_m_C_addWagon 66 67 (.aload_n 0) 0 0 0 0 [] [] = true := by decide +kernel
theorem rf_f_C_addWagon_67 : rf_Fb rf_m_C_addWagon 67 69 (.iload 4) 0 0 0 0 [] [] = true := by decide +kernel
theorem rf_f_C_addWagon_69 : rf_Fb rf_m_C_addWagon 69 70 (.iconst 1) 0 0 0 0 [] [] = true := by decide +kernel
theorem rf_f_C_addWagon_70 : rf_Fb rf_m_C_addWagon 70 73 (.invokevirtual 62) 24 2 0 0 [] [] = true := by decide +kernel
theorem rf_f_C_addWagon_73 : rf_Fb rf_m_C_addWagon 73 74 (.iadd) 0 0 0 0 [] [] = true := by decide +kernel
theorem rf_f_C_addWagon_74 : rf_Fb rf_m_C_addWagon 74 77 (.invokevirtual 49) 10 1 3 2 [] [] = true := by decide +kernel
theorem rf_f_C_addWagon_77 : rf_Fb rf_m_C_addWagon 77 78 (.aload_n 0) 0 0 0 0 [] [] = true := by decide +kernel
theorem rf_f_C_addWagon_78 : rf_Fb rf_m_C_addWagon 78 81 (.getfield 35) 0 6 2 0 [] [] = true := by decide +kernel
theorem rf_f_C_addWagon_81 : rf_Fb rf_m_C_addWagon 81 82 (.aload_n 0) 0 0 0 0 [] [] = true := by decide +kernel
theorem rf_f_C_addWagon_82 : rf_Fb rf_m_C_addWagon 82 85 (.getfield 35) 0 6 2 0 [] [] = true := by decide +kernel
theorem rf_f_C_addWagon_85 : rf_Fb rf_m_C_addWagon 85 87 (.iload 4) 0 0 0 0 [] [] = true := by decide +kernel
theorem rf_f_C_addWagon_87 : rf_Fb rf_m_C_addWagon 87 90 (.invokevirtual 59) 4 1 0 2 [] [] = true := by decide +kernel
theorem rf_f_C_addWagon_90 : rf_Fb rf_m_C_addWagon 90 91 (.aload_n 0) 0 0 0 0 [] [] = true := by decide +kernel
theorem rf_f_C_addWagon_91 : rf_Fb rf_m_C_addWagon 91 93 (.iload 4) 0 0 0 0 [] [] = true := by decide +kernel
theorem rf_f_C_addWagon_93 : rf_Fb rf_m_C_addWagon 93 94 (.iconst 0) 0 0 0 0 [] [] = true := by decide +kernel
theorem rf_f_C_addWagon_94 : rf_Fb rf_m_C_addWagon 94 97 (.invokevirtual 62) 24 2 0 0 [] [] = true := by decide +kernel
theorem rf_f_C_addWagon_97 : rf_Fb rf_m_C_addWagon 97 98 (.iadd) 0 0 0 0 [] [] = true := by decide +kernel
theorem rf_f_C_addWagon_98 : rf_Fb rf_m_C_addWagon 98 101 (.invokevirtual 49) 10 1 3 2 [] [] = true := by decide +kernel
theorem rf_f_C_addWagon_101 : rf_Fb rf_m_C_addWagon 101 102 (.return_) 0 0 0 0 [] [] = true := by decide +kernel
set_option maxRecDepth 20000 in
set_option maxHeartbeats 2000000 in
theorem rf_e_C_addWagon (d : Nat) (o : Nat) (a1 : Int) (a2 : Int) (a3 : Int) (h : rf_H) : rf_call (d + 1) 20 [.inr (.inr (some o)), .inl a1, .inl a2, .inl a3] h = ((rf_gR h 0 o 1).bind fun x1 => (rf_nn x1 fun k2 => ((rf_gI h 2 k2 1).bind fun x3 => ((rf_gR h 0 o 1).bind fun x4 => (rf_nn x4 fun k5 => (bif rf_isO h.1 k5 2 then ((rf_call d 10 [.inr (.inr (some k5)), .inl a1] h).bind fun q7 => rf_kV q7 fun h6 => ((rf_gR h6 0 o 2).bind fun x8 => (rf_nn x8 fun k9 => (bif rf_isO h6.1 k9 2 then ((rf_call d 10 [.inr (.inr (some k9)), .inl a2] h6).bind fun q11 => rf_kV q11 fun h10 => ((rf_gR h10 0 o 3).bind fun x12 => (rf_nn x12 fun k13 => (bif rf_isO h10.1 k13 2 then ((rf_call d 10 [.inr (.inr (some k13)), .inl a3] h10).bind fun q15 => rf_kV q15 fun h14 => ((rf_gR h14 0 o 4).bind fun x16 => (bif rf_isO h14.1 o 0 then ((rf_call d 21 [.inr (.inr (some o)), .inl x3] h14).bind fun q18 => rf_kI q18 fun x19 h17 => (bif rf_isO h17.1 o 0 then ((rf_call d 23 [.inr (.inr (some o)), .inl x3] h17).bind fun q21 => rf_kI q21 fun x22 h20 => (rf_nn x16 fun k23 => (bif rf_isO h20.1 k23 2 then ((rf_call d 10 [.inr (.inr (some k23)), .inl (rf_w (x19 - x22))] h20).bind fun q25 => rf_kV q25 fun h24 => ((rf_gR h24 0 o 5).bind fun x26 => ((rf_gR h24 0 o 5).bind fun x27 => (rf_nn x27 fun k28 => (bif rf_isO h24.1 k28 2 then ((rf_call d 4 [.inr (.inr (some k28)), .inl x3] h24).bind fun q30 => rf_kI q30 fun x31 h29 => (bif rf_isO h29.1 o 0 then ((rf_call d 24 [.inr (.inr (some o)), .inl x3, .inl 1] h29).bind fun q33 => rf_kI q33 fun x34 h32 => (rf_nn x26 fun k35 => (bif rf_isO h32.1 k35 2 then ((rf_call d 10 [.inr (.inr (some k35)), .inl (rf_w (x31 + x34))] h32).bind fun q37 => rf_kV q37 fun h36 => ((rf_gR h36 0 o 6).bind fun x38 => ((rf_gR h36 0 o 6).bind fun x39 => (rf_nn x39 fun k40 => (bif rf_isO h36.1 k40 2 then ((rf_call d 4 [.inr (.inr (some k40)), .inl x3] h36).bind fun q42 => rf_kI q42 fun x43 h41 => (bif rf_isO h41.1 o 0 then ((rf_call d 24 [.inr (.inr (some o)), .inl x3, .inl 0] h41).bind fun q45 => rf_kI q45 fun x46 h44 => (rf_nn x38 fun k47 => (bif rf_isO h44.1 k47 2 then ((rf_call d 10 [.inr (.inr (some k47)), .inl (rf_w (x43 + x46))] h44).bind fun q49 => rf_kV q49 fun h48 => some (none, h48)) else none))) else none)) else none))))) else none))) else none)) else none))))) else none))) else none)) else none))) else none)))) else none)))) else none)))))) := by
  show rf_den (rf_call d) (rf_mt 20) _ = _
  rw [rf_u_C_addWagon]
  exact ((rf_s_aload_n rf_f_C_addWagon_0 rfl (rf_m0 _) (rf_s_getAS rf_f_C_addWagon_1 (rf_m0 _) fun x1 => (rf_s_getIR rf_f_C_addWagon_4 (rf_m0 _) fun k2 x3 => (rf_s_istore (L' := [some (.inr (.inr (some o))), some (.inl a1), some (.inl a2), some (.inl a3), some (.inl x3)]) rf_f_C_addWagon_7 rfl (rf_s_aload_n rf_f_C_addWagon_9 rfl (rf_m0 _) (rf_s_getAS rf_f_C_addWagon_10 (rf_m0 _) fun x4 => (rf_s_iload_n rf_f_C_addWagon_13 rfl (rf_m0 _) (rf_s_invV3R rf_f_C_addWagon_14 rfl rfl (rf_m0 _) fun k5 q7 h6 => (rf_s_aload_n rf_f_C_addWagon_17 rfl (rf_m0 _) (rf_s_getAS rf_f_C_addWagon_18 (rf_m0 _) fun x8 => (rf_s_iload_n rf_f_C_addWagon_21 rfl (rf_m0 _) (rf_s_invV3R rf_f_C_addWagon_22 rfl rfl (rf_m0 _) fun k9 q11 h10 => (rf_s_aload_n rf_f_C_addWagon_25 rfl (rf_m0 _) (rf_s_getAS rf_f_C_addWagon_26 (rf_m0 _) fun x12 => (rf_s_iload_n rf_f_C_addWagon_29 rfl (rf_m0 _) (rf_s_invV3R rf_f_C_addWagon_30 rfl rfl (rf_m0 _) fun k13 q15 h14 => (rf_s_aload_n rf_f_C_addWagon_33 rfl (rf_m0 _) (rf_s_getAS rf_f_C_addWagon_34 (rf_m0 _) fun x16 => (rf_s_aload_n rf_f_C_addWagon_37 rfl (rf_m0 _) (rf_s_iload rf_f_C_addWagon_38 rfl (rf_m0 _) (rf_s_invV0S rf_f_C_addWagon_40 rfl rfl (rf_m0 _) fun q18 x19 h17 => (rf_s_aload_n rf_f_C_addWagon_43 rfl (rf_m0 _) (rf_s_iload rf_f_C_addWagon_44 rfl (rf_m0 _) (rf_s_invV0S rf_f_C_addWagon_46 rfl rfl (rf_m0 _) fun q21 x22 h20 => (rf_s_isub rf_f_C_addWagon_49 (rf_m0 _) (rf_s_invV3R rf_f_C_addWagon_50 rfl rfl (rf_m0 _) fun k23 q25 h24 => (rf_s_aload_n rf_f_C_addWagon_53 rfl (rf_m0 _) (rf_s_getAS rf_f_C_addWagon_54 (rf_m0 _) fun x26 => (rf_s_aload_n rf_f_C_addWagon_57 rfl (rf_m0 _) (rf_s_getAS rf_f_C_addWagon_58 (rf_m0 _) fun x27 => (rf_s_iload rf_f_C_addWagon_61 rfl (rf_m0 _) (rf_s_invV0R rf_f_C_addWagon_63 rfl rfl (rf_m0 _) fun k28 q30 x31 h29 => (rf_s_aload_n rf_f_C_addWagon_66 rfl (rf_m0 _) (rf_s_iload rf_f_C_addWagon_67 rfl (rf_m0 _) (rf_s_iconst rf_f_C_addWagon_69 (rf_m0 _) (rf_s_invV0S rf_f_C_addWagon_70 rfl rfl (rf_m0 _) fun q33 x34 h32 => (rf_s_iadd rf_f_C_addWagon_73 (rf_m0 _) (rf_s_invV3R rf_f_C_addWagon_74 rfl rfl (rf_m0 _) fun k35 q37 h36 => (rf_s_aload_n rf_f_C_addWagon_77 rfl (rf_m0 _) (rf_s_getAS rf_f_C_addWagon_78 (rf_m0 _) fun x38 => (rf_s_aload_n rf_f_C_addWagon_81 rfl (rf_m0 _) (rf_s_getAS rf_f_C_addWagon_82 (rf_m0 _) fun x39 => (rf_s_iload rf_f_C_addWagon_85 rfl (rf_m0 _) (rf_s_invV0R rf_f_C_addWagon_87 rfl rfl (rf_m0 _) fun k40 q42 x43 h41 => (rf_s_aload_n rf_f_C_addWagon_90 rfl (rf_m0 _) (rf_s_iload rf_f_C_addWagon_91 rfl (rf_m0 _) (rf_s_iconst rf_f_C_addWagon_93 (rf_m0 _) (rf_s_invV0S rf_f_C_addWagon_94 rfl rfl (rf_m0 _) fun q45 x46 h44 => (rf_s_iadd rf_f_C_addWagon_97 (rf_m0 _) (rf_s_invV3R rf_f_C_addWagon_98 rfl rfl (rf_m0 _) fun k47 q49 h48 => (rf_s_vret rf_f_C_addWagon_101))))))))))))))))))))))))))))))))))))))))))))))))))) : rf_den (rf_call d) rf_m_C_addWagon (0, [some (.inr (.inr (some o))), some (.inl a1), some (.inl a2), some (.inl a3), none], [], h) = _)
theorem rf_u_C_holds : rf_mt 21 = rf_m_C_holds := rfl
theorem rf_f_C_holds_0 : rf_Fb rf_m_C_holds 0 1 (.aload_n 0) 0 0 0 0 [] [] = true := by decide +kernel
theorem rf_f_C_holds_1 : rf_Fb rf_m_C_holds 1 4 (.getfield 26) 0 3 2 0 [] [] = true := by decide +kernel
theorem rf_f_C_holds_4 : rf_Fb rf_m_C_holds 4 5 (.iload_n 1) 0 0 0 0 [] [] = true := by decide +kernel
theorem rf_f_C_holds_5 : rf_Fb rf_m_C_holds 5 8 (.invokevirtual 59) 4 1 0 2 [] [] = true := by decide +kernel
theorem rf_f_C_holds_8 : rf_Fb rf_m_C_holds 8 9 (.istore_n 2) 0 0 0 0 [] [] = true := by decide +kernel
theorem rf_f_C_holds_9 : rf_Fb rf_m_C_holds 9 10 (.aload_n 0) 0 0 0 0 [] [] = true := by decide +kernel
theorem rf_f_C_holds_10 : rf_Fb rf_m_C_holds 10 11 (.iload_n 1) 0 0 0 0 [] [] = true := by decide +kernel
theorem rf_f_C_holds_11 : rf_Fb rf_m_C_holds 11 12 (.iconst 4) 0 0 0 0 [] [] = true := by decide +kernel
theorem rf_f_C_holds_12 : rf_Fb rf_m_C_holds 12 15 (.invokevirtual 78) 22 2 0 0 [] [] = true := by decide +kernel
theorem rf_f_C_holds_15 : rf_Fb rf_m_C_holds 15 18 (.ifCond .eq 9) 24 0 0 0 [] [] = true := by decide +kernel
theorem rf_f_C_holds_18 : rf_Fb rf_m_C_holds 18 19 (.iload_n 2) 0 0 0 0 [] [] = true := by decide +kernel
theorem rf_f_C_holds_19 : rf_Fb rf_m_C_holds 19 20 (.iconst 2) 0 0 0 0 [] [] = true := by decide +kernel
theorem rf_f_C_holds_20 : rf_Fb rf_m_C_holds 20 21 (.idiv) 0 0 0 0 [] [] = true := by decide +kernel
theorem rf_f_C_holds_21 : rf_Fb rf_m_C_holds 21 24 (.goto 4) 25 0 0 0 [] [] = true := by decide +kernel
theorem rf_f_C_holds_24 : rf_Fb rf_m_C_holds 24 25 (.iload_n 2) 0 0 0 0 [] [] = true := by decide +kernel
theorem rf_f_C_holds_25 : rf_Fb rf_m_C_holds 25 26 (.ireturn) 0 0 0 0 [] [] = true := by decide +kernel
set_option maxRecDepth 20000 in
set_option maxHeartbeats 2000000 in
theorem rf_e_C_holds (d : Nat) (o : Nat) (a1 : Int) (h : rf_H) : rf_call (d + 1) 21 [.inr (.inr (some o)), .inl a1] h = ((rf_gR h 0 o 3).bind fun x1 => (rf_nn x1 fun k2 => (bif rf_isO h.1 k2 2 then ((rf_call d 4 [.inr (.inr (some k2)), .inl a1] h).bind fun q4 => rf_kI q4 fun x5 h3 => (bif rf_isO h3.1 o 0 then ((rf_call d 22 [.inr (.inr (some o)), .inl a1, .inl 4] h3).bind fun q7 => rf_kI q7 fun x8 h6 => (if x8 = 0 then some (some (.inl x5), h6) else some (some (.inl (rf_w (Int.tdiv x5 2))), h6))) else none)) else none))) := by
  show rf_den (rf_call d) (rf_mt 21) _ = _
  rw [rf_u_C_holds]
  exact ((rf_s_aload_n rf_f_C_holds_0 rfl (rf_m0 _) (rf_s_getAS rf_f_C_holds_1 (rf_m0 _) fun x1 => (rf_s_iload_n rf_f_C_holds_4 rfl (rf_m0 _) (rf_s_invV0R rf_f_C_holds_5 rfl rfl (rf_m0 _) fun k2 q4 x5 h3 => (rf_s_istore_n (L' := [some (.inr (.inr (some o))), some (.inl a1), some (.inl x5)]) rf_f_C_holds_8 rfl (rf_s_aload_n rf_f_C_holds_9 rfl (rf_m0 _) (rf_s_iload_n rf_f_C_holds_10 rfl (rf_m0 _) (rf_s_iconst rf_f_C_holds_11 (rf_m0 _) (rf_s_invV0S rf_f_C_holds_12 rfl rfl (rf_m0 _) fun q7 x8 h6 => (rf_s_if_eq rf_f_C_holds_15 rfl (rf_m0 _) (rf_m0 _) (rf_s_iload_n rf_f_C_holds_24 rfl (rf_m0 _) (rf_s_iret rf_f_C_holds_25)) (rf_s_iload_n rf_f_C_holds_18 rfl (rf_m0 _) (rf_s_iconst rf_f_C_holds_19 (rf_m0 _) (rf_s_idiv rf_f_C_holds_20 (by decide) (rf_m0 _) (rf_s_goto rf_f_C_holds_21 rfl (rf_m0 _) (rf_s_iret rf_f_C_holds_25))))))))))))))) : rf_den (rf_call d) rf_m_C_holds (0, [some (.inr (.inr (some o))), some (.inl a1), none], [], h) = _)
theorem rf_u_C_isOf : rf_mt 22 = rf_m_C_isOf := rfl
theorem rf_f_C_isOf_0 : rf_Fb rf_m_C_isOf 0 1 (.aload_n 0) 0 0 0 0 [] [] = true := by decide +kernel
theorem rf_f_C_isOf_1 : rf_Fb rf_m_C_isOf 1 4 (.getfield 20) 0 1 2 0 [] [] = true := by decide +kernel
theorem rf_f_C_isOf_4 : rf_Fb rf_m_C_isOf 4 5 (.iload_n 1) 0 0 0 0 [] [] = true := by decide +kernel
theorem rf_f_C_isOf_5 : rf_Fb rf_m_C_isOf 5 8 (.invokevirtual 59) 4 1 0 2 [] [] = true := by decide +kernel
theorem rf_f_C_isOf_8 : rf_Fb rf_m_C_isOf 8 9 (.istore_n 3) 0 0 0 0 [] [] = true := by decide +kernel
theorem rf_f_C_isOf_9 : rf_Fb rf_m_C_isOf 9 10 (.iload_n 3) 0 0 0 0 [] [] = true := by decide +kernel
theorem rf_f_C_isOf_10 : rf_Fb rf_m_C_isOf 10 11 (.iload_n 2) 0 0 0 0 [] [] = true := by decide +kernel
theorem rf_f_C_isOf_11 : rf_Fb rf_m_C_isOf 11 14 (.if_icmp .eq 23) 34 0 0 0 [] [] = true := by decide +kernel
theorem rf_f_C_isOf_14 : rf_Fb rf_m_C_isOf 14 15 (.iload_n 2) 0 0 0 0 [] [] = true := by decide +kernel
theorem rf_f_C_isOf_15 : rf_Fb rf_m_C_isOf 15 16 (.iconst 1) 0 0 0 0 [] [] = true := by decide +kernel
theorem rf_f_C_isOf_16 : rf_Fb rf_m_C_isOf 16 19 (.if_icmp .ne 8) 24 0 0 0 [] [] = true := by decide +kernel
theorem rf_f_C_isOf_19 : rf_Fb rf_m_C_isOf 19 20 (.iload_n 3) 0 0 0 0 [] [] = true := by decide +kernel
theorem rf_f_C_isOf_20 : rf_Fb rf_m_C_isOf 20 21 (.iconst 4) 0 0 0 0 [] [] = true := by decide +kernel
theorem rf_f_C_isOf_21 : rf_Fb rf_m_C_isOf 21 24 (.if_icmp .eq 13) 34 0 0 0 [] [] = true := by decide +kernel
theorem rf_f_C_isOf_24 : rf_Fb rf_m_C_isOf 24 25 (.iload_n 2) 0 0 0 0 [] [] = true := by decide +kernel
theorem rf_f_C_isOf_25 : rf_Fb rf_m_C_isOf 25 26 (.iconst 2) 0 0 0 0 [] [] = true := by decide +kernel
theorem rf_f_C_isOf_26 : rf_Fb rf_m_C_isOf 26 29 (.if_icmp .ne 12) 38 0 0 0 [] [] = true := by decide +kernel
theorem rf_f_C_isOf_29 : rf_Fb rf_m_C_isOf 29 30 (.iload_n 3) 0 0 0 0 [] [] = true := by decide +kernel
theorem rf_f_C_isOf_30 : rf_Fb rf_m_C_isOf 30 31 (.iconst 5) 0 0 0 0 [] [] = true := by decide +kernel
theorem rf_f_C_isOf_31 : rf_Fb rf_m_C_isOf 31 34 (.if_icmp .ne 7) 38 0 0 0 [] [] = true := by decide +kernel
theorem rf_f_C_isOf_34 : rf_Fb rf_m_C_isOf 34 35 (.iconst 1) 0 0 0 0 [] [] = true := by decide +kernel
theorem rf_f_C_isOf_35 : rf_Fb rf_m_C_isOf 35 38 (.goto 4) 39 0 0 0 [] [] = true := by decide +kernel
theorem rf_f_C_isOf_38 : rf_Fb rf_m_C_isOf 38 39 (.iconst 0) 0 0 0 0 [] [] = true := by decide +kernel
theorem rf_f_C_isOf_39 : rf_Fb rf_m_C_isOf 39 40 (.ireturn) 0 0 1 0 [] [] = true := by decide +kernel
set_option maxRecDepth 20000 in
set_option maxHeartbeats 2000000 in
theorem rf_e_C_isOf (d : Nat) (o : Nat) (a1 : Int) (a2 : Int) (h : rf_H) : rf_call (d + 1) 22 [.inr (.inr (some o)), .inl a1, .inl a2] h = ((rf_gR h 0 o 1).bind fun x1 => (rf_nn x1 fun k2 => (bif rf_isO h.1 k2 2 then ((rf_call d 4 [.inr (.inr (some k2)), .inl a1] h).bind fun q4 => rf_kI q4 fun x5 h3 => (if x5 = a2 then some (some (.inl 1), h3) else (if a2 = 1 then (if x5 = 4 then some (some (.inl 1), h3) else (if a2 = 2 then (if x5 = 5 then some (some (.inl 1), h3) else some (some (.inl 0), h3)) else some (some (.inl 0), h3))) else (if a2 = 2 then (if x5 = 5 then some (some (.inl 1), h3) else some (some (.inl 0), h3)) else some (some (.inl 0), h3))))) else none))) := by
  show rf_den (rf_call d) (rf_mt 22) _ = _
  rw [rf_u_C_isOf]
  exact ((rf_s_aload_n rf_f_C_isOf_0 rfl (rf_m0 _) (rf_s_getAS rf_f_C_isOf_1 (rf_m0 _) fun x1 => (rf_s_iload_n rf_f_C_isOf_4 rfl (rf_m0 _) (rf_s_invV0R rf_f_C_isOf_5 rfl rfl (rf_m0 _) fun k2 q4 x5 h3 => (rf_s_istore_n (L' := [some (.inr (.inr (some o))), some (.inl a1), some (.inl a2), some (.inl x5)]) rf_f_C_isOf_8 rfl (rf_s_iload_n rf_f_C_isOf_9 rfl (rf_m0 _) (rf_s_iload_n rf_f_C_isOf_10 rfl (rf_m0 _) (rf_s_icmp_eq rf_f_C_isOf_11 rfl (rf_m0 _) (rf_m0 _) (rf_s_iconst rf_f_C_isOf_34 (rf_m0 _) (rf_s_goto rf_f_C_isOf_35 rfl (rf_m0 _) (rf_s_zretK rf_f_C_isOf_39 (by decide)))) (rf_s_iload_n rf_f_C_isOf_14 rfl (rf_m0 _) (rf_s_iconst rf_f_C_isOf_15 (rf_m0 _) (rf_s_icmp_ne rf_f_C_isOf_16 rfl (rf_m0 _) (rf_m0 _) (rf_s_iload_n rf_f_C_isOf_24 rfl (rf_m0 _) (rf_s_iconst rf_f_C_isOf_25 (rf_m0 _) (rf_s_icmp_ne rf_f_C_isOf_26 rfl (rf_m0 _) (rf_m0 _) (rf_s_iconst rf_f_C_isOf_38 (rf_m0 _) (rf_s_zretK rf_f_C_isOf_39 (by decide))) (rf_s_iload_n rf_f_C_isOf_29 rfl (rf_m0 _) (rf_s_iconst rf_f_C_isOf_30 (rf_m0 _) (rf_s_icmp_ne rf_f_C_isOf_31 rfl (rf_m0 _) (rf_m0 _) (rf_s_iconst rf_f_C_isOf_38 (rf_m0 _) (rf_s_zretK rf_f_C_isOf_39 (by decide))) (rf_s_iconst rf_f_C_isOf_34 (rf_m0 _) (rf_s_goto rf_f_C_isOf_35 rfl (rf_m0 _) (rf_s_zretK rf_f_C_isOf_39 (by decide)))))))))) (rf_s_iload_n rf_f_C_isOf_19 rfl (rf_m0 _) (rf_s_iconst rf_f_C_isOf_20 (rf_m0 _) (rf_s_icmp_eq rf_f_C_isOf_21 rfl (rf_m0 _) (rf_m0 _) (rf_s_iconst rf_f_C_isOf_34 (rf_m0 _) (rf_s_goto rf_f_C_isOf_35 rfl (rf_m0 _) (rf_s_zretK rf_f_C_isOf_39 (by decide)))) (rf_s_iload_n rf_f_C_isOf_24 rfl (rf_m0 _) (rf_s_iconst rf_f_C_isOf_25 (rf_m0 _) (rf_s_icmp_ne rf_f_C_isOf_26 rfl (rf_m0 _) (rf_m0 _) (rf_s_iconst rf_f_C_isOf_38 (rf_m0 _) (rf_s_zretK rf_f_C_isOf_39 (by decide))) (rf_s_iload_n rf_f_C_isOf_29 rfl (rf_m0 _) (rf_s_iconst rf_f_C_isOf_30 (rf_m0 _) (rf_s_icmp_ne rf_f_C_isOf_31 rfl (rf_m0 _) (rf_m0 _) (rf_s_iconst rf_f_C_isOf_38 (rf_m0 _) (rf_s_zretK rf_f_C_isOf_39 (by decide))) (rf_s_iconst rf_f_C_isOf_34 (rf_m0 _) (rf_s_goto rf_f_C_isOf_35 rfl (rf_m0 _) (rf_s_zretK rf_f_C_isOf_39 (by decide)))))))))))))))))))))))) : rf_den (rf_call d) rf_m_C_isOf (0, [some (.inr (.inr (some o))), some (.inl a1), some (.inl a2), none], [], h) = _)
theorem rf_u_C_slackness : rf_mt 23 = rf_m_C_slackness := rfl
theorem rf_f_C_slackness_0 : rf_Fb rf_m_C_slackness 0 1 (.aload_n 0) 0 0 0 0 [] [] = true := by decide +kernel
theorem rf_f_C_slackness_1 : rf_Fb rf_m_C_slackness 1 2 (.iload_n 1) 0 0 0 0 [] [] = true := by decide +kernel
theorem rf_f_C_slackness_2 : rf_Fb rf_m_C_slackness 2 3 (.iconst 2) 0 0 0 0 [] [] = true := by decide +kernel
theorem rf_f_C_slackness_3 : rf_Fb rf_m_C_slackness 3 6 (.invokevirtual 78) 22 2 0 0 [] [] = true := by decide +kernel
theorem rf_f_C_slackness_6 : rf_Fb rf_m_C_slackness 6 9 (.ifCond .eq 7) 13 0 0 0 [] [] = true := by decide +kernel
theorem rf_f_C_slackness_9 : rf_Fb rf_m_C_slackness 9 10 (.iconst 2) 0 0 0 0 [] [] = true := by decide +kernel
theorem rf_f_C_slackness_10 : rf_Fb rf_m_C_slackness 10 13 (.goto 4) 14 0 0 0 [] [] = true := by decide +kernel
theorem rf_f_C_slackness_13 : rf_Fb rf_m_C_slackness 13 14 (.iconst 0) 0 0 0 0 [] [] = true := by decide +kernel
theorem rf_f_C_slackness_14 : rf_Fb rf_m_C_slackness 14 15 (.ireturn) 0 0 0 0 [] [] = true := by decide +kernel
set_option maxRecDepth 20000 in
set_option maxHeartbeats 2000000 in
theorem rf_e_C_slackness (d : Nat) (o : Nat) (a1 : Int) (h : rf_H) : rf_call (d + 1) 23 [.inr (.inr (some o)), .inl a1] h = (bif rf_isO h.1 o 0 then ((rf_call d 22 [.inr (.inr (some o)), .inl a1, .inl 2] h).bind fun q2 => rf_kI q2 fun x3 h1 => (if x3 = 0 then some (some (.inl 0), h1) else some (some (.inl 2), h1))) else none) := by
  show rf_den (rf_call d) (rf_mt 23) _ = _
  rw [rf_u_C_slackness]
  exact ((rf_s_aload_n rf_f_C_slackness_0 rfl (rf_m0 _) (rf_s_iload_n rf_f_C_slackness_1 rfl (rf_m0 _) (rf_s_iconst rf_f_C_slackness_2 (rf_m0 _) (rf_s_invV0S rf_f_C_slackness_3 rfl rfl (rf_m0 _) fun q2 x3 h1 => (rf_s_if_eq rf_f_C_slackness_6 rfl (rf_m0 _) (rf_m0 _) (rf_s_iconst rf_f_C_slackness_13 (rf_m0 _) (rf_s_iret rf_f_C_slackness_14)) (rf_s_iconst rf_f_C_slackness_9 (rf_m0 _) (rf_s_goto rf_f_C_slackness_10 rfl (rf_m0 _) (rf_s_iret rf_f_C_slackness_14)))))))) : rf_den (rf_call d) rf_m_C_slackness (0, [some (.inr (.inr (some o))), some (.inl a1)], [], h) = _)
theorem rf_u_C_weighs : rf_mt 24 = rf_m_C_weighs := rfl
theorem rf_f_C_weighs_0 : rf_Fb rf_m_C_weighs 0 1 (.aload_n 0) 0 0 0 0 [] [] = true := by decide +kernel
theorem rf_f_C_weighs_1 : rf_Fb rf_m_C_weighs 1 4 (.getfield 23) 0 2 2 0 [] [] = true := by decide +kernel
theorem rf_f_C_weighs_4 : rf_Fb rf_m_C_weighs 4 5 (.iload_n 1) 0 0 0 0 [] [] = true := by decide +kernel
theorem rf_f_C_weighs_5 : rf_Fb rf_m_C_weighs 5 8 (.invokevirtual 59) 4 1 0 2 [] [] = true := by decide +kernel
theorem rf_f_C_weighs_8 : rf_Fb rf_m_C_weighs 8 9 (.istore_n 3) 0 0 0 0 [] [] = true := by decide +kernel
theorem rf_f_C_weighs_9 : rf_Fb rf_m_C_weighs 9 10 (.aload_n 0) 0 0 0 0 [] [] = true := by decide +kernel
theorem rf_f_C_weighs_10 : rf_Fb rf_m_C_weighs 10 13 (.getfield 20) 0 1 2 0 [] [] = true := by decide +kernel
theorem rf_f_C_weighs_13 : rf_Fb rf_m_C_weighs 13 14 (.iload_n 1) 0 0 0 0 [] [] = true := by decide +kernel
theorem rf_f_C_weighs_14 : rf_Fb rf_m_C_weighs 14 17 (.invokevirtual 59) 4 1 0 2 [] [] = true := by decide +kernel
theorem rf_f_C_weighs_17 : rf_Fb rf_m_C_weighs 17 52 (.tableswitch 74 1 5 #[35, 74, 44, 35, 57]) 91 0 0 1 [52, 91, 61, 52, 74] [] = true := by decide +kernel
theorem rf_f_C_weighs_52 : rf_Fb rf_m_C_weighs 52 53 (.iconst 2) 0 0 0 0 [] [] = true := by decide +kernel
theorem rf_f_C_weighs_53 : rf_Fb rf_m_C_weighs 53 54 (.iload_n 3) 0 0 0 0 [] [] = true := by decide +kernel
theorem rf_f_C_weighs_54 : rf_Fb rf_m_C_weighs 54 55 (.imul) 0 0 0 0 [] [] = true := by decide +kernel
theorem rf_f_C_weighs_55 : rf_Fb rf_m_C_weighs 55 56 (.aload_n 0) 0 0 0 0 [] [] = true := by decide +kernel
theorem rf_f_C_weighs_56 : rf_Fb rf_m_C_weighs 56 59 (.getfield 72) 0 10 0 0 [] [] = true := by decide +kernel
theorem rf_f_C_weighs_59 : rf_Fb rf_m_C_weighs 59 60 (.iadd) 0 0 0 0 [] [] = true := by decide +kernel
theorem rf_f_C_weighs_60 : rf_Fb rf_m_C_weighs 60 61 (.ireturn) 0 0 0 0 [] [] = true := by decide +kernel
theorem rf_f_C_weighs_61 : rf_Fb rf_m_C_weighs 61 62 (.iconst 0) 0 0 0 0 [] [] = true := by decide +kernel
theorem rf_f_C_weighs_62 : rf_Fb rf_m_C_weighs 62 63 (.iload_n 3) 0 0 0 0 [] [] = true := by decide +kernel
theorem rf_f_C_weighs_63 : rf_Fb rf_m_C_weighs 63 64 (.iconst 2) 0 0 0 0 [] [] = true := by decide +kernel
theorem rf_f_C_weighs_64 : rf_Fb rf_m_C_weighs 64 65 (.isub) 0 0 0 0 [] [] = true := by decide +kernel
theorem rf_f_C_weighs_65 : rf_Fb rf_m_C_weighs 65 68 (.invokestatic 75) 13 2 0 0 [] [] = true := by decide +kernel
theorem rf_f_C_weighs_68 : rf_Fb rf_m_C_weighs 68 69 (.aload_n 0) 0 0 0 0 [] [] = true := by decide +kernel
theorem rf_f_C_weighs_69 : rf_Fb rf_m_C_weighs 69 72 (.getfield 72) 0 10 0 0 [] [] = true := by decide +kernel
theorem rf_f_C_weighs_72 : rf_Fb rf_m_C_weighs 72 73 (.iadd) 0 0 0 0 [] [] = true := by decide +kernel
theorem rf_f_C_weighs_73 : rf_Fb rf_m_C_weighs 73 74 (.ireturn) 0 0 0 0 [] [] = true := by decide +kernel
theorem rf_f_C_weighs_74 : rf_Fb rf_m_C_weighs 74 75 (.iload_n 3) 0 0 0 0 [] [] = true := by decide +kernel
theorem rf_f_C_weighs_75 : rf_Fb rf_m_C_weighs 75 76 (.iload_n 2) 0 0 0 0 [] [] = true := by decide +kernel
theorem rf_f_C_weighs_76 : rf_Fb rf_m_C_weighs 76 79 (.ifCond .eq 7) 83 0 0 0 [] [] = true := by decide +kernel
theorem rf_f_C_weighs_79 : rf_Fb rf_m_C_weighs 79 80 (.iconst 3) 0 0 0 0 [] [] = true := by decide +kernel
theorem rf_f_C_weighs_80 : rf_Fb rf_m_C_weighs 80 83 (.goto 4) 84 0 0 0 [] [] = true := by decide +kernel
theorem rf_f_C_weighs_83 : rf_Fb rf_m_C_weighs 83 84 (.iconst 0) 0 0 0 0 [] [] = true := by decide +kernel
theorem rf_f_C_weighs_84 : rf_Fb rf_m_C_weighs 84 85 (.iadd) 0 0 0 0 [] [] = true := by decide +kernel
theorem rf_f_C_weighs_85 : rf_Fb rf_m_C_weighs 85 86 (.aload_n 0) 0 0 0 0 [] [] = true := by decide +kernel
theorem rf_f_C_weighs_86 : rf_Fb rf_m_C_weighs 86 89 (.getfield 72) 0 10 0 0 [] [] = true := by decide +kernel
theorem rf_f_C_weighs_89 : rf_Fb rf_m_C_weighs 89 90 (.iadd) 0 0 0 0 [] [] = true := by decide +kernel
theorem rf_f_C_weighs_90 : rf_Fb rf_m_C_weighs 90 91 (.ireturn) 0 0 0 0 [] [] = true := by decide +kernel
theorem rf_f_C_weighs_91 : rf_Fb rf_m_C_weighs 91 92 (.iload_n 3) 0 0 0 0 [] [] = true := by decide +kernel
theorem rf_f_C_weighs_92 : rf_Fb rf_m_C_weighs 92 93 (.aload_n 0) 0 0 0 0 [] [] = true := by decide +kernel
theorem rf_f_C_weighs_93 : rf_Fb rf_m_C_weighs 93 96 (.getfield 72) 0 10 0 0 [] [] = true := by decide +kernel
theorem rf_f_C_weighs_96 : rf_Fb rf_m_C_weighs 96 97 (.iadd) 0 0 0 0 [] [] = true := by decide +kernel
theorem rf_f_C_weighs_97 : rf_Fb rf_m_C_weighs 97 98 (.ireturn) 0 0 0 0 [] [] = true := by decide +kernel
set_option maxRecDepth 20000 in
set_option maxHeartbeats 2000000 in
theorem rf_e_C_weighs (d : Nat) (o : Nat) (a1 : Int) (a2 : Int) (h : rf_H) : rf_call (d + 1) 24 [.inr (.inr (some o)), .inl a1, .inl a2] h = ((rf_gR h 0 o 2).bind fun x1 => (rf_nn x1 fun k2 => (bif rf_isO h.1 k2 2 then ((rf_call d 4 [.inr (.inr (some k2)), .inl a1] h).bind fun q4 => rf_kI q4 fun x5 h3 => ((rf_gR h3 0 o 1).bind fun x6 => (rf_nn x6 fun k7 => (bif rf_isO h3.1 k7 2 then ((rf_call d 4 [.inr (.inr (some k7)), .inl a1] h3).bind fun q9 => rf_kI q9 fun x10 h8 => (if x10 = 1 then ((rf_gI h8 0 o 10).bind fun x20 => some (some (.inl (rf_w ((rf_w (2 * x5)) + x20))), h8)) else (if x10 = (1 + 1) then ((rf_gI h8 0 o 10).bind fun x19 => some (some (.inl (rf_w (x5 + x19))), h8)) else (if x10 = ((1 + 1) + 1) then ((rf_call d 13 [.inl 0, .inl (rf_w (x5 - 2))] h8).bind fun q16 => rf_kI q16 fun x17 h15 => ((rf_gI h15 0 o 10).bind fun x18 => some (some (.inl (rf_w (x17 + x18))), h15))) else (if x10 = (((1 + 1) + 1) + 1) then ((rf_gI h8 0 o 10).bind fun x14 => some (some (.inl (rf_w ((rf_w (2 * x5)) + x14))), h8)) else (if x10 = ((((1 + 1) + 1) + 1) + 1) then (if a2 = 0 then ((rf_gI h8 0 o 10).bind fun x12 => some (some (.inl (rf_w ((rf_w (x5 + 0)) + x12))), h8)) else ((rf_gI h8 0 o 10).bind fun x13 => some (some (.inl (rf_w ((rf_w (x5 + 3)) + x13))), h8))) else ((rf_gI h8 0 o 10).bind fun x11 => some (some (.inl (rf_w (x5 + x11))), h8)))))))) else none)))) else none))) := by
  show rf_den (rf_call d) (rf_mt 24) _ = _
  rw [rf_u_C_weighs]
  exact ((rf_s_aload_n rf_f_C_weighs_0 rfl (rf_m0 _) (rf_s_getAS rf_f_C_weighs_1 (rf_m0 _) fun x1 => (rf_s_iload_n rf_f_C_weighs_4 rfl (rf_m0 _) (rf_s_invV0R rf_f_C_weighs_5 rfl rfl (rf_m0 _) fun k2 q4 x5 h3 => (rf_s_istore_n (L' := [some (.inr (.inr (some o))), some (.inl a1), some (.inl a2), some (.inl x5)]) rf_f_C_weighs_8 rfl (rf_s_aload_n rf_f_C_weighs_9 rfl (rf_m0 _) (rf_s_getAS rf_f_C_weighs_10 (rf_m0 _) fun x6 => (rf_s_iload_n rf_f_C_weighs_13 rfl (rf_m0 _) (rf_s_invV0R rf_f_C_weighs_14 rfl rfl (rf_m0 _) fun k7 q9 x10 h8 => (rf_s_tsw rf_f_C_weighs_17 (rf_tsw_c (rf_tsw_g rfl (rf_m0 _) (rf_s_iconst rf_f_C_weighs_52 (rf_m0 _) (rf_s_iload_n rf_f_C_weighs_53 rfl (rf_m0 _) (rf_s_imul rf_f_C_weighs_54 (rf_m0 _) (rf_s_aload_n rf_f_C_weighs_55 rfl (rf_m0 _) (rf_s_getIS rf_f_C_weighs_56 (rf_m0 _) fun x20 => (rf_s_iadd rf_f_C_weighs_59 (rf_m0 _) (rf_s_iret rf_f_C_weighs_60)))))))) (rf_tsw_c (rf_tsw_g rfl (rf_m0 _) (rf_s_iload_n rf_f_C_weighs_91 rfl (rf_m0 _) (rf_s_aload_n rf_f_C_weighs_92 rfl (rf_m0 _) (rf_s_getIS rf_f_C_weighs_93 (rf_m0 _) fun x19 => (rf_s_iadd rf_f_C_weighs_96 (rf_m0 _) (rf_s_iret rf_f_C_weighs_97)))))) (rf_tsw_c (rf_tsw_g rfl (rf_m0 _) (rf_s_iconst rf_f_C_weighs_61 (rf_m0 _) (rf_s_iload_n rf_f_C_weighs_62 rfl (rf_m0 _) (rf_s_iconst rf_f_C_weighs_63 (rf_m0 _) (rf_s_isub rf_f_C_weighs_64 (rf_m0 _) (rf_s_invS0 rf_f_C_weighs_65 rfl rfl (rf_m0 _) fun q16 x17 h15 => (rf_s_aload_n rf_f_C_weighs_68 rfl (rf_m0 _) (rf_s_getIS rf_f_C_weighs_69 (rf_m0 _) fun x18 => (rf_s_iadd rf_f_C_weighs_72 (rf_m0 _) (rf_s_iret rf_f_C_weighs_73)))))))))) (rf_tsw_c (rf_tsw_g rfl (rf_m0 _) (rf_s_iconst rf_f_C_weighs_52 (rf_m0 _) (rf_s_iload_n rf_f_C_weighs_53 rfl (rf_m0 _) (rf_s_imul rf_f_C_weighs_54 (rf_m0 _) (rf_s_aload_n rf_f_C_weighs_55 rfl (rf_m0 _) (rf_s_getIS rf_f_C_weighs_56 (rf_m0 _) fun x14 => (rf_s_iadd rf_f_C_weighs_59 (rf_m0 _) (rf_s_iret rf_f_C_weighs_60)))))))) (rf_tsw_c (rf_tsw_g rfl (rf_m0 _) (rf_s_iload_n rf_f_C_weighs_74 rfl (rf_m0 _) (rf_s_iload_n rf_f_C_weighs_75 rfl (rf_m0 _) (rf_s_if_eq rf_f_C_weighs_76 rfl (rf_m0 _) (rf_m0 _) (rf_s_iconst rf_f_C_weighs_83 (rf_m0 _) (rf_s_iadd rf_f_C_weighs_84 (rf_m0 _) (rf_s_aload_n rf_f_C_weighs_85 rfl (rf_m0 _) (rf_s_getIS rf_f_C_weighs_86 (rf_m0 _) fun x12 => (rf_s_iadd rf_f_C_weighs_89 (rf_m0 _) (rf_s_iret rf_f_C_weighs_90)))))) (rf_s_iconst rf_f_C_weighs_79 (rf_m0 _) (rf_s_goto rf_f_C_weighs_80 rfl (rf_m0 _) (rf_s_iadd rf_f_C_weighs_84 (rf_m0 _) (rf_s_aload_n rf_f_C_weighs_85 rfl (rf_m0 _) (rf_s_getIS rf_f_C_weighs_86 (rf_m0 _) fun x13 => (rf_s_iadd rf_f_C_weighs_89 (rf_m0 _) (rf_s_iret rf_f_C_weighs_90))))))))))) (rf_tsw_n (rf_tsw_g rfl (rf_m0 _) (rf_s_iload_n rf_f_C_weighs_91 rfl (rf_m0 _) (rf_s_aload_n rf_f_C_weighs_92 rfl (rf_m0 _) (rf_s_getIS rf_f_C_weighs_93 (rf_m0 _) fun x11 => (rf_s_iadd rf_f_C_weighs_96 (rf_m0 _) (rf_s_iret rf_f_C_weighs_97)))))))))))))))))))))) : rf_den (rf_call d) rf_m_C_weighs (0, [some (.inr (.inr (some o))), some (.inl a1), some (.inl a2), none], [], h) = _)
theorem rf_u_C_railAt : rf_mt 25 = rf_m_C_railAt := rfl
theorem rf_f_C_railAt_0 : rf_Fb rf_m_C_railAt 0 1 (.aload_n 0) 0 0 0 0 [] [] = true := by decide +kernel
theorem rf_f_C_railAt_1 : rf_Fb rf_m_C_railAt 1 4 (.getfield 14) 0 0 2 0 [] [] = true := by decide +kernel
theorem rf_f_C_railAt_4 : rf_Fb rf_m_C_railAt 4 7 (.getfield 45) 2 1 0 0 [] [] = true := by decide +kernel
theorem rf_f_C_railAt_7 : rf_Fb rf_m_C_railAt 7 10 (.ifCond .le 24) 31 0 0 0 [] [] = true := by decide +kernel
theorem rf_f_C_railAt_10 : rf_Fb rf_m_C_railAt 10 11 (.aload_n 0) 0 0 0 0 [] [] = true := by decide +kernel
theorem rf_f_C_railAt_11 : rf_Fb rf_m_C_railAt 11 14 (.getfield 14) 0 0 2 0 [] [] = true := by decide +kernel
theorem rf_f_C_railAt_14 : rf_Fb rf_m_C_railAt 14 15 (.iload_n 1) 0 0 0 0 [] [] = true := by decide +kernel
theorem rf_f_C_railAt_15 : rf_Fb rf_m_C_railAt 15 16 (.aload_n 0) 0 0 0 0 [] [] = true := by decide +kernel
theorem rf_f_C_railAt_16 : rf_Fb rf_m_C_railAt 16 19 (.getfield 14) 0 0 2 0 [] [] = true := by decide +kernel
theorem rf_f_C_railAt_19 : rf_Fb rf_m_C_railAt 19 22 (.getfield 45) 2 1 0 0 [] [] = true := by decide +kernel
theorem rf_f_C_railAt_22 : rf_Fb rf_m_C_railAt 22 25 (.invokestatic 66) 15 2 0 0 [] [] = true := by decide +kernel
theorem rf_f_C_railAt_25 : rf_Fb rf_m_C_railAt 25 28 (.invokevirtual 59) 4 1 0 2 [] [] = true := by decide +kernel
theorem rf_f_C_railAt_28 : rf_Fb rf_m_C_railAt 28 31 (.goto 4) 32 0 0 0 [] [] = true := by decide +kernel
theorem rf_f_C_railAt_31 : rf_Fb rf_m_C_railAt 31 32 (.iconst 0) 0 0 0 0 [] [] = true := by decide +kernel
theorem rf_f_C_railAt_32 : rf_Fb rf_m_C_railAt 32 33 (.ireturn) 0 0 0 0 [] [] = true := by decide +kernel
set_option maxRecDepth 20000 in
set_option maxHeartbeats 2000000 in
theorem rf_e_C_railAt (d : Nat) (o : Nat) (a1 : Int) (h : rf_H) : rf_call (d + 1) 25 [.inr (.inr (some o)), .inl a1] h = ((rf_gR h 0 o 0).bind fun x1 => (rf_nn x1 fun k2 => ((rf_gI h 2 k2 1).bind fun x3 => (if 0 < x3 then ((rf_gR h 0 o 0).bind fun x4 => ((rf_gR h 0 o 0).bind fun x5 => (rf_nn x5 fun k6 => ((rf_gI h 2 k6 1).bind fun x7 => ((rf_call d 15 [.inl a1, .inl x7] h).bind fun q9 => rf_kI q9 fun x10 h8 => (rf_nn x4 fun k11 => (bif rf_isO h8.1 k11 2 then ((rf_call d 4 [.inr (.inr (some k11)), .inl x10] h8).bind fun q13 => rf_kI q13 fun x14 h12 => some (some (.inl x14), h12)) else none))))))) else some (some (.inl 0), h))))) := by
  show rf_den (rf_call d) (rf_mt 25) _ = _
  rw [rf_u_C_railAt]
  exact ((rf_s_aload_n rf_f_C_railAt_0 rfl (rf_m0 _) (rf_s_getAS rf_f_C_railAt_1 (rf_m0 _) fun x1 => (rf_s_getIR rf_f_C_railAt_4 (rf_m0 _) fun k2 x3 => (rf_s_if_le rf_f_C_railAt_7 rfl (rf_m0 _) (rf_m0 _) (rf_s_iconst rf_f_C_railAt_31 (rf_m0 _) (rf_s_iret rf_f_C_railAt_32)) (rf_s_aload_n rf_f_C_railAt_10 rfl (rf_m0 _) (rf_s_getAS rf_f_C_railAt_11 (rf_m0 _) fun x4 => (rf_s_iload_n rf_f_C_railAt_14 rfl (rf_m0 _) (rf_s_aload_n rf_f_C_railAt_15 rfl (rf_m0 _) (rf_s_getAS rf_f_C_railAt_16 (rf_m0 _) fun x5 => (rf_s_getIR rf_f_C_railAt_19 (rf_m0 _) fun k6 x7 => (rf_s_invS0 rf_f_C_railAt_22 rfl rfl (rf_m0 _) fun q9 x10 h8 => (rf_s_invV0R rf_f_C_railAt_25 rfl rfl (rf_m0 _) fun k11 q13 x14 h12 => (rf_s_goto rf_f_C_railAt_28 rfl (rf_m0 _) (rf_s_iret rf_f_C_railAt_32)))))))))))))) : rf_den (rf_call d) rf_m_C_railAt (0, [some (.inr (.inr (some o))), some (.inl a1)], [], h) = _)
noncomputable def rf_j_C_manyOf_5 (d : Nat) (o : Nat) (l1 : Int) (l2 : Int) (l3 : Int) (l4 : Int) (h : rf_H) : Option rf_R := rf_den (rf_call d) rf_m_C_manyOf (5, [some (.inr (.inr (some o))), some (.inl l1), some (.inl l2), some (.inl l3), some (.inl l4)], [], h)
theorem rf_u_C_manyOf : rf_mt 26 = rf_m_C_manyOf := rfl
theorem rf_f_C_manyOf_0 : rf_Fb rf_m_C_manyOf 0 1 (.iconst 0) 0 0 0 0 [] [] = true := by decide +kernel
theorem rf_f_C_manyOf_1 : rf_Fb rf_m_C_manyOf 1 2 (.istore_n 3) 0 0 0 0 [] [] = true := by decide +kernel
theorem rf_f_C_manyOf_2 : rf_Fb rf_m_C_manyOf 2 3 (.iconst 0) 0 0 0 0 [] [] = true := by decide +kernel
theorem rf_f_C_manyOf_3 : rf_Fb rf_m_C_manyOf 3 5 (.istore 4) 0 0 0 0 [] [true, true, true, true, true] = true := by decide +kernel
theorem rf_f_C_manyOf_5 : rf_Fb rf_m_C_manyOf 5 7 (.iload 4) 0 0 0 0 [] [] = true := by decide +kernel
theorem rf_f_C_manyOf_7 : rf_Fb rf_m_C_manyOf 7 8 (.iload_n 2) 0 0 0 0 [] [] = true := by decide +kernel
theorem rf_f_C_manyOf_8 : rf_Fb rf_m_C_manyOf 8 11 (.if_icmp .ge 39) 47 0 0 0 [] [] = true := by decide +kernel
theorem rf_f_C_manyOf_11 : rf_Fb rf_m_C_manyOf 11 13 (.iload 4) 0 0 0 0 [] [] = true := by decide +kernel
theorem rf_f_C_manyOf_13 : rf_Fb rf_m_C_manyOf 13 14 (.aload_n 0) 0 0 0 0 [] [] = true := by decide +kernel
theorem rf_f_C_manyOf_14 : rf_Fb rf_m_C_manyOf 14 17 (.getfield 20) 0 1 2 0 [] [] = true := by decide +kernel
theorem rf_f_C_manyOf_17 : rf_Fb rf_m_C_manyOf 17 20 (.getfield 45) 2 1 0 0 [] [] = true := by decide +kernel
theorem rf_f_C_manyOf_20 : rf_Fb rf_m_C_manyOf 20 23 (.if_icmp .ge 27) 47 0 0 0 [] [] = true := by decide +kernel
theorem rf_f_C_manyOf_23 : rf_Fb rf_m_C_manyOf 23 24 (.iload_n 3) 0 0 0 0 [] [] = true := by decide +kernel
theorem rf_f_C_manyOf_24 : rf_Fb rf_m_C_manyOf 24 25 (.aload_n 0) 0 0 0 0 [] [] = true := by decide +kernel
theorem rf_f_C_manyOf_25 : rf_Fb rf_m_C_manyOf 25 27 (.iload 4) 0 0 0 0 [] [] = true := by decide +kernel
theorem rf_f_C_manyOf_27 : rf_Fb rf_m_C_manyOf 27 28 (.iload_n 1) 0 0 0 0 [] [] = true := by decide +kernel
theorem rf_f_C_manyOf_28 : rf_Fb rf_m_C_manyOf 28 31 (.invokevirtual 78) 22 2 0 0 [] [] = true := by decide +kernel
theorem rf_f_C_manyOf_31 : rf_Fb rf_m_C_manyOf 31 34 (.ifCond .eq 7) 38 0 0 0 [] [] = true := by decide +kernel
theorem rf_f_C_manyOf_34 : rf_Fb rf_m_C_manyOf 34 35 (.iconst 1) 0 0 0 0 [] [] = true := by decide +kernel
theorem rf_f_C_manyOf_35 : rf_Fb rf_m_C_manyOf 35 38 (.goto 4) 39 0 0 0 [] [] = true := by decide +kernel
theorem rf_f_C_manyOf_38 : rf_Fb rf_m_C_manyOf 38 39 (.iconst 0) 0 0 0 0 [] [] = true := by decide +kernel
theorem rf_f_C_manyOf_39 : rf_Fb rf_m_C_manyOf 39 40 (.iadd) 0 0 0 0 [] [] = true := by decide +kernel
theorem rf_f_C_manyOf_40 : rf_Fb rf_m_C_manyOf 40 41 (.istore_n 3) 0 0 0 0 [] [] = true := by decide +kernel
theorem rf_f_C_manyOf_41 : rf_Fb rf_m_C_manyOf 41 44 (.iinc 4 1) 0 0 0 0 [] [] = true := by decide +kernel
theorem rf_f_C_manyOf_44 : rf_Fb rf_m_C_manyOf 44 47 (.goto (-39)) 5 0 0 0 [] [] = true := by decide +kernel
theorem rf_f_C_manyOf_47 : rf_Fb rf_m_C_manyOf 47 48 (.iload_n 3) 0 0 0 0 [] [] = true := by decide +kernel
theorem rf_f_C_manyOf_48 : rf_Fb rf_m_C_manyOf 48 49 (.ireturn) 0 0 0 0 [] [] = true := by decide +kernel
set_option maxRecDepth 20000 in
set_option maxHeartbeats 2000000 in
theorem rf_e_C_manyOf (d : Nat) (o : Nat) (a1 : Int) (a2 : Int) (h : rf_H) : rf_call (d + 1) 26 [.inr (.inr (some o)), .inl a1, .inl a2] h = rf_j_C_manyOf_5 d o a1 a2 0 0 h := by
  show rf_den (rf_call d) (rf_mt 26) _ = _
  rw [rf_u_C_manyOf]
  exact ((rf_s_iconst rf_f_C_manyOf_0 (rf_m0 _) (rf_s_istore_n (L' := [some (.inr (.inr (some o))), some (.inl a1), some (.inl a2), some (.inl 0), none]) rf_f_C_manyOf_1 rfl (rf_s_iconst rf_f_C_manyOf_2 (rf_m0 _) (rf_s_istore rf_f_C_manyOf_3 rfl rfl)))) : rf_den (rf_call d) rf_m_C_manyOf (0, [some (.inr (.inr (some o))), some (.inl a1), some (.inl a2), none, none], [], h) = _)
set_option maxRecDepth 20000 in
set_option maxHeartbeats 2000000 in
theorem rf_e_C_manyOf_5 (d : Nat) (o : Nat) (l1 : Int) (l2 : Int) (l3 : Int) (l4 : Int) (h : rf_H) : rf_j_C_manyOf_5 d o l1 l2 l3 l4 h = (if l4 < l2 then ((rf_gR h 0 o 1).bind fun x1 => (rf_nn x1 fun k2 => ((rf_gI h 2 k2 1).bind fun x3 => (if l4 < x3 then (bif rf_isO h.1 o 0 then ((rf_call d 22 [.inr (.inr (some o)), .inl l4, .inl l1] h).bind fun q5 => rf_kI q5 fun x6 h4 => (if x6 = 0 then rf_j_C_manyOf_5 d o l1 l2 (rf_w (l3 + 0)) (rf_w (l4 + 1)) h4 else rf_j_C_manyOf_5 d o l1 l2 (rf_w (l3 + 1)) (rf_w (l4 + 1)) h4)) else none) else some (some (.inl l3), h))))) else some (some (.inl l3), h)) :=
  ((rf_s_iload rf_f_C_manyOf_5 rfl (rf_m0 _) (rf_s_iload_n rf_f_C_manyOf_7 rfl (rf_m0 _) (rf_s_icmp_ge rf_f_C_manyOf_8 rfl (rf_m0 _) (rf_m0 _) (rf_s_iload_n rf_f_C_manyOf_47 rfl (rf_m0 _) (rf_s_iret rf_f_C_manyOf_48)) (rf_s_iload rf_f_C_manyOf_11 rfl (rf_m0 _) (rf_s_aload_n rf_f_C_manyOf_13 rfl (rf_m0 _) (rf_s_getAS rf_f_C_manyOf_14 (rf_m0 _) fun x1 => (rf_s_getIR rf_f_C_manyOf_17 (rf_m0 _) fun k2 x3 => (rf_s_icmp_ge rf_f_C_manyOf_20 rfl (rf_m0 _) (rf_m0 _) (rf_s_iload_n rf_f_C_manyOf_47 rfl (rf_m0 _) (rf_s_iret rf_f_C_manyOf_48)) (rf_s_iload_n rf_f_C_manyOf_23 rfl (rf_m0 _) (rf_s_aload_n rf_f_C_manyOf_24 rfl (rf_m0 _) (rf_s_iload rf_f_C_manyOf_25 rfl (rf_m0 _) (rf_s_iload_n rf_f_C_manyOf_27 rfl (rf_m0 _) (rf_s_invV0S rf_f_C_manyOf_28 rfl rfl (rf_m0 _) fun q5 x6 h4 => (rf_s_if_eq rf_f_C_manyOf_31 rfl (rf_m0 _) (rf_m0 _) (rf_s_iconst rf_f_C_manyOf_38 (rf_m0 _) (rf_s_iadd rf_f_C_manyOf_39 (rf_m0 _) (rf_s_istore_n (L' := [some (.inr (.inr (some o))), some (.inl l1), some (.inl l2), some (.inl (rf_w (l3 + 0))), some (.inl l4)]) rf_f_C_manyOf_40 rfl (rf_s_iinc (L' := [some (.inr (.inr (some o))), some (.inl l1), some (.inl l2), some (.inl (rf_w (l3 + 0))), some (.inl (rf_w (l4 + 1)))]) rf_f_C_manyOf_41 rfl rfl (rf_s_goto rf_f_C_manyOf_44 rfl rfl rfl))))) (rf_s_iconst rf_f_C_manyOf_34 (rf_m0 _) (rf_s_goto rf_f_C_manyOf_35 rfl (rf_m0 _) (rf_s_iadd rf_f_C_manyOf_39 (rf_m0 _) (rf_s_istore_n (L' := [some (.inr (.inr (some o))), some (.inl l1), some (.inl l2), some (.inl (rf_w (l3 + 1))), some (.inl l4)]) rf_f_C_manyOf_40 rfl (rf_s_iinc (L' := [some (.inr (.inr (some o))), some (.inl l1), some (.inl l2), some (.inl (rf_w (l3 + 1))), some (.inl (rf_w (l4 + 1)))]) rf_f_C_manyOf_41 rfl rfl (rf_s_goto rf_f_C_manyOf_44 rfl rfl rfl)))))))))))))))))))) : rf_den (rf_call d) rf_m_C_manyOf (5, [some (.inr (.inr (some o))), some (.inl l1), some (.inl l2), some (.inl l3), some (.inl l4)], [], h) = _)
