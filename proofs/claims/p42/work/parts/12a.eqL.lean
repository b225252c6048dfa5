theorem rf_u_L_cell : rf_mt 115 = rf_m_L_cell := rfl
theorem rf_f_L_cell_0 : rf_Fb rf_m_L_cell 0 1 (.iload_n 1) 0 0 0 0 [] [] = true := by decide +kernel
theorem rf_f_L_cell_1 : rf_Fb rf_m_L_cell 1 2 (.aload_n 0) 0 0 0 0 [] [] = true := by decide +kernel
theorem rf_f_L_cell_2 : rf_Fb rf_m_L_cell 2 3 (.arraylength) 0 0 0 0 [] [] = true := by decide +kernel
theorem rf_f_L_cell_3 : rf_Fb rf_m_L_cell 3 6 (.if_icmp .ge 9) 12 0 0 0 [] [] = true := by decide +kernel
theorem rf_f_L_cell_6 : rf_Fb rf_m_L_cell 6 7 (.aload_n 0) 0 0 0 0 [] [] = true := by decide +kernel
theorem rf_f_L_cell_7 : rf_Fb rf_m_L_cell 7 8 (.iload_n 1) 0 0 0 0 [] [] = true := by decide +kernel
theorem rf_f_L_cell_8 : rf_Fb rf_m_L_cell 8 9 (.iaload) 0 0 0 0 [] [] = true := by decide +kernel
theorem rf_f_L_cell_9 : rf_Fb rf_m_L_cell 9 12 (.goto 10) 19 0 0 0 [] [] = true := by decide +kernel
theorem rf_f_L_cell_12 : rf_Fb rf_m_L_cell 12 14 (.ldc 7) 0 0 0 15485957 [] [] = true := by decide +kernel
theorem rf_f_L_cell_14 : rf_Fb rf_m_L_cell 14 15 (.iload_n 1) 0 0 0 0 [] [] = true := by decide +kernel
theorem rf_f_L_cell_15 : rf_Fb rf_m_L_cell 15 16 (.imul) 0 0 0 0 [] [] = true := by decide +kernel
theorem rf_f_L_cell_16 : rf_Fb rf_m_L_cell 16 18 (.bipush 107) 0 0 0 0 [] [] = true := by decide +kernel
theorem rf_f_L_cell_18 : rf_Fb rf_m_L_cell 18 19 (.iadd) 0 0 0 0 [] [] = true := by decide +kernel
theorem rf_f_L_cell_19 : rf_Fb rf_m_L_cell 19 21 (.ldc 8) 0 0 0 2147483647 [] [] = true := by decide +kernel
theorem rf_f_L_cell_21 : rf_Fb rf_m_L_cell 21 22 (.iand) 0 0 0 0 [] [] = true := by decide +kernel
theorem rf_f_L_cell_22 : rf_Fb rf_m_L_cell 22 23 (.ireturn) 0 0 0 0 [] [] = true := by decide +kernel
set_option maxRecDepth 20000 in
set_option maxHeartbeats 2000000 in
theorem rf_e_L_cell (d : Nat) (a0 : Nat) (a1 : Int) (h : rf_H) : rf_call (d + 1) 115 [.inr (.inr (some a0)), .inl a1] h = ((rf_aL h a0).bind fun x1 => (if a1 < x1 then ((rf_aI h a0 a1).bind fun x2 => some (some (.inl (rf_and x2 2147483647)), h)) else some (some (.inl (rf_and (rf_w ((rf_w (15485957 * a1)) + 107)) 2147483647)), h))) := by
  show rf_den (rf_call d) (rf_mt 115) _ = _
  rw [rf_u_L_cell]
  exact ((rf_s_iload_n rf_f_L_cell_0 rfl (rf_m0 _) (rf_s_aload_n rf_f_L_cell_1 rfl (rf_m0 _) (rf_s_alenS rf_f_L_cell_2 (rf_m0 _) fun x1 => (rf_s_icmp_ge rf_f_L_cell_3 rfl (rf_m0 _) (rf_m0 _) (rf_s_ldc rf_f_L_cell_12 (rf_m0 _) (rf_s_iload_n rf_f_L_cell_14 rfl (rf_m0 _) (rf_s_imul rf_f_L_cell_15 (rf_m0 _) (rf_s_bipush rf_f_L_cell_16 (rf_m0 _) (rf_s_iadd rf_f_L_cell_18 (rf_m0 _) (rf_s_ldc rf_f_L_cell_19 (rf_m0 _) (rf_s_iand rf_f_L_cell_21 (rf_m0 _) (rf_s_iret rf_f_L_cell_22)))))))) (rf_s_aload_n rf_f_L_cell_6 rfl (rf_m0 _) (rf_s_iload_n rf_f_L_cell_7 rfl (rf_m0 _) (rf_s_ialdS rf_f_L_cell_8 (rf_m0 _) fun x2 => (rf_s_goto rf_f_L_cell_9 rfl (rf_m0 _) (rf_s_ldc rf_f_L_cell_19 (rf_m0 _) (rf_s_iand rf_f_L_cell_21 (rf_m0 _) (rf_s_iret rf_f_L_cell_22))))))))))) : rf_den (rf_call d) rf_m_L_cell (0, [some (.inr (.inr (some a0))), some (.inl a1)], [], h) = _)
theorem rf_u_L_rails : rf_mt 116 = rf_m_L_rails := rfl
theorem rf_f_L_rails_0 : rf_Fb rf_m_L_rails 0 1 (.iconst 1) 0 0 0 0 [] [] = true := by decide +kernel
theorem rf_f_L_rails_1 : rf_Fb rf_m_L_rails 1 2 (.aload_n 0) 0 0 0 0 [] [] = true := by decide +kernel
theorem rf_f_L_rails_2 : rf_Fb rf_m_L_rails 2 3 (.iconst 0) 0 0 0 0 [] [] = true := by decide +kernel
theorem rf_f_L_rails_3 : rf_Fb rf_m_L_rails 3 6 (.invokestatic 9) 115 2 0 0 [] [] = true := by decide +kernel
theorem rf_f_L_rails_6 : rf_Fb rf_m_L_rails 6 8 (.bipush 6) 0 0 0 0 [] [] = true := by decide +kernel
theorem rf_f_L_rails_8 : rf_Fb rf_m_L_rails 8 9 (.irem) 0 0 0 0 [] [] = true := by decide +kernel
theorem rf_f_L_rails_9 : rf_Fb rf_m_L_rails 9 10 (.iadd) 0 0 0 0 [] [] = true := by decide +kernel
theorem rf_f_L_rails_10 : rf_Fb rf_m_L_rails 10 11 (.ireturn) 0 0 0 0 [] [] = true := by decide +kernel
set_option maxRecDepth 20000 in
set_option maxHeartbeats 2000000 in
theorem rf_e_L_rails (d : Nat) (a0 : Nat) (h : rf_H) : rf_call (d + 1) 116 [.inr (.inr (some a0))] h = ((rf_call d 115 [.inr (.inr (some a0)), .inl 0] h).bind fun q1 => rf_kI q1 fun x2 h3 => some (some (.inl (rf_w (1 + (Int.tmod x2 6)))), h3)) := by
  show rf_den (rf_call d) (rf_mt 116) _ = _
  rw [rf_u_L_rails]
  exact ((rf_s_iconst rf_f_L_rails_0 (rf_m0 _) (rf_s_aload_n rf_f_L_rails_1 rfl (rf_m0 _) (rf_s_iconst rf_f_L_rails_2 (rf_m0 _) (rf_s_invS0 rf_f_L_rails_3 rfl rfl (rf_m0 _) fun q1 x2 h3 => (rf_s_bipush rf_f_L_rails_6 (rf_m0 _) (rf_s_irem rf_f_L_rails_8 (by decide) (rf_m0 _) (rf_s_iadd rf_f_L_rails_9 (rf_m0 _) (rf_s_iret rf_f_L_rails_10)))))))) : rf_den (rf_call d) rf_m_L_rails (0, [some (.inr (.inr (some a0)))], [], h) = _)
theorem rf_u_L_rail : rf_mt 117 = rf_m_L_rail := rfl
theorem rf_f_L_rail_0 : rf_Fb rf_m_L_rail 0 1 (.aload_n 0) 0 0 0 0 [] [] = true := by decide +kernel
theorem rf_f_L_rail_1 : rf_Fb rf_m_L_rail 1 2 (.iconst 1) 0 0 0 0 [] [] = true := by decide +kernel
theorem rf_f_L_rail_2 : rf_Fb rf_m_L_rail 2 5 (.invokestatic 9) 115 2 0 0 [] [] = true := by decide +kernel
theorem rf_f_L_rail_5 : rf_Fb rf_m_L_rail 5 6 (.iconst 3) 0 0 0 0 [] [] = true := by decide +kernel
theorem rf_f_L_rail_6 : rf_Fb rf_m_L_rail 6 7 (.iload_n 1) 0 0 0 0 [] [] = true := by decide +kernel
theorem rf_f_L_rail_7 : rf_Fb rf_m_L_rail 7 8 (.aload_n 0) 0 0 0 0 [] [] = true := by decide +kernel
theorem rf_f_L_rail_8 : rf_Fb rf_m_L_rail 8 11 (.invokestatic 15) 116 1 0 0 [] [] = true := by decide +kernel
theorem rf_f_L_rail_11 : rf_Fb rf_m_L_rail 11 12 (.irem) 0 0 0 0 [] [] = true := by decide +kernel
theorem rf_f_L_rail_12 : rf_Fb rf_m_L_rail 12 13 (.imul) 0 0 0 0 [] [] = true := by decide +kernel
theorem rf_f_L_rail_13 : rf_Fb rf_m_L_rail 13 14 (.ishr) 0 0 0 0 [] [] = true := by decide +kernel
theorem rf_f_L_rail_14 : rf_Fb rf_m_L_rail 14 16 (.bipush 7) 0 0 0 0 [] [] = true := by decide +kernel
theorem rf_f_L_rail_16 : rf_Fb rf_m_L_rail 16 17 (.iand) 0 0 0 0 [] [] = true := by decide +kernel
theorem rf_f_L_rail_17 : rf_Fb rf_m_L_rail 17 18 (.iconst 3) 0 0 0 0 [] [] = true := by decide +kernel
theorem rf_f_L_rail_18 : rf_Fb rf_m_L_rail 18 19 (.irem) 0 0 0 0 [] [] = true := by decide +kernel
theorem rf_f_L_rail_19 : rf_Fb rf_m_L_rail 19 20 (.ireturn) 0 0 0 0 [] [] = true := by decide +kernel
set_option maxRecDepth 20000 in
set_option maxHeartbeats 2000000 in
theorem rf_e_L_rail (d : Nat) (a0 : Nat) (a1 : Int) (h : rf_H) : rf_call (d + 1) 117 [.inr (.inr (some a0)), .inl a1] h = ((rf_call d 115 [.inr (.inr (some a0)), .inl 1] h).bind fun q1 => rf_kI q1 fun x2 h3 => ((rf_call d 116 [.inr (.inr (some a0))] h3).bind fun q4 => rf_kI q4 fun x5 h6 => (if x5 = 0 then none else some (some (.inl (Int.tmod (rf_and (rf_shr x2 (rf_w (3 * (Int.tmod a1 x5)))) 7) 3)), h6)))) := by
  show rf_den (rf_call d) (rf_mt 117) _ = _
  rw [rf_u_L_rail]
  exact ((rf_s_aload_n rf_f_L_rail_0 rfl (rf_m0 _) (rf_s_iconst rf_f_L_rail_1 (rf_m0 _) (rf_s_invS0 rf_f_L_rail_2 rfl rfl (rf_m0 _) fun q1 x2 h3 => (rf_s_iconst rf_f_L_rail_5 (rf_m0 _) (rf_s_iload_n rf_f_L_rail_6 rfl (rf_m0 _) (rf_s_aload_n rf_f_L_rail_7 rfl (rf_m0 _) (rf_s_invS0 rf_f_L_rail_8 rfl rfl (rf_m0 _) fun q4 x5 h6 => (rf_s_iremZ rf_f_L_rail_11 (rf_m0 _) (rf_s_imul rf_f_L_rail_12 (rf_m0 _) (rf_s_ishr rf_f_L_rail_13 (rf_m0 _) (rf_s_bipush rf_f_L_rail_14 (rf_m0 _) (rf_s_iand rf_f_L_rail_16 (rf_m0 _) (rf_s_iconst rf_f_L_rail_17 (rf_m0 _) (rf_s_irem rf_f_L_rail_18 (by decide) (rf_m0 _) (rf_s_iret rf_f_L_rail_19))))))))))))))) : rf_den (rf_call d) rf_m_L_rail (0, [some (.inr (.inr (some a0))), some (.inl a1)], [], h) = _)
theorem rf_u_L_first : rf_mt 118 = rf_m_L_first := rfl
theorem rf_f_L_first_0 : rf_Fb rf_m_L_first 0 1 (.aload_n 0) 0 0 0 0 [] [] = true := by decide +kernel
theorem rf_f_L_first_1 : rf_Fb rf_m_L_first 1 2 (.iconst 2) 0 0 0 0 [] [] = true := by decide +kernel
theorem rf_f_L_first_2 : rf_Fb rf_m_L_first 2 5 (.invokestatic 9) 115 2 0 0 [] [] = true := by decide +kernel
theorem rf_f_L_first_5 : rf_Fb rf_m_L_first 5 6 (.istore_n 2) 0 0 0 0 [] [] = true := by decide +kernel
theorem rf_f_L_first_6 : rf_Fb rf_m_L_first 6 7 (.iload_n 1) 0 0 0 0 [] [] = true := by decide +kernel
theorem rf_f_L_first_7 : rf_Fb rf_m_L_first 7 10 (.ifCond .ne 12) 19 0 0 0 [] [] = true := by decide +kernel
theorem rf_f_L_first_10 : rf_Fb rf_m_L_first 10 11 (.iconst 1) 0 0 0 0 [] [] = true := by decide +kernel
theorem rf_f_L_first_11 : rf_Fb rf_m_L_first 11 12 (.iload_n 2) 0 0 0 0 [] [] = true := by decide +kernel
theorem rf_f_L_first_12 : rf_Fb rf_m_L_first 12 14 (.bipush 9) 0 0 0 0 [] [] = true := by decide +kernel
theorem rf_f_L_first_14 : rf_Fb rf_m_L_first 14 15 (.irem) 0 0 0 0 [] [] = true := by decide +kernel
theorem rf_f_L_first_15 : rf_Fb rf_m_L_first 15 16 (.iadd) 0 0 0 0 [] [] = true := by decide +kernel
theorem rf_f_L_first_16 : rf_Fb rf_m_L_first 16 19 (.goto 45) 61 0 0 0 [] [] = true := by decide +kernel
theorem rf_f_L_first_19 : rf_Fb rf_m_L_first 19 20 (.iload_n 1) 0 0 0 0 [] [] = true := by decide +kernel
theorem rf_f_L_first_20 : rf_Fb rf_m_L_first 20 21 (.iconst 1) 0 0 0 0 [] [] = true := by decide +kernel
theorem rf_f_L_first_21 : rf_Fb rf_m_L_first 21 24 (.if_icmp .ne 12) 33 0 0 0 [] [] = true := by decide +kernel
theorem rf_f_L_first_24 : rf_Fb rf_m_L_first 24 25 (.iload_n 2) 0 0 0 0 [] [] = true := by decide +kernel
theorem rf_f_L_first_25 : rf_Fb rf_m_L_first 25 26 (.iconst 4) 0 0 0 0 [] [] = true := by decide +kernel
theorem rf_f_L_first_26 : rf_Fb rf_m_L_first 26 27 (.ishr) 0 0 0 0 [] [] = true := by decide +kernel
theorem rf_f_L_first_27 : rf_Fb rf_m_L_first 27 29 (.bipush 10) 0 0 0 0 [] [] = true := by decide +kernel
theorem rf_f_L_first_29 : rf_Fb rf_m_L_first 29 30 (.irem) 0 0 0 0 [] [] = true := by decide +kernel
theorem rf_f_L_first_30 : rf_Fb rf_m_L_first 30 33 (.goto 31) 61 0 0 0 [] [] = true := by decide +kernel
theorem rf_f_L_first_33 : rf_Fb rf_m_L_first 33 34 (.iload_n 1) 0 0 0 0 [] [] = true := by decide +kernel
theorem rf_f_L_first_34 : rf_Fb rf_m_L_first 34 35 (.iconst 2) 0 0 0 0 [] [] = true := by decide +kernel
theorem rf_f_L_first_35 : rf_Fb rf_m_L_first 35 38 (.if_icmp .ne 13) 48 0 0 0 [] [] = true := by decide +kernel
theorem rf_f_L_first_38 : rf_Fb rf_m_L_first 38 39 (.iload_n 2) 0 0 0 0 [] [] = true := by decide +kernel
theorem rf_f_L_first_39 : rf_Fb rf_m_L_first 39 41 (.bipush 8) 0 0 0 0 [] [] = true := by decide +kernel
theorem rf_f_L_first_41 : rf_Fb rf_m_L_first 41 42 (.ishr) 0 0 0 0 [] [] = true := by decide +kernel
theorem rf_f_L_first_42 : rf_Fb rf_m_L_first 42 44 (.bipush 10) 0 0 0 0 [] [] = true := by decide +kernel
theorem rf_f_L_first_44 : rf_Fb rf_m_L_first 44 45 (.irem) 0 0 0 0 [] [] = true := by decide +kernel
theorem rf_f_L_first_45 : rf_Fb rf_m_L_first 45 48 (.goto 16) 61 0 0 0 [] [] = true := by decide +kernel
theorem rf_f_L_first_48 : rf_Fb rf_m_L_first 48 49 (.iload_n 2) 0 0 0 0 [] [] = true := by decide +kernel
theorem rf_f_L_first_49 : rf_Fb rf_m_L_first 49 51 (.bipush 12) 0 0 0 0 [] [] = true := by decide +kernel
theorem rf_f_L_first_51 : rf_Fb rf_m_L_first 51 52 (.ishr) 0 0 0 0 [] [] = true := by decide +kernel
theorem rf_f_L_first_52 : rf_Fb rf_m_L_first 52 53 (.iconst 3) 0 0 0 0 [] [] = true := by decide +kernel
theorem rf_f_L_first_53 : rf_Fb rf_m_L_first 53 54 (.iand) 0 0 0 0 [] [] = true := by decide +kernel
theorem rf_f_L_first_54 : rf_Fb rf_m_L_first 54 55 (.iload_n 2) 0 0 0 0 [] [] = true := by decide +kernel
theorem rf_f_L_first_55 : rf_Fb rf_m_L_first 55 57 (.bipush 14) 0 0 0 0 [] [] = true := by decide +kernel
theorem rf_f_L_first_57 : rf_Fb rf_m_L_first 57 58 (.ishr) 0 0 0 0 [] [] = true := by decide +kernel
theorem rf_f_L_first_58 : rf_Fb rf_m_L_first 58 59 (.iconst 2) 0 0 0 0 [] [] = true := by decide +kernel
theorem rf_f_L_first_59 : rf_Fb rf_m_L_first 59 60 (.irem) 0 0 0 0 [] [] = true := by decide +kernel
theorem rf_f_L_first_60 : rf_Fb rf_m_L_first 60 61 (.imul) 0 0 0 0 [] [] = true := by decide +kernel
theorem rf_f_L_first_61 : rf_Fb rf_m_L_first 61 62 (.ireturn) 0 0 0 0 [] [] = true := by decide +kernel
set_option maxRecDepth 20000 in
set_option maxHeartbeats 2000000 in
theorem rf_e_L_first (d : Nat) (a0 : Nat) (a1 : Int) (h : rf_H) : rf_call (d + 1) 118 [.inr (.inr (some a0)), .inl a1] h = ((rf_call d 115 [.inr (.inr (some a0)), .inl 2] h).bind fun q1 => rf_kI q1 fun x2 h3 => (if a1 = 0 then some (some (.inl (rf_w (1 + (Int.tmod x2 9)))), h3) else (if a1 = 1 then some (some (.inl (Int.tmod (rf_shr x2 4) 10)), h3) else (if a1 = 2 then some (some (.inl (Int.tmod (rf_shr x2 8) 10)), h3) else some (some (.inl (rf_w ((rf_and (rf_shr x2 12) 3) * (Int.tmod (rf_shr x2 14) 2)))), h3))))) := by
  show rf_den (rf_call d) (rf_mt 118) _ = _
  rw [rf_u_L_first]
  exact ((rf_s_aload_n rf_f_L_first_0 rfl (rf_m0 _) (rf_s_iconst rf_f_L_first_1 (rf_m0 _) (rf_s_invS0 rf_f_L_first_2 rfl rfl (rf_m0 _) fun q1 x2 h3 => (rf_s_istore_n (L' := [some (.inr (.inr (some a0))), some (.inl a1), some (.inl x2)]) rf_f_L_first_5 rfl (rf_s_iload_n rf_f_L_first_6 rfl (rf_m0 _) (rf_s_if_ne rf_f_L_first_7 rfl (rf_m0 _) (rf_m0 _) (rf_s_iload_n rf_f_L_first_19 rfl (rf_m0 _) (rf_s_iconst rf_f_L_first_20 (rf_m0 _) (rf_s_icmp_ne rf_f_L_first_21 rfl (rf_m0 _) (rf_m0 _) (rf_s_iload_n rf_f_L_first_33 rfl (rf_m0 _) (rf_s_iconst rf_f_L_first_34 (rf_m0 _) (rf_s_icmp_ne rf_f_L_first_35 rfl (rf_m0 _) (rf_m0 _) (rf_s_iload_n rf_f_L_first_48 rfl (rf_m0 _) (rf_s_bipush rf_f_L_first_49 (rf_m0 _) (rf_s_ishr rf_f_L_first_51 (rf_m0 _) (rf_s_iconst rf_f_L_first_52 (rf_m0 _) (rf_s_iand rf_f_L_first_53 (rf_m0 _) (rf_s_iload_n rf_f_L_first_54 rfl (rf_m0 _) (rf_s_bipush rf_f_L_first_55 (rf_m0 _) (rf_s_ishr rf_f_L_first_57 (rf_m0 _) (rf_s_iconst rf_f_L_first_58 (rf_m0 _) (rf_s_irem rf_f_L_first_59 (by decide) (rf_m0 _) (rf_s_imul rf_f_L_first_60 (rf_m0 _) (rf_s_iret rf_f_L_first_61)))))))))))) (rf_s_iload_n rf_f_L_first_38 rfl (rf_m0 _) (rf_s_bipush rf_f_L_first_39 (rf_m0 _) (rf_s_ishr rf_f_L_first_41 (rf_m0 _) (rf_s_bipush rf_f_L_first_42 (rf_m0 _) (rf_s_irem rf_f_L_first_44 (by decide) (rf_m0 _) (rf_s_goto rf_f_L_first_45 rfl (rf_m0 _) (rf_s_iret rf_f_L_first_61)))))))))) (rf_s_iload_n rf_f_L_first_24 rfl (rf_m0 _) (rf_s_iconst rf_f_L_first_25 (rf_m0 _) (rf_s_ishr rf_f_L_first_26 (rf_m0 _) (rf_s_bipush rf_f_L_first_27 (rf_m0 _) (rf_s_irem rf_f_L_first_29 (by decide) (rf_m0 _) (rf_s_goto rf_f_L_first_30 rfl (rf_m0 _) (rf_s_iret rf_f_L_first_61)))))))))) (rf_s_iconst rf_f_L_first_10 (rf_m0 _) (rf_s_iload_n rf_f_L_first_11 rfl (rf_m0 _) (rf_s_bipush rf_f_L_first_12 (rf_m0 _) (rf_s_irem rf_f_L_first_14 (by decide) (rf_m0 _) (rf_s_iadd rf_f_L_first_15 (rf_m0 _) (rf_s_goto rf_f_L_first_16 rfl (rf_m0 _) (rf_s_iret rf_f_L_first_61))))))))))))) : rf_den (rf_call d) rf_m_L_first (0, [some (.inr (.inr (some a0))), some (.inl a1), none], [], h) = _)
theorem rf_u_L_wagons : rf_mt 119 = rf_m_L_wagons := rfl
theorem rf_f_L_wagons_0 : rf_Fb rf_m_L_wagons 0 1 (.aload_n 0) 0 0 0 0 [] [] = true := by decide +kernel
theorem rf_f_L_wagons_1 : rf_Fb rf_m_L_wagons 1 2 (.iconst 3) 0 0 0 0 [] [] = true := by decide +kernel
theorem rf_f_L_wagons_2 : rf_Fb rf_m_L_wagons 2 5 (.invokestatic 9) 115 2 0 0 [] [] = true := by decide +kernel
theorem rf_f_L_wagons_5 : rf_Fb rf_m_L_wagons 5 7 (.bipush 6) 0 0 0 0 [] [] = true := by decide +kernel
theorem rf_f_L_wagons_7 : rf_Fb rf_m_L_wagons 7 8 (.irem) 0 0 0 0 [] [] = true := by decide +kernel
theorem rf_f_L_wagons_8 : rf_Fb rf_m_L_wagons 8 9 (.ireturn) 0 0 0 0 [] [] = true := by decide +kernel
set_option maxRecDepth 20000 in
set_option maxHeartbeats 2000000 in
theorem rf_e_L_wagons (d : Nat) (a0 : Nat) (h : rf_H) : rf_call (d + 1) 119 [.inr (.inr (some a0))] h = ((rf_call d 115 [.inr (.inr (some a0)), .inl 3] h).bind fun q1 => rf_kI q1 fun x2 h3 => some (some (.inl (Int.tmod x2 6)), h3)) := by
  show rf_den (rf_call d) (rf_mt 119) _ = _
  rw [rf_u_L_wagons]
  exact ((rf_s_aload_n rf_f_L_wagons_0 rfl (rf_m0 _) (rf_s_iconst rf_f_L_wagons_1 (rf_m0 _) (rf_s_invS0 rf_f_L_wagons_2 rfl rfl (rf_m0 _) fun q1 x2 h3 => (rf_s_bipush rf_f_L_wagons_5 (rf_m0 _) (rf_s_irem rf_f_L_wagons_7 (by decide) (rf_m0 _) (rf_s_iret rf_f_L_wagons_8)))))) : rf_den (rf_call d) rf_m_L_wagons (0, [some (.inr (.inr (some a0)))], [], h) = _)
theorem rf_u_L_wagon : rf_mt 120 = rf_m_L_wagon := rfl
theorem rf_f_L_wagon_0 : rf_Fb rf_m_L_wagon 0 1 (.aload_n 0) 0 0 0 0 [] [] = true := by decide +kernel
theorem rf_f_L_wagon_1 : rf_Fb rf_m_L_wagon 1 2 (.iconst 4) 0 0 0 0 [] [] = true := by decide +kernel
theorem rf_f_L_wagon_2 : rf_Fb rf_m_L_wagon 2 3 (.iload_n 1) 0 0 0 0 [] [] = true := by decide +kernel
theorem rf_f_L_wagon_3 : rf_Fb rf_m_L_wagon 3 4 (.iadd) 0 0 0 0 [] [] = true := by decide +kernel
theorem rf_f_L_wagon_4 : rf_Fb rf_m_L_wagon 4 7 (.invokestatic 9) 115 2 0 0 [] [] = true := by decide +kernel
theorem rf_f_L_wagon_7 : rf_Fb rf_m_L_wagon 7 8 (.istore_n 3) 0 0 0 0 [] [] = true := by decide +kernel
theorem rf_f_L_wagon_8 : rf_Fb rf_m_L_wagon 8 9 (.iload_n 2) 0 0 0 0 [] [] = true := by decide +kernel
theorem rf_f_L_wagon_9 : rf_Fb rf_m_L_wagon 9 12 (.ifCond .ne 10) 19 0 0 0 [] [] = true := by decide +kernel
theorem rf_f_L_wagon_12 : rf_Fb rf_m_L_wagon 12 13 (.iload_n 3) 0 0 0 0 [] [] = true := by decide +kernel
theorem rf_f_L_wagon_13 : rf_Fb rf_m_L_wagon 13 15 (.bipush 6) 0 0 0 0 [] [] = true := by decide +kernel
theorem rf_f_L_wagon_15 : rf_Fb rf_m_L_wagon 15 16 (.irem) 0 0 0 0 [] [] = true := by decide +kernel
theorem rf_f_L_wagon_16 : rf_Fb rf_m_L_wagon 16 19 (.goto 41) 57 0 0 0 [] [] = true := by decide +kernel
theorem rf_f_L_wagon_19 : rf_Fb rf_m_L_wagon 19 20 (.iload_n 2) 0 0 0 0 [] [] = true := by decide +kernel
theorem rf_f_L_wagon_20 : rf_Fb rf_m_L_wagon 20 21 (.iconst 1) 0 0 0 0 [] [] = true := by decide +kernel
theorem rf_f_L_wagon_21 : rf_Fb rf_m_L_wagon 21 24 (.if_icmp .ne 27) 48 0 0 0 [] [] = true := by decide +kernel
theorem rf_f_L_wagon_24 : rf_Fb rf_m_L_wagon 24 25 (.iconst 1) 0 0 0 0 [] [] = true := by decide +kernel
theorem rf_f_L_wagon_25 : rf_Fb rf_m_L_wagon 25 26 (.iload_n 3) 0 0 0 0 [] [] = true := by decide +kernel
theorem rf_f_L_wagon_26 : rf_Fb rf_m_L_wagon 26 27 (.iconst 4) 0 0 0 0 [] [] = true := by decide +kernel
theorem rf_f_L_wagon_27 : rf_Fb rf_m_L_wagon 27 28 (.ishr) 0 0 0 0 [] [] = true := by decide +kernel
theorem rf_f_L_wagon_28 : rf_Fb rf_m_L_wagon 28 29 (.iload_n 3) 0 0 0 0 [] [] = true := by decide +kernel
theorem rf_f_L_wagon_29 : rf_Fb rf_m_L_wagon 29 31 (.bipush 16) 0 0 0 0 [] [] = true := by decide +kernel
theorem rf_f_L_wagon_31 : rf_Fb rf_m_L_wagon 31 32 (.ishr) 0 0 0 0 [] [] = true := by decide +kernel
theorem rf_f_L_wagon_32 : rf_Fb rf_m_L_wagon 32 33 (.iconst 2) 0 0 0 0 [] [] = true := by decide +kernel
theorem rf_f_L_wagon_33 : rf_Fb rf_m_L_wagon 33 34 (.irem) 0 0 0 0 [] [] = true := by decide +kernel
theorem rf_f_L_wagon_34 : rf_Fb rf_m_L_wagon 34 37 (.ifCond .ne 8) 42 0 0 0 [] [] = true := by decide +kernel
theorem rf_f_L_wagon_37 : rf_Fb rf_m_L_wagon 37 39 (.bipush 9) 0 0 0 0 [] [] = true := by decide +kernel
theorem rf_f_L_wagon_39 : rf_Fb rf_m_L_wagon 39 42 (.goto 4) 43 0 0 0 [] [] = true := by decide +kernel
theorem rf_f_L_wagon_42 : rf_Fb rf_m_L_wagon 42 43 (.iconst 3) 0 0 0 0 [] [] = true := by decide +kernel
theorem rf_f_L_wagon_43 : rf_Fb rf_m_L_wagon 43 44 (.irem) 0 0 0 0 [] [] = true := by decide +kernel
theorem rf_f_L_wagon_44 : rf_Fb rf_m_L_wagon 44 45 (.iadd) 0 0 0 0 [] [] = true := by decide +kernel
theorem rf_f_L_wagon_45 : rf_Fb rf_m_L_wagon 45 48 (.goto 12) 57 0 0 0 [] [] = true := by decide +kernel
theorem rf_f_L_wagon_48 : rf_Fb rf_m_L_wagon 48 49 (.iconst 1) 0 0 0 0 [] [] = true := by decide +kernel
theorem rf_f_L_wagon_49 : rf_Fb rf_m_L_wagon 49 50 (.iload_n 3) 0 0 0 0 [] [] = true := by decide +kernel
theorem rf_f_L_wagon_50 : rf_Fb rf_m_L_wagon 50 52 (.bipush 8) 0 0 0 0 [] [] = true := by decide +kernel
theorem rf_f_L_wagon_52 : rf_Fb rf_m_L_wagon 52 53 (.ishr) 0 0 0 0 [] [] = true := by decide +kernel
theorem rf_f_L_wagon_53 : rf_Fb rf_m_L_wagon 53 55 (.bipush 9) 0 0 0 0 [] [] = true := by decide +kernel
theorem rf_f_L_wagon_55 : rf_Fb rf_m_L_wagon 55 56 (.irem) 0 0 0 0 [] [] = true := by decide +kernel
theorem rf_f_L_wagon_56 : rf_Fb rf_m_L_wagon 56 57 (.iadd) 0 0 0 0 [] [] = true := by decide +kernel
theorem rf_f_L_wagon_57 : rf_Fb rf_m_L_wagon 57 58 (.ireturn) 0 0 0 0 [] [] = true := by decide +kernel
set_option maxRecDepth 20000 in
set_option maxHeartbeats 2000000 in
theorem rf_e_L_wagon (d : Nat) (a0 : Nat) (a1 : Int) (a2 : Int) (h : rf_H) : rf_call (d + 1) 120 [.inr (.inr (some a0)), .inl a1, .inl a2] h = ((rf_call d 115 [.inr (.inr (some a0)), .inl (rf_w (4 + a1))] h).bind fun q1 => rf_kI q1 fun x2 h3 => (if a2 = 0 then some (some (.inl (Int.tmod x2 6)), h3) else (if a2 = 1 then (if (Int.tmod (rf_shr x2 16) 2) = 0 then some (some (.inl (rf_w (1 + (Int.tmod (rf_shr x2 4) 9)))), h3) else some (some (.inl (rf_w (1 + (Int.tmod (rf_shr x2 4) 3)))), h3)) else some (some (.inl (rf_w (1 + (Int.tmod (rf_shr x2 8) 9)))), h3)))) := by
  show rf_den (rf_call d) (rf_mt 120) _ = _
  rw [rf_u_L_wagon]
  exact ((rf_s_aload_n rf_f_L_wagon_0 rfl (rf_m0 _) (rf_s_iconst rf_f_L_wagon_1 (rf_m0 _) (rf_s_iload_n rf_f_L_wagon_2 rfl (rf_m0 _) (rf_s_iadd rf_f_L_wagon_3 (rf_m0 _) (rf_s_invS0 rf_f_L_wagon_4 rfl rfl (rf_m0 _) fun q1 x2 h3 => (rf_s_istore_n (L' := [some (.inr (.inr (some a0))), some (.inl a1), some (.inl a2), some (.inl x2)]) rf_f_L_wagon_7 rfl (rf_s_iload_n rf_f_L_wagon_8 rfl (rf_m0 _) (rf_s_if_ne rf_f_L_wagon_9 rfl (rf_m0 _) (rf_m0 _) (rf_s_iload_n rf_f_L_wagon_19 rfl (rf_m0 _) (rf_s_iconst rf_f_L_wagon_20 (rf_m0 _) (rf_s_icmp_ne rf_f_L_wagon_21 rfl (rf_m0 _) (rf_m0 _) (rf_s_iconst rf_f_L_wagon_48 (rf_m0 _) (rf_s_iload_n rf_f_L_wagon_49 rfl (rf_m0 _) (rf_s_bipush rf_f_L_wagon_50 (rf_m0 _) (rf_s_ishr rf_f_L_wagon_52 (rf_m0 _) (rf_s_bipush rf_f_L_wagon_53 (rf_m0 _) (rf_s_irem rf_f_L_wagon_55 (by decide) (rf_m0 _) (rf_s_iadd rf_f_L_wagon_56 (rf_m0 _) (rf_s_iret rf_f_L_wagon_57)))))))) (rf_s_iconst rf_f_L_wagon_24 (rf_m0 _) (rf_s_iload_n rf_f_L_wagon_25 rfl (rf_m0 _) (rf_s_iconst rf_f_L_wagon_26 (rf_m0 _) (rf_s_ishr rf_f_L_wagon_27 (rf_m0 _) (rf_s_iload_n rf_f_L_wagon_28 rfl (rf_m0 _) (rf_s_bipush rf_f_L_wagon_29 (rf_m0 _) (rf_s_ishr rf_f_L_wagon_31 (rf_m0 _) (rf_s_iconst rf_f_L_wagon_32 (rf_m0 _) (rf_s_irem rf_f_L_wagon_33 (by decide) (rf_m0 _) (rf_s_if_ne rf_f_L_wagon_34 rfl (rf_m0 _) (rf_m0 _) (rf_s_iconst rf_f_L_wagon_42 (rf_m0 _) (rf_s_irem rf_f_L_wagon_43 (by decide) (rf_m0 _) (rf_s_iadd rf_f_L_wagon_44 (rf_m0 _) (rf_s_goto rf_f_L_wagon_45 rfl (rf_m0 _) (rf_s_iret rf_f_L_wagon_57))))) (rf_s_bipush rf_f_L_wagon_37 (rf_m0 _) (rf_s_goto rf_f_L_wagon_39 rfl (rf_m0 _) (rf_s_irem rf_f_L_wagon_43 (by decide) (rf_m0 _) (rf_s_iadd rf_f_L_wagon_44 (rf_m0 _) (rf_s_goto rf_f_L_wagon_45 rfl (rf_m0 _) (rf_s_iret rf_f_L_wagon_57))))))))))))))))))) (rf_s_iload_n rf_f_L_wagon_12 rfl (rf_m0 _) (rf_s_bipush rf_f_L_wagon_13 (rf_m0 _) (rf_s_irem rf_f_L_wagon_15 (by decide) (rf_m0 _) (rf_s_goto rf_f_L_wagon_16 rfl (rf_m0 _) (rf_s_iret rf_f_L_wagon_57))))))))))))) : rf_den (rf_call d) rf_m_L_wagon (0, [some (.inr (.inr (some a0))), some (.inl a1), some (.inl a2), none], [], h) = _)
theorem rf_u_L_begins : rf_mt 122 = rf_m_L_begins := rfl
theorem rf_f_L_begins_0 : rf_Fb rf_m_L_begins 0 2 (.bipush 11) 0 0 0 0 [] [] = true := by decide +kernel
theorem rf_f_L_begins_2 : rf_Fb rf_m_L_begins 2 4 (.newarray .int) 0 0 0 0 [] [] = true := by decide +kernel
theorem rf_f_L_begins_4 : rf_Fb rf_m_L_begins 4 5 (.astore_n 1) 0 0 0 0 [] [] = true := by decide +kernel
theorem rf_f_L_begins_5 : rf_Fb rf_m_L_begins 5 6 (.aload_n 1) 0 0 0 0 [] [] = true := by decide +kernel
theorem rf_f_L_begins_6 : rf_Fb rf_m_L_begins 6 7 (.iconst 0) 0 0 0 0 [] [] = true := by decide +kernel
theorem rf_f_L_begins_7 : rf_Fb rf_m_L_begins 7 8 (.aload_n 0) 0 0 0 0 [] [] = true := by decide +kernel
theorem rf_f_L_begins_8 : rf_Fb rf_m_L_begins 8 9 (.iconst 1) 0 0 0 0 [] [] = true := by decide +kernel
theorem rf_f_L_begins_9 : rf_Fb rf_m_L_begins 9 12 (.invokestatic 19) 118 2 0 0 [] [] = true := by decide +kernel
theorem rf_f_L_begins_12 : rf_Fb rf_m_L_begins 12 13 (.iastore) 0 0 0 0 [] [] = true := by decide +kernel
theorem rf_f_L_begins_13 : rf_Fb rf_m_L_begins 13 14 (.aload_n 1) 0 0 0 0 [] [] = true := by decide +kernel
theorem rf_f_L_begins_14 : rf_Fb rf_m_L_begins 14 15 (.iconst 1) 0 0 0 0 [] [] = true := by decide +kernel
theorem rf_f_L_begins_15 : rf_Fb rf_m_L_begins 15 16 (.aload_n 0) 0 0 0 0 [] [] = true := by decide +kernel
theorem rf_f_L_begins_16 : rf_Fb rf_m_L_begins 16 17 (.iconst 2) 0 0 0 0 [] [] = true := by decide +kernel
theorem rf_f_L_begins_17 : rf_Fb rf_m_L_begins 17 20 (.invokestatic 19) 118 2 0 0 [] [] = true := by decide +kernel
theorem rf_f_L_begins_20 : rf_Fb rf_m_L_begins 20 21 (.iastore) 0 0 0 0 [] [] = true := by decide +kernel
theorem rf_f_L_begins_21 : rf_Fb rf_m_L_begins 21 22 (.aload_n 1) 0 0 0 0 [] [] = true := by decide +kernel
theorem rf_f_L_begins_22 : rf_Fb rf_m_L_begins 22 23 (.iconst 4) 0 0 0 0 [] [] = true := by decide +kernel
theorem rf_f_L_begins_23 : rf_Fb rf_m_L_begins 23 24 (.iconst 1) 0 0 0 0 [] [] = true := by decide +kernel
theorem rf_f_L_begins_24 : rf_Fb rf_m_L_begins 24 25 (.iastore) 0 0 0 0 [] [] = true := by decide +kernel
theorem rf_f_L_begins_25 : rf_Fb rf_m_L_begins 25 26 (.aload_n 1) 0 0 0 0 [] [] = true := by decide +kernel
theorem rf_f_L_begins_26 : rf_Fb rf_m_L_begins 26 27 (.iconst 5) 0 0 0 0 [] [] = true := by decide +kernel
theorem rf_f_L_begins_27 : rf_Fb rf_m_L_begins 27 28 (.iconst 1) 0 0 0 0 [] [] = true := by decide +kernel
theorem rf_f_L_begins_28 : rf_Fb rf_m_L_begins 28 29 (.iastore) 0 0 0 0 [] [] = true := by decide +kernel
theorem rf_f_L_begins_29 : rf_Fb rf_m_L_begins 29 30 (.aload_n 1) 0 0 0 0 [] [] = true := by decide +kernel
theorem rf_f_L_begins_30 : rf_Fb rf_m_L_begins 30 32 (.bipush 9) 0 0 0 0 [] [] = true := by decide +kernel
theorem rf_f_L_begins_32 : rf_Fb rf_m_L_begins 32 33 (.aload_n 0) 0 0 0 0 [] [] = true := by decide +kernel
theorem rf_f_L_begins_33 : rf_Fb rf_m_L_begins 33 36 (.invokestatic 25) 119 1 0 0 [] [] = true := by decide +kernel
theorem rf_f_L_begins_36 : rf_Fb rf_m_L_begins 36 37 (.iastore) 0 0 0 0 [] [] = true := by decide +kernel
theorem rf_f_L_begins_37 : rf_Fb rf_m_L_begins 37 38 (.aload_n 1) 0 0 0 0 [] [] = true := by decide +kernel
theorem rf_f_L_begins_38 : rf_Fb rf_m_L_begins 38 39 (.areturn) 0 0 0 0 [] [] = true := by decide +kernel
set_option maxRecDepth 20000 in
set_option maxHeartbeats 2000000 in
theorem rf_e_L_begins (d : Nat) (a0 : Nat) (h : rf_H) : rf_call (d + 1) 122 [.inr (.inr (some a0))] h = (if (0 : Int) ≤ 11 ∧ (11 : Int) ≤ 100000 ∧ h.1.length < 1000000 then ((rf_call d 118 [.inr (.inr (some a0)), .inl 1] (rf_nw h (.inr (0, Int.toNat 11)))).bind fun q1 => rf_kI q1 fun x2 h3 => ((rf_sI h3 h.1.length 0 x2).bind fun h4 => ((rf_call d 118 [.inr (.inr (some a0)), .inl 2] h4).bind fun q5 => rf_kI q5 fun x6 h7 => ((rf_sI h7 h.1.length 1 x6).bind fun h8 => ((rf_sI h8 h.1.length 4 1).bind fun h9 => ((rf_sI h9 h.1.length 5 1).bind fun h10 => ((rf_call d 119 [.inr (.inr (some a0))] h10).bind fun q11 => rf_kI q11 fun x12 h13 => ((rf_sI h13 h.1.length 9 x12).bind fun h14 => some (some (.inr (.inr (some h.1.length))), h14))))))))) else none) := by
  show rf_den (rf_call d) (rf_mt 122) _ = _
  rw [rf_u_L_begins]
  exact ((rf_s_bipush rf_f_L_begins_0 (rf_m0 _) (rf_s_newI rf_f_L_begins_2 (rf_m0 _) (rf_s_astore_n (L' := [some (.inr (.inr (some a0))), some (.inr (.inr (some h.1.length)))]) rf_f_L_begins_4 rfl (rf_s_aload_n rf_f_L_begins_5 rfl (rf_m0 _) (rf_s_iconst rf_f_L_begins_6 (rf_m0 _) (rf_s_aload_n rf_f_L_begins_7 rfl (rf_m0 _) (rf_s_iconst rf_f_L_begins_8 (rf_m0 _) (rf_s_invS0 rf_f_L_begins_9 rfl rfl (rf_m0 _) fun q1 x2 h3 => (rf_s_iastS rf_f_L_begins_12 (rf_m0 _) fun h4 => (rf_s_aload_n rf_f_L_begins_13 rfl (rf_m0 _) (rf_s_iconst rf_f_L_begins_14 (rf_m0 _) (rf_s_aload_n rf_f_L_begins_15 rfl (rf_m0 _) (rf_s_iconst rf_f_L_begins_16 (rf_m0 _) (rf_s_invS0 rf_f_L_begins_17 rfl rfl (rf_m0 _) fun q5 x6 h7 => (rf_s_iastS rf_f_L_begins_20 (rf_m0 _) fun h8 => (rf_s_aload_n rf_f_L_begins_21 rfl (rf_m0 _) (rf_s_iconst rf_f_L_begins_22 (rf_m0 _) (rf_s_iconst rf_f_L_begins_23 (rf_m0 _) (rf_s_iastS rf_f_L_begins_24 (rf_m0 _) fun h9 => (rf_s_aload_n rf_f_L_begins_25 rfl (rf_m0 _) (rf_s_iconst rf_f_L_begins_26 (rf_m0 _) (rf_s_iconst rf_f_L_begins_27 (rf_m0 _) (rf_s_iastS rf_f_L_begins_28 (rf_m0 _) fun h10 => (rf_s_aload_n rf_f_L_begins_29 rfl (rf_m0 _) (rf_s_bipush rf_f_L_begins_30 (rf_m0 _) (rf_s_aload_n rf_f_L_begins_32 rfl (rf_m0 _) (rf_s_invS0 rf_f_L_begins_33 rfl rfl (rf_m0 _) fun q11 x12 h13 => (rf_s_iastS rf_f_L_begins_36 (rf_m0 _) fun h14 => (rf_s_aload_n rf_f_L_begins_37 rfl (rf_m0 _) (rf_s_aret rf_f_L_begins_38)))))))))))))))))))))))))))))) : rf_den (rf_call d) rf_m_L_begins (0, [some (.inr (.inr (some a0))), none], [], h) = _)
noncomputable def rf_j_L_weighs_25 (d : Nat) (l0 : Nat) (l4 : Int) (h : rf_H) : Option rf_R := rf_den (rf_call d) rf_m_L_weighs (25, [some (.inr (.inr (some l0))), none, none, none, some (.inl l4)], [], h)
noncomputable def rf_j_L_weighs_74 (d : Nat) (l0 : Nat) (l4 : Int) (h : rf_H) : Option rf_R := rf_den (rf_call d) rf_m_L_weighs (74, [some (.inr (.inr (some l0))), none, none, none, some (.inl l4)], [], h)
noncomputable def rf_j_L_weighs_78 (d : Nat) (l0 : Nat) (l4 : Int) (h : rf_H) : Option rf_R := rf_den (rf_call d) rf_m_L_weighs (78, [some (.inr (.inr (some l0))), none, none, none, some (.inl l4)], [], h)
theorem rf_u_L_weighs : rf_mt 123 = rf_m_L_weighs := rfl
theorem rf_f_L_weighs_0 : rf_Fb rf_m_L_weighs 0 1 (.aload_n 0) 0 0 0 0 [] [] = true := by decide +kernel
theorem rf_f_L_weighs_1 : rf_Fb rf_m_L_weighs 1 2 (.iload_n 2) 0 0 0 0 [] [] = true := by decide +kernel
theorem rf_f_L_weighs_2 : rf_Fb rf_m_L_weighs 2 3 (.iconst 0) 0 0 0 0 [] [] = true := by decide +kernel
theorem rf_f_L_weighs_3 : rf_Fb rf_m_L_weighs 3 6 (.invokestatic 28) 120 3 0 0 [] [] = true := by decide +kernel
theorem rf_f_L_weighs_6 : rf_Fb rf_m_L_weighs 6 7 (.istore_n 3) 0 0 0 0 [] [] = true := by decide +kernel
theorem rf_f_L_weighs_7 : rf_Fb rf_m_L_weighs 7 8 (.aload_n 0) 0 0 0 0 [] [] = true := by decide +kernel
theorem rf_f_L_weighs_8 : rf_Fb rf_m_L_weighs 8 9 (.iload_n 2) 0 0 0 0 [] [] = true := by decide +kernel
theorem rf_f_L_weighs_9 : rf_Fb rf_m_L_weighs 9 10 (.iconst 1) 0 0 0 0 [] [] = true := by decide +kernel
theorem rf_f_L_weighs_10 : rf_Fb rf_m_L_weighs 10 13 (.invokestatic 28) 120 3 0 0 [] [] = true := by decide +kernel
theorem rf_f_L_weighs_13 : rf_Fb rf_m_L_weighs 13 15 (.istore 4) 0 0 0 0 [] [] = true := by decide +kernel
theorem rf_f_L_weighs_15 : rf_Fb rf_m_L_weighs 15 16 (.iload_n 3) 0 0 0 0 [] [] = true := by decide +kernel
theorem rf_f_L_weighs_16 : rf_Fb rf_m_L_weighs 16 17 (.iconst 1) 0 0 0 0 [] [] = true := by decide +kernel
theorem rf_f_L_weighs_17 : rf_Fb rf_m_L_weighs 17 20 (.if_icmp .eq 8) 25 0 0 0 [] [] = true := by decide +kernel
theorem rf_f_L_weighs_20 : rf_Fb rf_m_L_weighs 20 21 (.iload_n 3) 0 0 0 0 [] [] = true := by decide +kernel
theorem rf_f_L_weighs_21 : rf_Fb rf_m_L_weighs 21 22 (.iconst 4) 0 0 0 0 [] [] = true := by decide +kernel
theorem rf_f_L_weighs_22 : rf_Fb rf_m_L_weighs 22 25 (.if_icmp .ne 11) 33 0 0 0 [] [true, false, false, false, true] = true := by decide +kernel
theorem rf_f_L_weighs_25 : rf_Fb rf_m_L_weighs 25 27 (.iload 4) 0 0 0 0 [] [] = true := by decide +kernel
theorem rf_f_L_weighs_27 : rf_Fb rf_m_L_weighs 27 29 (.iload 4) 0 0 0 0 [] [] = true := by decide +kernel
theorem rf_f_L_weighs_29 : rf_Fb rf_m_L_weighs 29 30 (.iadd) 0 0 0 0 [] [] = true := by decide +kernel
theorem rf_f_L_weighs_30 : rf_Fb rf_m_L_weighs 30 33 (.goto 46) 76 0 0 0 [] [] = true := by decide +kernel
theorem rf_f_L_weighs_33 : rf_Fb rf_m_L_weighs 33 34 (.iload_n 3) 0 0 0 0 [] [] = true := by decide +kernel
theorem rf_f_L_weighs_34 : rf_Fb rf_m_L_weighs 34 35 (.iconst 3) 0 0 0 0 [] [] = true := by decide +kernel
theorem rf_f_L_weighs_35 : rf_Fb rf_m_L_weighs 35 38 (.if_icmp .ne 20) 55 0 0 0 [] [] = true := by decide +kernel
theorem rf_f_L_weighs_38 : rf_Fb rf_m_L_weighs 38 40 (.iload 4) 0 0 0 0 [] [] = true := by decide +kernel
theorem rf_f_L_weighs_40 : rf_Fb rf_m_L_weighs 40 41 (.iconst 2) 0 0 0 0 [] [] = true := by decide +kernel
theorem rf_f_L_weighs_41 : rf_Fb rf_m_L_weighs 41 44 (.if_icmp .ge 7) 48 0 0 0 [] [] = true := by decide +kernel
theorem rf_f_L_weighs_44 : rf_Fb rf_m_L_weighs 44 45 (.iconst 0) 0 0 0 0 [] [] = true := by decide +kernel
theorem rf_f_L_weighs_45 : rf_Fb rf_m_L_weighs 45 48 (.goto 31) 76 0 0 0 [] [] = true := by decide +kernel
theorem rf_f_L_weighs_48 : rf_Fb rf_m_L_weighs 48 50 (.iload 4) 0 0 0 0 [] [] = true := by decide +kernel
theorem rf_f_L_weighs_50 : rf_Fb rf_m_L_weighs 50 51 (.iconst 2) 0 0 0 0 [] [] = true := by decide +kernel
theorem rf_f_L_weighs_51 : rf_Fb rf_m_L_weighs 51 52 (.isub) 0 0 0 0 [] [] = true := by decide +kernel
theorem rf_f_L_weighs_52 : rf_Fb rf_m_L_weighs 52 55 (.goto 24) 76 0 0 0 [] [] = true := by decide +kernel
theorem rf_f_L_weighs_55 : rf_Fb rf_m_L_weighs 55 56 (.iload_n 3) 0 0 0 0 [] [] = true := by decide +kernel
theorem rf_f_L_weighs_56 : rf_Fb rf_m_L_weighs 56 57 (.iconst 5) 0 0 0 0 [] [] = true := by decide +kernel
theorem rf_f_L_weighs_57 : rf_Fb rf_m_L_weighs 57 60 (.if_icmp .ne 17) 74 0 0 0 [] [] = true := by decide +kernel
theorem rf_f_L_weighs_60 : rf_Fb rf_m_L_weighs 60 61 (.aload_n 1) 0 0 0 0 [] [] = true := by decide +kernel
theorem rf_f_L_weighs_61 : rf_Fb rf_m_L_weighs 61 62 (.iconst 4) 0 0 0 0 [] [] = true := by decide +kernel
theorem rf_f_L_weighs_62 : rf_Fb rf_m_L_weighs 62 63 (.iaload) 0 0 0 0 [] [] = true := by decide +kernel
theorem rf_f_L_weighs_63 : rf_Fb rf_m_L_weighs 63 64 (.iconst 1) 0 0 0 0 [] [] = true := by decide +kernel
theorem rf_f_L_weighs_64 : rf_Fb rf_m_L_weighs 64 67 (.if_icmp .ne 10) 74 0 0 0 [] [] = true := by decide +kernel
theorem rf_f_L_weighs_67 : rf_Fb rf_m_L_weighs 67 69 (.iload 4) 0 0 0 0 [] [] = true := by decide +kernel
theorem rf_f_L_weighs_69 : rf_Fb rf_m_L_weighs 69 70 (.iconst 3) 0 0 0 0 [] [] = true := by decide +kernel
theorem rf_f_L_weighs_70 : rf_Fb rf_m_L_weighs 70 71 (.iadd) 0 0 0 0 [] [] = true := by decide +kernel
theorem rf_f_L_weighs_71 : rf_Fb rf_m_L_weighs 71 74 (.goto 5) 76 0 0 0 [] [true, false, false, false, true] = true := by decide +kernel
theorem rf_f_L_weighs_74 : rf_Fb rf_m_L_weighs 74 76 (.iload 4) 0 0 0 0 [] [] = true := by decide +kernel
theorem rf_f_L_weighs_76 : rf_Fb rf_m_L_weighs 76 78 (.istore 4) 0 0 0 0 [] [true, false, false, false, true] = true := by decide +kernel
theorem rf_f_L_weighs_78 : rf_Fb rf_m_L_weighs 78 80 (.iload 4) 0 0 0 0 [] [] = true := by decide +kernel
theorem rf_f_L_weighs_80 : rf_Fb rf_m_L_weighs 80 81 (.aload_n 0) 0 0 0 0 [] [] = true := by decide +kernel
theorem rf_f_L_weighs_81 : rf_Fb rf_m_L_weighs 81 82 (.iconst 3) 0 0 0 0 [] [] = true := by decide +kernel
theorem rf_f_L_weighs_82 : rf_Fb rf_m_L_weighs 82 85 (.invokestatic 19) 118 2 0 0 [] [] = true := by decide +kernel
theorem rf_f_L_weighs_85 : rf_Fb rf_m_L_weighs 85 86 (.iadd) 0 0 0 0 [] [] = true := by decide +kernel
theorem rf_f_L_weighs_86 : rf_Fb rf_m_L_weighs 86 87 (.ireturn) 0 0 0 0 [] [] = true := by decide +kernel
set_option maxRecDepth 20000 in
set_option maxHeartbeats 2000000 in
theorem rf_e_L_weighs (d : Nat) (a0 : Nat) (a1 : Nat) (a2 : Int) (h : rf_H) : rf_call (d + 1) 123 [.inr (.inr (some a0)), .inr (.inr (some a1)), .inl a2] h = ((rf_call d 120 [.inr (.inr (some a0)), .inl a2, .inl 0] h).bind fun q1 => rf_kI q1 fun x2 h3 => ((rf_call d 120 [.inr (.inr (some a0)), .inl a2, .inl 1] h3).bind fun q4 => rf_kI q4 fun x5 h6 => (if x2 = 1 then rf_j_L_weighs_25 d a0 x5 h6 else (if x2 = 4 then rf_j_L_weighs_25 d a0 x5 h6 else (if x2 = 3 then (if x5 < 2 then rf_j_L_weighs_78 d a0 0 h6 else rf_j_L_weighs_78 d a0 (rf_w (x5 - 2)) h6) else (if x2 = 5 then ((rf_aI h6 a1 4).bind fun x7 => (if x7 = 1 then rf_j_L_weighs_78 d a0 (rf_w (x5 + 3)) h6 else rf_j_L_weighs_74 d a0 x5 h6)) else rf_j_L_weighs_74 d a0 x5 h6)))))) := by
  show rf_den (rf_call d) (rf_mt 123) _ = _
  rw [rf_u_L_weighs]
  exact ((rf_s_aload_n rf_f_L_weighs_0 rfl (rf_m0 _) (rf_s_iload_n rf_f_L_weighs_1 rfl (rf_m0 _) (rf_s_iconst rf_f_L_weighs_2 (rf_m0 _) (rf_s_invS0 rf_f_L_weighs_3 rfl rfl (rf_m0 _) fun q1 x2 h3 => (rf_s_istore_n (L' := [some (.inr (.inr (some a0))), some (.inr (.inr (some a1))), some (.inl a2), some (.inl x2), none]) rf_f_L_weighs_6 rfl (rf_s_aload_n rf_f_L_weighs_7 rfl (rf_m0 _) (rf_s_iload_n rf_f_L_weighs_8 rfl (rf_m0 _) (rf_s_iconst rf_f_L_weighs_9 (rf_m0 _) (rf_s_invS0 rf_f_L_weighs_10 rfl rfl (rf_m0 _) fun q4 x5 h6 => (rf_s_istore (L' := [some (.inr (.inr (some a0))), some (.inr (.inr (some a1))), some (.inl a2), some (.inl x2), some (.inl x5)]) rf_f_L_weighs_13 rfl (rf_s_iload_n rf_f_L_weighs_15 rfl (rf_m0 _) (rf_s_iconst rf_f_L_weighs_16 (rf_m0 _) (rf_s_icmp_eq rf_f_L_weighs_17 rfl rfl (rf_m0 _) rfl (rf_s_iload_n rf_f_L_weighs_20 rfl (rf_m0 _) (rf_s_iconst rf_f_L_weighs_21 (rf_m0 _) (rf_s_icmp_ne rf_f_L_weighs_22 rfl (rf_m0 _) rfl (rf_s_iload_n rf_f_L_weighs_33 rfl (rf_m0 _) (rf_s_iconst rf_f_L_weighs_34 (rf_m0 _) (rf_s_icmp_ne rf_f_L_weighs_35 rfl (rf_m0 _) (rf_m0 _) (rf_s_iload_n rf_f_L_weighs_55 rfl (rf_m0 _) (rf_s_iconst rf_f_L_weighs_56 (rf_m0 _) (rf_s_icmp_ne rf_f_L_weighs_57 rfl rfl (rf_m0 _) rfl (rf_s_aload_n rf_f_L_weighs_60 rfl (rf_m0 _) (rf_s_iconst rf_f_L_weighs_61 (rf_m0 _) (rf_s_ialdS rf_f_L_weighs_62 (rf_m0 _) fun x7 => (rf_s_iconst rf_f_L_weighs_63 (rf_m0 _) (rf_s_icmp_ne rf_f_L_weighs_64 rfl rfl (rf_m0 _) rfl (rf_s_iload rf_f_L_weighs_67 rfl (rf_m0 _) (rf_s_iconst rf_f_L_weighs_69 (rf_m0 _) (rf_s_iadd rf_f_L_weighs_70 (rf_m0 _) (rf_s_goto rf_f_L_weighs_71 rfl (rf_m0 _) (rf_s_istore rf_f_L_weighs_76 rfl rfl))))))))))))) (rf_s_iload rf_f_L_weighs_38 rfl (rf_m0 _) (rf_s_iconst rf_f_L_weighs_40 (rf_m0 _) (rf_s_icmp_ge rf_f_L_weighs_41 rfl (rf_m0 _) (rf_m0 _) (rf_s_iload rf_f_L_weighs_48 rfl (rf_m0 _) (rf_s_iconst rf_f_L_weighs_50 (rf_m0 _) (rf_s_isub rf_f_L_weighs_51 (rf_m0 _) (rf_s_goto rf_f_L_weighs_52 rfl (rf_m0 _) (rf_s_istore rf_f_L_weighs_76 rfl rfl))))) (rf_s_iconst rf_f_L_weighs_44 (rf_m0 _) (rf_s_goto rf_f_L_weighs_45 rfl (rf_m0 _) (rf_s_istore rf_f_L_weighs_76 rfl rfl))))))))) rfl)))))))))))))))) : rf_den (rf_call d) rf_m_L_weighs (0, [some (.inr (.inr (some a0))), some (.inr (.inr (some a1))), some (.inl a2), none, none], [], h) = _)
set_option maxRecDepth 20000 in
set_option maxHeartbeats 2000000 in
theorem rf_e_L_weighs_25 (d : Nat) (l0 : Nat) (l4 : Int) (h : rf_H) : rf_j_L_weighs_25 d l0 l4 h = rf_j_L_weighs_78 d l0 (rf_w (l4 + l4)) h :=
  ((rf_s_iload rf_f_L_weighs_25 rfl (rf_m0 _) (rf_s_iload rf_f_L_weighs_27 rfl (rf_m0 _) (rf_s_iadd rf_f_L_weighs_29 (rf_m0 _) (rf_s_goto rf_f_L_weighs_30 rfl (rf_m0 _) (rf_s_istore rf_f_L_weighs_76 rfl rfl))))) : rf_den (rf_call d) rf_m_L_weighs (25, [some (.inr (.inr (some l0))), none, none, none, some (.inl l4)], [], h) = _)
set_option maxRecDepth 20000 in
set_option maxHeartbeats 2000000 in
theorem rf_e_L_weighs_74 (d : Nat) (l0 : Nat) (l4 : Int) (h : rf_H) : rf_j_L_weighs_74 d l0 l4 h = rf_j_L_weighs_78 d l0 l4 h :=
  ((rf_s_iload rf_f_L_weighs_74 rfl (rf_m0 _) (rf_s_istore rf_f_L_weighs_76 rfl rfl)) : rf_den (rf_call d) rf_m_L_weighs (74, [some (.inr (.inr (some l0))), none, none, none, some (.inl l4)], [], h) = _)
set_option maxRecDepth 20000 in
set_option maxHeartbeats 2000000 in
theorem rf_e_L_weighs_78 (d : Nat) (l0 : Nat) (l4 : Int) (h : rf_H) : rf_j_L_weighs_78 d l0 l4 h = ((rf_call d 118 [.inr (.inr (some l0)), .inl 3] h).bind fun q1 => rf_kI q1 fun x2 h3 => some (some (.inl (rf_w (l4 + x2))), h3)) :=
  ((rf_s_iload rf_f_L_weighs_78 rfl (rf_m0 _) (rf_s_aload_n rf_f_L_weighs_80 rfl (rf_m0 _) (rf_s_iconst rf_f_L_weighs_81 (rf_m0 _) (rf_s_invS0 rf_f_L_weighs_82 rfl rfl (rf_m0 _) fun q1 x2 h3 => (rf_s_iadd rf_f_L_weighs_85 (rf_m0 _) (rf_s_iret rf_f_L_weighs_86)))))) : rf_den (rf_call d) rf_m_L_weighs (78, [some (.inr (.inr (some l0))), none, none, none, some (.inl l4)], [], h) = _)
theorem rf_u_L_holds : rf_mt 124 = rf_m_L_holds := rfl
theorem rf_f_L_holds_0 : rf_Fb rf_m_L_holds 0 1 (.aload_n 0) 0 0 0 0 [] [] = true := by decide +kernel
theorem rf_f_L_holds_1 : rf_Fb rf_m_L_holds 1 2 (.iload_n 1) 0 0 0 0 [] [] = true := by decide +kernel
theorem rf_f_L_holds_2 : rf_Fb rf_m_L_holds 2 3 (.iconst 0) 0 0 0 0 [] [] = true := by decide +kernel
theorem rf_f_L_holds_3 : rf_Fb rf_m_L_holds 3 6 (.invokestatic 28) 120 3 0 0 [] [] = true := by decide +kernel
theorem rf_f_L_holds_6 : rf_Fb rf_m_L_holds 6 7 (.iconst 4) 0 0 0 0 [] [] = true := by decide +kernel
theorem rf_f_L_holds_7 : rf_Fb rf_m_L_holds 7 10 (.if_icmp .ne 14) 21 0 0 0 [] [] = true := by decide +kernel
theorem rf_f_L_holds_10 : rf_Fb rf_m_L_holds 10 11 (.aload_n 0) 0 0 0 0 [] [] = true := by decide +kernel
theorem rf_f_L_holds_11 : rf_Fb rf_m_L_holds 11 12 (.iload_n 1) 0 0 0 0 [] [] = true := by decide +kernel
theorem rf_f_L_holds_12 : rf_Fb rf_m_L_holds 12 13 (.iconst 2) 0 0 0 0 [] [] = true := by decide +kernel
theorem rf_f_L_holds_13 : rf_Fb rf_m_L_holds 13 16 (.invokestatic 28) 120 3 0 0 [] [] = true := by decide +kernel
theorem rf_f_L_holds_16 : rf_Fb rf_m_L_holds 16 17 (.iconst 2) 0 0 0 0 [] [] = true := by decide +kernel
theorem rf_f_L_holds_17 : rf_Fb rf_m_L_holds 17 18 (.idiv) 0 0 0 0 [] [] = true := by decide +kernel
theorem rf_f_L_holds_18 : rf_Fb rf_m_L_holds 18 21 (.goto 9) 27 0 0 0 [] [] = true := by decide +kernel
theorem rf_f_L_holds_21 : rf_Fb rf_m_L_holds 21 22 (.aload_n 0) 0 0 0 0 [] [] = true := by decide +kernel
theorem rf_f_L_holds_22 : rf_Fb rf_m_L_holds 22 23 (.iload_n 1) 0 0 0 0 [] [] = true := by decide +kernel
theorem rf_f_L_holds_23 : rf_Fb rf_m_L_holds 23 24 (.iconst 2) 0 0 0 0 [] [] = true := by decide +kernel
theorem rf_f_L_holds_24 : rf_Fb rf_m_L_holds 24 27 (.invokestatic 28) 120 3 0 0 [] [] = true := by decide +kernel
theorem rf_f_L_holds_27 : rf_Fb rf_m_L_holds 27 28 (.ireturn) 0 0 0 0 [] [] = true := by decide +kernel
set_option maxRecDepth 20000 in
set_option maxHeartbeats 2000000 in
theorem rf_e_L_holds (d : Nat) (a0 : Nat) (a1 : Int) (h : rf_H) : rf_call (d + 1) 124 [.inr (.inr (some a0)), .inl a1] h = ((rf_call d 120 [.inr (.inr (some a0)), .inl a1, .inl 0] h).bind fun q1 => rf_kI q1 fun x2 h3 => (if x2 = 4 then ((rf_call d 120 [.inr (.inr (some a0)), .inl a1, .inl 2] h3).bind fun q7 => rf_kI q7 fun x8 h9 => some (some (.inl (rf_w (Int.tdiv x8 2))), h9)) else ((rf_call d 120 [.inr (.inr (some a0)), .inl a1, .inl 2] h3).bind fun q4 => rf_kI q4 fun x5 h6 => some (some (.inl x5), h6)))) := by
  show rf_den (rf_call d) (rf_mt 124) _ = _
  rw [rf_u_L_holds]
  exact ((rf_s_aload_n rf_f_L_holds_0 rfl (rf_m0 _) (rf_s_iload_n rf_f_L_holds_1 rfl (rf_m0 _) (rf_s_iconst rf_f_L_holds_2 (rf_m0 _) (rf_s_invS0 rf_f_L_holds_3 rfl rfl (rf_m0 _) fun q1 x2 h3 => (rf_s_iconst rf_f_L_holds_6 (rf_m0 _) (rf_s_icmp_ne rf_f_L_holds_7 rfl (rf_m0 _) (rf_m0 _) (rf_s_aload_n rf_f_L_holds_21 rfl (rf_m0 _) (rf_s_iload_n rf_f_L_holds_22 rfl (rf_m0 _) (rf_s_iconst rf_f_L_holds_23 (rf_m0 _) (rf_s_invS0 rf_f_L_holds_24 rfl rfl (rf_m0 _) fun q4 x5 h6 => (rf_s_iret rf_f_L_holds_27))))) (rf_s_aload_n rf_f_L_holds_10 rfl (rf_m0 _) (rf_s_iload_n rf_f_L_holds_11 rfl (rf_m0 _) (rf_s_iconst rf_f_L_holds_12 (rf_m0 _) (rf_s_invS0 rf_f_L_holds_13 rfl rfl (rf_m0 _) fun q7 x8 h9 => (rf_s_iconst rf_f_L_holds_16 (rf_m0 _) (rf_s_idiv rf_f_L_holds_17 (by decide) (rf_m0 _) (rf_s_goto rf_f_L_holds_18 rfl (rf_m0 _) (rf_s_iret rf_f_L_holds_27)))))))))))))) : rf_den (rf_call d) rf_m_L_holds (0, [some (.inr (.inr (some a0))), some (.inl a1)], [], h) = _)
noncomputable def rf_j_L_slack_20 (d : Nat) (h : rf_H) : Option rf_R := rf_den (rf_call d) rf_m_L_slack (20, [none, none], [], h)
theorem rf_u_L_slack : rf_mt 125 = rf_m_L_slack := rfl
theorem rf_f_L_slack_0 : rf_Fb rf_m_L_slack 0 1 (.aload_n 0) 0 0 0 0 [] [] = true := by decide +kernel
theorem rf_f_L_slack_1 : rf_Fb rf_m_L_slack 1 2 (.iload_n 1) 0 0 0 0 [] [] = true := by decide +kernel
theorem rf_f_L_slack_2 : rf_Fb rf_m_L_slack 2 3 (.iconst 0) 0 0 0 0 [] [] = true := by decide +kernel
theorem rf_f_L_slack_3 : rf_Fb rf_m_L_slack 3 6 (.invokestatic 28) 120 3 0 0 [] [] = true := by decide +kernel
theorem rf_f_L_slack_6 : rf_Fb rf_m_L_slack 6 7 (.iconst 2) 0 0 0 0 [] [] = true := by decide +kernel
theorem rf_f_L_slack_7 : rf_Fb rf_m_L_slack 7 10 (.if_icmp .eq 13) 20 0 0 0 [] [] = true := by decide +kernel
theorem rf_f_L_slack_10 : rf_Fb rf_m_L_slack 10 11 (.aload_n 0) 0 0 0 0 [] [] = true := by decide +kernel
theorem rf_f_L_slack_11 : rf_Fb rf_m_L_slack 11 12 (.iload_n 1) 0 0 0 0 [] [] = true := by decide +kernel
theorem rf_f_L_slack_12 : rf_Fb rf_m_L_slack 12 13 (.iconst 0) 0 0 0 0 [] [] = true := by decide +kernel
theorem rf_f_L_slack_13 : rf_Fb rf_m_L_slack 13 16 (.invokestatic 28) 120 3 0 0 [] [] = true := by decide +kernel
theorem rf_f_L_slack_16 : rf_Fb rf_m_L_slack 16 17 (.iconst 5) 0 0 0 0 [] [] = true := by decide +kernel
theorem rf_f_L_slack_17 : rf_Fb rf_m_L_slack 17 20 (.if_icmp .ne 7) 24 0 0 0 [] [false, false] = true := by decide +kernel
theorem rf_f_L_slack_20 : rf_Fb rf_m_L_slack 20 21 (.iconst 2) 0 0 0 0 [] [] = true := by decide +kernel
theorem rf_f_L_slack_21 : rf_Fb rf_m_L_slack 21 24 (.goto 4) 25 0 0 0 [] [] = true := by decide +kernel
theorem rf_f_L_slack_24 : rf_Fb rf_m_L_slack 24 25 (.iconst 0) 0 0 0 0 [] [] = true := by decide +kernel
theorem rf_f_L_slack_25 : rf_Fb rf_m_L_slack 25 26 (.ireturn) 0 0 0 0 [] [] = true := by decide +kernel
set_option maxRecDepth 20000 in
set_option maxHeartbeats 2000000 in
theorem rf_e_L_slack (d : Nat) (a0 : Nat) (a1 : Int) (h : rf_H) : rf_call (d + 1) 125 [.inr (.inr (some a0)), .inl a1] h = ((rf_call d 120 [.inr (.inr (some a0)), .inl a1, .inl 0] h).bind fun q1 => rf_kI q1 fun x2 h3 => (if x2 = 2 then rf_j_L_slack_20 d h3 else ((rf_call d 120 [.inr (.inr (some a0)), .inl a1, .inl 0] h3).bind fun q4 => rf_kI q4 fun x5 h6 => (if x5 = 5 then rf_j_L_slack_20 d h6 else some (some (.inl 0), h6))))) := by
  show rf_den (rf_call d) (rf_mt 125) _ = _
  rw [rf_u_L_slack]
  exact ((rf_s_aload_n rf_f_L_slack_0 rfl (rf_m0 _) (rf_s_iload_n rf_f_L_slack_1 rfl (rf_m0 _) (rf_s_iconst rf_f_L_slack_2 (rf_m0 _) (rf_s_invS0 rf_f_L_slack_3 rfl rfl (rf_m0 _) fun q1 x2 h3 => (rf_s_iconst rf_f_L_slack_6 (rf_m0 _) (rf_s_icmp_eq rf_f_L_slack_7 rfl rfl (rf_m0 _) rfl (rf_s_aload_n rf_f_L_slack_10 rfl (rf_m0 _) (rf_s_iload_n rf_f_L_slack_11 rfl (rf_m0 _) (rf_s_iconst rf_f_L_slack_12 (rf_m0 _) (rf_s_invS0 rf_f_L_slack_13 rfl rfl (rf_m0 _) fun q4 x5 h6 => (rf_s_iconst rf_f_L_slack_16 (rf_m0 _) (rf_s_icmp_ne rf_f_L_slack_17 rfl (rf_m0 _) rfl (rf_s_iconst rf_f_L_slack_24 (rf_m0 _) (rf_s_iret rf_f_L_slack_25)) rfl)))))))))))) : rf_den (rf_call d) rf_m_L_slack (0, [some (.inr (.inr (some a0))), some (.inl a1)], [], h) = _)
set_option maxRecDepth 20000 in
set_option maxHeartbeats 2000000 in
theorem rf_e_L_slack_20 (d : Nat) (h : rf_H) : rf_j_L_slack_20 d  h = some (some (.inl 2), h) :=
  ((rf_s_iconst rf_f_L_slack_20 (rf_m0 _) (rf_s_goto rf_f_L_slack_21 rfl (rf_m0 _) (rf_s_iret rf_f_L_slack_25))) : rf_den (rf_call d) rf_m_L_slack (20, [none, none], [], h) = _)
noncomputable def rf_j_L_load_5 (d : Nat) (l0 : Nat) (l1 : Nat) (l2 : Int) (l3 : Int) (l4 : Int) (h : rf_H) : Option rf_R := rf_den (rf_call d) rf_m_L_load (5, [some (.inr (.inr (some l0))), some (.inr (.inr (some l1))), some (.inl l2), some (.inl l3), some (.inl l4)], [], h)
theorem rf_u_L_load : rf_mt 126 = rf_m_L_load := rfl
theorem rf_f_L_load_0 : rf_Fb rf_m_L_load 0 1 (.iconst 0) 0 0 0 0 [] [] = true := by decide +kernel
theorem rf_f_L_load_1 : rf_Fb rf_m_L_load 1 2 (.istore_n 3) 0 0 0 0 [] [] = true := by decide +kernel
theorem rf_f_L_load_2 : rf_Fb rf_m_L_load 2 3 (.iconst 0) 0 0 0 0 [] [] = true := by decide +kernel
theorem rf_f_L_load_3 : rf_Fb rf_m_L_load 3 5 (.istore 4) 0 0 0 0 [] [true, true, true, true, true] = true := by decide +kernel
theorem rf_f_L_load_5 : rf_Fb rf_m_L_load 5 7 (.iload 4) 0 0 0 0 [] [] = true := by decide +kernel
theorem rf_f_L_load_7 : rf_Fb rf_m_L_load 7 8 (.iload_n 2) 0 0 0 0 [] [] = true := by decide +kernel
theorem rf_f_L_load_8 : rf_Fb rf_m_L_load 8 11 (.if_icmp .ge 19) 27 0 0 0 [] [] = true := by decide +kernel
theorem rf_f_L_load_11 : rf_Fb rf_m_L_load 11 12 (.iload_n 3) 0 0 0 0 [] [] = true := by decide +kernel
theorem rf_f_L_load_12 : rf_Fb rf_m_L_load 12 13 (.aload_n 0) 0 0 0 0 [] [] = true := by decide +kernel
theorem rf_f_L_load_13 : rf_Fb rf_m_L_load 13 14 (.aload_n 1) 0 0 0 0 [] [] = true := by decide +kernel
theorem rf_f_L_load_14 : rf_Fb rf_m_L_load 14 16 (.iload 4) 0 0 0 0 [] [] = true := by decide +kernel
theorem rf_f_L_load_16 : rf_Fb rf_m_L_load 16 19 (.invokestatic 49) 123 3 0 0 [] [] = true := by decide +kernel
theorem rf_f_L_load_19 : rf_Fb rf_m_L_load 19 20 (.iadd) 0 0 0 0 [] [] = true := by decide +kernel
theorem rf_f_L_load_20 : rf_Fb rf_m_L_load 20 21 (.istore_n 3) 0 0 0 0 [] [] = true := by decide +kernel
theorem rf_f_L_load_21 : rf_Fb rf_m_L_load 21 24 (.iinc 4 1) 0 0 0 0 [] [] = true := by decide +kernel
theorem rf_f_L_load_24 : rf_Fb rf_m_L_load 24 27 (.goto (-19)) 5 0 0 0 [] [] = true := by decide +kernel
theorem rf_f_L_load_27 : rf_Fb rf_m_L_load 27 28 (.iload_n 3) 0 0 0 0 [] [] = true := by decide +kernel
theorem rf_f_L_load_28 : rf_Fb rf_m_L_load 28 29 (.ireturn) 0 0 0 0 [] [] = true := by decide +kernel
set_option maxRecDepth 20000 in
set_option maxHeartbeats 2000000 in
theorem rf_e_L_load (d : Nat) (a0 : Nat) (a1 : Nat) (a2 : Int) (h : rf_H) : rf_call (d + 1) 126 [.inr (.inr (some a0)), .inr (.inr (some a1)), .inl a2] h = rf_j_L_load_5 d a0 a1 a2 0 0 h := by
  show rf_den (rf_call d) (rf_mt 126) _ = _
  rw [rf_u_L_load]
  exact ((rf_s_iconst rf_f_L_load_0 (rf_m0 _) (rf_s_istore_n (L' := [some (.inr (.inr (some a0))), some (.inr (.inr (some a1))), some (.inl a2), some (.inl 0), none]) rf_f_L_load_1 rfl (rf_s_iconst rf_f_L_load_2 (rf_m0 _) (rf_s_istore rf_f_L_load_3 rfl rfl)))) : rf_den (rf_call d) rf_m_L_load (0, [some (.inr (.inr (some a0))), some (.inr (.inr (some a1))), some (.inl a2), none, none], [], h) = _)
set_option maxRecDepth 20000 in
set_option maxHeartbeats 2000000 in
theorem rf_e_L_load_5 (d : Nat) (l0 : Nat) (l1 : Nat) (l2 : Int) (l3 : Int) (l4 : Int) (h : rf_H) : rf_j_L_load_5 d l0 l1 l2 l3 l4 h = (if l4 < l2 then ((rf_call d 123 [.inr (.inr (some l0)), .inr (.inr (some l1)), .inl l4] h).bind fun q1 => rf_kI q1 fun x2 h3 => rf_j_L_load_5 d l0 l1 l2 (rf_w (l3 + x2)) (rf_w (l4 + 1)) h3) else some (some (.inl l3), h)) :=
  ((rf_s_iload rf_f_L_load_5 rfl (rf_m0 _) (rf_s_iload_n rf_f_L_load_7 rfl (rf_m0 _) (rf_s_icmp_ge rf_f_L_load_8 rfl (rf_m0 _) (rf_m0 _) (rf_s_iload_n rf_f_L_load_27 rfl (rf_m0 _) (rf_s_iret rf_f_L_load_28)) (rf_s_iload_n rf_f_L_load_11 rfl (rf_m0 _) (rf_s_aload_n rf_f_L_load_12 rfl (rf_m0 _) (rf_s_aload_n rf_f_L_load_13 rfl (rf_m0 _) (rf_s_iload rf_f_L_load_14 rfl (rf_m0 _) (rf_s_invS0 rf_f_L_load_16 rfl rfl (rf_m0 _) fun q1 x2 h3 => (rf_s_iadd rf_f_L_load_19 (rf_m0 _) (rf_s_istore_n (L' := [some (.inr (.inr (some l0))), some (.inr (.inr (some l1))), some (.inl l2), some (.inl (rf_w (l3 + x2))), some (.inl l4)]) rf_f_L_load_20 rfl (rf_s_iinc (L' := [some (.inr (.inr (some l0))), some (.inr (.inr (some l1))), some (.inl l2), some (.inl (rf_w (l3 + x2))), some (.inl (rf_w (l4 + 1)))]) rf_f_L_load_21 rfl rfl (rf_s_goto rf_f_L_load_24 rfl rfl rfl)))))))))))) : rf_den (rf_call d) rf_m_L_load (5, [some (.inr (.inr (some l0))), some (.inr (.inr (some l1))), some (.inl l2), some (.inl l3), some (.inl l4)], [], h) = _)
noncomputable def rf_j_L_grip_29 (d : Nat) (l1 : Nat) (l3 : Int) (h : rf_H) : Option rf_R := rf_den (rf_call d) rf_m_L_grip (29, [none, some (.inr (.inr (some l1))), none, some (.inl l3)], [], h)
theorem rf_u_L_grip : rf_mt 127 = rf_m_L_grip := rfl
theorem rf_f_L_grip_0 : rf_Fb rf_m_L_grip 0 1 (.aload_n 0) 0 0 0 0 [] [] = true := by decide +kernel
theorem rf_f_L_grip_1 : rf_Fb rf_m_L_grip 1 2 (.iconst 0) 0 0 0 0 [] [] = true := by decide +kernel
theorem rf_f_L_grip_2 : rf_Fb rf_m_L_grip 2 5 (.invokestatic 19) 118 2 0 0 [] [] = true := by decide +kernel
theorem rf_f_L_grip_5 : rf_Fb rf_m_L_grip 5 6 (.iload_n 2) 0 0 0 0 [] [] = true := by decide +kernel
theorem rf_f_L_grip_6 : rf_Fb rf_m_L_grip 6 9 (.ifCond .ne 7) 13 0 0 0 [] [] = true := by decide +kernel
theorem rf_f_L_grip_9 : rf_Fb rf_m_L_grip 9 10 (.iconst 3) 0 0 0 0 [] [] = true := by decide +kernel
theorem rf_f_L_grip_10 : rf_Fb rf_m_L_grip 10 13 (.goto 13) 23 0 0 0 [] [] = true := by decide +kernel
theorem rf_f_L_grip_13 : rf_Fb rf_m_L_grip 13 14 (.iload_n 2) 0 0 0 0 [] [] = true := by decide +kernel
theorem rf_f_L_grip_14 : rf_Fb rf_m_L_grip 14 15 (.iconst 1) 0 0 0 0 [] [] = true := by decide +kernel
theorem rf_f_L_grip_15 : rf_Fb rf_m_L_grip 15 18 (.if_icmp .ne 7) 22 0 0 0 [] [] = true := by decide +kernel
theorem rf_f_L_grip_18 : rf_Fb rf_m_L_grip 18 19 (.iconst 2) 0 0 0 0 [] [] = true := by decide +kernel
theorem rf_f_L_grip_19 : rf_Fb rf_m_L_grip 19 22 (.goto 4) 23 0 0 0 [] [] = true := by decide +kernel
theorem rf_f_L_grip_22 : rf_Fb rf_m_L_grip 22 23 (.iconst 1) 0 0 0 0 [] [] = true := by decide +kernel
theorem rf_f_L_grip_23 : rf_Fb rf_m_L_grip 23 24 (.imul) 0 0 0 0 [] [] = true := by decide +kernel
theorem rf_f_L_grip_24 : rf_Fb rf_m_L_grip 24 25 (.aload_n 1) 0 0 0 0 [] [] = true := by decide +kernel
theorem rf_f_L_grip_25 : rf_Fb rf_m_L_grip 25 26 (.iconst 2) 0 0 0 0 [] [] = true := by decide +kernel
theorem rf_f_L_grip_26 : rf_Fb rf_m_L_grip 26 27 (.iaload) 0 0 0 0 [] [] = true := by decide +kernel
theorem rf_f_L_grip_27 : rf_Fb rf_m_L_grip 27 28 (.isub) 0 0 0 0 [] [] = true := by decide +kernel
theorem rf_f_L_grip_28 : rf_Fb rf_m_L_grip 28 29 (.istore_n 3) 0 0 0 0 [] [false, true, false, true] = true := by decide +kernel
theorem rf_f_L_grip_29 : rf_Fb rf_m_L_grip 29 30 (.iload_n 3) 0 0 0 0 [] [] = true := by decide +kernel
theorem rf_f_L_grip_30 : rf_Fb rf_m_L_grip 30 33 (.ifCond .ge 7) 37 0 0 0 [] [] = true := by decide +kernel
theorem rf_f_L_grip_33 : rf_Fb rf_m_L_grip 33 34 (.iconst 0) 0 0 0 0 [] [] = true := by decide +kernel
theorem rf_f_L_grip_34 : rf_Fb rf_m_L_grip 34 37 (.goto 4) 38 0 0 0 [] [] = true := by decide +kernel
theorem rf_f_L_grip_37 : rf_Fb rf_m_L_grip 37 38 (.iload_n 3) 0 0 0 0 [] [] = true := by decide +kernel
theorem rf_f_L_grip_38 : rf_Fb rf_m_L_grip 38 39 (.iconst 3) 0 0 0 0 [] [] = true := by decide +kernel
theorem rf_f_L_grip_39 : rf_Fb rf_m_L_grip 39 40 (.aload_n 1) 0 0 0 0 [] [] = true := by decide +kernel
theorem rf_f_L_grip_40 : rf_Fb rf_m_L_grip 40 41 (.iconst 3) 0 0 0 0 [] [] = true := by decide +kernel
theorem rf_f_L_grip_41 : rf_Fb rf_m_L_grip 41 42 (.iaload) 0 0 0 0 [] [] = true := by decide +kernel
theorem rf_f_L_grip_42 : rf_Fb rf_m_L_grip 42 43 (.imul) 0 0 0 0 [] [] = true := by decide +kernel
theorem rf_f_L_grip_43 : rf_Fb rf_m_L_grip 43 44 (.iadd) 0 0 0 0 [] [] = true := by decide +kernel
theorem rf_f_L_grip_44 : rf_Fb rf_m_L_grip 44 45 (.ireturn) 0 0 0 0 [] [] = true := by decide +kernel
set_option maxRecDepth 20000 in
set_option maxHeartbeats 2000000 in
theorem rf_e_L_grip (d : Nat) (a0 : Nat) (a1 : Nat) (a2 : Int) (h : rf_H) : rf_call (d + 1) 127 [.inr (.inr (some a0)), .inr (.inr (some a1)), .inl a2] h = ((rf_call d 118 [.inr (.inr (some a0)), .inl 0] h).bind fun q1 => rf_kI q1 fun x2 h3 => (if a2 = 0 then ((rf_aI h3 a1 2).bind fun x6 => rf_j_L_grip_29 d a1 (rf_w ((rf_w (x2 * 3)) - x6)) h3) else (if a2 = 1 then ((rf_aI h3 a1 2).bind fun x5 => rf_j_L_grip_29 d a1 (rf_w ((rf_w (x2 * 2)) - x5)) h3) else ((rf_aI h3 a1 2).bind fun x4 => rf_j_L_grip_29 d a1 (rf_w ((rf_w (x2 * 1)) - x4)) h3)))) := by
  show rf_den (rf_call d) (rf_mt 127) _ = _
  rw [rf_u_L_grip]
  exact ((rf_s_aload_n rf_f_L_grip_0 rfl (rf_m0 _) (rf_s_iconst rf_f_L_grip_1 (rf_m0 _) (rf_s_invS0 rf_f_L_grip_2 rfl rfl (rf_m0 _) fun q1 x2 h3 => (rf_s_iload_n rf_f_L_grip_5 rfl (rf_m0 _) (rf_s_if_ne rf_f_L_grip_6 rfl (rf_m0 _) (rf_m0 _) (rf_s_iload_n rf_f_L_grip_13 rfl (rf_m0 _) (rf_s_iconst rf_f_L_grip_14 (rf_m0 _) (rf_s_icmp_ne rf_f_L_grip_15 rfl (rf_m0 _) (rf_m0 _) (rf_s_iconst rf_f_L_grip_22 (rf_m0 _) (rf_s_imul rf_f_L_grip_23 (rf_m0 _) (rf_s_aload_n rf_f_L_grip_24 rfl (rf_m0 _) (rf_s_iconst rf_f_L_grip_25 (rf_m0 _) (rf_s_ialdS rf_f_L_grip_26 (rf_m0 _) fun x4 => (rf_s_isub rf_f_L_grip_27 (rf_m0 _) (rf_s_istore_n rf_f_L_grip_28 rfl rfl))))))) (rf_s_iconst rf_f_L_grip_18 (rf_m0 _) (rf_s_goto rf_f_L_grip_19 rfl (rf_m0 _) (rf_s_imul rf_f_L_grip_23 (rf_m0 _) (rf_s_aload_n rf_f_L_grip_24 rfl (rf_m0 _) (rf_s_iconst rf_f_L_grip_25 (rf_m0 _) (rf_s_ialdS rf_f_L_grip_26 (rf_m0 _) fun x5 => (rf_s_isub rf_f_L_grip_27 (rf_m0 _) (rf_s_istore_n rf_f_L_grip_28 rfl rfl))))))))))) (rf_s_iconst rf_f_L_grip_9 (rf_m0 _) (rf_s_goto rf_f_L_grip_10 rfl (rf_m0 _) (rf_s_imul rf_f_L_grip_23 (rf_m0 _) (rf_s_aload_n rf_f_L_grip_24 rfl (rf_m0 _) (rf_s_iconst rf_f_L_grip_25 (rf_m0 _) (rf_s_ialdS rf_f_L_grip_26 (rf_m0 _) fun x6 => (rf_s_isub rf_f_L_grip_27 (rf_m0 _) (rf_s_istore_n rf_f_L_grip_28 rfl rfl))))))))))))) : rf_den (rf_call d) rf_m_L_grip (0, [some (.inr (.inr (some a0))), some (.inr (.inr (some a1))), some (.inl a2), none], [], h) = _)
set_option maxRecDepth 20000 in
set_option maxHeartbeats 2000000 in
theorem rf_e_L_grip_29 (d : Nat) (l1 : Nat) (l3 : Int) (h : rf_H) : rf_j_L_grip_29 d l1 l3 h = (if l3 < 0 then ((rf_aI h l1 3).bind fun x2 => some (some (.inl (rf_w (0 + (rf_w (3 * x2))))), h)) else ((rf_aI h l1 3).bind fun x1 => some (some (.inl (rf_w (l3 + (rf_w (3 * x1))))), h))) :=
  ((rf_s_iload_n rf_f_L_grip_29 rfl (rf_m0 _) (rf_s_if_ge rf_f_L_grip_30 rfl (rf_m0 _) (rf_m0 _) (rf_s_iload_n rf_f_L_grip_37 rfl (rf_m0 _) (rf_s_iconst rf_f_L_grip_38 (rf_m0 _) (rf_s_aload_n rf_f_L_grip_39 rfl (rf_m0 _) (rf_s_iconst rf_f_L_grip_40 (rf_m0 _) (rf_s_ialdS rf_f_L_grip_41 (rf_m0 _) fun x1 => (rf_s_imul rf_f_L_grip_42 (rf_m0 _) (rf_s_iadd rf_f_L_grip_43 (rf_m0 _) (rf_s_iret rf_f_L_grip_44)))))))) (rf_s_iconst rf_f_L_grip_33 (rf_m0 _) (rf_s_goto rf_f_L_grip_34 rfl (rf_m0 _) (rf_s_iconst rf_f_L_grip_38 (rf_m0 _) (rf_s_aload_n rf_f_L_grip_39 rfl (rf_m0 _) (rf_s_iconst rf_f_L_grip_40 (rf_m0 _) (rf_s_ialdS rf_f_L_grip_41 (rf_m0 _) fun x2 => (rf_s_imul rf_f_L_grip_42 (rf_m0 _) (rf_s_iadd rf_f_L_grip_43 (rf_m0 _) (rf_s_iret rf_f_L_grip_44))))))))))) : rf_den (rf_call d) rf_m_L_grip (29, [none, some (.inr (.inr (some l1))), none, some (.inl l3)], [], h) = _)
noncomputable def rf_j_L_can_54 (d : Nat) (h : rf_H) : Option rf_R := rf_den (rf_call d) rf_m_L_can (54, [none, none], [], h)
theorem rf_u_L_can : rf_mt 128 = rf_m_L_can := rfl
theorem rf_f_L_can_0 : rf_Fb rf_m_L_can 0 1 (.iload_n 1) 0 0 0 0 [] [] = true := by decide +kernel
theorem rf_f_L_can_1 : rf_Fb rf_m_L_can 1 3 (.bipush 9) 0 0 0 0 [] [] = true := by decide +kernel
theorem rf_f_L_can_3 : rf_Fb rf_m_L_can 3 6 (.if_icmp .gt 18) 21 0 0 0 [] [] = true := by decide +kernel
theorem rf_f_L_can_6 : rf_Fb rf_m_L_can 6 7 (.aload_n 0) 0 0 0 0 [] [] = true := by decide +kernel
theorem rf_f_L_can_7 : rf_Fb rf_m_L_can 7 8 (.iconst 0) 0 0 0 0 [] [] = true := by decide +kernel
theorem rf_f_L_can_8 : rf_Fb rf_m_L_can 8 9 (.iaload) 0 0 0 0 [] [] = true := by decide +kernel
theorem rf_f_L_can_9 : rf_Fb rf_m_L_can 9 10 (.iload_n 1) 0 0 0 0 [] [] = true := by decide +kernel
theorem rf_f_L_can_10 : rf_Fb rf_m_L_can 10 13 (.if_icmp .lt 7) 17 0 0 0 [] [] = true := by decide +kernel
theorem rf_f_L_can_13 : rf_Fb rf_m_L_can 13 14 (.iconst 1) 0 0 0 0 [] [] = true := by decide +kernel
theorem rf_f_L_can_14 : rf_Fb rf_m_L_can 14 17 (.goto 45) 59 0 0 0 [] [] = true := by decide +kernel
theorem rf_f_L_can_17 : rf_Fb rf_m_L_can 17 18 (.iconst 0) 0 0 0 0 [] [] = true := by decide +kernel
theorem rf_f_L_can_18 : rf_Fb rf_m_L_can 18 21 (.goto 41) 59 0 0 0 [] [] = true := by decide +kernel
theorem rf_f_L_can_21 : rf_Fb rf_m_L_can 21 22 (.iload_n 1) 0 0 0 0 [] [] = true := by decide +kernel
theorem rf_f_L_can_22 : rf_Fb rf_m_L_can 22 24 (.bipush 10) 0 0 0 0 [] [] = true := by decide +kernel
theorem rf_f_L_can_24 : rf_Fb rf_m_L_can 24 27 (.if_icmp .ne 17) 41 0 0 0 [] [] = true := by decide +kernel
theorem rf_f_L_can_27 : rf_Fb rf_m_L_can 27 28 (.aload_n 0) 0 0 0 0 [] [] = true := by decide +kernel
theorem rf_f_L_can_28 : rf_Fb rf_m_L_can 28 29 (.iconst 1) 0 0 0 0 [] [] = true := by decide +kernel
theorem rf_f_L_can_29 : rf_Fb rf_m_L_can 29 30 (.iaload) 0 0 0 0 [] [] = true := by decide +kernel
theorem rf_f_L_can_30 : rf_Fb rf_m_L_can 30 33 (.ifCond .le 7) 37 0 0 0 [] [] = true := by decide +kernel
theorem rf_f_L_can_33 : rf_Fb rf_m_L_can 33 34 (.iconst 1) 0 0 0 0 [] [] = true := by decide +kernel
theorem rf_f_L_can_34 : rf_Fb rf_m_L_can 34 37 (.goto 25) 59 0 0 0 [] [] = true := by decide +kernel
theorem rf_f_L_can_37 : rf_Fb rf_m_L_can 37 38 (.iconst 0) 0 0 0 0 [] [] = true := by decide +kernel
theorem rf_f_L_can_38 : rf_Fb rf_m_L_can 38 41 (.goto 21) 59 0 0 0 [] [] = true := by decide +kernel
theorem rf_f_L_can_41 : rf_Fb rf_m_L_can 41 42 (.iload_n 1) 0 0 0 0 [] [] = true := by decide +kernel
theorem rf_f_L_can_42 : rf_Fb rf_m_L_can 42 44 (.bipush 13) 0 0 0 0 [] [] = true := by decide +kernel
theorem rf_f_L_can_44 : rf_Fb rf_m_L_can 44 47 (.if_icmp .le 10) 54 0 0 0 [] [] = true := by decide +kernel
theorem rf_f_L_can_47 : rf_Fb rf_m_L_can 47 48 (.aload_n 0) 0 0 0 0 [] [] = true := by decide +kernel
theorem rf_f_L_can_48 : rf_Fb rf_m_L_can 48 49 (.iconst 5) 0 0 0 0 [] [] = true := by decide +kernel
theorem rf_f_L_can_49 : rf_Fb rf_m_L_can 49 50 (.iaload) 0 0 0 0 [] [] = true := by decide +kernel
theorem rf_f_L_can_50 : rf_Fb rf_m_L_can 50 51 (.iconst 1) 0 0 0 0 [] [] = true := by decide +kernel
theorem rf_f_L_can_51 : rf_Fb rf_m_L_can 51 54 (.if_icmp .ne 7) 58 0 0 0 [] [false, false] = true := by decide +kernel
theorem rf_f_L_can_54 : rf_Fb rf_m_L_can 54 55 (.iconst 1) 0 0 0 0 [] [] = true := by decide +kernel
theorem rf_f_L_can_55 : rf_Fb rf_m_L_can 55 58 (.goto 4) 59 0 0 0 [] [] = true := by decide +kernel
theorem rf_f_L_can_58 : rf_Fb rf_m_L_can 58 59 (.iconst 0) 0 0 0 0 [] [] = true := by decide +kernel
theorem rf_f_L_can_59 : rf_Fb rf_m_L_can 59 60 (.ireturn) 0 0 1 0 [] [] = true := by decide +kernel
set_option maxRecDepth 20000 in
set_option maxHeartbeats 2000000 in
theorem rf_e_L_can (d : Nat) (a0 : Nat) (a1 : Int) (h : rf_H) : rf_call (d + 1) 128 [.inr (.inr (some a0)), .inl a1] h = (if 9 < a1 then (if a1 = 10 then ((rf_aI h a0 1).bind fun x2 => (if 0 < x2 then some (some (.inl 1), h) else some (some (.inl 0), h))) else (if 13 < a1 then ((rf_aI h a0 5).bind fun x1 => (if x1 = 1 then rf_j_L_can_54 d h else some (some (.inl 0), h))) else rf_j_L_can_54 d h)) else ((rf_aI h a0 0).bind fun x3 => (if x3 < a1 then some (some (.inl 0), h) else some (some (.inl 1), h)))) := by
  show rf_den (rf_call d) (rf_mt 128) _ = _
  rw [rf_u_L_can]
  exact ((rf_s_iload_n rf_f_L_can_0 rfl (rf_m0 _) (rf_s_bipush rf_f_L_can_1 (rf_m0 _) (rf_s_icmp_gt rf_f_L_can_3 rfl (rf_m0 _) (rf_m0 _) (rf_s_iload_n rf_f_L_can_21 rfl (rf_m0 _) (rf_s_bipush rf_f_L_can_22 (rf_m0 _) (rf_s_icmp_ne rf_f_L_can_24 rfl (rf_m0 _) (rf_m0 _) (rf_s_iload_n rf_f_L_can_41 rfl (rf_m0 _) (rf_s_bipush rf_f_L_can_42 (rf_m0 _) (rf_s_icmp_le rf_f_L_can_44 rfl rfl (rf_m0 _) rfl (rf_s_aload_n rf_f_L_can_47 rfl (rf_m0 _) (rf_s_iconst rf_f_L_can_48 (rf_m0 _) (rf_s_ialdS rf_f_L_can_49 (rf_m0 _) fun x1 => (rf_s_iconst rf_f_L_can_50 (rf_m0 _) (rf_s_icmp_ne rf_f_L_can_51 rfl (rf_m0 _) rfl (rf_s_iconst rf_f_L_can_58 (rf_m0 _) (rf_s_zretK rf_f_L_can_59 (Or.inl rfl))) rfl)))))))) (rf_s_aload_n rf_f_L_can_27 rfl (rf_m0 _) (rf_s_iconst rf_f_L_can_28 (rf_m0 _) (rf_s_ialdS rf_f_L_can_29 (rf_m0 _) fun x2 => (rf_s_if_le rf_f_L_can_30 rfl (rf_m0 _) (rf_m0 _) (rf_s_iconst rf_f_L_can_37 (rf_m0 _) (rf_s_goto rf_f_L_can_38 rfl (rf_m0 _) (rf_s_zretK rf_f_L_can_59 (Or.inl rfl)))) (rf_s_iconst rf_f_L_can_33 (rf_m0 _) (rf_s_goto rf_f_L_can_34 rfl (rf_m0 _) (rf_s_zretK rf_f_L_can_59 (Or.inr rfl))))))))))) (rf_s_aload_n rf_f_L_can_6 rfl (rf_m0 _) (rf_s_iconst rf_f_L_can_7 (rf_m0 _) (rf_s_ialdS rf_f_L_can_8 (rf_m0 _) fun x3 => (rf_s_iload_n rf_f_L_can_9 rfl (rf_m0 _) (rf_s_icmp_lt rf_f_L_can_10 rfl (rf_m0 _) (rf_m0 _) (rf_s_iconst rf_f_L_can_17 (rf_m0 _) (rf_s_goto rf_f_L_can_18 rfl (rf_m0 _) (rf_s_zretK rf_f_L_can_59 (Or.inl rfl)))) (rf_s_iconst rf_f_L_can_13 (rf_m0 _) (rf_s_goto rf_f_L_can_14 rfl (rf_m0 _) (rf_s_zretK rf_f_L_can_59 (Or.inr rfl)))))))))))) : rf_den (rf_call d) rf_m_L_can (0, [some (.inr (.inr (some a0))), some (.inl a1)], [], h) = _)
set_option maxRecDepth 20000 in
set_option maxHeartbeats 2000000 in
theorem rf_e_L_can_54 (d : Nat) (h : rf_H) : rf_j_L_can_54 d  h = some (some (.inl 1), h) :=
  ((rf_s_iconst rf_f_L_can_54 (rf_m0 _) (rf_s_goto rf_f_L_can_55 rfl (rf_m0 _) (rf_s_zretK rf_f_L_can_59 (Or.inr rfl)))) : rf_den (rf_call d) rf_m_L_can (54, [none, none], [], h) = _)
noncomputable def rf_j_L_does_20 (d : Nat) (l1 : Nat) (l2 : Int) (l4 : Int) (h : rf_H) : Option rf_R := rf_den (rf_call d) rf_m_L_does (20, [none, some (.inr (.inr (some l1))), some (.inl l2), none, some (.inl l4)], [], h)
noncomputable def rf_j_L_does_37 (d : Nat) (l1 : Nat) (l2 : Int) (l4 : Int) (h : rf_H) : Option rf_R := rf_den (rf_call d) rf_m_L_does (37, [none, some (.inr (.inr (some l1))), some (.inl l2), none, some (.inl l4)], [], h)
noncomputable def rf_j_L_does_53 (d : Nat) (l1 : Nat) (l2 : Int) (l4 : Int) (h : rf_H) : Option rf_R := rf_den (rf_call d) rf_m_L_does (53, [none, some (.inr (.inr (some l1))), some (.inl l2), none, some (.inl l4)], [], h)
noncomputable def rf_j_L_does_86 (d : Nat) (l1 : Nat) (l2 : Int) (l4 : Int) (h : rf_H) : Option rf_R := rf_den (rf_call d) rf_m_L_does (86, [none, some (.inr (.inr (some l1))), some (.inl l2), none, some (.inl l4)], [], h)
noncomputable def rf_j_L_does_104 (d : Nat) (l1 : Nat) (l2 : Int) (l4 : Int) (h : rf_H) : Option rf_R := rf_den (rf_call d) rf_m_L_does (104, [none, some (.inr (.inr (some l1))), some (.inl l2), none, some (.inl l4)], [], h)
noncomputable def rf_j_L_does_130 (d : Nat) (l1 : Nat) (l4 : Int) (h : rf_H) : Option rf_R := rf_den (rf_call d) rf_m_L_does (130, [none, some (.inr (.inr (some l1))), none, none, some (.inl l4)], [], h)
theorem rf_u_L_does : rf_mt 130 = rf_m_L_does := rfl
theorem rf_f_L_does_0 : rf_Fb rf_m_L_does 0 1 (.iload_n 2) 0 0 0 0 [] [] = true := by decide +kernel
theorem rf_f_L_does_1 : rf_Fb rf_m_L_does 1 3 (.bipush 9) 0 0 0 0 [] [] = true := by decide +kernel
theorem rf_f_L_does_3 : rf_Fb rf_m_L_does 3 6 (.if_icmp .le 8) 11 0 0 0 [] [] = true := by decide +kernel
theorem rf_f_L_does_6 : rf_Fb rf_m_L_does 6 8 (.bipush 6) 0 0 0 0 [] [] = true := by decide +kernel
theorem rf_f_L_does_8 : rf_Fb rf_m_L_does 8 11 (.goto 10) 18 0 0 0 [] [] = true := by decide +kernel
theorem rf_f_L_does_11 : rf_Fb rf_m_L_does 11 12 (.aload_n 0) 0 0 0 0 [] [] = true := by decide +kernel
theorem rf_f_L_does_12 : rf_Fb rf_m_L_does 12 13 (.aload_n 1) 0 0 0 0 [] [] = true := by decide +kernel
theorem rf_f_L_does_13 : rf_Fb rf_m_L_does 13 14 (.iload_n 2) 0 0 0 0 [] [] = true := by decide +kernel
theorem rf_f_L_does_14 : rf_Fb rf_m_L_does 14 15 (.iload_n 3) 0 0 0 0 [] [] = true := by decide +kernel
theorem rf_f_L_does_15 : rf_Fb rf_m_L_does 15 18 (.invokestatic 65) 129 4 0 0 [] [] = true := by decide +kernel
theorem rf_f_L_does_18 : rf_Fb rf_m_L_does 18 20 (.istore 4) 0 0 0 0 [] [false, true, true, false, true] = true := by decide +kernel
theorem rf_f_L_does_20 : rf_Fb rf_m_L_does 20 21 (.aload_n 1) 0 0 0 0 [] [] = true := by decide +kernel
theorem rf_f_L_does_21 : rf_Fb rf_m_L_does 21 22 (.iconst 1) 0 0 0 0 [] [] = true := by decide +kernel
theorem rf_f_L_does_22 : rf_Fb rf_m_L_does 22 23 (.dup2) 0 0 0 0 [] [] = true := by decide +kernel
theorem rf_f_L_does_23 : rf_Fb rf_m_L_does 23 24 (.iaload) 0 0 0 0 [] [] = true := by decide +kernel
theorem rf_f_L_does_24 : rf_Fb rf_m_L_does 24 25 (.iload_n 2) 0 0 0 0 [] [] = true := by decide +kernel
theorem rf_f_L_does_25 : rf_Fb rf_m_L_does 25 27 (.bipush 10) 0 0 0 0 [] [] = true := by decide +kernel
theorem rf_f_L_does_27 : rf_Fb rf_m_L_does 27 30 (.if_icmp .ne 7) 34 0 0 0 [] [] = true := by decide +kernel
theorem rf_f_L_does_30 : rf_Fb rf_m_L_does 30 31 (.iconst 1) 0 0 0 0 [] [] = true := by decide +kernel
theorem rf_f_L_does_31 : rf_Fb rf_m_L_does 31 34 (.goto 4) 35 0 0 0 [] [] = true := by decide +kernel
theorem rf_f_L_does_34 : rf_Fb rf_m_L_does 34 35 (.iconst 0) 0 0 0 0 [] [] = true := by decide +kernel
theorem rf_f_L_does_35 : rf_Fb rf_m_L_does 35 36 (.isub) 0 0 0 0 [] [] = true := by decide +kernel
theorem rf_f_L_does_36 : rf_Fb rf_m_L_does 36 37 (.iastore) 0 0 0 0 [] [false, true, true, false, true] = true := by decide +kernel
theorem rf_f_L_does_37 : rf_Fb rf_m_L_does 37 38 (.aload_n 1) 0 0 0 0 [] [] = true := by decide +kernel
theorem rf_f_L_does_38 : rf_Fb rf_m_L_does 38 39 (.iconst 3) 0 0 0 0 [] [] = true := by decide +kernel
theorem rf_f_L_does_39 : rf_Fb rf_m_L_does 39 40 (.iload_n 2) 0 0 0 0 [] [] = true := by decide +kernel
theorem rf_f_L_does_40 : rf_Fb rf_m_L_does 40 42 (.bipush 10) 0 0 0 0 [] [] = true := by decide +kernel
theorem rf_f_L_does_42 : rf_Fb rf_m_L_does 42 45 (.if_icmp .ne 7) 49 0 0 0 [] [] = true := by decide +kernel
theorem rf_f_L_does_45 : rf_Fb rf_m_L_does 45 46 (.iconst 1) 0 0 0 0 [] [] = true := by decide +kernel
theorem rf_f_L_does_46 : rf_Fb rf_m_L_does 46 49 (.goto 6) 52 0 0 0 [] [] = true := by decide +kernel
theorem rf_f_L_does_49 : rf_Fb rf_m_L_does 49 50 (.aload_n 1) 0 0 0 0 [] [] = true := by decide +kernel
theorem rf_f_L_does_50 : rf_Fb rf_m_L_does 50 51 (.iconst 3) 0 0 0 0 [] [] = true := by decide +kernel
theorem rf_f_L_does_51 : rf_Fb rf_m_L_does 51 52 (.iaload) 0 0 0 0 [] [] = true := by decide +kernel
theorem rf_f_L_does_52 : rf_Fb rf_m_L_does 52 53 (.iastore) 0 0 0 0 [] [false, true, true, false, true] = true := by decide +kernel
theorem rf_f_L_does_53 : rf_Fb rf_m_L_does 53 54 (.aload_n 1) 0 0 0 0 [] [] = true := by decide +kernel
theorem rf_f_L_does_54 : rf_Fb rf_m_L_does 54 55 (.iconst 0) 0 0 0 0 [] [] = true := by decide +kernel
theorem rf_f_L_does_55 : rf_Fb rf_m_L_does 55 56 (.iload_n 2) 0 0 0 0 [] [] = true := by decide +kernel
theorem rf_f_L_does_56 : rf_Fb rf_m_L_does 56 58 (.bipush 11) 0 0 0 0 [] [] = true := by decide +kernel
theorem rf_f_L_does_58 : rf_Fb rf_m_L_does 58 61 (.if_icmp .ne 24) 82 0 0 0 [] [] = true := by decide +kernel
theorem rf_f_L_does_61 : rf_Fb rf_m_L_does 61 62 (.aload_n 1) 0 0 0 0 [] [] = true := by decide +kernel
theorem rf_f_L_does_62 : rf_Fb rf_m_L_does 62 63 (.iconst 0) 0 0 0 0 [] [] = true := by decide +kernel
theorem rf_f_L_does_63 : rf_Fb rf_m_L_does 63 64 (.iaload) 0 0 0 0 [] [] = true := by decide +kernel
theorem rf_f_L_does_64 : rf_Fb rf_m_L_does 64 66 (.bipush 7) 0 0 0 0 [] [] = true := by decide +kernel
theorem rf_f_L_does_66 : rf_Fb rf_m_L_does 66 69 (.if_icmp .le 8) 74 0 0 0 [] [] = true := by decide +kernel
theorem rf_f_L_does_69 : rf_Fb rf_m_L_does 69 71 (.bipush 9) 0 0 0 0 [] [] = true := by decide +kernel
theorem rf_f_L_does_71 : rf_Fb rf_m_L_does 71 74 (.goto 14) 85 0 0 0 [] [] = true := by decide +kernel
theorem rf_f_L_does_74 : rf_Fb rf_m_L_does 74 75 (.aload_n 1) 0 0 0 0 [] [] = true := by decide +kernel
theorem rf_f_L_does_75 : rf_Fb rf_m_L_does 75 76 (.iconst 0) 0 0 0 0 [] [] = true := by decide +kernel
theorem rf_f_L_does_76 : rf_Fb rf_m_L_does 76 77 (.iaload) 0 0 0 0 [] [] = true := by decide +kernel
theorem rf_f_L_does_77 : rf_Fb rf_m_L_does 77 78 (.iconst 2) 0 0 0 0 [] [] = true := by decide +kernel
theorem rf_f_L_does_78 : rf_Fb rf_m_L_does 78 79 (.iadd) 0 0 0 0 [] [] = true := by decide +kernel
theorem rf_f_L_does_79 : rf_Fb rf_m_L_does 79 82 (.goto 6) 85 0 0 0 [] [] = true := by decide +kernel
theorem rf_f_L_does_82 : rf_Fb rf_m_L_does 82 83 (.aload_n 1) 0 0 0 0 [] [] = true := by decide +kernel
theorem rf_f_L_does_83 : rf_Fb rf_m_L_does 83 84 (.iconst 0) 0 0 0 0 [] [] = true := by decide +kernel
theorem rf_f_L_does_84 : rf_Fb rf_m_L_does 84 85 (.iaload) 0 0 0 0 [] [] = true := by decide +kernel
theorem rf_f_L_does_85 : rf_Fb rf_m_L_does 85 86 (.iastore) 0 0 0 0 [] [false, true, true, false, true] = true := by decide +kernel
theorem rf_f_L_does_86 : rf_Fb rf_m_L_does 86 87 (.aload_n 1) 0 0 0 0 [] [] = true := by decide +kernel
theorem rf_f_L_does_87 : rf_Fb rf_m_L_does 87 89 (.bipush 6) 0 0 0 0 [] [] = true := by decide +kernel
theorem rf_f_L_does_89 : rf_Fb rf_m_L_does 89 90 (.iload_n 2) 0 0 0 0 [] [] = true := by decide +kernel
theorem rf_f_L_does_90 : rf_Fb rf_m_L_does 90 92 (.bipush 12) 0 0 0 0 [] [] = true := by decide +kernel
theorem rf_f_L_does_92 : rf_Fb rf_m_L_does 92 95 (.if_icmp .ne 7) 99 0 0 0 [] [] = true := by decide +kernel
theorem rf_f_L_does_95 : rf_Fb rf_m_L_does 95 96 (.iconst 0) 0 0 0 0 [] [] = true := by decide +kernel
theorem rf_f_L_does_96 : rf_Fb rf_m_L_does 96 99 (.goto 7) 103 0 0 0 [] [] = true := by decide +kernel
theorem rf_f_L_does_99 : rf_Fb rf_m_L_does 99 100 (.aload_n 1) 0 0 0 0 [] [] = true := by decide +kernel
theorem rf_f_L_does_100 : rf_Fb rf_m_L_does 100 102 (.bipush 6) 0 0 0 0 [] [] = true := by decide +kernel
theorem rf_f_L_does_102 : rf_Fb rf_m_L_does 102 103 (.iaload) 0 0 0 0 [] [] = true := by decide +kernel
theorem rf_f_L_does_103 : rf_Fb rf_m_L_does 103 104 (.iastore) 0 0 0 0 [] [false, true, true, false, true] = true := by decide +kernel
theorem rf_f_L_does_104 : rf_Fb rf_m_L_does 104 105 (.aload_n 1) 0 0 0 0 [] [] = true := by decide +kernel
theorem rf_f_L_does_105 : rf_Fb rf_m_L_does 105 106 (.iconst 4) 0 0 0 0 [] [] = true := by decide +kernel
theorem rf_f_L_does_106 : rf_Fb rf_m_L_does 106 107 (.iload_n 2) 0 0 0 0 [] [] = true := by decide +kernel
theorem rf_f_L_does_107 : rf_Fb rf_m_L_does 107 109 (.bipush 13) 0 0 0 0 [] [] = true := by decide +kernel
theorem rf_f_L_does_109 : rf_Fb rf_m_L_does 109 112 (.if_icmp .ne 7) 116 0 0 0 [] [] = true := by decide +kernel
theorem rf_f_L_does_112 : rf_Fb rf_m_L_does 112 113 (.iconst 0) 0 0 0 0 [] [] = true := by decide +kernel
theorem rf_f_L_does_113 : rf_Fb rf_m_L_does 113 116 (.goto 16) 129 0 0 0 [] [] = true := by decide +kernel
theorem rf_f_L_does_116 : rf_Fb rf_m_L_does 116 117 (.iload_n 2) 0 0 0 0 [] [] = true := by decide +kernel
theorem rf_f_L_does_117 : rf_Fb rf_m_L_does 117 119 (.bipush 14) 0 0 0 0 [] [] = true := by decide +kernel
theorem rf_f_L_does_119 : rf_Fb rf_m_L_does 119 122 (.if_icmp .ne 7) 126 0 0 0 [] [] = true := by decide +kernel
theorem rf_f_L_does_122 : rf_Fb rf_m_L_does 122 123 (.iconst 1) 0 0 0 0 [] [] = true := by decide +kernel
theorem rf_f_L_does_123 : rf_Fb rf_m_L_does 123 126 (.goto 6) 129 0 0 0 [] [] = true := by decide +kernel
theorem rf_f_L_does_126 : rf_Fb rf_m_L_does 126 127 (.aload_n 1) 0 0 0 0 [] [] = true := by decide +kernel
theorem rf_f_L_does_127 : rf_Fb rf_m_L_does 127 128 (.iconst 4) 0 0 0 0 [] [] = true := by decide +kernel
theorem rf_f_L_does_128 : rf_Fb rf_m_L_does 128 129 (.iaload) 0 0 0 0 [] [] = true := by decide +kernel
theorem rf_f_L_does_129 : rf_Fb rf_m_L_does 129 130 (.iastore) 0 0 0 0 [] [false, true, false, false, true] = true := by decide +kernel
theorem rf_f_L_does_130 : rf_Fb rf_m_L_does 130 131 (.aload_n 1) 0 0 0 0 [] [] = true := by decide +kernel
theorem rf_f_L_does_131 : rf_Fb rf_m_L_does 131 133 (.bipush 7) 0 0 0 0 [] [] = true := by decide +kernel
theorem rf_f_L_does_133 : rf_Fb rf_m_L_does 133 134 (.dup2) 0 0 0 0 [] [] = true := by decide +kernel
theorem rf_f_L_does_134 : rf_Fb rf_m_L_does 134 135 (.iaload) 0 0 0 0 [] [] = true := by decide +kernel
theorem rf_f_L_does_135 : rf_Fb rf_m_L_does 135 136 (.iconst 1) 0 0 0 0 [] [] = true := by decide +kernel
theorem rf_f_L_does_136 : rf_Fb rf_m_L_does 136 137 (.iadd) 0 0 0 0 [] [] = true := by decide +kernel
theorem rf_f_L_does_137 : rf_Fb rf_m_L_does 137 138 (.iastore) 0 0 0 0 [] [] = true := by decide +kernel
theorem rf_f_L_does_138 : rf_Fb rf_m_L_does 138 140 (.iload 4) 0 0 0 0 [] [] = true := by decide +kernel
theorem rf_f_L_does_140 : rf_Fb rf_m_L_does 140 141 (.ireturn) 0 0 0 0 [] [] = true := by decide +kernel
set_option maxRecDepth 20000 in
set_option maxHeartbeats 2000000 in
theorem rf_e_L_does (d : Nat) (a0 : Nat) (a1 : Nat) (a2 : Int) (a3 : Int) (h : rf_H) : rf_call (d + 1) 130 [.inr (.inr (some a0)), .inr (.inr (some a1)), .inl a2, .inl a3] h = (if 9 < a2 then rf_j_L_does_20 d a1 a2 6 h else ((rf_call d 129 [.inr (.inr (some a0)), .inr (.inr (some a1)), .inl a2, .inl a3] h).bind fun q1 => rf_kI q1 fun x2 h3 => rf_j_L_does_20 d a1 a2 x2 h3)) := by
  show rf_den (rf_call d) (rf_mt 130) _ = _
  rw [rf_u_L_does]
  exact ((rf_s_iload_n rf_f_L_does_0 rfl (rf_m0 _) (rf_s_bipush rf_f_L_does_1 (rf_m0 _) (rf_s_icmp_le rf_f_L_does_3 rfl (rf_m0 _) (rf_m0 _) (rf_s_aload_n rf_f_L_does_11 rfl (rf_m0 _) (rf_s_aload_n rf_f_L_does_12 rfl (rf_m0 _) (rf_s_iload_n rf_f_L_does_13 rfl (rf_m0 _) (rf_s_iload_n rf_f_L_does_14 rfl (rf_m0 _) (rf_s_invS0 rf_f_L_does_15 rfl rfl (rf_m0 _) fun q1 x2 h3 => (rf_s_istore rf_f_L_does_18 rfl rfl)))))) (rf_s_bipush rf_f_L_does_6 (rf_m0 _) (rf_s_goto rf_f_L_does_8 rfl (rf_m0 _) (rf_s_istore rf_f_L_does_18 rfl rfl)))))) : rf_den (rf_call d) rf_m_L_does (0, [some (.inr (.inr (some a0))), some (.inr (.inr (some a1))), some (.inl a2), some (.inl a3), none], [], h) = _)
set_option maxRecDepth 20000 in
set_option maxHeartbeats 2000000 in
theorem rf_e_L_does_20 (d : Nat) (l1 : Nat) (l2 : Int) (l4 : Int) (h : rf_H) : rf_j_L_does_20 d l1 l2 l4 h = ((rf_aI h l1 1).bind fun x1 => (if l2 = 10 then ((rf_sI h l1 1 (rf_w (x1 - 1))).bind fun h3 => rf_j_L_does_37 d l1 l2 l4 h3) else ((rf_sI h l1 1 (rf_w (x1 - 0))).bind fun h2 => rf_j_L_does_37 d l1 l2 l4 h2))) :=
  ((rf_s_aload_n rf_f_L_does_20 rfl (rf_m0 _) (rf_s_iconst rf_f_L_does_21 (rf_m0 _) (rf_s_dup2 rf_f_L_does_22 (rf_m0 _) (rf_s_ialdS rf_f_L_does_23 (rf_m0 _) fun x1 => (rf_s_iload_n rf_f_L_does_24 rfl (rf_m0 _) (rf_s_bipush rf_f_L_does_25 (rf_m0 _) (rf_s_icmp_ne rf_f_L_does_27 rfl (rf_m0 _) (rf_m0 _) (rf_s_iconst rf_f_L_does_34 (rf_m0 _) (rf_s_isub rf_f_L_does_35 (rf_m0 _) (rf_s_iastS rf_f_L_does_36 rfl fun h2 => rfl))) (rf_s_iconst rf_f_L_does_30 (rf_m0 _) (rf_s_goto rf_f_L_does_31 rfl (rf_m0 _) (rf_s_isub rf_f_L_does_35 (rf_m0 _) (rf_s_iastS rf_f_L_does_36 rfl fun h3 => rfl))))))))))) : rf_den (rf_call d) rf_m_L_does (20, [none, some (.inr (.inr (some l1))), some (.inl l2), none, some (.inl l4)], [], h) = _)
set_option maxRecDepth 20000 in
set_option maxHeartbeats 2000000 in
theorem rf_e_L_does_37 (d : Nat) (l1 : Nat) (l2 : Int) (l4 : Int) (h : rf_H) : rf_j_L_does_37 d l1 l2 l4 h = (if l2 = 10 then ((rf_sI h l1 3 1).bind fun h3 => rf_j_L_does_53 d l1 l2 l4 h3) else ((rf_aI h l1 3).bind fun x1 => ((rf_sI h l1 3 x1).bind fun h2 => rf_j_L_does_53 d l1 l2 l4 h2))) :=
  ((rf_s_aload_n rf_f_L_does_37 rfl (rf_m0 _) (rf_s_iconst rf_f_L_does_38 (rf_m0 _) (rf_s_iload_n rf_f_L_does_39 rfl (rf_m0 _) (rf_s_bipush rf_f_L_does_40 (rf_m0 _) (rf_s_icmp_ne rf_f_L_does_42 rfl (rf_m0 _) (rf_m0 _) (rf_s_aload_n rf_f_L_does_49 rfl (rf_m0 _) (rf_s_iconst rf_f_L_does_50 (rf_m0 _) (rf_s_ialdS rf_f_L_does_51 (rf_m0 _) fun x1 => (rf_s_iastS rf_f_L_does_52 rfl fun h2 => rfl)))) (rf_s_iconst rf_f_L_does_45 (rf_m0 _) (rf_s_goto rf_f_L_does_46 rfl (rf_m0 _) (rf_s_iastS rf_f_L_does_52 rfl fun h3 => rfl)))))))) : rf_den (rf_call d) rf_m_L_does (37, [none, some (.inr (.inr (some l1))), some (.inl l2), none, some (.inl l4)], [], h) = _)
set_option maxRecDepth 20000 in
set_option maxHeartbeats 2000000 in
theorem rf_e_L_does_53 (d : Nat) (l1 : Nat) (l2 : Int) (l4 : Int) (h : rf_H) : rf_j_L_does_53 d l1 l2 l4 h = (if l2 = 11 then ((rf_aI h l1 0).bind fun x3 => (if 7 < x3 then ((rf_sI h l1 0 9).bind fun h6 => rf_j_L_does_86 d l1 l2 l4 h6) else ((rf_aI h l1 0).bind fun x4 => ((rf_sI h l1 0 (rf_w (x4 + 2))).bind fun h5 => rf_j_L_does_86 d l1 l2 l4 h5)))) else ((rf_aI h l1 0).bind fun x1 => ((rf_sI h l1 0 x1).bind fun h2 => rf_j_L_does_86 d l1 l2 l4 h2))) :=
  ((rf_s_aload_n rf_f_L_does_53 rfl (rf_m0 _) (rf_s_iconst rf_f_L_does_54 (rf_m0 _) (rf_s_iload_n rf_f_L_does_55 rfl (rf_m0 _) (rf_s_bipush rf_f_L_does_56 (rf_m0 _) (rf_s_icmp_ne rf_f_L_does_58 rfl (rf_m0 _) (rf_m0 _) (rf_s_aload_n rf_f_L_does_82 rfl (rf_m0 _) (rf_s_iconst rf_f_L_does_83 (rf_m0 _) (rf_s_ialdS rf_f_L_does_84 (rf_m0 _) fun x1 => (rf_s_iastS rf_f_L_does_85 rfl fun h2 => rfl)))) (rf_s_aload_n rf_f_L_does_61 rfl (rf_m0 _) (rf_s_iconst rf_f_L_does_62 (rf_m0 _) (rf_s_ialdS rf_f_L_does_63 (rf_m0 _) fun x3 => (rf_s_bipush rf_f_L_does_64 (rf_m0 _) (rf_s_icmp_le rf_f_L_does_66 rfl (rf_m0 _) (rf_m0 _) (rf_s_aload_n rf_f_L_does_74 rfl (rf_m0 _) (rf_s_iconst rf_f_L_does_75 (rf_m0 _) (rf_s_ialdS rf_f_L_does_76 (rf_m0 _) fun x4 => (rf_s_iconst rf_f_L_does_77 (rf_m0 _) (rf_s_iadd rf_f_L_does_78 (rf_m0 _) (rf_s_goto rf_f_L_does_79 rfl (rf_m0 _) (rf_s_iastS rf_f_L_does_85 rfl fun h5 => rfl))))))) (rf_s_bipush rf_f_L_does_69 (rf_m0 _) (rf_s_goto rf_f_L_does_71 rfl (rf_m0 _) (rf_s_iastS rf_f_L_does_85 rfl fun h6 => rfl))))))))))))) : rf_den (rf_call d) rf_m_L_does (53, [none, some (.inr (.inr (some l1))), some (.inl l2), none, some (.inl l4)], [], h) = _)
set_option maxRecDepth 20000 in
set_option maxHeartbeats 2000000 in
theorem rf_e_L_does_86 (d : Nat) (l1 : Nat) (l2 : Int) (l4 : Int) (h : rf_H) : rf_j_L_does_86 d l1 l2 l4 h = (if l2 = 12 then ((rf_sI h l1 6 0).bind fun h3 => rf_j_L_does_104 d l1 l2 l4 h3) else ((rf_aI h l1 6).bind fun x1 => ((rf_sI h l1 6 x1).bind fun h2 => rf_j_L_does_104 d l1 l2 l4 h2))) :=
  ((rf_s_aload_n rf_f_L_does_86 rfl (rf_m0 _) (rf_s_bipush rf_f_L_does_87 (rf_m0 _) (rf_s_iload_n rf_f_L_does_89 rfl (rf_m0 _) (rf_s_bipush rf_f_L_does_90 (rf_m0 _) (rf_s_icmp_ne rf_f_L_does_92 rfl (rf_m0 _) (rf_m0 _) (rf_s_aload_n rf_f_L_does_99 rfl (rf_m0 _) (rf_s_bipush rf_f_L_does_100 (rf_m0 _) (rf_s_ialdS rf_f_L_does_102 (rf_m0 _) fun x1 => (rf_s_iastS rf_f_L_does_103 rfl fun h2 => rfl)))) (rf_s_iconst rf_f_L_does_95 (rf_m0 _) (rf_s_goto rf_f_L_does_96 rfl (rf_m0 _) (rf_s_iastS rf_f_L_does_103 rfl fun h3 => rfl)))))))) : rf_den (rf_call d) rf_m_L_does (86, [none, some (.inr (.inr (some l1))), some (.inl l2), none, some (.inl l4)], [], h) = _)
set_option maxRecDepth 20000 in
set_option maxHeartbeats 2000000 in
theorem rf_e_L_does_104 (d : Nat) (l1 : Nat) (l2 : Int) (l4 : Int) (h : rf_H) : rf_j_L_does_104 d l1 l2 l4 h = (if l2 = 13 then ((rf_sI h l1 4 0).bind fun h4 => rf_j_L_does_130 d l1 l4 h4) else (if l2 = 14 then ((rf_sI h l1 4 1).bind fun h3 => rf_j_L_does_130 d l1 l4 h3) else ((rf_aI h l1 4).bind fun x1 => ((rf_sI h l1 4 x1).bind fun h2 => rf_j_L_does_130 d l1 l4 h2)))) :=
  ((rf_s_aload_n rf_f_L_does_104 rfl (rf_m0 _) (rf_s_iconst rf_f_L_does_105 (rf_m0 _) (rf_s_iload_n rf_f_L_does_106 rfl (rf_m0 _) (rf_s_bipush rf_f_L_does_107 (rf_m0 _) (rf_s_icmp_ne rf_f_L_does_109 rfl (rf_m0 _) (rf_m0 _) (rf_s_iload_n rf_f_L_does_116 rfl (rf_m0 _) (rf_s_bipush rf_f_L_does_117 (rf_m0 _) (rf_s_icmp_ne rf_f_L_does_119 rfl (rf_m0 _) (rf_m0 _) (rf_s_aload_n rf_f_L_does_126 rfl (rf_m0 _) (rf_s_iconst rf_f_L_does_127 (rf_m0 _) (rf_s_ialdS rf_f_L_does_128 (rf_m0 _) fun x1 => (rf_s_iastS rf_f_L_does_129 rfl fun h2 => rfl)))) (rf_s_iconst rf_f_L_does_122 (rf_m0 _) (rf_s_goto rf_f_L_does_123 rfl (rf_m0 _) (rf_s_iastS rf_f_L_does_129 rfl fun h3 => rfl)))))) (rf_s_iconst rf_f_L_does_112 (rf_m0 _) (rf_s_goto rf_f_L_does_113 rfl (rf_m0 _) (rf_s_iastS rf_f_L_does_129 rfl fun h4 => rfl)))))))) : rf_den (rf_call d) rf_m_L_does (104, [none, some (.inr (.inr (some l1))), some (.inl l2), none, some (.inl l4)], [], h) = _)
set_option maxRecDepth 20000 in
set_option maxHeartbeats 2000000 in
theorem rf_e_L_does_130 (d : Nat) (l1 : Nat) (l4 : Int) (h : rf_H) : rf_j_L_does_130 d l1 l4 h = ((rf_aI h l1 7).bind fun x1 => ((rf_sI h l1 7 (rf_w (x1 + 1))).bind fun h2 => some (some (.inl l4), h2))) :=
  ((rf_s_aload_n rf_f_L_does_130 rfl (rf_m0 _) (rf_s_bipush rf_f_L_does_131 (rf_m0 _) (rf_s_dup2 rf_f_L_does_133 (rf_m0 _) (rf_s_ialdS rf_f_L_does_134 (rf_m0 _) fun x1 => (rf_s_iconst rf_f_L_does_135 (rf_m0 _) (rf_s_iadd rf_f_L_does_136 (rf_m0 _) (rf_s_iastS rf_f_L_does_137 (rf_m0 _) fun h2 => (rf_s_iload rf_f_L_does_138 rfl (rf_m0 _) (rf_s_iret rf_f_L_does_140))))))))) : rf_den (rf_call d) rf_m_L_does (130, [none, some (.inr (.inr (some l1))), none, none, some (.inl l4)], [], h) = _)
theorem rf_u_L_now : rf_mt 131 = rf_m_L_now := rfl
theorem rf_f_L_now_0 : rf_Fb rf_m_L_now 0 1 (.aload_n 0) 0 0 0 0 [] [] = true := by decide +kernel
theorem rf_f_L_now_1 : rf_Fb rf_m_L_now 1 2 (.aload_n 1) 0 0 0 0 [] [] = true := by decide +kernel
theorem rf_f_L_now_2 : rf_Fb rf_m_L_now 2 4 (.bipush 7) 0 0 0 0 [] [] = true := by decide +kernel
theorem rf_f_L_now_4 : rf_Fb rf_m_L_now 4 5 (.iaload) 0 0 0 0 [] [] = true := by decide +kernel
theorem rf_f_L_now_5 : rf_Fb rf_m_L_now 5 8 (.invokestatic 22) 117 2 0 0 [] [] = true := by decide +kernel
theorem rf_f_L_now_8 : rf_Fb rf_m_L_now 8 9 (.ireturn) 0 0 0 0 [] [] = true := by decide +kernel
set_option maxRecDepth 20000 in
set_option maxHeartbeats 2000000 in
theorem rf_e_L_now (d : Nat) (a0 : Nat) (a1 : Nat) (h : rf_H) : rf_call (d + 1) 131 [.inr (.inr (some a0)), .inr (.inr (some a1))] h = ((rf_aI h a1 7).bind fun x1 => ((rf_call d 117 [.inr (.inr (some a0)), .inl x1] h).bind fun q2 => rf_kI q2 fun x3 h4 => some (some (.inl x3), h4))) := by
  show rf_den (rf_call d) (rf_mt 131) _ = _
  rw [rf_u_L_now]
  exact ((rf_s_aload_n rf_f_L_now_0 rfl (rf_m0 _) (rf_s_aload_n rf_f_L_now_1 rfl (rf_m0 _) (rf_s_bipush rf_f_L_now_2 (rf_m0 _) (rf_s_ialdS rf_f_L_now_4 (rf_m0 _) fun x1 => (rf_s_invS0 rf_f_L_now_5 rfl rfl (rf_m0 _) fun q2 x3 h4 => (rf_s_iret rf_f_L_now_8)))))) : rf_den (rf_call d) rf_m_L_now (0, [some (.inr (.inr (some a0))), some (.inr (.inr (some a1)))], [], h) = _)
noncomputable def rf_j_L_passes_6 (d : Nat) (l0 : Nat) (l1 : Nat) (l2 : Nat) (l3 : Int) (l4 : Int) (l5 : Int) (l6 : Int) (h : rf_H) : Option rf_R := rf_den (rf_call d) rf_m_L_passes (6, [some (.inr (.inr (some l0))), some (.inr (.inr (some l1))), some (.inr (.inr (some l2))), some (.inl l3), some (.inl l4), some (.inl l5), some (.inl l6), none], [], h)
noncomputable def rf_j_L_passes_66 (d : Nat) (l0 : Nat) (l1 : Nat) (l2 : Nat) (l3 : Int) (l4 : Int) (l6 : Int) (h : rf_H) : Option rf_R := rf_den (rf_call d) rf_m_L_passes (66, [some (.inr (.inr (some l0))), some (.inr (.inr (some l1))), some (.inr (.inr (some l2))), some (.inl l3), some (.inl l4), none, some (.inl l6), none], [], h)
noncomputable def rf_j_L_passes_70 (d : Nat) (l0 : Nat) (l1 : Nat) (l2 : Nat) (l3 : Int) (l4 : Int) (l6 : Int) (h : rf_H) : Option rf_R := rf_den (rf_call d) rf_m_L_passes (70, [some (.inr (.inr (some l0))), some (.inr (.inr (some l1))), some (.inr (.inr (some l2))), some (.inl l3), some (.inl l4), none, some (.inl l6), none], [], h)
noncomputable def rf_j_L_passes_73 (d : Nat) (l0 : Nat) (l1 : Nat) (l2 : Nat) (l3 : Int) (l4 : Int) (l5 : Int) (l6 : Int) (h : rf_H) : Option rf_R := rf_den (rf_call d) rf_m_L_passes (73, [some (.inr (.inr (some l0))), some (.inr (.inr (some l1))), some (.inr (.inr (some l2))), some (.inl l3), some (.inl l4), some (.inl l5), some (.inl l6), none], [], h)
theorem rf_u_L_passes : rf_mt 132 = rf_m_L_passes := rfl
theorem rf_f_L_passes_0 : rf_Fb rf_m_L_passes 0 1 (.iconst 1) 0 0 0 0 [] [] = true := by decide +kernel
theorem rf_f_L_passes_1 : rf_Fb rf_m_L_passes 1 3 (.istore 5) 0 0 0 0 [] [] = true := by decide +kernel
theorem rf_f_L_passes_3 : rf_Fb rf_m_L_passes 3 4 (.iconst 0) 0 0 0 0 [] [] = true := by decide +kernel
theorem rf_f_L_passes_4 : rf_Fb rf_m_L_passes 4 6 (.istore 6) 0 0 0 0 [] [true, true, true, true, true, true, true, false] = true := by decide +kernel
theorem rf_f_L_passes_6 : rf_Fb rf_m_L_passes 6 8 (.iload 6) 0 0 0 0 [] [] = true := by decide +kernel
theorem rf_f_L_passes_8 : rf_Fb rf_m_L_passes 8 10 (.iload 4) 0 0 0 0 [] [] = true := by decide +kernel
theorem rf_f_L_passes_10 : rf_Fb rf_m_L_passes 10 13 (.if_icmp .ge 69) 79 0 0 0 [] [] = true := by decide +kernel
theorem rf_f_L_passes_13 : rf_Fb rf_m_L_passes 13 14 (.aload_n 1) 0 0 0 0 [] [] = true := by decide +kernel
theorem rf_f_L_passes_14 : rf_Fb rf_m_L_passes 14 15 (.iload_n 3) 0 0 0 0 [] [] = true := by decide +kernel
theorem rf_f_L_passes_15 : rf_Fb rf_m_L_passes 15 17 (.iload 6) 0 0 0 0 [] [] = true := by decide +kernel
theorem rf_f_L_passes_17 : rf_Fb rf_m_L_passes 17 18 (.iadd) 0 0 0 0 [] [] = true := by decide +kernel
theorem rf_f_L_passes_18 : rf_Fb rf_m_L_passes 18 21 (.invokestatic 9) 115 2 0 0 [] [] = true := by decide +kernel
theorem rf_f_L_passes_21 : rf_Fb rf_m_L_passes 21 23 (.bipush 15) 0 0 0 0 [] [] = true := by decide +kernel
theorem rf_f_L_passes_23 : rf_Fb rf_m_L_passes 23 24 (.irem) 0 0 0 0 [] [] = true := by decide +kernel
theorem rf_f_L_passes_24 : rf_Fb rf_m_L_passes 24 26 (.istore 7) 0 0 0 0 [] [] = true := by decide +kernel
theorem rf_f_L_passes_26 : rf_Fb rf_m_L_passes 26 28 (.iload 5) 0 0 0 0 [] [] = true := by decide +kernel
theorem rf_f_L_passes_28 : rf_Fb rf_m_L_passes 28 31 (.ifCond .eq 42) 70 0 0 0 [] [] = true := by decide +kernel
theorem rf_f_L_passes_31 : rf_Fb rf_m_L_passes 31 32 (.aload_n 0) 0 0 0 0 [] [] = true := by decide +kernel
theorem rf_f_L_passes_32 : rf_Fb rf_m_L_passes 32 34 (.iload 7) 0 0 0 0 [] [] = true := by decide +kernel
theorem rf_f_L_passes_34 : rf_Fb rf_m_L_passes 34 37 (.invokevirtual 69) 77 1 0 4 [] [] = true := by decide +kernel
theorem rf_f_L_passes_37 : rf_Fb rf_m_L_passes 37 38 (.aload_n 2) 0 0 0 0 [] [] = true := by decide +kernel
theorem rf_f_L_passes_38 : rf_Fb rf_m_L_passes 38 40 (.iload 7) 0 0 0 0 [] [] = true := by decide +kernel
theorem rf_f_L_passes_40 : rf_Fb rf_m_L_passes 40 43 (.invokestatic 72) 128 2 0 0 [] [] = true := by decide +kernel
theorem rf_f_L_passes_43 : rf_Fb rf_m_L_passes 43 46 (.ifCond .eq 18) 61 0 0 0 [] [] = true := by decide +kernel
theorem rf_f_L_passes_46 : rf_Fb rf_m_L_passes 46 47 (.aload_n 1) 0 0 0 0 [] [] = true := by decide +kernel
theorem rf_f_L_passes_47 : rf_Fb rf_m_L_passes 47 48 (.aload_n 2) 0 0 0 0 [] [] = true := by decide +kernel
theorem rf_f_L_passes_48 : rf_Fb rf_m_L_passes 48 50 (.iload 7) 0 0 0 0 [] [] = true := by decide +kernel
theorem rf_f_L_passes_50 : rf_Fb rf_m_L_passes 50 51 (.aload_n 1) 0 0 0 0 [] [] = true := by decide +kernel
theorem rf_f_L_passes_51 : rf_Fb rf_m_L_passes 51 52 (.aload_n 2) 0 0 0 0 [] [] = true := by decide +kernel
theorem rf_f_L_passes_52 : rf_Fb rf_m_L_passes 52 55 (.invokestatic 76) 131 2 0 0 [] [] = true := by decide +kernel
theorem rf_f_L_passes_55 : rf_Fb rf_m_L_passes 55 58 (.invokestatic 80) 130 4 0 0 [] [] = true := by decide +kernel
theorem rf_f_L_passes_58 : rf_Fb rf_m_L_passes 58 61 (.goto 5) 63 0 0 0 [] [] = true := by decide +kernel
theorem rf_f_L_passes_61 : rf_Fb rf_m_L_passes 61 63 (.bipush (-4)) 0 0 0 0 [] [] = true := by decide +kernel
theorem rf_f_L_passes_63 : rf_Fb rf_m_L_passes 63 66 (.if_icmp .ne 7) 70 0 0 0 [] [true, true, true, true, true, false, true, false] = true := by decide +kernel
theorem rf_f_L_passes_66 : rf_Fb rf_m_L_passes 66 67 (.iconst 1) 0 0 0 0 [] [] = true := by decide +kernel
theorem rf_f_L_passes_67 : rf_Fb rf_m_L_passes 67 70 (.goto 4) 71 0 0 0 [] [true, true, true, true, true, false, true, false] = true := by decide +kernel
theorem rf_f_L_passes_70 : rf_Fb rf_m_L_passes 70 71 (.iconst 0) 0 0 0 0 [] [] = true := by decide +kernel
theorem rf_f_L_passes_71 : rf_Fb rf_m_L_passes 71 73 (.istore 5) 0 0 0 0 [] [true, true, true, true, true, true, true, false] = true := by decide +kernel
theorem rf_f_L_passes_73 : rf_Fb rf_m_L_passes 73 76 (.iinc 6 1) 0 0 0 0 [] [] = true := by decide +kernel
theorem rf_f_L_passes_76 : rf_Fb rf_m_L_passes 76 79 (.goto (-70)) 6 0 0 0 [] [] = true := by decide +kernel
theorem rf_f_L_passes_79 : rf_Fb rf_m_L_passes 79 81 (.iload 5) 0 0 0 0 [] [] = true := by decide +kernel
theorem rf_f_L_passes_81 : rf_Fb rf_m_L_passes 81 82 (.ireturn) 0 0 1 0 [] [] = true := by decide +kernel
set_option maxRecDepth 20000 in
set_option maxHeartbeats 2000000 in
theorem rf_e_L_passes (d : Nat) (a0 : Nat) (a1 : Nat) (a2 : Nat) (a3 : Int) (a4 : Int) (h : rf_H) : rf_call (d + 1) 132 [.inr (.inr (some a0)), .inr (.inr (some a1)), .inr (.inr (some a2)), .inl a3, .inl a4] h = rf_j_L_passes_6 d a0 a1 a2 a3 a4 1 0 h := by
  show rf_den (rf_call d) (rf_mt 132) _ = _
  rw [rf_u_L_passes]
  exact ((rf_s_iconst rf_f_L_passes_0 (rf_m0 _) (rf_s_istore (L' := [some (.inr (.inr (some a0))), some (.inr (.inr (some a1))), some (.inr (.inr (some a2))), some (.inl a3), some (.inl a4), some (.inl 1), none, none]) rf_f_L_passes_1 rfl (rf_s_iconst rf_f_L_passes_3 (rf_m0 _) (rf_s_istore rf_f_L_passes_4 rfl rfl)))) : rf_den (rf_call d) rf_m_L_passes (0, [some (.inr (.inr (some a0))), some (.inr (.inr (some a1))), some (.inr (.inr (some a2))), some (.inl a3), some (.inl a4), none, none, none], [], h) = _)
set_option maxRecDepth 20000 in
set_option maxHeartbeats 2000000 in
theorem rf_e_L_passes_6 (d : Nat) (l0 : Nat) (l1 : Nat) (l2 : Nat) (l3 : Int) (l4 : Int) (l5 : Int) (l6 : Int) (h : rf_H) : rf_j_L_passes_6 d l0 l1 l2 l3 l4 l5 l6 h = (if l6 < l4 then ((rf_call d 115 [.inr (.inr (some l1)), .inl (rf_w (l3 + l6))] h).bind fun q1 => rf_kI q1 fun x2 h3 => (if l5 = 0 then rf_j_L_passes_70 d l0 l1 l2 l3 l4 l6 h3 else (bif rf_isO h3.1 l0 4 then ((rf_call d 77 [.inr (.inr (some l0)), .inl (Int.tmod x2 15)] h3).bind fun q4 => rf_kI q4 fun x5 h6 => ((rf_call d 128 [.inr (.inr (some l2)), .inl (Int.tmod x2 15)] h6).bind fun q7 => rf_kI q7 fun x8 h9 => (if x8 = 0 then (if x5 = (-4) then rf_j_L_passes_66 d l0 l1 l2 l3 l4 l6 h9 else rf_j_L_passes_70 d l0 l1 l2 l3 l4 l6 h9) else ((rf_call d 131 [.inr (.inr (some l1)), .inr (.inr (some l2))] h9).bind fun q10 => rf_kI q10 fun x11 h12 => ((rf_call d 130 [.inr (.inr (some l1)), .inr (.inr (some l2)), .inl (Int.tmod x2 15), .inl x11] h12).bind fun q13 => rf_kI q13 fun x14 h15 => (if x5 = x14 then rf_j_L_passes_66 d l0 l1 l2 l3 l4 l6 h15 else rf_j_L_passes_70 d l0 l1 l2 l3 l4 l6 h15)))))) else none))) else (if l5 = 0 ∨ l5 = 1 then some (some (.inl l5), h) else none)) :=
  ((rf_s_iload rf_f_L_passes_6 rfl (rf_m0 _) (rf_s_iload rf_f_L_passes_8 rfl (rf_m0 _) (rf_s_icmp_ge rf_f_L_passes_10 rfl (rf_m0 _) (rf_m0 _) (rf_s_iload rf_f_L_passes_79 rfl (rf_m0 _) (rf_s_zret rf_f_L_passes_81)) (rf_s_aload_n rf_f_L_passes_13 rfl (rf_m0 _) (rf_s_iload_n rf_f_L_passes_14 rfl (rf_m0 _) (rf_s_iload rf_f_L_passes_15 rfl (rf_m0 _) (rf_s_iadd rf_f_L_passes_17 (rf_m0 _) (rf_s_invS0 rf_f_L_passes_18 rfl rfl (rf_m0 _) fun q1 x2 h3 => (rf_s_bipush rf_f_L_passes_21 (rf_m0 _) (rf_s_irem rf_f_L_passes_23 (by decide) (rf_m0 _) (rf_s_istore (L' := [some (.inr (.inr (some l0))), some (.inr (.inr (some l1))), some (.inr (.inr (some l2))), some (.inl l3), some (.inl l4), some (.inl l5), some (.inl l6), some (.inl (Int.tmod x2 15))]) rf_f_L_passes_24 rfl (rf_s_iload rf_f_L_passes_26 rfl (rf_m0 _) (rf_s_if_eq rf_f_L_passes_28 rfl rfl (rf_m0 _) rfl (rf_s_aload_n rf_f_L_passes_31 rfl (rf_m0 _) (rf_s_iload rf_f_L_passes_32 rfl (rf_m0 _) (rf_s_invV0S rf_f_L_passes_34 rfl rfl (rf_m0 _) fun q4 x5 h6 => (rf_s_aload_n rf_f_L_passes_37 rfl (rf_m0 _) (rf_s_iload rf_f_L_passes_38 rfl (rf_m0 _) (rf_s_invS0 rf_f_L_passes_40 rfl rfl (rf_m0 _) fun q7 x8 h9 => (rf_s_if_eq rf_f_L_passes_43 rfl (rf_m0 _) (rf_m0 _) (rf_s_bipush rf_f_L_passes_61 (rf_m0 _) (rf_s_icmp_ne rf_f_L_passes_63 rfl rfl rfl rfl rfl)) (rf_s_aload_n rf_f_L_passes_46 rfl (rf_m0 _) (rf_s_aload_n rf_f_L_passes_47 rfl (rf_m0 _) (rf_s_iload rf_f_L_passes_48 rfl (rf_m0 _) (rf_s_aload_n rf_f_L_passes_50 rfl (rf_m0 _) (rf_s_aload_n rf_f_L_passes_51 rfl (rf_m0 _) (rf_s_invS0 rf_f_L_passes_52 rfl rfl (rf_m0 _) fun q10 x11 h12 => (rf_s_invS0 rf_f_L_passes_55 rfl rfl (rf_m0 _) fun q13 x14 h15 => (rf_s_goto rf_f_L_passes_58 rfl (rf_m0 _) (rf_s_icmp_ne rf_f_L_passes_63 rfl rfl rfl rfl rfl))))))))))))))))))))))))))))) : rf_den (rf_call d) rf_m_L_passes (6, [some (.inr (.inr (some l0))), some (.inr (.inr (some l1))), some (.inr (.inr (some l2))), some (.inl l3), some (.inl l4), some (.inl l5), some (.inl l6), none], [], h) = _)
set_option maxRecDepth 20000 in
set_option maxHeartbeats 2000000 in
theorem rf_e_L_passes_70 (d : Nat) (l0 : Nat) (l1 : Nat) (l2 : Nat) (l3 : Int) (l4 : Int) (l6 : Int) (h : rf_H) : rf_j_L_passes_70 d l0 l1 l2 l3 l4 l6 h = rf_j_L_passes_73 d l0 l1 l2 l3 l4 0 l6 h :=
  ((rf_s_iconst rf_f_L_passes_70 (rf_m0 _) (rf_s_istore rf_f_L_passes_71 rfl rfl)) : rf_den (rf_call d) rf_m_L_passes (70, [some (.inr (.inr (some l0))), some (.inr (.inr (some l1))), some (.inr (.inr (some l2))), some (.inl l3), some (.inl l4), none, some (.inl l6), none], [], h) = _)
set_option maxRecDepth 20000 in
set_option maxHeartbeats 2000000 in
theorem rf_e_L_passes_66 (d : Nat) (l0 : Nat) (l1 : Nat) (l2 : Nat) (l3 : Int) (l4 : Int) (l6 : Int) (h : rf_H) : rf_j_L_passes_66 d l0 l1 l2 l3 l4 l6 h = rf_j_L_passes_73 d l0 l1 l2 l3 l4 1 l6 h :=
  ((rf_s_iconst rf_f_L_passes_66 (rf_m0 _) (rf_s_goto rf_f_L_passes_67 rfl (rf_m0 _) (rf_s_istore rf_f_L_passes_71 rfl rfl))) : rf_den (rf_call d) rf_m_L_passes (66, [some (.inr (.inr (some l0))), some (.inr (.inr (some l1))), some (.inr (.inr (some l2))), some (.inl l3), some (.inl l4), none, some (.inl l6), none], [], h) = _)
set_option maxRecDepth 20000 in
set_option maxHeartbeats 2000000 in
theorem rf_e_L_passes_73 (d : Nat) (l0 : Nat) (l1 : Nat) (l2 : Nat) (l3 : Int) (l4 : Int) (l5 : Int) (l6 : Int) (h : rf_H) : rf_j_L_passes_73 d l0 l1 l2 l3 l4 l5 l6 h = rf_j_L_passes_6 d l0 l1 l2 l3 l4 l5 (rf_w (l6 + 1)) h :=
  ((rf_s_iinc (L' := [some (.inr (.inr (some l0))), some (.inr (.inr (some l1))), some (.inr (.inr (some l2))), some (.inl l3), some (.inl l4), some (.inl l5), some (.inl (rf_w (l6 + 1))), none]) rf_f_L_passes_73 rfl rfl (rf_s_goto rf_f_L_passes_76 rfl rfl rfl)) : rf_den (rf_call d) rf_m_L_passes (73, [some (.inr (.inr (some l0))), some (.inr (.inr (some l1))), some (.inr (.inr (some l2))), some (.inl l3), some (.inl l4), some (.inl l5), some (.inl l6), none], [], h) = _)
