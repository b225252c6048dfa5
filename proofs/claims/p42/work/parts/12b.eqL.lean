noncomputable def rf_j_L_tells_13 (d : Nat) (l0 : Nat) (l1 : Nat) (l2 : Int) (l3 : Nat) (l4 : Int) (h : rf_H) : Option rf_R := rf_den (rf_call d) rf_m_L_tells (13, [some (.inr (.inr (some l0))), some (.inr (.inr (some l1))), some (.inl l2), some (.inr (.inr (some l3))), some (.inl l4), none, none], [], h)
noncomputable def rf_j_L_tells_52 (d : Nat) (l0 : Nat) (l1 : Nat) (l2 : Int) (l3 : Nat) (l4 : Int) (l5 : Int) (h : rf_H) : Option rf_R := rf_den (rf_call d) rf_m_L_tells (52, [some (.inr (.inr (some l0))), some (.inr (.inr (some l1))), some (.inl l2), some (.inr (.inr (some l3))), some (.inl l4), some (.inl l5), none], [], h)
noncomputable def rf_j_L_tells_96 (d : Nat) (l0 : Nat) (l1 : Nat) (l2 : Int) (l3 : Nat) (l4 : Int) (l5 : Int) (h : rf_H) : Option rf_R := rf_den (rf_call d) rf_m_L_tells (96, [some (.inr (.inr (some l0))), some (.inr (.inr (some l1))), some (.inl l2), some (.inr (.inr (some l3))), some (.inl l4), some (.inl l5), none], [], h)
noncomputable def rf_j_L_tells_117 (d : Nat) (l0 : Nat) (l1 : Nat) (l2 : Int) (l3 : Nat) (l4 : Int) (l5 : Int) (h : rf_H) : Option rf_R := rf_den (rf_call d) rf_m_L_tells (117, [some (.inr (.inr (some l0))), some (.inr (.inr (some l1))), some (.inl l2), some (.inr (.inr (some l3))), some (.inl l4), some (.inl l5), none], [], h)
noncomputable def rf_j_L_tells_195 (d : Nat) (l0 : Nat) (l1 : Nat) (l2 : Int) (l3 : Nat) (l4 : Int) (l5 : Int) (h : rf_H) : Option rf_R := rf_den (rf_call d) rf_m_L_tells (195, [some (.inr (.inr (some l0))), some (.inr (.inr (some l1))), some (.inl l2), some (.inr (.inr (some l3))), some (.inl l4), some (.inl l5), none], [], h)
noncomputable def rf_j_L_tells_255 (d : Nat) (l0 : Nat) (l1 : Nat) (l2 : Int) (l3 : Nat) (l4 : Int) (l5 : Int) (h : rf_H) : Option rf_R := rf_den (rf_call d) rf_m_L_tells (255, [some (.inr (.inr (some l0))), some (.inr (.inr (some l1))), some (.inl l2), some (.inr (.inr (some l3))), some (.inl l4), some (.inl l5), none], [], h)
noncomputable def rf_j_L_tells_258 (d : Nat) (l0 : Nat) (l1 : Nat) (l2 : Int) (l3 : Nat) (l4 : Int) (l5 : Int) (l6 : Int) (h : rf_H) : Option rf_R := rf_den (rf_call d) rf_m_L_tells (258, [some (.inr (.inr (some l0))), some (.inr (.inr (some l1))), some (.inl l2), some (.inr (.inr (some l3))), some (.inl l4), some (.inl l5), some (.inl l6)], [], h)
noncomputable def rf_j_L_tells_294 (d : Nat) (l0 : Nat) (l1 : Nat) (l2 : Int) (l3 : Nat) (l4 : Int) (l5 : Int) (l6 : Int) (h : rf_H) : Option rf_R := rf_den (rf_call d) rf_m_L_tells (294, [some (.inr (.inr (some l0))), some (.inr (.inr (some l1))), some (.inl l2), some (.inr (.inr (some l3))), some (.inl l4), some (.inl l5), some (.inl l6)], [], h)
theorem rf_u_L_tells : rf_mt 121 = rf_m_L_tells := rfl
theorem rf_f_L_tells_0 : rf_Fb rf_m_L_tells 0 2 (.bipush 64) 0 0 0 0 [] [] = true := by decide +kernel
theorem rf_f_L_tells_2 : rf_Fb rf_m_L_tells 2 4 (.newarray .int) 0 0 0 0 [] [] = true := by decide +kernel
theorem rf_f_L_tells_4 : rf_Fb rf_m_L_tells 4 5 (.astore_n 3) 0 0 0 0 [] [] = true := by decide +kernel
theorem rf_f_L_tells_5 : rf_Fb rf_m_L_tells 5 6 (.aload_n 3) 0 0 0 0 [] [] = true := by decide +kernel
theorem rf_f_L_tells_6 : rf_Fb rf_m_L_tells 6 7 (.iconst 0) 0 0 0 0 [] [] = true := by decide +kernel
theorem rf_f_L_tells_7 : rf_Fb rf_m_L_tells 7 9 (.bipush 101) 0 0 0 0 [] [] = true := by decide +kernel
theorem rf_f_L_tells_9 : rf_Fb rf_m_L_tells 9 10 (.iastore) 0 0 0 0 [] [] = true := by decide +kernel
theorem rf_f_L_tells_10 : rf_Fb rf_m_L_tells 10 11 (.iconst 0) 0 0 0 0 [] [] = true := by decide +kernel
theorem rf_f_L_tells_11 : rf_Fb rf_m_L_tells 11 13 (.istore 4) 0 0 0 0 [] [true, true, true, true, true, false, false] = true := by decide +kernel
theorem rf_f_L_tells_13 : rf_Fb rf_m_L_tells 13 15 (.iload 4) 0 0 0 0 [] [] = true := by decide +kernel
theorem rf_f_L_tells_15 : rf_Fb rf_m_L_tells 15 16 (.iconst 4) 0 0 0 0 [] [] = true := by decide +kernel
theorem rf_f_L_tells_16 : rf_Fb rf_m_L_tells 16 19 (.if_icmp .ge 24) 40 0 0 0 [] [] = true := by decide +kernel
theorem rf_f_L_tells_19 : rf_Fb rf_m_L_tells 19 20 (.aload_n 3) 0 0 0 0 [] [] = true := by decide +kernel
theorem rf_f_L_tells_20 : rf_Fb rf_m_L_tells 20 21 (.iconst 1) 0 0 0 0 [] [] = true := by decide +kernel
theorem rf_f_L_tells_21 : rf_Fb rf_m_L_tells 21 23 (.iload 4) 0 0 0 0 [] [] = true := by decide +kernel
theorem rf_f_L_tells_23 : rf_Fb rf_m_L_tells 23 24 (.iadd) 0 0 0 0 [] [] = true := by decide +kernel
theorem rf_f_L_tells_24 : rf_Fb rf_m_L_tells 24 26 (.bipush 48) 0 0 0 0 [] [] = true := by decide +kernel
theorem rf_f_L_tells_26 : rf_Fb rf_m_L_tells 26 27 (.aload_n 1) 0 0 0 0 [] [] = true := by decide +kernel
theorem rf_f_L_tells_27 : rf_Fb rf_m_L_tells 27 29 (.iload 4) 0 0 0 0 [] [] = true := by decide +kernel
theorem rf_f_L_tells_29 : rf_Fb rf_m_L_tells 29 32 (.invokestatic 19) 118 2 0 0 [] [] = true := by decide +kernel
theorem rf_f_L_tells_32 : rf_Fb rf_m_L_tells 32 33 (.iadd) 0 0 0 0 [] [] = true := by decide +kernel
theorem rf_f_L_tells_33 : rf_Fb rf_m_L_tells 33 34 (.iastore) 0 0 0 0 [] [] = true := by decide +kernel
theorem rf_f_L_tells_34 : rf_Fb rf_m_L_tells 34 37 (.iinc 4 1) 0 0 0 0 [] [] = true := by decide +kernel
theorem rf_f_L_tells_37 : rf_Fb rf_m_L_tells 37 40 (.goto (-24)) 13 0 0 0 [] [] = true := by decide +kernel
theorem rf_f_L_tells_40 : rf_Fb rf_m_L_tells 40 41 (.aload_n 3) 0 0 0 0 [] [] = true := by decide +kernel
theorem rf_f_L_tells_41 : rf_Fb rf_m_L_tells 41 42 (.iconst 5) 0 0 0 0 [] [] = true := by decide +kernel
theorem rf_f_L_tells_42 : rf_Fb rf_m_L_tells 42 44 (.bipush 105) 0 0 0 0 [] [] = true := by decide +kernel
theorem rf_f_L_tells_44 : rf_Fb rf_m_L_tells 44 45 (.iastore) 0 0 0 0 [] [] = true := by decide +kernel
theorem rf_f_L_tells_45 : rf_Fb rf_m_L_tells 45 47 (.bipush 6) 0 0 0 0 [] [] = true := by decide +kernel
theorem rf_f_L_tells_47 : rf_Fb rf_m_L_tells 47 49 (.istore 4) 0 0 0 0 [] [] = true := by decide +kernel
theorem rf_f_L_tells_49 : rf_Fb rf_m_L_tells 49 50 (.iconst 0) 0 0 0 0 [] [] = true := by decide +kernel
theorem rf_f_L_tells_50 : rf_Fb rf_m_L_tells 50 52 (.istore 5) 0 0 0 0 [] [true, true, true, true, true, true, false] = true := by decide +kernel
theorem rf_f_L_tells_52 : rf_Fb rf_m_L_tells 52 54 (.iload 5) 0 0 0 0 [] [] = true := by decide +kernel
theorem rf_f_L_tells_54 : rf_Fb rf_m_L_tells 54 55 (.aload_n 1) 0 0 0 0 [] [] = true := by decide +kernel
theorem rf_f_L_tells_55 : rf_Fb rf_m_L_tells 55 58 (.invokestatic 15) 116 1 0 0 [] [] = true := by decide +kernel
theorem rf_f_L_tells_58 : rf_Fb rf_m_L_tells 58 61 (.if_icmp .ge 47) 105 0 0 0 [] [] = true := by decide +kernel
theorem rf_f_L_tells_61 : rf_Fb rf_m_L_tells 61 62 (.aload_n 1) 0 0 0 0 [] [] = true := by decide +kernel
theorem rf_f_L_tells_62 : rf_Fb rf_m_L_tells 62 64 (.iload 5) 0 0 0 0 [] [] = true := by decide +kernel
theorem rf_f_L_tells_64 : rf_Fb rf_m_L_tells 64 67 (.invokestatic 22) 117 2 0 0 [] [] = true := by decide +kernel
theorem rf_f_L_tells_67 : rf_Fb rf_m_L_tells 67 69 (.istore 6) 0 0 0 0 [] [] = true := by decide +kernel
theorem rf_f_L_tells_69 : rf_Fb rf_m_L_tells 69 70 (.aload_n 3) 0 0 0 0 [] [] = true := by decide +kernel
theorem rf_f_L_tells_70 : rf_Fb rf_m_L_tells 70 72 (.iload 4) 0 0 0 0 [] [] = true := by decide +kernel
theorem rf_f_L_tells_72 : rf_Fb rf_m_L_tells 72 74 (.iload 6) 0 0 0 0 [] [] = true := by decide +kernel
theorem rf_f_L_tells_74 : rf_Fb rf_m_L_tells 74 77 (.ifCond .ne 8) 82 0 0 0 [] [] = true := by decide +kernel
theorem rf_f_L_tells_77 : rf_Fb rf_m_L_tells 77 79 (.bipush 100) 0 0 0 0 [] [] = true := by decide +kernel
theorem rf_f_L_tells_79 : rf_Fb rf_m_L_tells 79 82 (.goto 16) 95 0 0 0 [] [] = true := by decide +kernel
theorem rf_f_L_tells_82 : rf_Fb rf_m_L_tells 82 84 (.iload 6) 0 0 0 0 [] [] = true := by decide +kernel
theorem rf_f_L_tells_84 : rf_Fb rf_m_L_tells 84 85 (.iconst 1) 0 0 0 0 [] [] = true := by decide +kernel
theorem rf_f_L_tells_85 : rf_Fb rf_m_L_tells 85 88 (.if_icmp .ne 8) 93 0 0 0 [] [] = true := by decide +kernel
theorem rf_f_L_tells_88 : rf_Fb rf_m_L_tells 88 90 (.bipush 119) 0 0 0 0 [] [] = true := by decide +kernel
theorem rf_f_L_tells_90 : rf_Fb rf_m_L_tells 90 93 (.goto 5) 95 0 0 0 [] [] = true := by decide +kernel
theorem rf_f_L_tells_93 : rf_Fb rf_m_L_tells 93 95 (.bipush 108) 0 0 0 0 [] [] = true := by decide +kernel
theorem rf_f_L_tells_95 : rf_Fb rf_m_L_tells 95 96 (.iastore) 0 0 0 0 [] [true, true, true, true, true, true, false] = true := by decide +kernel
theorem rf_f_L_tells_96 : rf_Fb rf_m_L_tells 96 99 (.iinc 4 1) 0 0 0 0 [] [] = true := by decide +kernel
theorem rf_f_L_tells_99 : rf_Fb rf_m_L_tells 99 102 (.iinc 5 1) 0 0 0 0 [] [] = true := by decide +kernel
theorem rf_f_L_tells_102 : rf_Fb rf_m_L_tells 102 105 (.goto (-50)) 52 0 0 0 [] [] = true := by decide +kernel
theorem rf_f_L_tells_105 : rf_Fb rf_m_L_tells 105 106 (.aload_n 3) 0 0 0 0 [] [] = true := by decide +kernel
theorem rf_f_L_tells_106 : rf_Fb rf_m_L_tells 106 108 (.iload 4) 0 0 0 0 [] [] = true := by decide +kernel
theorem rf_f_L_tells_108 : rf_Fb rf_m_L_tells 108 110 (.bipush 32) 0 0 0 0 [] [] = true := by decide +kernel
theorem rf_f_L_tells_110 : rf_Fb rf_m_L_tells 110 111 (.iastore) 0 0 0 0 [] [] = true := by decide +kernel
theorem rf_f_L_tells_111 : rf_Fb rf_m_L_tells 111 114 (.iinc 4 1) 0 0 0 0 [] [] = true := by decide +kernel
theorem rf_f_L_tells_114 : rf_Fb rf_m_L_tells 114 115 (.iconst 0) 0 0 0 0 [] [] = true := by decide +kernel
theorem rf_f_L_tells_115 : rf_Fb rf_m_L_tells 115 117 (.istore 5) 0 0 0 0 [] [true, true, true, true, true, true, false] = true := by decide +kernel
theorem rf_f_L_tells_117 : rf_Fb rf_m_L_tells 117 119 (.iload 5) 0 0 0 0 [] [] = true := by decide +kernel
theorem rf_f_L_tells_119 : rf_Fb rf_m_L_tells 119 120 (.aload_n 1) 0 0 0 0 [] [] = true := by decide +kernel
theorem rf_f_L_tells_120 : rf_Fb rf_m_L_tells 120 123 (.invokestatic 25) 119 1 0 0 [] [] = true := by decide +kernel
theorem rf_f_L_tells_123 : rf_Fb rf_m_L_tells 123 126 (.if_icmp .ge 113) 236 0 0 0 [] [] = true := by decide +kernel
theorem rf_f_L_tells_126 : rf_Fb rf_m_L_tells 126 127 (.aload_n 1) 0 0 0 0 [] [] = true := by decide +kernel
theorem rf_f_L_tells_127 : rf_Fb rf_m_L_tells 127 129 (.iload 5) 0 0 0 0 [] [] = true := by decide +kernel
theorem rf_f_L_tells_129 : rf_Fb rf_m_L_tells 129 130 (.iconst 0) 0 0 0 0 [] [] = true := by decide +kernel
theorem rf_f_L_tells_130 : rf_Fb rf_m_L_tells 130 133 (.invokestatic 28) 120 3 0 0 [] [] = true := by decide +kernel
theorem rf_f_L_tells_133 : rf_Fb rf_m_L_tells 133 135 (.istore 6) 0 0 0 0 [] [] = true := by decide +kernel
theorem rf_f_L_tells_135 : rf_Fb rf_m_L_tells 135 136 (.aload_n 3) 0 0 0 0 [] [] = true := by decide +kernel
theorem rf_f_L_tells_136 : rf_Fb rf_m_L_tells 136 138 (.iload 4) 0 0 0 0 [] [] = true := by decide +kernel
theorem rf_f_L_tells_138 : rf_Fb rf_m_L_tells 138 140 (.iload 6) 0 0 0 0 [] [] = true := by decide +kernel
theorem rf_f_L_tells_140 : rf_Fb rf_m_L_tells 140 143 (.ifCond .ne 8) 148 0 0 0 [] [] = true := by decide +kernel
theorem rf_f_L_tells_143 : rf_Fb rf_m_L_tells 143 145 (.bipush 119) 0 0 0 0 [] [] = true := by decide +kernel
theorem rf_f_L_tells_145 : rf_Fb rf_m_L_tells 145 148 (.goto 49) 194 0 0 0 [] [] = true := by decide +kernel
theorem rf_f_L_tells_148 : rf_Fb rf_m_L_tells 148 150 (.iload 6) 0 0 0 0 [] [] = true := by decide +kernel
theorem rf_f_L_tells_150 : rf_Fb rf_m_L_tells 150 151 (.iconst 1) 0 0 0 0 [] [] = true := by decide +kernel
theorem rf_f_L_tells_151 : rf_Fb rf_m_L_tells 151 154 (.if_icmp .ne 8) 159 0 0 0 [] [] = true := by decide +kernel
theorem rf_f_L_tells_154 : rf_Fb rf_m_L_tells 154 156 (.bipush 104) 0 0 0 0 [] [] = true := by decide +kernel
theorem rf_f_L_tells_156 : rf_Fb rf_m_L_tells 156 159 (.goto 38) 194 0 0 0 [] [] = true := by decide +kernel
theorem rf_f_L_tells_159 : rf_Fb rf_m_L_tells 159 161 (.iload 6) 0 0 0 0 [] [] = true := by decide +kernel
theorem rf_f_L_tells_161 : rf_Fb rf_m_L_tells 161 162 (.iconst 2) 0 0 0 0 [] [] = true := by decide +kernel
theorem rf_f_L_tells_162 : rf_Fb rf_m_L_tells 162 165 (.if_icmp .ne 8) 170 0 0 0 [] [] = true := by decide +kernel
theorem rf_f_L_tells_165 : rf_Fb rf_m_L_tells 165 167 (.bipush 115) 0 0 0 0 [] [] = true := by decide +kernel
theorem rf_f_L_tells_167 : rf_Fb rf_m_L_tells 167 170 (.goto 27) 194 0 0 0 [] [] = true := by decide +kernel
theorem rf_f_L_tells_170 : rf_Fb rf_m_L_tells 170 172 (.iload 6) 0 0 0 0 [] [] = true := by decide +kernel
theorem rf_f_L_tells_172 : rf_Fb rf_m_L_tells 172 173 (.iconst 3) 0 0 0 0 [] [] = true := by decide +kernel
theorem rf_f_L_tells_173 : rf_Fb rf_m_L_tells 173 176 (.if_icmp .ne 8) 181 0 0 0 [] [] = true := by decide +kernel
theorem rf_f_L_tells_176 : rf_Fb rf_m_L_tells 176 178 (.bipush 112) 0 0 0 0 [] [] = true := by decide +kernel
theorem rf_f_L_tells_178 : rf_Fb rf_m_L_tells 178 181 (.goto 16) 194 0 0 0 [] [] = true := by decide +kernel
theorem rf_f_L_tells_181 : rf_Fb rf_m_L_tells 181 183 (.iload 6) 0 0 0 0 [] [] = true := by decide +kernel
theorem rf_f_L_tells_183 : rf_Fb rf_m_L_tells 183 184 (.iconst 4) 0 0 0 0 [] [] = true := by decide +kernel
theorem rf_f_L_tells_184 : rf_Fb rf_m_L_tells 184 187 (.if_icmp .ne 8) 192 0 0 0 [] [] = true := by decide +kernel
theorem rf_f_L_tells_187 : rf_Fb rf_m_L_tells 187 189 (.bipush 114) 0 0 0 0 [] [] = true := by decide +kernel
theorem rf_f_L_tells_189 : rf_Fb rf_m_L_tells 189 192 (.goto 5) 194 0 0 0 [] [] = true := by decide +kernel
theorem rf_f_L_tells_192 : rf_Fb rf_m_L_tells 192 194 (.bipush 98) 0 0 0 0 [] [] = true := by decide +kernel
theorem rf_f_L_tells_194 : rf_Fb rf_m_L_tells 194 195 (.iastore) 0 0 0 0 [] [true, true, true, true, true, true, false] = true := by decide +kernel
theorem rf_f_L_tells_195 : rf_Fb rf_m_L_tells 195 196 (.aload_n 3) 0 0 0 0 [] [] = true := by decide +kernel
theorem rf_f_L_tells_196 : rf_Fb rf_m_L_tells 196 198 (.iload 4) 0 0 0 0 [] [] = true := by decide +kernel
theorem rf_f_L_tells_198 : rf_Fb rf_m_L_tells 198 199 (.iconst 1) 0 0 0 0 [] [] = true := by decide +kernel
theorem rf_f_L_tells_199 : rf_Fb rf_m_L_tells 199 200 (.iadd) 0 0 0 0 [] [] = true := by decide +kernel
theorem rf_f_L_tells_200 : rf_Fb rf_m_L_tells 200 202 (.bipush 48) 0 0 0 0 [] [] = true := by decide +kernel
theorem rf_f_L_tells_202 : rf_Fb rf_m_L_tells 202 203 (.aload_n 1) 0 0 0 0 [] [] = true := by decide +kernel
theorem rf_f_L_tells_203 : rf_Fb rf_m_L_tells 203 205 (.iload 5) 0 0 0 0 [] [] = true := by decide +kernel
theorem rf_f_L_tells_205 : rf_Fb rf_m_L_tells 205 206 (.iconst 1) 0 0 0 0 [] [] = true := by decide +kernel
theorem rf_f_L_tells_206 : rf_Fb rf_m_L_tells 206 209 (.invokestatic 28) 120 3 0 0 [] [] = true := by decide +kernel
theorem rf_f_L_tells_209 : rf_Fb rf_m_L_tells 209 210 (.iadd) 0 0 0 0 [] [] = true := by decide +kernel
theorem rf_f_L_tells_210 : rf_Fb rf_m_L_tells 210 211 (.iastore) 0 0 0 0 [] [] = true := by decide +kernel
theorem rf_f_L_tells_211 : rf_Fb rf_m_L_tells 211 212 (.aload_n 3) 0 0 0 0 [] [] = true := by decide +kernel
theorem rf_f_L_tells_212 : rf_Fb rf_m_L_tells 212 214 (.iload 4) 0 0 0 0 [] [] = true := by decide +kernel
theorem rf_f_L_tells_214 : rf_Fb rf_m_L_tells 214 215 (.iconst 2) 0 0 0 0 [] [] = true := by decide +kernel
theorem rf_f_L_tells_215 : rf_Fb rf_m_L_tells 215 216 (.iadd) 0 0 0 0 [] [] = true := by decide +kernel
theorem rf_f_L_tells_216 : rf_Fb rf_m_L_tells 216 218 (.bipush 48) 0 0 0 0 [] [] = true := by decide +kernel
theorem rf_f_L_tells_218 : rf_Fb rf_m_L_tells 218 219 (.aload_n 1) 0 0 0 0 [] [] = true := by decide +kernel
theorem rf_f_L_tells_219 : rf_Fb rf_m_L_tells 219 221 (.iload 5) 0 0 0 0 [] [] = true := by decide +kernel
theorem rf_f_L_tells_221 : rf_Fb rf_m_L_tells 221 222 (.iconst 2) 0 0 0 0 [] [] = true := by decide +kernel
theorem rf_f_L_tells_222 : rf_Fb rf_m_L_tells 222 225 (.invokestatic 28) 120 3 0 0 [] [] = true := by decide +kernel
theorem rf_f_L_tells_225 : rf_Fb rf_m_L_tells 225 226 (.iadd) 0 0 0 0 [] [] = true := by decide +kernel
theorem rf_f_L_tells_226 : rf_Fb rf_m_L_tells 226 227 (.iastore) 0 0 0 0 [] [] = true := by decide +kernel
theorem rf_f_L_tells_227 : rf_Fb rf_m_L_tells 227 230 (.iinc 4 3) 0 0 0 0 [] [] = true := by decide +kernel
theorem rf_f_L_tells_230 : rf_Fb rf_m_L_tells 230 233 (.iinc 5 1) 0 0 0 0 [] [] = true := by decide +kernel
theorem rf_f_L_tells_233 : rf_Fb rf_m_L_tells 233 236 (.goto (-116)) 117 0 0 0 [] [] = true := by decide +kernel
theorem rf_f_L_tells_236 : rf_Fb rf_m_L_tells 236 237 (.aload_n 0) 0 0 0 0 [] [] = true := by decide +kernel
theorem rf_f_L_tells_237 : rf_Fb rf_m_L_tells 237 238 (.iload_n 2) 0 0 0 0 [] [] = true := by decide +kernel
theorem rf_f_L_tells_238 : rf_Fb rf_m_L_tells 238 240 (.iload 4) 0 0 0 0 [] [] = true := by decide +kernel
theorem rf_f_L_tells_240 : rf_Fb rf_m_L_tells 240 243 (.invokevirtual 32) 65 2 0 4 [] [] = true := by decide +kernel
theorem rf_f_L_tells_243 : rf_Fb rf_m_L_tells 243 245 (.iload 4) 0 0 0 0 [] [] = true := by decide +kernel
theorem rf_f_L_tells_245 : rf_Fb rf_m_L_tells 245 248 (.if_icmp .ne 7) 252 0 0 0 [] [] = true := by decide +kernel
theorem rf_f_L_tells_248 : rf_Fb rf_m_L_tells 248 249 (.iconst 1) 0 0 0 0 [] [] = true := by decide +kernel
theorem rf_f_L_tells_249 : rf_Fb rf_m_L_tells 249 252 (.goto 4) 253 0 0 0 [] [] = true := by decide +kernel
theorem rf_f_L_tells_252 : rf_Fb rf_m_L_tells 252 253 (.iconst 0) 0 0 0 0 [] [] = true := by decide +kernel
theorem rf_f_L_tells_253 : rf_Fb rf_m_L_tells 253 255 (.istore 5) 0 0 0 0 [] [true, true, true, true, true, true, false] = true := by decide +kernel
theorem rf_f_L_tells_255 : rf_Fb rf_m_L_tells 255 256 (.iconst 0) 0 0 0 0 [] [] = true := by decide +kernel
theorem rf_f_L_tells_256 : rf_Fb rf_m_L_tells 256 258 (.istore 6) 0 0 0 0 [] [true, true, true, true, true, true, true] = true := by decide +kernel
theorem rf_f_L_tells_258 : rf_Fb rf_m_L_tells 258 260 (.iload 6) 0 0 0 0 [] [] = true := by decide +kernel
theorem rf_f_L_tells_260 : rf_Fb rf_m_L_tells 260 262 (.iload 4) 0 0 0 0 [] [] = true := by decide +kernel
theorem rf_f_L_tells_262 : rf_Fb rf_m_L_tells 262 265 (.if_icmp .ge 38) 300 0 0 0 [] [] = true := by decide +kernel
theorem rf_f_L_tells_265 : rf_Fb rf_m_L_tells 265 267 (.iload 5) 0 0 0 0 [] [] = true := by decide +kernel
theorem rf_f_L_tells_267 : rf_Fb rf_m_L_tells 267 270 (.ifCond .eq 24) 291 0 0 0 [] [] = true := by decide +kernel
theorem rf_f_L_tells_270 : rf_Fb rf_m_L_tells 270 271 (.aload_n 0) 0 0 0 0 [] [] = true := by decide +kernel
theorem rf_f_L_tells_271 : rf_Fb rf_m_L_tells 271 272 (.iload_n 2) 0 0 0 0 [] [] = true := by decide +kernel
theorem rf_f_L_tells_272 : rf_Fb rf_m_L_tells 272 274 (.iload 6) 0 0 0 0 [] [] = true := by decide +kernel
theorem rf_f_L_tells_274 : rf_Fb rf_m_L_tells 274 275 (.aload_n 3) 0 0 0 0 [] [] = true := by decide +kernel
theorem rf_f_L_tells_275 : rf_Fb rf_m_L_tells 275 277 (.iload 6) 0 0 0 0 [] [] = true := by decide +kernel
theorem rf_f_L_tells_277 : rf_Fb rf_m_L_tells 277 278 (.iaload) 0 0 0 0 [] [] = true := by decide +kernel
theorem rf_f_L_tells_278 : rf_Fb rf_m_L_tells 278 281 (.invokevirtual 38) 66 3 0 4 [] [] = true := by decide +kernel
theorem rf_f_L_tells_281 : rf_Fb rf_m_L_tells 281 284 (.sipush 1032) 0 0 0 0 [] [] = true := by decide +kernel
theorem rf_f_L_tells_284 : rf_Fb rf_m_L_tells 284 287 (.if_icmp .ne 7) 291 0 0 0 [] [] = true := by decide +kernel
theorem rf_f_L_tells_287 : rf_Fb rf_m_L_tells 287 288 (.iconst 1) 0 0 0 0 [] [] = true := by decide +kernel
theorem rf_f_L_tells_288 : rf_Fb rf_m_L_tells 288 291 (.goto 4) 292 0 0 0 [] [] = true := by decide +kernel
theorem rf_f_L_tells_291 : rf_Fb rf_m_L_tells 291 292 (.iconst 0) 0 0 0 0 [] [] = true := by decide +kernel
theorem rf_f_L_tells_292 : rf_Fb rf_m_L_tells 292 294 (.istore 5) 0 0 0 0 [] [true, true, true, true, true, true, true] = true := by decide +kernel
theorem rf_f_L_tells_294 : rf_Fb rf_m_L_tells 294 297 (.iinc 6 1) 0 0 0 0 [] [] = true := by decide +kernel
theorem rf_f_L_tells_297 : rf_Fb rf_m_L_tells 297 300 (.goto (-39)) 258 0 0 0 [] [] = true := by decide +kernel
theorem rf_f_L_tells_300 : rf_Fb rf_m_L_tells 300 302 (.iload 5) 0 0 0 0 [] [] = true := by decide +kernel
theorem rf_f_L_tells_302 : rf_Fb rf_m_L_tells 302 305 (.ifCond .eq 29) 331 0 0 0 [] [] = true := by decide +kernel
theorem rf_f_L_tells_305 : rf_Fb rf_m_L_tells 305 306 (.aload_n 0) 0 0 0 0 [] [] = true := by decide +kernel
theorem rf_f_L_tells_306 : rf_Fb rf_m_L_tells 306 307 (.iload_n 2) 0 0 0 0 [] [] = true := by decide +kernel
theorem rf_f_L_tells_307 : rf_Fb rf_m_L_tells 307 310 (.invokevirtual 42) 67 1 0 4 [] [] = true := by decide +kernel
theorem rf_f_L_tells_310 : rf_Fb rf_m_L_tells 310 312 (.bipush (-9)) 0 0 0 0 [] [] = true := by decide +kernel
theorem rf_f_L_tells_312 : rf_Fb rf_m_L_tells 312 315 (.if_icmp .ne 19) 331 0 0 0 [] [] = true := by decide +kernel
theorem rf_f_L_tells_315 : rf_Fb rf_m_L_tells 315 316 (.aload_n 0) 0 0 0 0 [] [] = true := by decide +kernel
theorem rf_f_L_tells_316 : rf_Fb rf_m_L_tells 316 317 (.iload_n 2) 0 0 0 0 [] [] = true := by decide +kernel
theorem rf_f_L_tells_317 : rf_Fb rf_m_L_tells 317 320 (.invokevirtual 46) 68 1 0 4 [] [] = true := by decide +kernel
theorem rf_f_L_tells_320 : rf_Fb rf_m_L_tells 320 321 (.aload_n 1) 0 0 0 0 [] [] = true := by decide +kernel
theorem rf_f_L_tells_321 : rf_Fb rf_m_L_tells 321 324 (.invokestatic 25) 119 1 0 0 [] [] = true := by decide +kernel
theorem rf_f_L_tells_324 : rf_Fb rf_m_L_tells 324 327 (.if_icmp .ne 7) 331 0 0 0 [] [] = true := by decide +kernel
theorem rf_f_L_tells_327 : rf_Fb rf_m_L_tells 327 328 (.iconst 1) 0 0 0 0 [] [] = true := by decide +kernel
theorem rf_f_L_tells_328 : rf_Fb rf_m_L_tells 328 331 (.goto 4) 332 0 0 0 [] [] = true := by decide +kernel
theorem rf_f_L_tells_331 : rf_Fb rf_m_L_tells 331 332 (.iconst 0) 0 0 0 0 [] [] = true := by decide +kernel
theorem rf_f_L_tells_332 : rf_Fb rf_m_L_tells 332 333 (.ireturn) 0 0 1 0 [] [] = true := by decide +kernel
set_option maxRecDepth 20000 in
set_option maxHeartbeats 2000000 in
theorem rf_e_L_tells (d : Nat) (a0 : Nat) (a1 : Nat) (a2 : Int) (h : rf_H) : rf_call (d + 1) 121 [.inr (.inr (some a0)), .inr (.inr (some a1)), .inl a2] h = (if (0 : Int) ≤ 64 ∧ (64 : Int) ≤ 100000 ∧ h.1.length < 1000000 then ((rf_sI (rf_nw h (.inr (0, Int.toNat 64))) h.1.length 0 101).bind fun h1 => rf_j_L_tells_13 d a0 a1 a2 h.1.length 0 h1) else none) := by
  show rf_den (rf_call d) (rf_mt 121) _ = _
  rw [rf_u_L_tells]
  exact ((rf_s_bipush rf_f_L_tells_0 (rf_m0 _) (rf_s_newI rf_f_L_tells_2 (rf_m0 _) (rf_s_astore_n (L' := [some (.inr (.inr (some a0))), some (.inr (.inr (some a1))), some (.inl a2), some (.inr (.inr (some h.1.length))), none, none, none]) rf_f_L_tells_4 rfl (rf_s_aload_n rf_f_L_tells_5 rfl (rf_m0 _) (rf_s_iconst rf_f_L_tells_6 (rf_m0 _) (rf_s_bipush rf_f_L_tells_7 (rf_m0 _) (rf_s_iastS rf_f_L_tells_9 (rf_m0 _) fun h1 => (rf_s_iconst rf_f_L_tells_10 (rf_m0 _) (rf_s_istore rf_f_L_tells_11 rfl rfl))))))))) : rf_den (rf_call d) rf_m_L_tells (0, [some (.inr (.inr (some a0))), some (.inr (.inr (some a1))), some (.inl a2), none, none, none, none], [], h) = _)
set_option maxRecDepth 20000 in
set_option maxHeartbeats 2000000 in
theorem rf_e_L_tells_13 (d : Nat) (l0 : Nat) (l1 : Nat) (l2 : Int) (l3 : Nat) (l4 : Int) (h : rf_H) : rf_j_L_tells_13 d l0 l1 l2 l3 l4 h = (if l4 < 4 then ((rf_call d 118 [.inr (.inr (some l1)), .inl l4] h).bind fun q2 => rf_kI q2 fun x3 h4 => ((rf_sI h4 l3 (rf_w (1 + l4)) (rf_w (48 + x3))).bind fun h5 => rf_j_L_tells_13 d l0 l1 l2 l3 (rf_w (l4 + 1)) h5)) else ((rf_sI h l3 5 105).bind fun h1 => rf_j_L_tells_52 d l0 l1 l2 l3 6 0 h1)) :=
  ((rf_s_iload rf_f_L_tells_13 rfl (rf_m0 _) (rf_s_iconst rf_f_L_tells_15 (rf_m0 _) (rf_s_icmp_ge rf_f_L_tells_16 rfl (rf_m0 _) (rf_m0 _) (rf_s_aload_n rf_f_L_tells_40 rfl (rf_m0 _) (rf_s_iconst rf_f_L_tells_41 (rf_m0 _) (rf_s_bipush rf_f_L_tells_42 (rf_m0 _) (rf_s_iastS rf_f_L_tells_44 (rf_m0 _) fun h1 => (rf_s_bipush rf_f_L_tells_45 (rf_m0 _) (rf_s_istore (L' := [some (.inr (.inr (some l0))), some (.inr (.inr (some l1))), some (.inl l2), some (.inr (.inr (some l3))), some (.inl 6), none, none]) rf_f_L_tells_47 rfl (rf_s_iconst rf_f_L_tells_49 (rf_m0 _) (rf_s_istore rf_f_L_tells_50 rfl rfl)))))))) (rf_s_aload_n rf_f_L_tells_19 rfl (rf_m0 _) (rf_s_iconst rf_f_L_tells_20 (rf_m0 _) (rf_s_iload rf_f_L_tells_21 rfl (rf_m0 _) (rf_s_iadd rf_f_L_tells_23 (rf_m0 _) (rf_s_bipush rf_f_L_tells_24 (rf_m0 _) (rf_s_aload_n rf_f_L_tells_26 rfl (rf_m0 _) (rf_s_iload rf_f_L_tells_27 rfl (rf_m0 _) (rf_s_invS0 rf_f_L_tells_29 rfl rfl (rf_m0 _) fun q2 x3 h4 => (rf_s_iadd rf_f_L_tells_32 (rf_m0 _) (rf_s_iastS rf_f_L_tells_33 (rf_m0 _) fun h5 => (rf_s_iinc (L' := [some (.inr (.inr (some l0))), some (.inr (.inr (some l1))), some (.inl l2), some (.inr (.inr (some l3))), some (.inl (rf_w (l4 + 1))), none, none]) rf_f_L_tells_34 rfl rfl (rf_s_goto rf_f_L_tells_37 rfl rfl rfl))))))))))))))) : rf_den (rf_call d) rf_m_L_tells (13, [some (.inr (.inr (some l0))), some (.inr (.inr (some l1))), some (.inl l2), some (.inr (.inr (some l3))), some (.inl l4), none, none], [], h) = _)
set_option maxRecDepth 20000 in
set_option maxHeartbeats 2000000 in
theorem rf_e_L_tells_52 (d : Nat) (l0 : Nat) (l1 : Nat) (l2 : Int) (l3 : Nat) (l4 : Int) (l5 : Int) (h : rf_H) : rf_j_L_tells_52 d l0 l1 l2 l3 l4 l5 h = ((rf_call d 116 [.inr (.inr (some l1))] h).bind fun q1 => rf_kI q1 fun x2 h3 => (if l5 < x2 then ((rf_call d 117 [.inr (.inr (some l1)), .inl l5] h3).bind fun q5 => rf_kI q5 fun x6 h7 => (if x6 = 0 then ((rf_sI h7 l3 l4 100).bind fun h10 => rf_j_L_tells_96 d l0 l1 l2 l3 l4 l5 h10) else (if x6 = 1 then ((rf_sI h7 l3 l4 119).bind fun h9 => rf_j_L_tells_96 d l0 l1 l2 l3 l4 l5 h9) else ((rf_sI h7 l3 l4 108).bind fun h8 => rf_j_L_tells_96 d l0 l1 l2 l3 l4 l5 h8)))) else ((rf_sI h3 l3 l4 32).bind fun h4 => rf_j_L_tells_117 d l0 l1 l2 l3 (rf_w (l4 + 1)) 0 h4))) :=
  ((rf_s_iload rf_f_L_tells_52 rfl (rf_m0 _) (rf_s_aload_n rf_f_L_tells_54 rfl (rf_m0 _) (rf_s_invS0 rf_f_L_tells_55 rfl rfl (rf_m0 _) fun q1 x2 h3 => (rf_s_icmp_ge rf_f_L_tells_58 rfl (rf_m0 _) (rf_m0 _) (rf_s_aload_n rf_f_L_tells_105 rfl (rf_m0 _) (rf_s_iload rf_f_L_tells_106 rfl (rf_m0 _) (rf_s_bipush rf_f_L_tells_108 (rf_m0 _) (rf_s_iastS rf_f_L_tells_110 (rf_m0 _) fun h4 => (rf_s_iinc (L' := [some (.inr (.inr (some l0))), some (.inr (.inr (some l1))), some (.inl l2), some (.inr (.inr (some l3))), some (.inl (rf_w (l4 + 1))), some (.inl l5), none]) rf_f_L_tells_111 rfl rfl (rf_s_iconst rf_f_L_tells_114 (rf_m0 _) (rf_s_istore rf_f_L_tells_115 rfl rfl))))))) (rf_s_aload_n rf_f_L_tells_61 rfl (rf_m0 _) (rf_s_iload rf_f_L_tells_62 rfl (rf_m0 _) (rf_s_invS0 rf_f_L_tells_64 rfl rfl (rf_m0 _) fun q5 x6 h7 => (rf_s_istore (L' := [some (.inr (.inr (some l0))), some (.inr (.inr (some l1))), some (.inl l2), some (.inr (.inr (some l3))), some (.inl l4), some (.inl l5), some (.inl x6)]) rf_f_L_tells_67 rfl (rf_s_aload_n rf_f_L_tells_69 rfl (rf_m0 _) (rf_s_iload rf_f_L_tells_70 rfl (rf_m0 _) (rf_s_iload rf_f_L_tells_72 rfl (rf_m0 _) (rf_s_if_ne rf_f_L_tells_74 rfl (rf_m0 _) (rf_m0 _) (rf_s_iload rf_f_L_tells_82 rfl (rf_m0 _) (rf_s_iconst rf_f_L_tells_84 (rf_m0 _) (rf_s_icmp_ne rf_f_L_tells_85 rfl (rf_m0 _) (rf_m0 _) (rf_s_bipush rf_f_L_tells_93 (rf_m0 _) (rf_s_iastS rf_f_L_tells_95 rfl fun h8 => rfl)) (rf_s_bipush rf_f_L_tells_88 (rf_m0 _) (rf_s_goto rf_f_L_tells_90 rfl (rf_m0 _) (rf_s_iastS rf_f_L_tells_95 rfl fun h9 => rfl)))))) (rf_s_bipush rf_f_L_tells_77 (rf_m0 _) (rf_s_goto rf_f_L_tells_79 rfl (rf_m0 _) (rf_s_iastS rf_f_L_tells_95 rfl fun h10 => rfl))))))))))))))) : rf_den (rf_call d) rf_m_L_tells (52, [some (.inr (.inr (some l0))), some (.inr (.inr (some l1))), some (.inl l2), some (.inr (.inr (some l3))), some (.inl l4), some (.inl l5), none], [], h) = _)
set_option maxRecDepth 20000 in
set_option maxHeartbeats 2000000 in
theorem rf_e_L_tells_117 (d : Nat) (l0 : Nat) (l1 : Nat) (l2 : Int) (l3 : Nat) (l4 : Int) (l5 : Int) (h : rf_H) : rf_j_L_tells_117 d l0 l1 l2 l3 l4 l5 h = ((rf_call d 119 [.inr (.inr (some l1))] h).bind fun q1 => rf_kI q1 fun x2 h3 => (if l5 < x2 then ((rf_call d 120 [.inr (.inr (some l1)), .inl l5, .inl 0] h3).bind fun q7 => rf_kI q7 fun x8 h9 => (if x8 = 0 then ((rf_sI h9 l3 l4 119).bind fun h15 => rf_j_L_tells_195 d l0 l1 l2 l3 l4 l5 h15) else (if x8 = 1 then ((rf_sI h9 l3 l4 104).bind fun h14 => rf_j_L_tells_195 d l0 l1 l2 l3 l4 l5 h14) else (if x8 = 2 then ((rf_sI h9 l3 l4 115).bind fun h13 => rf_j_L_tells_195 d l0 l1 l2 l3 l4 l5 h13) else (if x8 = 3 then ((rf_sI h9 l3 l4 112).bind fun h12 => rf_j_L_tells_195 d l0 l1 l2 l3 l4 l5 h12) else (if x8 = 4 then ((rf_sI h9 l3 l4 114).bind fun h11 => rf_j_L_tells_195 d l0 l1 l2 l3 l4 l5 h11) else ((rf_sI h9 l3 l4 98).bind fun h10 => rf_j_L_tells_195 d l0 l1 l2 l3 l4 l5 h10))))))) else (bif rf_isO h3.1 l0 4 then ((rf_call d 65 [.inr (.inr (some l0)), .inl l2, .inl l4] h3).bind fun q4 => rf_kI q4 fun x5 h6 => (if x5 = l4 then rf_j_L_tells_255 d l0 l1 l2 l3 l4 1 h6 else rf_j_L_tells_255 d l0 l1 l2 l3 l4 0 h6)) else none))) :=
  ((rf_s_iload rf_f_L_tells_117 rfl (rf_m0 _) (rf_s_aload_n rf_f_L_tells_119 rfl (rf_m0 _) (rf_s_invS0 rf_f_L_tells_120 rfl rfl (rf_m0 _) fun q1 x2 h3 => (rf_s_icmp_ge rf_f_L_tells_123 rfl (rf_m0 _) (rf_m0 _) (rf_s_aload_n rf_f_L_tells_236 rfl (rf_m0 _) (rf_s_iload_n rf_f_L_tells_237 rfl (rf_m0 _) (rf_s_iload rf_f_L_tells_238 rfl (rf_m0 _) (rf_s_invV0S rf_f_L_tells_240 rfl rfl (rf_m0 _) fun q4 x5 h6 => (rf_s_iload rf_f_L_tells_243 rfl (rf_m0 _) (rf_s_icmp_ne rf_f_L_tells_245 rfl (rf_m0 _) (rf_m0 _) (rf_s_iconst rf_f_L_tells_252 (rf_m0 _) (rf_s_istore rf_f_L_tells_253 rfl rfl)) (rf_s_iconst rf_f_L_tells_248 (rf_m0 _) (rf_s_goto rf_f_L_tells_249 rfl (rf_m0 _) (rf_s_istore rf_f_L_tells_253 rfl rfl))))))))) (rf_s_aload_n rf_f_L_tells_126 rfl (rf_m0 _) (rf_s_iload rf_f_L_tells_127 rfl (rf_m0 _) (rf_s_iconst rf_f_L_tells_129 (rf_m0 _) (rf_s_invS0 rf_f_L_tells_130 rfl rfl (rf_m0 _) fun q7 x8 h9 => (rf_s_istore (L' := [some (.inr (.inr (some l0))), some (.inr (.inr (some l1))), some (.inl l2), some (.inr (.inr (some l3))), some (.inl l4), some (.inl l5), some (.inl x8)]) rf_f_L_tells_133 rfl (rf_s_aload_n rf_f_L_tells_135 rfl (rf_m0 _) (rf_s_iload rf_f_L_tells_136 rfl (rf_m0 _) (rf_s_iload rf_f_L_tells_138 rfl (rf_m0 _) (rf_s_if_ne rf_f_L_tells_140 rfl (rf_m0 _) (rf_m0 _) (rf_s_iload rf_f_L_tells_148 rfl (rf_m0 _) (rf_s_iconst rf_f_L_tells_150 (rf_m0 _) (rf_s_icmp_ne rf_f_L_tells_151 rfl (rf_m0 _) (rf_m0 _) (rf_s_iload rf_f_L_tells_159 rfl (rf_m0 _) (rf_s_iconst rf_f_L_tells_161 (rf_m0 _) (rf_s_icmp_ne rf_f_L_tells_162 rfl (rf_m0 _) (rf_m0 _) (rf_s_iload rf_f_L_tells_170 rfl (rf_m0 _) (rf_s_iconst rf_f_L_tells_172 (rf_m0 _) (rf_s_icmp_ne rf_f_L_tells_173 rfl (rf_m0 _) (rf_m0 _) (rf_s_iload rf_f_L_tells_181 rfl (rf_m0 _) (rf_s_iconst rf_f_L_tells_183 (rf_m0 _) (rf_s_icmp_ne rf_f_L_tells_184 rfl (rf_m0 _) (rf_m0 _) (rf_s_bipush rf_f_L_tells_192 (rf_m0 _) (rf_s_iastS rf_f_L_tells_194 rfl fun h10 => rfl)) (rf_s_bipush rf_f_L_tells_187 (rf_m0 _) (rf_s_goto rf_f_L_tells_189 rfl (rf_m0 _) (rf_s_iastS rf_f_L_tells_194 rfl fun h11 => rfl)))))) (rf_s_bipush rf_f_L_tells_176 (rf_m0 _) (rf_s_goto rf_f_L_tells_178 rfl (rf_m0 _) (rf_s_iastS rf_f_L_tells_194 rfl fun h12 => rfl)))))) (rf_s_bipush rf_f_L_tells_165 (rf_m0 _) (rf_s_goto rf_f_L_tells_167 rfl (rf_m0 _) (rf_s_iastS rf_f_L_tells_194 rfl fun h13 => rfl)))))) (rf_s_bipush rf_f_L_tells_154 (rf_m0 _) (rf_s_goto rf_f_L_tells_156 rfl (rf_m0 _) (rf_s_iastS rf_f_L_tells_194 rfl fun h14 => rfl)))))) (rf_s_bipush rf_f_L_tells_143 (rf_m0 _) (rf_s_goto rf_f_L_tells_145 rfl (rf_m0 _) (rf_s_iastS rf_f_L_tells_194 rfl fun h15 => rfl)))))))))))))))) : rf_den (rf_call d) rf_m_L_tells (117, [some (.inr (.inr (some l0))), some (.inr (.inr (some l1))), some (.inl l2), some (.inr (.inr (some l3))), some (.inl l4), some (.inl l5), none], [], h) = _)
set_option maxRecDepth 20000 in
set_option maxHeartbeats 2000000 in
theorem rf_e_L_tells_96 (d : Nat) (l0 : Nat) (l1 : Nat) (l2 : Int) (l3 : Nat) (l4 : Int) (l5 : Int) (h : rf_H) : rf_j_L_tells_96 d l0 l1 l2 l3 l4 l5 h = rf_j_L_tells_52 d l0 l1 l2 l3 (rf_w (l4 + 1)) (rf_w (l5 + 1)) h :=
  ((rf_s_iinc (L' := [some (.inr (.inr (some l0))), some (.inr (.inr (some l1))), some (.inl l2), some (.inr (.inr (some l3))), some (.inl (rf_w (l4 + 1))), some (.inl l5), none]) rf_f_L_tells_96 rfl rfl (rf_s_iinc (L' := [some (.inr (.inr (some l0))), some (.inr (.inr (some l1))), some (.inl l2), some (.inr (.inr (some l3))), some (.inl (rf_w (l4 + 1))), some (.inl (rf_w (l5 + 1))), none]) rf_f_L_tells_99 rfl rfl (rf_s_goto rf_f_L_tells_102 rfl rfl rfl))) : rf_den (rf_call d) rf_m_L_tells (96, [some (.inr (.inr (some l0))), some (.inr (.inr (some l1))), some (.inl l2), some (.inr (.inr (some l3))), some (.inl l4), some (.inl l5), none], [], h) = _)
set_option maxRecDepth 20000 in
set_option maxHeartbeats 2000000 in
theorem rf_e_L_tells_255 (d : Nat) (l0 : Nat) (l1 : Nat) (l2 : Int) (l3 : Nat) (l4 : Int) (l5 : Int) (h : rf_H) : rf_j_L_tells_255 d l0 l1 l2 l3 l4 l5 h = rf_j_L_tells_258 d l0 l1 l2 l3 l4 l5 0 h :=
  ((rf_s_iconst rf_f_L_tells_255 (rf_m0 _) (rf_s_istore rf_f_L_tells_256 rfl rfl)) : rf_den (rf_call d) rf_m_L_tells (255, [some (.inr (.inr (some l0))), some (.inr (.inr (some l1))), some (.inl l2), some (.inr (.inr (some l3))), some (.inl l4), some (.inl l5), none], [], h) = _)
set_option maxRecDepth 20000 in
set_option maxHeartbeats 2000000 in
theorem rf_e_L_tells_195 (d : Nat) (l0 : Nat) (l1 : Nat) (l2 : Int) (l3 : Nat) (l4 : Int) (l5 : Int) (h : rf_H) : rf_j_L_tells_195 d l0 l1 l2 l3 l4 l5 h = ((rf_call d 120 [.inr (.inr (some l1)), .inl l5, .inl 1] h).bind fun q1 => rf_kI q1 fun x2 h3 => ((rf_sI h3 l3 (rf_w (l4 + 1)) (rf_w (48 + x2))).bind fun h4 => ((rf_call d 120 [.inr (.inr (some l1)), .inl l5, .inl 2] h4).bind fun q5 => rf_kI q5 fun x6 h7 => ((rf_sI h7 l3 (rf_w (l4 + 2)) (rf_w (48 + x6))).bind fun h8 => rf_j_L_tells_117 d l0 l1 l2 l3 (rf_w (l4 + 3)) (rf_w (l5 + 1)) h8)))) :=
  ((rf_s_aload_n rf_f_L_tells_195 rfl (rf_m0 _) (rf_s_iload rf_f_L_tells_196 rfl (rf_m0 _) (rf_s_iconst rf_f_L_tells_198 (rf_m0 _) (rf_s_iadd rf_f_L_tells_199 (rf_m0 _) (rf_s_bipush rf_f_L_tells_200 (rf_m0 _) (rf_s_aload_n rf_f_L_tells_202 rfl (rf_m0 _) (rf_s_iload rf_f_L_tells_203 rfl (rf_m0 _) (rf_s_iconst rf_f_L_tells_205 (rf_m0 _) (rf_s_invS0 rf_f_L_tells_206 rfl rfl (rf_m0 _) fun q1 x2 h3 => (rf_s_iadd rf_f_L_tells_209 (rf_m0 _) (rf_s_iastS rf_f_L_tells_210 (rf_m0 _) fun h4 => (rf_s_aload_n rf_f_L_tells_211 rfl (rf_m0 _) (rf_s_iload rf_f_L_tells_212 rfl (rf_m0 _) (rf_s_iconst rf_f_L_tells_214 (rf_m0 _) (rf_s_iadd rf_f_L_tells_215 (rf_m0 _) (rf_s_bipush rf_f_L_tells_216 (rf_m0 _) (rf_s_aload_n rf_f_L_tells_218 rfl (rf_m0 _) (rf_s_iload rf_f_L_tells_219 rfl (rf_m0 _) (rf_s_iconst rf_f_L_tells_221 (rf_m0 _) (rf_s_invS0 rf_f_L_tells_222 rfl rfl (rf_m0 _) fun q5 x6 h7 => (rf_s_iadd rf_f_L_tells_225 (rf_m0 _) (rf_s_iastS rf_f_L_tells_226 (rf_m0 _) fun h8 => (rf_s_iinc (L' := [some (.inr (.inr (some l0))), some (.inr (.inr (some l1))), some (.inl l2), some (.inr (.inr (some l3))), some (.inl (rf_w (l4 + 3))), some (.inl l5), none]) rf_f_L_tells_227 rfl rfl (rf_s_iinc (L' := [some (.inr (.inr (some l0))), some (.inr (.inr (some l1))), some (.inl l2), some (.inr (.inr (some l3))), some (.inl (rf_w (l4 + 3))), some (.inl (rf_w (l5 + 1))), none]) rf_f_L_tells_230 rfl rfl (rf_s_goto rf_f_L_tells_233 rfl rfl rfl))))))))))))))))))))))))) : rf_den (rf_call d) rf_m_L_tells (195, [some (.inr (.inr (some l0))), some (.inr (.inr (some l1))), some (.inl l2), some (.inr (.inr (some l3))), some (.inl l4), some (.inl l5), none], [], h) = _)
set_option maxRecDepth 20000 in
set_option maxHeartbeats 2000000 in
theorem rf_e_L_tells_258 (d : Nat) (l0 : Nat) (l1 : Nat) (l2 : Int) (l3 : Nat) (l4 : Int) (l5 : Int) (l6 : Int) (h : rf_H) : rf_j_L_tells_258 d l0 l1 l2 l3 l4 l5 l6 h = (if l6 < l4 then (if l5 = 0 then rf_j_L_tells_294 d l0 l1 l2 l3 l4 0 l6 h else ((rf_aI h l3 l6).bind fun x10 => (bif rf_isO h.1 l0 4 then ((rf_call d 66 [.inr (.inr (some l0)), .inl l2, .inl l6, .inl x10] h).bind fun q11 => rf_kI q11 fun x12 h13 => (if x12 = 1032 then rf_j_L_tells_294 d l0 l1 l2 l3 l4 1 l6 h13 else rf_j_L_tells_294 d l0 l1 l2 l3 l4 0 l6 h13)) else none))) else (if l5 = 0 then some (some (.inl 0), h) else (bif rf_isO h.1 l0 4 then ((rf_call d 67 [.inr (.inr (some l0)), .inl l2] h).bind fun q1 => rf_kI q1 fun x2 h3 => (if x2 = (-9) then (bif rf_isO h3.1 l0 4 then ((rf_call d 68 [.inr (.inr (some l0)), .inl l2] h3).bind fun q4 => rf_kI q4 fun x5 h6 => ((rf_call d 119 [.inr (.inr (some l1))] h6).bind fun q7 => rf_kI q7 fun x8 h9 => (if x5 = x8 then some (some (.inl 1), h9) else some (some (.inl 0), h9)))) else none) else some (some (.inl 0), h3))) else none))) :=
  ((rf_s_iload rf_f_L_tells_258 rfl (rf_m0 _) (rf_s_iload rf_f_L_tells_260 rfl (rf_m0 _) (rf_s_icmp_ge rf_f_L_tells_262 rfl (rf_m0 _) (rf_m0 _) (rf_s_iload rf_f_L_tells_300 rfl (rf_m0 _) (rf_s_if_eq rf_f_L_tells_302 rfl (rf_m0 _) (rf_m0 _) (rf_s_iconst rf_f_L_tells_331 (rf_m0 _) (rf_s_zretK rf_f_L_tells_332 (Or.inl rfl))) (rf_s_aload_n rf_f_L_tells_305 rfl (rf_m0 _) (rf_s_iload_n rf_f_L_tells_306 rfl (rf_m0 _) (rf_s_invV0S rf_f_L_tells_307 rfl rfl (rf_m0 _) fun q1 x2 h3 => (rf_s_bipush rf_f_L_tells_310 (rf_m0 _) (rf_s_icmp_ne rf_f_L_tells_312 rfl (rf_m0 _) (rf_m0 _) (rf_s_iconst rf_f_L_tells_331 (rf_m0 _) (rf_s_zretK rf_f_L_tells_332 (Or.inl rfl))) (rf_s_aload_n rf_f_L_tells_315 rfl (rf_m0 _) (rf_s_iload_n rf_f_L_tells_316 rfl (rf_m0 _) (rf_s_invV0S rf_f_L_tells_317 rfl rfl (rf_m0 _) fun q4 x5 h6 => (rf_s_aload_n rf_f_L_tells_320 rfl (rf_m0 _) (rf_s_invS0 rf_f_L_tells_321 rfl rfl (rf_m0 _) fun q7 x8 h9 => (rf_s_icmp_ne rf_f_L_tells_324 rfl (rf_m0 _) (rf_m0 _) (rf_s_iconst rf_f_L_tells_331 (rf_m0 _) (rf_s_zretK rf_f_L_tells_332 (Or.inl rfl))) (rf_s_iconst rf_f_L_tells_327 (rf_m0 _) (rf_s_goto rf_f_L_tells_328 rfl (rf_m0 _) (rf_s_zretK rf_f_L_tells_332 (Or.inr rfl))))))))))))))))) (rf_s_iload rf_f_L_tells_265 rfl (rf_m0 _) (rf_s_if_eq rf_f_L_tells_267 rfl (rf_m0 _) (rf_m0 _) (rf_s_iconst rf_f_L_tells_291 (rf_m0 _) (rf_s_istore rf_f_L_tells_292 rfl rfl)) (rf_s_aload_n rf_f_L_tells_270 rfl (rf_m0 _) (rf_s_iload_n rf_f_L_tells_271 rfl (rf_m0 _) (rf_s_iload rf_f_L_tells_272 rfl (rf_m0 _) (rf_s_aload_n rf_f_L_tells_274 rfl (rf_m0 _) (rf_s_iload rf_f_L_tells_275 rfl (rf_m0 _) (rf_s_ialdS rf_f_L_tells_277 (rf_m0 _) fun x10 => (rf_s_invV0S rf_f_L_tells_278 rfl rfl (rf_m0 _) fun q11 x12 h13 => (rf_s_sipush rf_f_L_tells_281 (rf_m0 _) (rf_s_icmp_ne rf_f_L_tells_284 rfl (rf_m0 _) (rf_m0 _) (rf_s_iconst rf_f_L_tells_291 (rf_m0 _) (rf_s_istore rf_f_L_tells_292 rfl rfl)) (rf_s_iconst rf_f_L_tells_287 (rf_m0 _) (rf_s_goto rf_f_L_tells_288 rfl (rf_m0 _) (rf_s_istore rf_f_L_tells_292 rfl rfl))))))))))))))))) : rf_den (rf_call d) rf_m_L_tells (258, [some (.inr (.inr (some l0))), some (.inr (.inr (some l1))), some (.inl l2), some (.inr (.inr (some l3))), some (.inl l4), some (.inl l5), some (.inl l6)], [], h) = _)
set_option maxRecDepth 20000 in
set_option maxHeartbeats 2000000 in
theorem rf_e_L_tells_294 (d : Nat) (l0 : Nat) (l1 : Nat) (l2 : Int) (l3 : Nat) (l4 : Int) (l5 : Int) (l6 : Int) (h : rf_H) : rf_j_L_tells_294 d l0 l1 l2 l3 l4 l5 l6 h = rf_j_L_tells_258 d l0 l1 l2 l3 l4 l5 (rf_w (l6 + 1)) h :=
  ((rf_s_iinc (L' := [some (.inr (.inr (some l0))), some (.inr (.inr (some l1))), some (.inl l2), some (.inr (.inr (some l3))), some (.inl l4), some (.inl l5), some (.inl (rf_w (l6 + 1)))]) rf_f_L_tells_294 rfl rfl (rf_s_goto rf_f_L_tells_297 rfl rfl rfl)) : rf_den (rf_call d) rf_m_L_tells (294, [some (.inr (.inr (some l0))), some (.inr (.inr (some l1))), some (.inl l2), some (.inr (.inr (some l3))), some (.inl l4), some (.inl l5), some (.inl l6)], [], h) = _)
noncomputable def rf_j_L_gives_23 (d : Nat) (l0 : Nat) (l1 : Nat) (l2 : Int) (l4 : Int) (l5 : Int) (h : rf_H) : Option rf_R := rf_den (rf_call d) rf_m_L_gives (23, [some (.inr (.inr (some l0))), some (.inr (.inr (some l1))), some (.inl l2), none, some (.inl l4), some (.inl l5), none, none, none], [], h)
noncomputable def rf_j_L_gives_51 (d : Nat) (l1 : Nat) (h : rf_H) : Option rf_R := rf_den (rf_call d) rf_m_L_gives (51, [none, some (.inr (.inr (some l1))), none, none, none, none, none, none, none], [], h)
noncomputable def rf_j_L_gives_70 (d : Nat) (h : rf_H) : Option rf_R := rf_den (rf_call d) rf_m_L_gives (70, [none, none, none, none, none, none, none, none, none], [], h)
noncomputable def rf_j_L_gives_93 (d : Nat) (l0 : Nat) (l1 : Nat) (l4 : Int) (h : rf_H) : Option rf_R := rf_den (rf_call d) rf_m_L_gives (93, [some (.inr (.inr (some l0))), some (.inr (.inr (some l1))), none, none, some (.inl l4), none, none, none, none], [], h)
noncomputable def rf_j_L_gives_143 (d : Nat) (l0 : Nat) (l1 : Nat) (l4 : Int) (l6 : Int) (l7 : Int) (h : rf_H) : Option rf_R := rf_den (rf_call d) rf_m_L_gives (143, [some (.inr (.inr (some l0))), some (.inr (.inr (some l1))), none, none, some (.inl l4), none, some (.inl l6), some (.inl l7), none], [], h)
noncomputable def rf_j_L_gives_150 (d : Nat) (l0 : Nat) (l1 : Nat) (l4 : Int) (l6 : Int) (l7 : Int) (l8 : Int) (h : rf_H) : Option rf_R := rf_den (rf_call d) rf_m_L_gives (150, [some (.inr (.inr (some l0))), some (.inr (.inr (some l1))), none, none, some (.inl l4), none, some (.inl l6), some (.inl l7), some (.inl l8)], [], h)
noncomputable def rf_j_L_gives_197 (d : Nat) (l0 : Nat) (l1 : Nat) (l4 : Int) (l6 : Int) (l8 : Int) (h : rf_H) : Option rf_R := rf_den (rf_call d) rf_m_L_gives (197, [some (.inr (.inr (some l0))), some (.inr (.inr (some l1))), none, none, some (.inl l4), none, some (.inl l6), none, some (.inl l8)], [], h)
noncomputable def rf_j_L_gives_214 (d : Nat) (l0 : Nat) (l1 : Nat) (l4 : Int) (l6 : Int) (l8 : Int) (h : rf_H) : Option rf_R := rf_den (rf_call d) rf_m_L_gives (214, [some (.inr (.inr (some l0))), some (.inr (.inr (some l1))), none, none, some (.inl l4), none, some (.inl l6), none, some (.inl l8)], [], h)
noncomputable def rf_j_L_gives_252 (d : Nat) (l0 : Nat) (l1 : Nat) (l4 : Int) (l6 : Int) (h : rf_H) : Option rf_R := rf_den (rf_call d) rf_m_L_gives (252, [some (.inr (.inr (some l0))), some (.inr (.inr (some l1))), none, none, some (.inl l4), none, some (.inl l6), none, none], [], h)
noncomputable def rf_j_L_gives_277 (d : Nat) (l1 : Nat) (l7 : Int) (h : rf_H) : Option rf_R := rf_den (rf_call d) rf_m_L_gives (277, [none, some (.inr (.inr (some l1))), none, none, none, none, none, some (.inl l7), none], [], h)
noncomputable def rf_j_L_gives_294 (d : Nat) (l7 : Int) (h : rf_H) : Option rf_R := rf_den (rf_call d) rf_m_L_gives (294, [none, none, none, none, none, none, none, some (.inl l7), none], [], h)
theorem rf_u_L_gives : rf_mt 129 = rf_m_L_gives := rfl
theorem rf_f_L_gives_0 : rf_Fb rf_m_L_gives 0 1 (.iload_n 2) 0 0 0 0 [] [] = true := by decide +kernel
theorem rf_f_L_gives_1 : rf_Fb rf_m_L_gives 1 2 (.iload_n 2) 0 0 0 0 [] [] = true := by decide +kernel
theorem rf_f_L_gives_2 : rf_Fb rf_m_L_gives 2 3 (.iadd) 0 0 0 0 [] [] = true := by decide +kernel
theorem rf_f_L_gives_3 : rf_Fb rf_m_L_gives 3 5 (.istore 4) 0 0 0 0 [] [] = true := by decide +kernel
theorem rf_f_L_gives_5 : rf_Fb rf_m_L_gives 5 7 (.iload 4) 0 0 0 0 [] [] = true := by decide +kernel
theorem rf_f_L_gives_7 : rf_Fb rf_m_L_gives 7 8 (.aload_n 0) 0 0 0 0 [] [] = true := by decide +kernel
theorem rf_f_L_gives_8 : rf_Fb rf_m_L_gives 8 9 (.aload_n 1) 0 0 0 0 [] [] = true := by decide +kernel
theorem rf_f_L_gives_9 : rf_Fb rf_m_L_gives 9 10 (.iload_n 3) 0 0 0 0 [] [] = true := by decide +kernel
theorem rf_f_L_gives_10 : rf_Fb rf_m_L_gives 10 13 (.invokestatic 53) 127 3 0 0 [] [] = true := by decide +kernel
theorem rf_f_L_gives_13 : rf_Fb rf_m_L_gives 13 16 (.if_icmp .le 7) 20 0 0 0 [] [] = true := by decide +kernel
theorem rf_f_L_gives_16 : rf_Fb rf_m_L_gives 16 17 (.iconst 1) 0 0 0 0 [] [] = true := by decide +kernel
theorem rf_f_L_gives_17 : rf_Fb rf_m_L_gives 17 20 (.goto 4) 21 0 0 0 [] [] = true := by decide +kernel
theorem rf_f_L_gives_20 : rf_Fb rf_m_L_gives 20 21 (.iconst 0) 0 0 0 0 [] [] = true := by decide +kernel
theorem rf_f_L_gives_21 : rf_Fb rf_m_L_gives 21 23 (.istore 5) 0 0 0 0 [] [true, true, true, false, true, true, false, false, false] = true := by decide +kernel
theorem rf_f_L_gives_23 : rf_Fb rf_m_L_gives 23 24 (.aload_n 1) 0 0 0 0 [] [] = true := by decide +kernel
theorem rf_f_L_gives_24 : rf_Fb rf_m_L_gives 24 25 (.iconst 3) 0 0 0 0 [] [] = true := by decide +kernel
theorem rf_f_L_gives_25 : rf_Fb rf_m_L_gives 25 26 (.iconst 0) 0 0 0 0 [] [] = true := by decide +kernel
theorem rf_f_L_gives_26 : rf_Fb rf_m_L_gives 26 27 (.iastore) 0 0 0 0 [] [] = true := by decide +kernel
theorem rf_f_L_gives_27 : rf_Fb rf_m_L_gives 27 29 (.iload 5) 0 0 0 0 [] [] = true := by decide +kernel
theorem rf_f_L_gives_29 : rf_Fb rf_m_L_gives 29 32 (.ifCond .eq 43) 72 0 0 0 [] [] = true := by decide +kernel
theorem rf_f_L_gives_32 : rf_Fb rf_m_L_gives 32 33 (.aload_n 1) 0 0 0 0 [] [] = true := by decide +kernel
theorem rf_f_L_gives_33 : rf_Fb rf_m_L_gives 33 34 (.iconst 2) 0 0 0 0 [] [] = true := by decide +kernel
theorem rf_f_L_gives_34 : rf_Fb rf_m_L_gives 34 35 (.dup2) 0 0 0 0 [] [] = true := by decide +kernel
theorem rf_f_L_gives_35 : rf_Fb rf_m_L_gives 35 36 (.iaload) 0 0 0 0 [] [] = true := by decide +kernel
theorem rf_f_L_gives_36 : rf_Fb rf_m_L_gives 36 37 (.aload_n 1) 0 0 0 0 [] [] = true := by decide +kernel
theorem rf_f_L_gives_37 : rf_Fb rf_m_L_gives 37 38 (.iconst 2) 0 0 0 0 [] [] = true := by decide +kernel
theorem rf_f_L_gives_38 : rf_Fb rf_m_L_gives 38 39 (.iaload) 0 0 0 0 [] [] = true := by decide +kernel
theorem rf_f_L_gives_39 : rf_Fb rf_m_L_gives 39 41 (.bipush 9) 0 0 0 0 [] [] = true := by decide +kernel
theorem rf_f_L_gives_41 : rf_Fb rf_m_L_gives 41 44 (.if_icmp .ge 7) 48 0 0 0 [] [] = true := by decide +kernel
theorem rf_f_L_gives_44 : rf_Fb rf_m_L_gives 44 45 (.iconst 1) 0 0 0 0 [] [] = true := by decide +kernel
theorem rf_f_L_gives_45 : rf_Fb rf_m_L_gives 45 48 (.goto 4) 49 0 0 0 [] [] = true := by decide +kernel
theorem rf_f_L_gives_48 : rf_Fb rf_m_L_gives 48 49 (.iconst 0) 0 0 0 0 [] [] = true := by decide +kernel
theorem rf_f_L_gives_49 : rf_Fb rf_m_L_gives 49 50 (.iadd) 0 0 0 0 [] [] = true := by decide +kernel
theorem rf_f_L_gives_50 : rf_Fb rf_m_L_gives 50 51 (.iastore) 0 0 0 0 [] [false, true, false, false, false, false, false, false, false] = true := by decide +kernel
theorem rf_f_L_gives_51 : rf_Fb rf_m_L_gives 51 52 (.aload_n 1) 0 0 0 0 [] [] = true := by decide +kernel
theorem rf_f_L_gives_52 : rf_Fb rf_m_L_gives 52 53 (.iconst 0) 0 0 0 0 [] [] = true := by decide +kernel
theorem rf_f_L_gives_53 : rf_Fb rf_m_L_gives 53 54 (.aload_n 1) 0 0 0 0 [] [] = true := by decide +kernel
theorem rf_f_L_gives_54 : rf_Fb rf_m_L_gives 54 55 (.iconst 0) 0 0 0 0 [] [] = true := by decide +kernel
theorem rf_f_L_gives_55 : rf_Fb rf_m_L_gives 55 56 (.iaload) 0 0 0 0 [] [] = true := by decide +kernel
theorem rf_f_L_gives_56 : rf_Fb rf_m_L_gives 56 57 (.iconst 2) 0 0 0 0 [] [] = true := by decide +kernel
theorem rf_f_L_gives_57 : rf_Fb rf_m_L_gives 57 60 (.if_icmp .ge 7) 64 0 0 0 [] [] = true := by decide +kernel
theorem rf_f_L_gives_60 : rf_Fb rf_m_L_gives 60 61 (.iconst 0) 0 0 0 0 [] [] = true := by decide +kernel
theorem rf_f_L_gives_61 : rf_Fb rf_m_L_gives 61 64 (.goto 8) 69 0 0 0 [] [] = true := by decide +kernel
theorem rf_f_L_gives_64 : rf_Fb rf_m_L_gives 64 65 (.aload_n 1) 0 0 0 0 [] [] = true := by decide +kernel
theorem rf_f_L_gives_65 : rf_Fb rf_m_L_gives 65 66 (.iconst 0) 0 0 0 0 [] [] = true := by decide +kernel
theorem rf_f_L_gives_66 : rf_Fb rf_m_L_gives 66 67 (.iaload) 0 0 0 0 [] [] = true := by decide +kernel
theorem rf_f_L_gives_67 : rf_Fb rf_m_L_gives 67 68 (.iconst 2) 0 0 0 0 [] [] = true := by decide +kernel
theorem rf_f_L_gives_68 : rf_Fb rf_m_L_gives 68 69 (.isub) 0 0 0 0 [] [] = true := by decide +kernel
theorem rf_f_L_gives_69 : rf_Fb rf_m_L_gives 69 70 (.iastore) 0 0 0 0 [] [false, false, false, false, false, false, false, false, false] = true := by decide +kernel
theorem rf_f_L_gives_70 : rf_Fb rf_m_L_gives 70 71 (.iconst 1) 0 0 0 0 [] [] = true := by decide +kernel
theorem rf_f_L_gives_71 : rf_Fb rf_m_L_gives 71 72 (.ireturn) 0 0 0 0 [] [] = true := by decide +kernel
theorem rf_f_L_gives_72 : rf_Fb rf_m_L_gives 72 73 (.aload_n 1) 0 0 0 0 [] [] = true := by decide +kernel
theorem rf_f_L_gives_73 : rf_Fb rf_m_L_gives 73 74 (.iconst 0) 0 0 0 0 [] [] = true := by decide +kernel
theorem rf_f_L_gives_74 : rf_Fb rf_m_L_gives 74 75 (.dup2) 0 0 0 0 [] [] = true := by decide +kernel
theorem rf_f_L_gives_75 : rf_Fb rf_m_L_gives 75 76 (.iaload) 0 0 0 0 [] [] = true := by decide +kernel
theorem rf_f_L_gives_76 : rf_Fb rf_m_L_gives 76 77 (.iload_n 2) 0 0 0 0 [] [] = true := by decide +kernel
theorem rf_f_L_gives_77 : rf_Fb rf_m_L_gives 77 80 (.ifCond .le 13) 90 0 0 0 [] [] = true := by decide +kernel
theorem rf_f_L_gives_80 : rf_Fb rf_m_L_gives 80 81 (.aload_n 1) 0 0 0 0 [] [] = true := by decide +kernel
theorem rf_f_L_gives_81 : rf_Fb rf_m_L_gives 81 82 (.iconst 0) 0 0 0 0 [] [] = true := by decide +kernel
theorem rf_f_L_gives_82 : rf_Fb rf_m_L_gives 82 83 (.iaload) 0 0 0 0 [] [] = true := by decide +kernel
theorem rf_f_L_gives_83 : rf_Fb rf_m_L_gives 83 86 (.ifCond .le 7) 90 0 0 0 [] [] = true := by decide +kernel
theorem rf_f_L_gives_86 : rf_Fb rf_m_L_gives 86 87 (.iconst 1) 0 0 0 0 [] [] = true := by decide +kernel
theorem rf_f_L_gives_87 : rf_Fb rf_m_L_gives 87 90 (.goto 4) 91 0 0 0 [] [] = true := by decide +kernel
theorem rf_f_L_gives_90 : rf_Fb rf_m_L_gives 90 91 (.iconst 0) 0 0 0 0 [] [] = true := by decide +kernel
theorem rf_f_L_gives_91 : rf_Fb rf_m_L_gives 91 92 (.isub) 0 0 0 0 [] [] = true := by decide +kernel
theorem rf_f_L_gives_92 : rf_Fb rf_m_L_gives 92 93 (.iastore) 0 0 0 0 [] [true, true, false, false, true, false, false, false, false] = true := by decide +kernel
theorem rf_f_L_gives_93 : rf_Fb rf_m_L_gives 93 94 (.aload_n 1) 0 0 0 0 [] [] = true := by decide +kernel
theorem rf_f_L_gives_94 : rf_Fb rf_m_L_gives 94 96 (.bipush 6) 0 0 0 0 [] [] = true := by decide +kernel
theorem rf_f_L_gives_96 : rf_Fb rf_m_L_gives 96 97 (.iaload) 0 0 0 0 [] [] = true := by decide +kernel
theorem rf_f_L_gives_97 : rf_Fb rf_m_L_gives 97 99 (.istore 6) 0 0 0 0 [] [] = true := by decide +kernel
theorem rf_f_L_gives_99 : rf_Fb rf_m_L_gives 99 101 (.iload 6) 0 0 0 0 [] [] = true := by decide +kernel
theorem rf_f_L_gives_101 : rf_Fb rf_m_L_gives 101 102 (.aload_n 1) 0 0 0 0 [] [] = true := by decide +kernel
theorem rf_f_L_gives_102 : rf_Fb rf_m_L_gives 102 104 (.bipush 9) 0 0 0 0 [] [] = true := by decide +kernel
theorem rf_f_L_gives_104 : rf_Fb rf_m_L_gives 104 105 (.iaload) 0 0 0 0 [] [] = true := by decide +kernel
theorem rf_f_L_gives_105 : rf_Fb rf_m_L_gives 105 108 (.if_icmp .ge 119) 224 0 0 0 [] [] = true := by decide +kernel
theorem rf_f_L_gives_108 : rf_Fb rf_m_L_gives 108 109 (.aload_n 0) 0 0 0 0 [] [] = true := by decide +kernel
theorem rf_f_L_gives_109 : rf_Fb rf_m_L_gives 109 110 (.aload_n 1) 0 0 0 0 [] [] = true := by decide +kernel
theorem rf_f_L_gives_110 : rf_Fb rf_m_L_gives 110 112 (.iload 6) 0 0 0 0 [] [] = true := by decide +kernel
theorem rf_f_L_gives_112 : rf_Fb rf_m_L_gives 112 113 (.iconst 1) 0 0 0 0 [] [] = true := by decide +kernel
theorem rf_f_L_gives_113 : rf_Fb rf_m_L_gives 113 114 (.iadd) 0 0 0 0 [] [] = true := by decide +kernel
theorem rf_f_L_gives_114 : rf_Fb rf_m_L_gives 114 117 (.invokestatic 56) 126 3 0 0 [] [] = true := by decide +kernel
theorem rf_f_L_gives_117 : rf_Fb rf_m_L_gives 117 119 (.istore 7) 0 0 0 0 [] [] = true := by decide +kernel
theorem rf_f_L_gives_119 : rf_Fb rf_m_L_gives 119 121 (.iload 4) 0 0 0 0 [] [] = true := by decide +kernel
theorem rf_f_L_gives_121 : rf_Fb rf_m_L_gives 121 123 (.iload 7) 0 0 0 0 [] [] = true := by decide +kernel
theorem rf_f_L_gives_123 : rf_Fb rf_m_L_gives 123 126 (.if_icmp .lt 24) 147 0 0 0 [] [] = true := by decide +kernel
theorem rf_f_L_gives_126 : rf_Fb rf_m_L_gives 126 128 (.iload 6) 0 0 0 0 [] [] = true := by decide +kernel
theorem rf_f_L_gives_128 : rf_Fb rf_m_L_gives 128 129 (.iconst 1) 0 0 0 0 [] [] = true := by decide +kernel
theorem rf_f_L_gives_129 : rf_Fb rf_m_L_gives 129 130 (.iadd) 0 0 0 0 [] [] = true := by decide +kernel
theorem rf_f_L_gives_130 : rf_Fb rf_m_L_gives 130 131 (.aload_n 1) 0 0 0 0 [] [] = true := by decide +kernel
theorem rf_f_L_gives_131 : rf_Fb rf_m_L_gives 131 133 (.bipush 9) 0 0 0 0 [] [] = true := by decide +kernel
theorem rf_f_L_gives_133 : rf_Fb rf_m_L_gives 133 134 (.iaload) 0 0 0 0 [] [] = true := by decide +kernel
theorem rf_f_L_gives_134 : rf_Fb rf_m_L_gives 134 137 (.if_icmp .lt 9) 143 0 0 0 [] [] = true := by decide +kernel
theorem rf_f_L_gives_137 : rf_Fb rf_m_L_gives 137 138 (.aload_n 1) 0 0 0 0 [] [] = true := by decide +kernel
theorem rf_f_L_gives_138 : rf_Fb rf_m_L_gives 138 139 (.iconst 4) 0 0 0 0 [] [] = true := by decide +kernel
theorem rf_f_L_gives_139 : rf_Fb rf_m_L_gives 139 140 (.iaload) 0 0 0 0 [] [] = true := by decide +kernel
theorem rf_f_L_gives_140 : rf_Fb rf_m_L_gives 140 143 (.ifCond .ne 7) 147 0 0 0 [] [true, true, false, false, true, false, true, true, false] = true := by decide +kernel
theorem rf_f_L_gives_143 : rf_Fb rf_m_L_gives 143 144 (.iconst 1) 0 0 0 0 [] [] = true := by decide +kernel
theorem rf_f_L_gives_144 : rf_Fb rf_m_L_gives 144 147 (.goto 4) 148 0 0 0 [] [] = true := by decide +kernel
theorem rf_f_L_gives_147 : rf_Fb rf_m_L_gives 147 148 (.iconst 0) 0 0 0 0 [] [] = true := by decide +kernel
theorem rf_f_L_gives_148 : rf_Fb rf_m_L_gives 148 150 (.istore 8) 0 0 0 0 [] [true, true, false, false, true, false, true, true, true] = true := by decide +kernel
theorem rf_f_L_gives_150 : rf_Fb rf_m_L_gives 150 152 (.iload 8) 0 0 0 0 [] [] = true := by decide +kernel
theorem rf_f_L_gives_152 : rf_Fb rf_m_L_gives 152 155 (.ifCond .eq 45) 197 0 0 0 [] [] = true := by decide +kernel
theorem rf_f_L_gives_155 : rf_Fb rf_m_L_gives 155 157 (.iload 4) 0 0 0 0 [] [] = true := by decide +kernel
theorem rf_f_L_gives_157 : rf_Fb rf_m_L_gives 157 159 (.iload 7) 0 0 0 0 [] [] = true := by decide +kernel
theorem rf_f_L_gives_159 : rf_Fb rf_m_L_gives 159 160 (.isub) 0 0 0 0 [] [] = true := by decide +kernel
theorem rf_f_L_gives_160 : rf_Fb rf_m_L_gives 160 161 (.aload_n 0) 0 0 0 0 [] [] = true := by decide +kernel
theorem rf_f_L_gives_161 : rf_Fb rf_m_L_gives 161 163 (.iload 6) 0 0 0 0 [] [] = true := by decide +kernel
theorem rf_f_L_gives_163 : rf_Fb rf_m_L_gives 163 166 (.invokestatic 59) 125 2 0 0 [] [] = true := by decide +kernel
theorem rf_f_L_gives_166 : rf_Fb rf_m_L_gives 166 167 (.iadd) 0 0 0 0 [] [] = true := by decide +kernel
theorem rf_f_L_gives_167 : rf_Fb rf_m_L_gives 167 168 (.aload_n 0) 0 0 0 0 [] [] = true := by decide +kernel
theorem rf_f_L_gives_168 : rf_Fb rf_m_L_gives 168 170 (.iload 6) 0 0 0 0 [] [] = true := by decide +kernel
theorem rf_f_L_gives_170 : rf_Fb rf_m_L_gives 170 173 (.invokestatic 62) 124 2 0 0 [] [] = true := by decide +kernel
theorem rf_f_L_gives_173 : rf_Fb rf_m_L_gives 173 176 (.if_icmp .le 24) 197 0 0 0 [] [] = true := by decide +kernel
theorem rf_f_L_gives_176 : rf_Fb rf_m_L_gives 176 177 (.aload_n 1) 0 0 0 0 [] [] = true := by decide +kernel
theorem rf_f_L_gives_177 : rf_Fb rf_m_L_gives 177 179 (.bipush 9) 0 0 0 0 [] [] = true := by decide +kernel
theorem rf_f_L_gives_179 : rf_Fb rf_m_L_gives 179 181 (.iload 6) 0 0 0 0 [] [] = true := by decide +kernel
theorem rf_f_L_gives_181 : rf_Fb rf_m_L_gives 181 182 (.iastore) 0 0 0 0 [] [] = true := by decide +kernel
theorem rf_f_L_gives_182 : rf_Fb rf_m_L_gives 182 183 (.aload_n 1) 0 0 0 0 [] [] = true := by decide +kernel
theorem rf_f_L_gives_183 : rf_Fb rf_m_L_gives 183 184 (.iconst 4) 0 0 0 0 [] [] = true := by decide +kernel
theorem rf_f_L_gives_184 : rf_Fb rf_m_L_gives 184 185 (.iconst 0) 0 0 0 0 [] [] = true := by decide +kernel
theorem rf_f_L_gives_185 : rf_Fb rf_m_L_gives 185 186 (.iastore) 0 0 0 0 [] [] = true := by decide +kernel
theorem rf_f_L_gives_186 : rf_Fb rf_m_L_gives 186 187 (.aload_n 1) 0 0 0 0 [] [] = true := by decide +kernel
theorem rf_f_L_gives_187 : rf_Fb rf_m_L_gives 187 188 (.iconst 5) 0 0 0 0 [] [] = true := by decide +kernel
theorem rf_f_L_gives_188 : rf_Fb rf_m_L_gives 188 189 (.iconst 0) 0 0 0 0 [] [] = true := by decide +kernel
theorem rf_f_L_gives_189 : rf_Fb rf_m_L_gives 189 190 (.iastore) 0 0 0 0 [] [] = true := by decide +kernel
theorem rf_f_L_gives_190 : rf_Fb rf_m_L_gives 190 191 (.aload_n 1) 0 0 0 0 [] [] = true := by decide +kernel
theorem rf_f_L_gives_191 : rf_Fb rf_m_L_gives 191 193 (.bipush 10) 0 0 0 0 [] [] = true := by decide +kernel
theorem rf_f_L_gives_193 : rf_Fb rf_m_L_gives 193 194 (.iconst 1) 0 0 0 0 [] [] = true := by decide +kernel
theorem rf_f_L_gives_194 : rf_Fb rf_m_L_gives 194 195 (.iastore) 0 0 0 0 [] [] = true := by decide +kernel
theorem rf_f_L_gives_195 : rf_Fb rf_m_L_gives 195 196 (.iconst 3) 0 0 0 0 [] [] = true := by decide +kernel
theorem rf_f_L_gives_196 : rf_Fb rf_m_L_gives 196 197 (.ireturn) 0 0 0 0 [] [true, true, false, false, true, false, true, false, true] = true := by decide +kernel
theorem rf_f_L_gives_197 : rf_Fb rf_m_L_gives 197 198 (.aload_n 1) 0 0 0 0 [] [] = true := by decide +kernel
theorem rf_f_L_gives_198 : rf_Fb rf_m_L_gives 198 200 (.bipush 6) 0 0 0 0 [] [] = true := by decide +kernel
theorem rf_f_L_gives_200 : rf_Fb rf_m_L_gives 200 201 (.dup2) 0 0 0 0 [] [] = true := by decide +kernel
theorem rf_f_L_gives_201 : rf_Fb rf_m_L_gives 201 202 (.iaload) 0 0 0 0 [] [] = true := by decide +kernel
theorem rf_f_L_gives_202 : rf_Fb rf_m_L_gives 202 204 (.iload 8) 0 0 0 0 [] [] = true := by decide +kernel
theorem rf_f_L_gives_204 : rf_Fb rf_m_L_gives 204 207 (.ifCond .eq 7) 211 0 0 0 [] [] = true := by decide +kernel
theorem rf_f_L_gives_207 : rf_Fb rf_m_L_gives 207 208 (.iconst 1) 0 0 0 0 [] [] = true := by decide +kernel
theorem rf_f_L_gives_208 : rf_Fb rf_m_L_gives 208 211 (.goto 4) 212 0 0 0 [] [] = true := by decide +kernel
theorem rf_f_L_gives_211 : rf_Fb rf_m_L_gives 211 212 (.iconst 0) 0 0 0 0 [] [] = true := by decide +kernel
theorem rf_f_L_gives_212 : rf_Fb rf_m_L_gives 212 213 (.iadd) 0 0 0 0 [] [] = true := by decide +kernel
theorem rf_f_L_gives_213 : rf_Fb rf_m_L_gives 213 214 (.iastore) 0 0 0 0 [] [true, true, false, false, true, false, true, false, true] = true := by decide +kernel
theorem rf_f_L_gives_214 : rf_Fb rf_m_L_gives 214 216 (.iload 8) 0 0 0 0 [] [] = true := by decide +kernel
theorem rf_f_L_gives_216 : rf_Fb rf_m_L_gives 216 219 (.ifCond .eq 5) 221 0 0 0 [] [] = true := by decide +kernel
theorem rf_f_L_gives_219 : rf_Fb rf_m_L_gives 219 220 (.iconst 2) 0 0 0 0 [] [] = true := by decide +kernel
theorem rf_f_L_gives_220 : rf_Fb rf_m_L_gives 220 221 (.ireturn) 0 0 0 0 [] [] = true := by decide +kernel
theorem rf_f_L_gives_221 : rf_Fb rf_m_L_gives 221 224 (.goto 31) 252 0 0 0 [] [] = true := by decide +kernel
theorem rf_f_L_gives_224 : rf_Fb rf_m_L_gives 224 226 (.iload 4) 0 0 0 0 [] [] = true := by decide +kernel
theorem rf_f_L_gives_226 : rf_Fb rf_m_L_gives 226 227 (.aload_n 0) 0 0 0 0 [] [] = true := by decide +kernel
theorem rf_f_L_gives_227 : rf_Fb rf_m_L_gives 227 228 (.aload_n 1) 0 0 0 0 [] [] = true := by decide +kernel
theorem rf_f_L_gives_228 : rf_Fb rf_m_L_gives 228 230 (.iload 6) 0 0 0 0 [] [] = true := by decide +kernel
theorem rf_f_L_gives_230 : rf_Fb rf_m_L_gives 230 233 (.invokestatic 56) 126 3 0 0 [] [] = true := by decide +kernel
theorem rf_f_L_gives_233 : rf_Fb rf_m_L_gives 233 236 (.if_icmp .lt 19) 252 0 0 0 [] [] = true := by decide +kernel
theorem rf_f_L_gives_236 : rf_Fb rf_m_L_gives 236 237 (.aload_n 1) 0 0 0 0 [] [] = true := by decide +kernel
theorem rf_f_L_gives_237 : rf_Fb rf_m_L_gives 237 238 (.iconst 4) 0 0 0 0 [] [] = true := by decide +kernel
theorem rf_f_L_gives_238 : rf_Fb rf_m_L_gives 238 239 (.iaload) 0 0 0 0 [] [] = true := by decide +kernel
theorem rf_f_L_gives_239 : rf_Fb rf_m_L_gives 239 242 (.ifCond .ne 13) 252 0 0 0 [] [] = true := by decide +kernel
theorem rf_f_L_gives_242 : rf_Fb rf_m_L_gives 242 243 (.aload_n 1) 0 0 0 0 [] [] = true := by decide +kernel
theorem rf_f_L_gives_243 : rf_Fb rf_m_L_gives 243 245 (.bipush 8) 0 0 0 0 [] [] = true := by decide +kernel
theorem rf_f_L_gives_245 : rf_Fb rf_m_L_gives 245 246 (.dup2) 0 0 0 0 [] [] = true := by decide +kernel
theorem rf_f_L_gives_246 : rf_Fb rf_m_L_gives 246 247 (.iaload) 0 0 0 0 [] [] = true := by decide +kernel
theorem rf_f_L_gives_247 : rf_Fb rf_m_L_gives 247 248 (.iconst 1) 0 0 0 0 [] [] = true := by decide +kernel
theorem rf_f_L_gives_248 : rf_Fb rf_m_L_gives 248 249 (.iadd) 0 0 0 0 [] [] = true := by decide +kernel
theorem rf_f_L_gives_249 : rf_Fb rf_m_L_gives 249 250 (.iastore) 0 0 0 0 [] [] = true := by decide +kernel
theorem rf_f_L_gives_250 : rf_Fb rf_m_L_gives 250 251 (.iconst 4) 0 0 0 0 [] [] = true := by decide +kernel
theorem rf_f_L_gives_251 : rf_Fb rf_m_L_gives 251 252 (.ireturn) 0 0 0 0 [] [true, true, false, false, true, false, true, false, false] = true := by decide +kernel
theorem rf_f_L_gives_252 : rf_Fb rf_m_L_gives 252 254 (.iload 4) 0 0 0 0 [] [] = true := by decide +kernel
theorem rf_f_L_gives_254 : rf_Fb rf_m_L_gives 254 255 (.aload_n 0) 0 0 0 0 [] [] = true := by decide +kernel
theorem rf_f_L_gives_255 : rf_Fb rf_m_L_gives 255 256 (.aload_n 1) 0 0 0 0 [] [] = true := by decide +kernel
theorem rf_f_L_gives_256 : rf_Fb rf_m_L_gives 256 258 (.iload 6) 0 0 0 0 [] [] = true := by decide +kernel
theorem rf_f_L_gives_258 : rf_Fb rf_m_L_gives 258 261 (.invokestatic 56) 126 3 0 0 [] [] = true := by decide +kernel
theorem rf_f_L_gives_261 : rf_Fb rf_m_L_gives 261 264 (.if_icmp .ge 13) 274 0 0 0 [] [] = true := by decide +kernel
theorem rf_f_L_gives_264 : rf_Fb rf_m_L_gives 264 265 (.aload_n 1) 0 0 0 0 [] [] = true := by decide +kernel
theorem rf_f_L_gives_265 : rf_Fb rf_m_L_gives 265 266 (.iconst 4) 0 0 0 0 [] [] = true := by decide +kernel
theorem rf_f_L_gives_266 : rf_Fb rf_m_L_gives 266 267 (.iaload) 0 0 0 0 [] [] = true := by decide +kernel
theorem rf_f_L_gives_267 : rf_Fb rf_m_L_gives 267 270 (.ifCond .ne 7) 274 0 0 0 [] [] = true := by decide +kernel
theorem rf_f_L_gives_270 : rf_Fb rf_m_L_gives 270 271 (.iconst 1) 0 0 0 0 [] [] = true := by decide +kernel
theorem rf_f_L_gives_271 : rf_Fb rf_m_L_gives 271 274 (.goto 4) 275 0 0 0 [] [] = true := by decide +kernel
theorem rf_f_L_gives_274 : rf_Fb rf_m_L_gives 274 275 (.iconst 0) 0 0 0 0 [] [] = true := by decide +kernel
theorem rf_f_L_gives_275 : rf_Fb rf_m_L_gives 275 277 (.istore 7) 0 0 0 0 [] [false, true, false, false, false, false, false, true, false] = true := by decide +kernel
theorem rf_f_L_gives_277 : rf_Fb rf_m_L_gives 277 278 (.aload_n 1) 0 0 0 0 [] [] = true := by decide +kernel
theorem rf_f_L_gives_278 : rf_Fb rf_m_L_gives 278 280 (.bipush 6) 0 0 0 0 [] [] = true := by decide +kernel
theorem rf_f_L_gives_280 : rf_Fb rf_m_L_gives 280 282 (.iload 7) 0 0 0 0 [] [] = true := by decide +kernel
theorem rf_f_L_gives_282 : rf_Fb rf_m_L_gives 282 285 (.ifCond .eq 7) 289 0 0 0 [] [] = true := by decide +kernel
theorem rf_f_L_gives_285 : rf_Fb rf_m_L_gives 285 286 (.iconst 0) 0 0 0 0 [] [] = true := by decide +kernel
theorem rf_f_L_gives_286 : rf_Fb rf_m_L_gives 286 289 (.goto 7) 293 0 0 0 [] [] = true := by decide +kernel
theorem rf_f_L_gives_289 : rf_Fb rf_m_L_gives 289 290 (.aload_n 1) 0 0 0 0 [] [] = true := by decide +kernel
theorem rf_f_L_gives_290 : rf_Fb rf_m_L_gives 290 292 (.bipush 6) 0 0 0 0 [] [] = true := by decide +kernel
theorem rf_f_L_gives_292 : rf_Fb rf_m_L_gives 292 293 (.iaload) 0 0 0 0 [] [] = true := by decide +kernel
theorem rf_f_L_gives_293 : rf_Fb rf_m_L_gives 293 294 (.iastore) 0 0 0 0 [] [false, false, false, false, false, false, false, true, false] = true := by decide +kernel
theorem rf_f_L_gives_294 : rf_Fb rf_m_L_gives 294 296 (.iload 7) 0 0 0 0 [] [] = true := by decide +kernel
theorem rf_f_L_gives_296 : rf_Fb rf_m_L_gives 296 299 (.ifCond .eq 7) 303 0 0 0 [] [] = true := by decide +kernel
theorem rf_f_L_gives_299 : rf_Fb rf_m_L_gives 299 300 (.iconst 5) 0 0 0 0 [] [] = true := by decide +kernel
theorem rf_f_L_gives_300 : rf_Fb rf_m_L_gives 300 303 (.goto 4) 304 0 0 0 [] [] = true := by decide +kernel
theorem rf_f_L_gives_303 : rf_Fb rf_m_L_gives 303 304 (.iconst 0) 0 0 0 0 [] [] = true := by decide +kernel
theorem rf_f_L_gives_304 : rf_Fb rf_m_L_gives 304 305 (.ireturn) 0 0 0 0 [] [] = true := by decide +kernel
set_option maxRecDepth 20000 in
set_option maxHeartbeats 2000000 in
theorem rf_e_L_gives (d : Nat) (a0 : Nat) (a1 : Nat) (a2 : Int) (a3 : Int) (h : rf_H) : rf_call (d + 1) 129 [.inr (.inr (some a0)), .inr (.inr (some a1)), .inl a2, .inl a3] h = ((rf_call d 127 [.inr (.inr (some a0)), .inr (.inr (some a1)), .inl a3] h).bind fun q1 => rf_kI q1 fun x2 h3 => (if x2 < (rf_w (a2 + a2)) then rf_j_L_gives_23 d a0 a1 a2 (rf_w (a2 + a2)) 1 h3 else rf_j_L_gives_23 d a0 a1 a2 (rf_w (a2 + a2)) 0 h3)) := by
  show rf_den (rf_call d) (rf_mt 129) _ = _
  rw [rf_u_L_gives]
  exact ((rf_s_iload_n rf_f_L_gives_0 rfl (rf_m0 _) (rf_s_iload_n rf_f_L_gives_1 rfl (rf_m0 _) (rf_s_iadd rf_f_L_gives_2 (rf_m0 _) (rf_s_istore (L' := [some (.inr (.inr (some a0))), some (.inr (.inr (some a1))), some (.inl a2), some (.inl a3), some (.inl (rf_w (a2 + a2))), none, none, none, none]) rf_f_L_gives_3 rfl (rf_s_iload rf_f_L_gives_5 rfl (rf_m0 _) (rf_s_aload_n rf_f_L_gives_7 rfl (rf_m0 _) (rf_s_aload_n rf_f_L_gives_8 rfl (rf_m0 _) (rf_s_iload_n rf_f_L_gives_9 rfl (rf_m0 _) (rf_s_invS0 rf_f_L_gives_10 rfl rfl (rf_m0 _) fun q1 x2 h3 => (rf_s_icmp_le rf_f_L_gives_13 rfl (rf_m0 _) (rf_m0 _) (rf_s_iconst rf_f_L_gives_20 (rf_m0 _) (rf_s_istore rf_f_L_gives_21 rfl rfl)) (rf_s_iconst rf_f_L_gives_16 (rf_m0 _) (rf_s_goto rf_f_L_gives_17 rfl (rf_m0 _) (rf_s_istore rf_f_L_gives_21 rfl rfl))))))))))))) : rf_den (rf_call d) rf_m_L_gives (0, [some (.inr (.inr (some a0))), some (.inr (.inr (some a1))), some (.inl a2), some (.inl a3), none, none, none, none, none], [], h) = _)
set_option maxRecDepth 20000 in
set_option maxHeartbeats 2000000 in
theorem rf_e_L_gives_23 (d : Nat) (l0 : Nat) (l1 : Nat) (l2 : Int) (l4 : Int) (l5 : Int) (h : rf_H) : rf_j_L_gives_23 d l0 l1 l2 l4 l5 h = ((rf_sI h l1 3 0).bind fun h1 => (if l5 = 0 then ((rf_aI h1 l1 0).bind fun x2 => (if 0 < l2 then ((rf_aI h1 l1 0).bind fun x4 => (if 0 < x4 then ((rf_sI h1 l1 0 (rf_w (x2 - 1))).bind fun h6 => rf_j_L_gives_93 d l0 l1 l4 h6) else ((rf_sI h1 l1 0 (rf_w (x2 - 0))).bind fun h5 => rf_j_L_gives_93 d l0 l1 l4 h5))) else ((rf_sI h1 l1 0 (rf_w (x2 - 0))).bind fun h3 => rf_j_L_gives_93 d l0 l1 l4 h3))) else ((rf_aI h1 l1 2).bind fun x7 => ((rf_aI h1 l1 2).bind fun x8 => (if x8 < 9 then ((rf_sI h1 l1 2 (rf_w (x7 + 1))).bind fun h10 => rf_j_L_gives_51 d l1 h10) else ((rf_sI h1 l1 2 (rf_w (x7 + 0))).bind fun h9 => rf_j_L_gives_51 d l1 h9)))))) :=
  ((rf_s_aload_n rf_f_L_gives_23 rfl (rf_m0 _) (rf_s_iconst rf_f_L_gives_24 (rf_m0 _) (rf_s_iconst rf_f_L_gives_25 (rf_m0 _) (rf_s_iastS rf_f_L_gives_26 (rf_m0 _) fun h1 => (rf_s_iload rf_f_L_gives_27 rfl (rf_m0 _) (rf_s_if_eq rf_f_L_gives_29 rfl (rf_m0 _) (rf_m0 _) (rf_s_aload_n rf_f_L_gives_72 rfl (rf_m0 _) (rf_s_iconst rf_f_L_gives_73 (rf_m0 _) (rf_s_dup2 rf_f_L_gives_74 (rf_m0 _) (rf_s_ialdS rf_f_L_gives_75 (rf_m0 _) fun x2 => (rf_s_iload_n rf_f_L_gives_76 rfl (rf_m0 _) (rf_s_if_le rf_f_L_gives_77 rfl (rf_m0 _) (rf_m0 _) (rf_s_iconst rf_f_L_gives_90 (rf_m0 _) (rf_s_isub rf_f_L_gives_91 (rf_m0 _) (rf_s_iastS rf_f_L_gives_92 rfl fun h3 => rfl))) (rf_s_aload_n rf_f_L_gives_80 rfl (rf_m0 _) (rf_s_iconst rf_f_L_gives_81 (rf_m0 _) (rf_s_ialdS rf_f_L_gives_82 (rf_m0 _) fun x4 => (rf_s_if_le rf_f_L_gives_83 rfl (rf_m0 _) (rf_m0 _) (rf_s_iconst rf_f_L_gives_90 (rf_m0 _) (rf_s_isub rf_f_L_gives_91 (rf_m0 _) (rf_s_iastS rf_f_L_gives_92 rfl fun h5 => rfl))) (rf_s_iconst rf_f_L_gives_86 (rf_m0 _) (rf_s_goto rf_f_L_gives_87 rfl (rf_m0 _) (rf_s_isub rf_f_L_gives_91 (rf_m0 _) (rf_s_iastS rf_f_L_gives_92 rfl fun h6 => rfl)))))))))))))) (rf_s_aload_n rf_f_L_gives_32 rfl (rf_m0 _) (rf_s_iconst rf_f_L_gives_33 (rf_m0 _) (rf_s_dup2 rf_f_L_gives_34 (rf_m0 _) (rf_s_ialdS rf_f_L_gives_35 (rf_m0 _) fun x7 => (rf_s_aload_n rf_f_L_gives_36 rfl (rf_m0 _) (rf_s_iconst rf_f_L_gives_37 (rf_m0 _) (rf_s_ialdS rf_f_L_gives_38 (rf_m0 _) fun x8 => (rf_s_bipush rf_f_L_gives_39 (rf_m0 _) (rf_s_icmp_ge rf_f_L_gives_41 rfl (rf_m0 _) (rf_m0 _) (rf_s_iconst rf_f_L_gives_48 (rf_m0 _) (rf_s_iadd rf_f_L_gives_49 (rf_m0 _) (rf_s_iastS rf_f_L_gives_50 rfl fun h9 => rfl))) (rf_s_iconst rf_f_L_gives_44 (rf_m0 _) (rf_s_goto rf_f_L_gives_45 rfl (rf_m0 _) (rf_s_iadd rf_f_L_gives_49 (rf_m0 _) (rf_s_iastS rf_f_L_gives_50 rfl fun h10 => rfl))))))))))))))))))) : rf_den (rf_call d) rf_m_L_gives (23, [some (.inr (.inr (some l0))), some (.inr (.inr (some l1))), some (.inl l2), none, some (.inl l4), some (.inl l5), none, none, none], [], h) = _)
set_option maxRecDepth 20000 in
set_option maxHeartbeats 2000000 in
theorem rf_e_L_gives_93 (d : Nat) (l0 : Nat) (l1 : Nat) (l4 : Int) (h : rf_H) : rf_j_L_gives_93 d l0 l1 l4 h = ((rf_aI h l1 6).bind fun x1 => ((rf_aI h l1 9).bind fun x2 => (if x1 < x2 then ((rf_call d 126 [.inr (.inr (some l0)), .inr (.inr (some l1)), .inl (rf_w (x1 + 1))] h).bind fun q9 => rf_kI q9 fun x10 h11 => (if l4 < x10 then rf_j_L_gives_150 d l0 l1 l4 x1 x10 0 h11 else ((rf_aI h11 l1 9).bind fun x12 => (if (rf_w (x1 + 1)) < x12 then rf_j_L_gives_143 d l0 l1 l4 x1 x10 h11 else ((rf_aI h11 l1 4).bind fun x13 => (if x13 = 0 then rf_j_L_gives_143 d l0 l1 l4 x1 x10 h11 else rf_j_L_gives_150 d l0 l1 l4 x1 x10 0 h11)))))) else ((rf_call d 126 [.inr (.inr (some l0)), .inr (.inr (some l1)), .inl x1] h).bind fun q3 => rf_kI q3 fun x4 h5 => (if l4 < x4 then rf_j_L_gives_252 d l0 l1 l4 x1 h5 else ((rf_aI h5 l1 4).bind fun x6 => (if x6 = 0 then ((rf_aI h5 l1 8).bind fun x7 => ((rf_sI h5 l1 8 (rf_w (x7 + 1))).bind fun h8 => some (some (.inl 4), h8))) else rf_j_L_gives_252 d l0 l1 l4 x1 h5))))))) :=
  ((rf_s_aload_n rf_f_L_gives_93 rfl (rf_m0 _) (rf_s_bipush rf_f_L_gives_94 (rf_m0 _) (rf_s_ialdS rf_f_L_gives_96 (rf_m0 _) fun x1 => (rf_s_istore (L' := [some (.inr (.inr (some l0))), some (.inr (.inr (some l1))), none, none, some (.inl l4), none, some (.inl x1), none, none]) rf_f_L_gives_97 rfl (rf_s_iload rf_f_L_gives_99 rfl (rf_m0 _) (rf_s_aload_n rf_f_L_gives_101 rfl (rf_m0 _) (rf_s_bipush rf_f_L_gives_102 (rf_m0 _) (rf_s_ialdS rf_f_L_gives_104 (rf_m0 _) fun x2 => (rf_s_icmp_ge rf_f_L_gives_105 rfl (rf_m0 _) (rf_m0 _) (rf_s_iload rf_f_L_gives_224 rfl (rf_m0 _) (rf_s_aload_n rf_f_L_gives_226 rfl (rf_m0 _) (rf_s_aload_n rf_f_L_gives_227 rfl (rf_m0 _) (rf_s_iload rf_f_L_gives_228 rfl (rf_m0 _) (rf_s_invS0 rf_f_L_gives_230 rfl rfl (rf_m0 _) fun q3 x4 h5 => (rf_s_icmp_lt rf_f_L_gives_233 rfl rfl (rf_m0 _) rfl (rf_s_aload_n rf_f_L_gives_236 rfl (rf_m0 _) (rf_s_iconst rf_f_L_gives_237 (rf_m0 _) (rf_s_ialdS rf_f_L_gives_238 (rf_m0 _) fun x6 => (rf_s_if_ne rf_f_L_gives_239 rfl rfl (rf_m0 _) rfl (rf_s_aload_n rf_f_L_gives_242 rfl (rf_m0 _) (rf_s_bipush rf_f_L_gives_243 (rf_m0 _) (rf_s_dup2 rf_f_L_gives_245 (rf_m0 _) (rf_s_ialdS rf_f_L_gives_246 (rf_m0 _) fun x7 => (rf_s_iconst rf_f_L_gives_247 (rf_m0 _) (rf_s_iadd rf_f_L_gives_248 (rf_m0 _) (rf_s_iastS rf_f_L_gives_249 (rf_m0 _) fun h8 => (rf_s_iconst rf_f_L_gives_250 (rf_m0 _) (rf_s_iret rf_f_L_gives_251))))))))))))))))))) (rf_s_aload_n rf_f_L_gives_108 rfl (rf_m0 _) (rf_s_aload_n rf_f_L_gives_109 rfl (rf_m0 _) (rf_s_iload rf_f_L_gives_110 rfl (rf_m0 _) (rf_s_iconst rf_f_L_gives_112 (rf_m0 _) (rf_s_iadd rf_f_L_gives_113 (rf_m0 _) (rf_s_invS0 rf_f_L_gives_114 rfl rfl (rf_m0 _) fun q9 x10 h11 => (rf_s_istore (L' := [some (.inr (.inr (some l0))), some (.inr (.inr (some l1))), none, none, some (.inl l4), none, some (.inl x1), some (.inl x10), none]) rf_f_L_gives_117 rfl (rf_s_iload rf_f_L_gives_119 rfl (rf_m0 _) (rf_s_iload rf_f_L_gives_121 rfl (rf_m0 _) (rf_s_icmp_lt rf_f_L_gives_123 rfl (rf_m0 _) (rf_m0 _) (rf_s_iconst rf_f_L_gives_147 (rf_m0 _) (rf_s_istore rf_f_L_gives_148 rfl rfl)) (rf_s_iload rf_f_L_gives_126 rfl (rf_m0 _) (rf_s_iconst rf_f_L_gives_128 (rf_m0 _) (rf_s_iadd rf_f_L_gives_129 (rf_m0 _) (rf_s_aload_n rf_f_L_gives_130 rfl (rf_m0 _) (rf_s_bipush rf_f_L_gives_131 (rf_m0 _) (rf_s_ialdS rf_f_L_gives_133 (rf_m0 _) fun x12 => (rf_s_icmp_lt rf_f_L_gives_134 rfl rfl (rf_m0 _) rfl (rf_s_aload_n rf_f_L_gives_137 rfl (rf_m0 _) (rf_s_iconst rf_f_L_gives_138 (rf_m0 _) (rf_s_ialdS rf_f_L_gives_139 (rf_m0 _) fun x13 => (rf_s_if_ne rf_f_L_gives_140 rfl (rf_m0 _) rfl (rf_s_iconst rf_f_L_gives_147 (rf_m0 _) (rf_s_istore rf_f_L_gives_148 rfl rfl)) rfl)))))))))))))))))))))))))))))) : rf_den (rf_call d) rf_m_L_gives (93, [some (.inr (.inr (some l0))), some (.inr (.inr (some l1))), none, none, some (.inl l4), none, none, none, none], [], h) = _)
set_option maxRecDepth 20000 in
set_option maxHeartbeats 2000000 in
theorem rf_e_L_gives_51 (d : Nat) (l1 : Nat) (h : rf_H) : rf_j_L_gives_51 d l1 h = ((rf_aI h l1 0).bind fun x1 => (if x1 < 2 then ((rf_sI h l1 0 0).bind fun h4 => rf_j_L_gives_70 d h4) else ((rf_aI h l1 0).bind fun x2 => ((rf_sI h l1 0 (rf_w (x2 - 2))).bind fun h3 => rf_j_L_gives_70 d h3)))) :=
  ((rf_s_aload_n rf_f_L_gives_51 rfl (rf_m0 _) (rf_s_iconst rf_f_L_gives_52 (rf_m0 _) (rf_s_aload_n rf_f_L_gives_53 rfl (rf_m0 _) (rf_s_iconst rf_f_L_gives_54 (rf_m0 _) (rf_s_ialdS rf_f_L_gives_55 (rf_m0 _) fun x1 => (rf_s_iconst rf_f_L_gives_56 (rf_m0 _) (rf_s_icmp_ge rf_f_L_gives_57 rfl (rf_m0 _) (rf_m0 _) (rf_s_aload_n rf_f_L_gives_64 rfl (rf_m0 _) (rf_s_iconst rf_f_L_gives_65 (rf_m0 _) (rf_s_ialdS rf_f_L_gives_66 (rf_m0 _) fun x2 => (rf_s_iconst rf_f_L_gives_67 (rf_m0 _) (rf_s_isub rf_f_L_gives_68 (rf_m0 _) (rf_s_iastS rf_f_L_gives_69 rfl fun h3 => rfl)))))) (rf_s_iconst rf_f_L_gives_60 (rf_m0 _) (rf_s_goto rf_f_L_gives_61 rfl (rf_m0 _) (rf_s_iastS rf_f_L_gives_69 rfl fun h4 => rfl)))))))))) : rf_den (rf_call d) rf_m_L_gives (51, [none, some (.inr (.inr (some l1))), none, none, none, none, none, none, none], [], h) = _)
set_option maxRecDepth 20000 in
set_option maxHeartbeats 2000000 in
theorem rf_e_L_gives_252 (d : Nat) (l0 : Nat) (l1 : Nat) (l4 : Int) (l6 : Int) (h : rf_H) : rf_j_L_gives_252 d l0 l1 l4 l6 h = ((rf_call d 126 [.inr (.inr (some l0)), .inr (.inr (some l1)), .inl l6] h).bind fun q1 => rf_kI q1 fun x2 h3 => (if l4 < x2 then ((rf_aI h3 l1 4).bind fun x4 => (if x4 = 0 then rf_j_L_gives_277 d l1 1 h3 else rf_j_L_gives_277 d l1 0 h3)) else rf_j_L_gives_277 d l1 0 h3)) :=
  ((rf_s_iload rf_f_L_gives_252 rfl (rf_m0 _) (rf_s_aload_n rf_f_L_gives_254 rfl (rf_m0 _) (rf_s_aload_n rf_f_L_gives_255 rfl (rf_m0 _) (rf_s_iload rf_f_L_gives_256 rfl (rf_m0 _) (rf_s_invS0 rf_f_L_gives_258 rfl rfl (rf_m0 _) fun q1 x2 h3 => (rf_s_icmp_ge rf_f_L_gives_261 rfl (rf_m0 _) (rf_m0 _) (rf_s_iconst rf_f_L_gives_274 (rf_m0 _) (rf_s_istore rf_f_L_gives_275 rfl rfl)) (rf_s_aload_n rf_f_L_gives_264 rfl (rf_m0 _) (rf_s_iconst rf_f_L_gives_265 (rf_m0 _) (rf_s_ialdS rf_f_L_gives_266 (rf_m0 _) fun x4 => (rf_s_if_ne rf_f_L_gives_267 rfl (rf_m0 _) (rf_m0 _) (rf_s_iconst rf_f_L_gives_274 (rf_m0 _) (rf_s_istore rf_f_L_gives_275 rfl rfl)) (rf_s_iconst rf_f_L_gives_270 (rf_m0 _) (rf_s_goto rf_f_L_gives_271 rfl (rf_m0 _) (rf_s_istore rf_f_L_gives_275 rfl rfl))))))))))))) : rf_den (rf_call d) rf_m_L_gives (252, [some (.inr (.inr (some l0))), some (.inr (.inr (some l1))), none, none, some (.inl l4), none, some (.inl l6), none, none], [], h) = _)
set_option maxRecDepth 20000 in
set_option maxHeartbeats 2000000 in
theorem rf_e_L_gives_150 (d : Nat) (l0 : Nat) (l1 : Nat) (l4 : Int) (l6 : Int) (l7 : Int) (l8 : Int) (h : rf_H) : rf_j_L_gives_150 d l0 l1 l4 l6 l7 l8 h = (if l8 = 0 then rf_j_L_gives_197 d l0 l1 l4 l6 l8 h else ((rf_call d 125 [.inr (.inr (some l0)), .inl l6] h).bind fun q1 => rf_kI q1 fun x2 h3 => ((rf_call d 124 [.inr (.inr (some l0)), .inl l6] h3).bind fun q4 => rf_kI q4 fun x5 h6 => (if x5 < (rf_w ((rf_w (l4 - l7)) + x2)) then ((rf_sI h6 l1 9 l6).bind fun h7 => ((rf_sI h7 l1 4 0).bind fun h8 => ((rf_sI h8 l1 5 0).bind fun h9 => ((rf_sI h9 l1 10 1).bind fun h10 => some (some (.inl 3), h10))))) else rf_j_L_gives_197 d l0 l1 l4 l6 l8 h6)))) :=
  ((rf_s_iload rf_f_L_gives_150 rfl (rf_m0 _) (rf_s_if_eq rf_f_L_gives_152 rfl rfl (rf_m0 _) rfl (rf_s_iload rf_f_L_gives_155 rfl (rf_m0 _) (rf_s_iload rf_f_L_gives_157 rfl (rf_m0 _) (rf_s_isub rf_f_L_gives_159 (rf_m0 _) (rf_s_aload_n rf_f_L_gives_160 rfl (rf_m0 _) (rf_s_iload rf_f_L_gives_161 rfl (rf_m0 _) (rf_s_invS0 rf_f_L_gives_163 rfl rfl (rf_m0 _) fun q1 x2 h3 => (rf_s_iadd rf_f_L_gives_166 (rf_m0 _) (rf_s_aload_n rf_f_L_gives_167 rfl (rf_m0 _) (rf_s_iload rf_f_L_gives_168 rfl (rf_m0 _) (rf_s_invS0 rf_f_L_gives_170 rfl rfl (rf_m0 _) fun q4 x5 h6 => (rf_s_icmp_le rf_f_L_gives_173 rfl rfl (rf_m0 _) rfl (rf_s_aload_n rf_f_L_gives_176 rfl (rf_m0 _) (rf_s_bipush rf_f_L_gives_177 (rf_m0 _) (rf_s_iload rf_f_L_gives_179 rfl (rf_m0 _) (rf_s_iastS rf_f_L_gives_181 (rf_m0 _) fun h7 => (rf_s_aload_n rf_f_L_gives_182 rfl (rf_m0 _) (rf_s_iconst rf_f_L_gives_183 (rf_m0 _) (rf_s_iconst rf_f_L_gives_184 (rf_m0 _) (rf_s_iastS rf_f_L_gives_185 (rf_m0 _) fun h8 => (rf_s_aload_n rf_f_L_gives_186 rfl (rf_m0 _) (rf_s_iconst rf_f_L_gives_187 (rf_m0 _) (rf_s_iconst rf_f_L_gives_188 (rf_m0 _) (rf_s_iastS rf_f_L_gives_189 (rf_m0 _) fun h9 => (rf_s_aload_n rf_f_L_gives_190 rfl (rf_m0 _) (rf_s_bipush rf_f_L_gives_191 (rf_m0 _) (rf_s_iconst rf_f_L_gives_193 (rf_m0 _) (rf_s_iastS rf_f_L_gives_194 (rf_m0 _) fun h10 => (rf_s_iconst rf_f_L_gives_195 (rf_m0 _) (rf_s_iret rf_f_L_gives_196))))))))))))))))))))))))))))))) : rf_den (rf_call d) rf_m_L_gives (150, [some (.inr (.inr (some l0))), some (.inr (.inr (some l1))), none, none, some (.inl l4), none, some (.inl l6), some (.inl l7), some (.inl l8)], [], h) = _)
set_option maxRecDepth 20000 in
set_option maxHeartbeats 2000000 in
theorem rf_e_L_gives_143 (d : Nat) (l0 : Nat) (l1 : Nat) (l4 : Int) (l6 : Int) (l7 : Int) (h : rf_H) : rf_j_L_gives_143 d l0 l1 l4 l6 l7 h = rf_j_L_gives_150 d l0 l1 l4 l6 l7 1 h :=
  ((rf_s_iconst rf_f_L_gives_143 (rf_m0 _) (rf_s_goto rf_f_L_gives_144 rfl (rf_m0 _) (rf_s_istore rf_f_L_gives_148 rfl rfl))) : rf_den (rf_call d) rf_m_L_gives (143, [some (.inr (.inr (some l0))), some (.inr (.inr (some l1))), none, none, some (.inl l4), none, some (.inl l6), some (.inl l7), none], [], h) = _)
set_option maxRecDepth 20000 in
set_option maxHeartbeats 2000000 in
theorem rf_e_L_gives_70 (d : Nat) (h : rf_H) : rf_j_L_gives_70 d  h = some (some (.inl 1), h) :=
  ((rf_s_iconst rf_f_L_gives_70 (rf_m0 _) (rf_s_iret rf_f_L_gives_71)) : rf_den (rf_call d) rf_m_L_gives (70, [none, none, none, none, none, none, none, none, none], [], h) = _)
set_option maxRecDepth 20000 in
set_option maxHeartbeats 2000000 in
theorem rf_e_L_gives_277 (d : Nat) (l1 : Nat) (l7 : Int) (h : rf_H) : rf_j_L_gives_277 d l1 l7 h = (if l7 = 0 then ((rf_aI h l1 6).bind fun x1 => ((rf_sI h l1 6 x1).bind fun h2 => rf_j_L_gives_294 d l7 h2)) else ((rf_sI h l1 6 0).bind fun h3 => rf_j_L_gives_294 d l7 h3)) :=
  ((rf_s_aload_n rf_f_L_gives_277 rfl (rf_m0 _) (rf_s_bipush rf_f_L_gives_278 (rf_m0 _) (rf_s_iload rf_f_L_gives_280 rfl (rf_m0 _) (rf_s_if_eq rf_f_L_gives_282 rfl (rf_m0 _) (rf_m0 _) (rf_s_aload_n rf_f_L_gives_289 rfl (rf_m0 _) (rf_s_bipush rf_f_L_gives_290 (rf_m0 _) (rf_s_ialdS rf_f_L_gives_292 (rf_m0 _) fun x1 => (rf_s_iastS rf_f_L_gives_293 rfl fun h2 => rfl)))) (rf_s_iconst rf_f_L_gives_285 (rf_m0 _) (rf_s_goto rf_f_L_gives_286 rfl (rf_m0 _) (rf_s_iastS rf_f_L_gives_293 rfl fun h3 => rfl))))))) : rf_den (rf_call d) rf_m_L_gives (277, [none, some (.inr (.inr (some l1))), none, none, none, none, none, some (.inl l7), none], [], h) = _)
set_option maxRecDepth 20000 in
set_option maxHeartbeats 2000000 in
theorem rf_e_L_gives_197 (d : Nat) (l0 : Nat) (l1 : Nat) (l4 : Int) (l6 : Int) (l8 : Int) (h : rf_H) : rf_j_L_gives_197 d l0 l1 l4 l6 l8 h = ((rf_aI h l1 6).bind fun x1 => (if l8 = 0 then ((rf_sI h l1 6 (rf_w (x1 + 0))).bind fun h2 => rf_j_L_gives_214 d l0 l1 l4 l6 l8 h2) else ((rf_sI h l1 6 (rf_w (x1 + 1))).bind fun h3 => rf_j_L_gives_214 d l0 l1 l4 l6 l8 h3))) :=
  ((rf_s_aload_n rf_f_L_gives_197 rfl (rf_m0 _) (rf_s_bipush rf_f_L_gives_198 (rf_m0 _) (rf_s_dup2 rf_f_L_gives_200 (rf_m0 _) (rf_s_ialdS rf_f_L_gives_201 (rf_m0 _) fun x1 => (rf_s_iload rf_f_L_gives_202 rfl (rf_m0 _) (rf_s_if_eq rf_f_L_gives_204 rfl (rf_m0 _) (rf_m0 _) (rf_s_iconst rf_f_L_gives_211 (rf_m0 _) (rf_s_iadd rf_f_L_gives_212 (rf_m0 _) (rf_s_iastS rf_f_L_gives_213 rfl fun h2 => rfl))) (rf_s_iconst rf_f_L_gives_207 (rf_m0 _) (rf_s_goto rf_f_L_gives_208 rfl (rf_m0 _) (rf_s_iadd rf_f_L_gives_212 (rf_m0 _) (rf_s_iastS rf_f_L_gives_213 rfl fun h3 => rfl)))))))))) : rf_den (rf_call d) rf_m_L_gives (197, [some (.inr (.inr (some l0))), some (.inr (.inr (some l1))), none, none, some (.inl l4), none, some (.inl l6), none, some (.inl l8)], [], h) = _)
set_option maxRecDepth 20000 in
set_option maxHeartbeats 2000000 in
theorem rf_e_L_gives_294 (d : Nat) (l7 : Int) (h : rf_H) : rf_j_L_gives_294 d l7 h = (if l7 = 0 then some (some (.inl 0), h) else some (some (.inl 5), h)) :=
  ((rf_s_iload rf_f_L_gives_294 rfl (rf_m0 _) (rf_s_if_eq rf_f_L_gives_296 rfl (rf_m0 _) (rf_m0 _) (rf_s_iconst rf_f_L_gives_303 (rf_m0 _) (rf_s_iret rf_f_L_gives_304)) (rf_s_iconst rf_f_L_gives_299 (rf_m0 _) (rf_s_goto rf_f_L_gives_300 rfl (rf_m0 _) (rf_s_iret rf_f_L_gives_304))))) : rf_den (rf_call d) rf_m_L_gives (294, [none, none, none, none, none, none, none, some (.inl l7), none], [], h) = _)
set_option maxRecDepth 20000 in
set_option maxHeartbeats 2000000 in
theorem rf_e_L_gives_214 (d : Nat) (l0 : Nat) (l1 : Nat) (l4 : Int) (l6 : Int) (l8 : Int) (h : rf_H) : rf_j_L_gives_214 d l0 l1 l4 l6 l8 h = (if l8 = 0 then rf_j_L_gives_252 d l0 l1 l4 l6 h else some (some (.inl 2), h)) :=
  ((rf_s_iload rf_f_L_gives_214 rfl (rf_m0 _) (rf_s_if_eq rf_f_L_gives_216 rfl (rf_m0 _) (rf_m0 _) (rf_s_goto rf_f_L_gives_221 rfl rfl rfl) (rf_s_iconst rf_f_L_gives_219 (rf_m0 _) (rf_s_iret rf_f_L_gives_220)))) : rf_den (rf_call d) rf_m_L_gives (214, [some (.inr (.inr (some l0))), some (.inr (.inr (some l1))), none, none, some (.inl l4), none, some (.inl l6), none, some (.inl l8)], [], h) = _)
