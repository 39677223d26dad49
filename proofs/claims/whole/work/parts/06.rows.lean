theorem dX12_passesTurned_173 : decode cX12_passesTurned 173 = .ok (.getfield 63, 3) := by decide +kernel
theorem dX12_passesTurned_176 : decode cX12_passesTurned 176 = .ok (.iload 4, 2) := by decide +kernel
theorem dX12_passesTurned_178 : decode cX12_passesTurned 178 = .ok (.iaload, 1) := by decide +kernel
theorem dX12_passesTurned_179 : decode cX12_passesTurned 179 = .ok (.bipush 8, 2) := by decide +kernel
theorem dX12_passesTurned_181 : decode cX12_passesTurned 181 = .ok (.idiv, 1) := by decide +kernel
theorem dX12_passesTurned_182 : decode cX12_passesTurned 182 = .ok (.dup2, 1) := by decide +kernel
theorem dX12_passesTurned_183 : decode cX12_passesTurned 183 = .ok (.iaload, 1) := by decide +kernel
theorem dX12_passesTurned_184 : decode cX12_passesTurned 184 = .ok (.iload 6, 2) := by decide +kernel
theorem dX12_passesTurned_186 : decode cX12_passesTurned 186 = .ok (.ifCond .eq 7, 3) := by decide +kernel
theorem dX12_passesTurned_189 : decode cX12_passesTurned 189 = .ok (.iconst 0, 1) := by decide +kernel
theorem dX12_passesTurned_190 : decode cX12_passesTurned 190 = .ok (.goto 5, 3) := by decide +kernel
theorem dX12_passesTurned_193 : decode cX12_passesTurned 193 = .ok (.iload 5, 2) := by decide +kernel
theorem dX12_passesTurned_195 : decode cX12_passesTurned 195 = .ok (.ior, 1) := by decide +kernel
theorem dX12_passesTurned_196 : decode cX12_passesTurned 196 = .ok (.iastore, 1) := by decide +kernel
theorem dX12_passesTurned_197 : decode cX12_passesTurned 197 = .ok (.iinc 4 1, 3) := by decide +kernel
theorem dX12_passesTurned_200 : decode cX12_passesTurned 200 = .ok (.goto (-110), 3) := by decide +kernel
theorem dX12_passesTurned_203 : decode cX12_passesTurned 203 = .ok (.iconst 1, 1) := by decide +kernel
theorem dX12_passesTurned_204 : decode cX12_passesTurned 204 = .ok (.ireturn, 1) := by decide +kernel
theorem dX12_passesTurned_205 : decode cX12_passesTurned 205 = .ok (.aload_n 0, 1) := by decide +kernel
theorem dX12_passesTurned_206 : decode cX12_passesTurned 206 = .ok (.iload_n 1, 1) := by decide +kernel
theorem dX12_passesTurned_207 : decode cX12_passesTurned 207 = .ok (.invokevirtual 180, 3) := by decide +kernel
theorem dX12_passesTurned_210 : decode cX12_passesTurned 210 = .ok (.ifCond .eq 5, 3) := by decide +kernel
theorem dX12_passesTurned_213 : decode cX12_passesTurned 213 = .ok (.iconst 0, 1) := by decide +kernel
theorem dX12_passesTurned_214 : decode cX12_passesTurned 214 = .ok (.ireturn, 1) := by decide +kernel
theorem dX12_passesTurned_215 : decode cX12_passesTurned 215 = .ok (.iinc 3 1, 3) := by decide +kernel
theorem dX12_passesTurned_218 : decode cX12_passesTurned 218 = .ok (.goto (-216), 3) := by decide +kernel
theorem dX12_passesTurned_221 : decode cX12_passesTurned 221 = .ok (.iconst 0, 1) := by decide +kernel
theorem dX12_passesTurned_222 : decode cX12_passesTurned 222 = .ok (.ireturn, 1) := by decide +kernel
set_option maxRecDepth 20000 in
theorem ggX12_passesFlip_X12_passesTurned : GoodIn wsX12_passesFlip wsX12_passesTurned := goodIn_r _ [7, 1, 8, 9, 2, 10, 11, 12, 13, 14, 6, 15, 16, 17, 18, 19, 20, 21, 22, 23, 24, 25, 26, 27, 28, 29, 30, 31, 32, 33, 34, 35, 36, 37, 38, 39, 40, 41, 42, 43, 44, 45, 46, 47, 48, 49, 50, 51, 52, 53, 54, 55, 56, 57, 58, 59, 60, 61, 62, 63, 64, 65] (by decide +kernel) (by decide +kernel)
set_option maxRecDepth 20000 in
theorem gX12_passesFlip_X12_passesTurned : GoodIn wsX12_passesFlip (wsV RX12 207 RX12 yX12_passesTurned wsX12_passesTurned) := goodIn_app (goodIn_of _ (by decide +kernel)) ggX12_passesFlip_X12_passesTurned
theorem dX12_passesFlip_0 : decode cX12_passesFlip 0 = .ok (.bipush 8, 2) := by decide +kernel
theorem dX12_passesFlip_2 : decode cX12_passesFlip 2 = .ok (.iload_n 3, 1) := by decide +kernel
theorem dX12_passesFlip_3 : decode cX12_passesFlip 3 = .ok (.imul, 1) := by decide +kernel
theorem dX12_passesFlip_4 : decode cX12_passesFlip 4 = .ok (.istore 4, 2) := by decide +kernel
theorem dX12_passesFlip_6 : decode cX12_passesFlip 6 = .ok (.aload_n 0, 1) := by decide +kernel
theorem dX12_passesFlip_7 : decode cX12_passesFlip 7 = .ok (.iload_n 2, 1) := by decide +kernel
theorem dX12_passesFlip_8 : decode cX12_passesFlip 8 = .ok (.putfield 193, 3) := by decide +kernel
theorem dX12_passesFlip_11 : decode cX12_passesFlip 11 = .ok (.iconst 0, 1) := by decide +kernel
theorem dX12_passesFlip_12 : decode cX12_passesFlip 12 = .ok (.istore 5, 2) := by decide +kernel
theorem dX12_passesFlip_14 : decode cX12_passesFlip 14 = .ok (.iload 5, 2) := by decide +kernel
theorem dX12_passesFlip_16 : decode cX12_passesFlip 16 = .ok (.iload 4, 2) := by decide +kernel
theorem dX12_passesFlip_18 : decode cX12_passesFlip 18 = .ok (.if_icmp .ge 124, 3) := by decide +kernel
theorem dX12_passesFlip_21 : decode cX12_passesFlip 21 = .ok (.aload_n 0, 1) := by decide +kernel
theorem dX12_passesFlip_22 : decode cX12_passesFlip 22 = .ok (.getfield 63, 3) := by decide +kernel
theorem dX12_passesFlip_25 : decode cX12_passesFlip 25 = .ok (.iconst 0, 1) := by decide +kernel
theorem dX12_passesFlip_26 : decode cX12_passesFlip 26 = .ok (.iload 5, 2) := by decide +kernel
theorem dX12_passesFlip_28 : decode cX12_passesFlip 28 = .ok (.iastore, 1) := by decide +kernel
theorem dX12_passesFlip_29 : decode cX12_passesFlip 29 = .ok (.iload_n 2, 1) := by decide +kernel
theorem dX12_passesFlip_30 : decode cX12_passesFlip 30 = .ok (.iconst 1, 1) := by decide +kernel
theorem dX12_passesFlip_31 : decode cX12_passesFlip 31 = .ok (.if_icmp .ne 14, 3) := by decide +kernel
theorem dX12_passesFlip_34 : decode cX12_passesFlip 34 = .ok (.aload_n 0, 1) := by decide +kernel
theorem dX12_passesFlip_35 : decode cX12_passesFlip 35 = .ok (.iload_n 1, 1) := by decide +kernel
theorem dX12_passesFlip_36 : decode cX12_passesFlip 36 = .ok (.iload_n 3, 1) := by decide +kernel
theorem dX12_passesFlip_37 : decode cX12_passesFlip 37 = .ok (.invokevirtual 207, 3) := by decide +kernel
theorem dX12_passesFlip_40 : decode cX12_passesFlip 40 = .ok (.ifCond .eq 5, 3) := by decide +kernel
theorem dX12_passesFlip_43 : decode cX12_passesFlip 43 = .ok (.iconst 1, 1) := by decide +kernel
theorem dX12_passesFlip_44 : decode cX12_passesFlip 44 = .ok (.ireturn, 1) := by decide +kernel
theorem dX12_passesFlip_45 : decode cX12_passesFlip 45 = .ok (.iload 5, 2) := by decide +kernel
theorem dX12_passesFlip_47 : decode cX12_passesFlip 47 = .ok (.iconst 1, 1) := by decide +kernel
theorem dX12_passesFlip_48 : decode cX12_passesFlip 48 = .ok (.iadd, 1) := by decide +kernel
theorem dX12_passesFlip_49 : decode cX12_passesFlip 49 = .ok (.istore 6, 2) := by decide +kernel
theorem dX12_passesFlip_51 : decode cX12_passesFlip 51 = .ok (.iload 6, 2) := by decide +kernel
theorem dX12_passesFlip_53 : decode cX12_passesFlip 53 = .ok (.iload 4, 2) := by decide +kernel
theorem dX12_passesFlip_55 : decode cX12_passesFlip 55 = .ok (.if_icmp .ge 81, 3) := by decide +kernel
theorem dX12_passesFlip_58 : decode cX12_passesFlip 58 = .ok (.iload_n 2, 1) := by decide +kernel
theorem dX12_passesFlip_59 : decode cX12_passesFlip 59 = .ok (.iconst 1, 1) := by decide +kernel
theorem dX12_passesFlip_60 : decode cX12_passesFlip 60 = .ok (.if_icmp .le 76, 3) := by decide +kernel
theorem dX12_passesFlip_63 : decode cX12_passesFlip 63 = .ok (.aload_n 0, 1) := by decide +kernel
theorem dX12_passesFlip_64 : decode cX12_passesFlip 64 = .ok (.getfield 63, 3) := by decide +kernel
theorem dX12_passesFlip_67 : decode cX12_passesFlip 67 = .ok (.iconst 1, 1) := by decide +kernel
theorem dX12_passesFlip_68 : decode cX12_passesFlip 68 = .ok (.iload 6, 2) := by decide +kernel
theorem dX12_passesFlip_70 : decode cX12_passesFlip 70 = .ok (.iastore, 1) := by decide +kernel
theorem dX12_passesFlip_71 : decode cX12_passesFlip 71 = .ok (.iload_n 2, 1) := by decide +kernel
theorem dX12_passesFlip_72 : decode cX12_passesFlip 72 = .ok (.iconst 2, 1) := by decide +kernel
theorem dX12_passesFlip_73 : decode cX12_passesFlip 73 = .ok (.if_icmp .ne 14, 3) := by decide +kernel
theorem dX12_passesFlip_76 : decode cX12_passesFlip 76 = .ok (.aload_n 0, 1) := by decide +kernel
theorem dX12_passesFlip_77 : decode cX12_passesFlip 77 = .ok (.iload_n 1, 1) := by decide +kernel
theorem dX12_passesFlip_78 : decode cX12_passesFlip 78 = .ok (.iload_n 3, 1) := by decide +kernel
theorem dX12_passesFlip_79 : decode cX12_passesFlip 79 = .ok (.invokevirtual 207, 3) := by decide +kernel
theorem dX12_passesFlip_82 : decode cX12_passesFlip 82 = .ok (.ifCond .eq 5, 3) := by decide +kernel
theorem dX12_passesFlip_85 : decode cX12_passesFlip 85 = .ok (.iconst 1, 1) := by decide +kernel
theorem dX12_passesFlip_86 : decode cX12_passesFlip 86 = .ok (.ireturn, 1) := by decide +kernel
theorem dX12_passesFlip_87 : decode cX12_passesFlip 87 = .ok (.iload 6, 2) := by decide +kernel
theorem dX12_passesFlip_89 : decode cX12_passesFlip 89 = .ok (.iconst 1, 1) := by decide +kernel
theorem dX12_passesFlip_90 : decode cX12_passesFlip 90 = .ok (.iadd, 1) := by decide +kernel
theorem dX12_passesFlip_91 : decode cX12_passesFlip 91 = .ok (.istore 7, 2) := by decide +kernel
theorem dX12_passesFlip_93 : decode cX12_passesFlip 93 = .ok (.iload 7, 2) := by decide +kernel
theorem dX12_passesFlip_95 : decode cX12_passesFlip 95 = .ok (.iload 4, 2) := by decide +kernel
theorem dX12_passesFlip_97 : decode cX12_passesFlip 97 = .ok (.if_icmp .ge 33, 3) := by decide +kernel
theorem dX12_passesFlip_100 : decode cX12_passesFlip 100 = .ok (.iload_n 2, 1) := by decide +kernel
theorem dX12_passesFlip_101 : decode cX12_passesFlip 101 = .ok (.iconst 2, 1) := by decide +kernel
theorem dX12_passesFlip_102 : decode cX12_passesFlip 102 = .ok (.if_icmp .le 28, 3) := by decide +kernel
theorem dX12_passesFlip_105 : decode cX12_passesFlip 105 = .ok (.aload_n 0, 1) := by decide +kernel
theorem dX12_passesFlip_106 : decode cX12_passesFlip 106 = .ok (.getfield 63, 3) := by decide +kernel
theorem dX12_passesFlip_109 : decode cX12_passesFlip 109 = .ok (.iconst 2, 1) := by decide +kernel
theorem dX12_passesFlip_110 : decode cX12_passesFlip 110 = .ok (.iload 7, 2) := by decide +kernel
theorem dX12_passesFlip_112 : decode cX12_passesFlip 112 = .ok (.iastore, 1) := by decide +kernel
theorem dX12_passesFlip_113 : decode cX12_passesFlip 113 = .ok (.aload_n 0, 1) := by decide +kernel
theorem dX12_passesFlip_114 : decode cX12_passesFlip 114 = .ok (.iload_n 1, 1) := by decide +kernel
theorem dX12_passesFlip_115 : decode cX12_passesFlip 115 = .ok (.iload_n 3, 1) := by decide +kernel
theorem dX12_passesFlip_116 : decode cX12_passesFlip 116 = .ok (.invokevirtual 207, 3) := by decide +kernel
theorem dX12_passesFlip_119 : decode cX12_passesFlip 119 = .ok (.ifCond .eq 5, 3) := by decide +kernel
theorem dX12_passesFlip_122 : decode cX12_passesFlip 122 = .ok (.iconst 1, 1) := by decide +kernel
theorem dX12_passesFlip_123 : decode cX12_passesFlip 123 = .ok (.ireturn, 1) := by decide +kernel
theorem dX12_passesFlip_124 : decode cX12_passesFlip 124 = .ok (.iinc 7 1, 3) := by decide +kernel
theorem dX12_passesFlip_127 : decode cX12_passesFlip 127 = .ok (.goto (-34), 3) := by decide +kernel
theorem dX12_passesFlip_130 : decode cX12_passesFlip 130 = .ok (.iinc 6 1, 3) := by decide +kernel
theorem dX12_passesFlip_133 : decode cX12_passesFlip 133 = .ok (.goto (-82), 3) := by decide +kernel
theorem dX12_passesFlip_136 : decode cX12_passesFlip 136 = .ok (.iinc 5 1, 3) := by decide +kernel
theorem dX12_passesFlip_139 : decode cX12_passesFlip 139 = .ok (.goto (-125), 3) := by decide +kernel
theorem dX12_passesFlip_142 : decode cX12_passesFlip 142 = .ok (.iconst 0, 1) := by decide +kernel
theorem dX12_passesFlip_143 : decode cX12_passesFlip 143 = .ok (.ireturn, 1) := by decide +kernel
set_option maxRecDepth 20000 in
theorem ggX12_passesBurst_X12_passesTurned : GoodIn wsX12_passesBurst wsX12_passesTurned := goodIn_r _ [7, 1, 8, 9, 2, 10, 11, 12, 13, 14, 6, 15, 16, 17, 18, 19, 20, 21, 22, 23, 24, 25, 26, 27, 28, 29, 30, 31, 32, 33, 34, 35, 36, 37, 38, 39, 40, 41, 42, 43, 44, 45, 46, 47, 48, 49, 50, 51, 52, 53, 54, 55, 56, 57, 58, 59, 60, 61, 62, 63, 64, 65] (by decide +kernel) (by decide +kernel)
set_option maxRecDepth 20000 in
theorem gX12_passesBurst_X12_passesTurned : GoodIn wsX12_passesBurst (wsV RX12 207 RX12 yX12_passesTurned wsX12_passesTurned) := goodIn_app (goodIn_of _ (by decide +kernel)) ggX12_passesBurst_X12_passesTurned
theorem dX12_passesBurst_0 : decode cX12_passesBurst 0 = .ok (.iload_n 2, 1) := by decide +kernel
theorem dX12_passesBurst_1 : decode cX12_passesBurst 1 = .ok (.iconst 2, 1) := by decide +kernel
theorem dX12_passesBurst_2 : decode cX12_passesBurst 2 = .ok (.if_icmp .le 9, 3) := by decide +kernel
theorem dX12_passesBurst_5 : decode cX12_passesBurst 5 = .ok (.iload_n 2, 1) := by decide +kernel
theorem dX12_passesBurst_6 : decode cX12_passesBurst 6 = .ok (.iconst 2, 1) := by decide +kernel
theorem dX12_passesBurst_7 : decode cX12_passesBurst 7 = .ok (.isub, 1) := by decide +kernel
theorem dX12_passesBurst_8 : decode cX12_passesBurst 8 = .ok (.goto 4, 3) := by decide +kernel
theorem dX12_passesBurst_11 : decode cX12_passesBurst 11 = .ok (.iconst 0, 1) := by decide +kernel
theorem dX12_passesBurst_12 : decode cX12_passesBurst 12 = .ok (.istore 4, 2) := by decide +kernel
theorem dX12_passesBurst_14 : decode cX12_passesBurst 14 = .ok (.iconst 0, 1) := by decide +kernel
theorem dX12_passesBurst_15 : decode cX12_passesBurst 15 = .ok (.istore 5, 2) := by decide +kernel
theorem dX12_passesBurst_17 : decode cX12_passesBurst 17 = .ok (.iload 5, 2) := by decide +kernel
theorem dX12_passesBurst_19 : decode cX12_passesBurst 19 = .ok (.iload_n 2, 1) := by decide +kernel
theorem dX12_passesBurst_20 : decode cX12_passesBurst 20 = .ok (.iadd, 1) := by decide +kernel
theorem dX12_passesBurst_21 : decode cX12_passesBurst 21 = .ok (.bipush 8, 2) := by decide +kernel
theorem dX12_passesBurst_23 : decode cX12_passesBurst 23 = .ok (.iload_n 3, 1) := by decide +kernel
theorem dX12_passesBurst_24 : decode cX12_passesBurst 24 = .ok (.imul, 1) := by decide +kernel
theorem dX12_passesBurst_25 : decode cX12_passesBurst 25 = .ok (.if_icmp .gt 139, 3) := by decide +kernel
theorem dX12_passesBurst_28 : decode cX12_passesBurst 28 = .ok (.iconst 0, 1) := by decide +kernel
theorem dX12_passesBurst_29 : decode cX12_passesBurst 29 = .ok (.istore 6, 2) := by decide +kernel
theorem dX12_passesBurst_31 : decode cX12_passesBurst 31 = .ok (.iload 6, 2) := by decide +kernel
theorem dX12_passesBurst_33 : decode cX12_passesBurst 33 = .ok (.iconst 1, 1) := by decide +kernel
theorem dX12_passesBurst_34 : decode cX12_passesBurst 34 = .ok (.iload 4, 2) := by decide +kernel
theorem dX12_passesBurst_36 : decode cX12_passesBurst 36 = .ok (.ishl, 1) := by decide +kernel
theorem dX12_passesBurst_37 : decode cX12_passesBurst 37 = .ok (.if_icmp .ge 121, 3) := by decide +kernel
theorem dX12_passesBurst_40 : decode cX12_passesBurst 40 = .ok (.aload_n 0, 1) := by decide +kernel
theorem dX12_passesBurst_41 : decode cX12_passesBurst 41 = .ok (.iconst 1, 1) := by decide +kernel
theorem dX12_passesBurst_42 : decode cX12_passesBurst 42 = .ok (.putfield 193, 3) := by decide +kernel
theorem dX12_passesBurst_45 : decode cX12_passesBurst 45 = .ok (.aload_n 0, 1) := by decide +kernel
theorem dX12_passesBurst_46 : decode cX12_passesBurst 46 = .ok (.getfield 63, 3) := by decide +kernel
theorem dX12_passesBurst_49 : decode cX12_passesBurst 49 = .ok (.iconst 0, 1) := by decide +kernel
theorem dX12_passesBurst_50 : decode cX12_passesBurst 50 = .ok (.iload 5, 2) := by decide +kernel
theorem dX12_passesBurst_52 : decode cX12_passesBurst 52 = .ok (.iastore, 1) := by decide +kernel
theorem dX12_passesBurst_53 : decode cX12_passesBurst 53 = .ok (.iconst 0, 1) := by decide +kernel
theorem dX12_passesBurst_54 : decode cX12_passesBurst 54 = .ok (.istore 7, 2) := by decide +kernel
theorem dX12_passesBurst_56 : decode cX12_passesBurst 56 = .ok (.iload 7, 2) := by decide +kernel
theorem dX12_passesBurst_58 : decode cX12_passesBurst 58 = .ok (.iload 4, 2) := by decide +kernel
theorem dX12_passesBurst_60 : decode cX12_passesBurst 60 = .ok (.if_icmp .ge 51, 3) := by decide +kernel
theorem dX12_passesBurst_63 : decode cX12_passesBurst 63 = .ok (.iload 6, 2) := by decide +kernel
theorem dX12_passesBurst_65 : decode cX12_passesBurst 65 = .ok (.iload 4, 2) := by decide +kernel
theorem dX12_passesBurst_67 : decode cX12_passesBurst 67 = .ok (.iconst 1, 1) := by decide +kernel
theorem dX12_passesBurst_68 : decode cX12_passesBurst 68 = .ok (.isub, 1) := by decide +kernel
theorem dX12_passesBurst_69 : decode cX12_passesBurst 69 = .ok (.iload 7, 2) := by decide +kernel
theorem dX12_passesBurst_71 : decode cX12_passesBurst 71 = .ok (.isub, 1) := by decide +kernel
theorem dX12_passesBurst_72 : decode cX12_passesBurst 72 = .ok (.ishr, 1) := by decide +kernel
theorem dX12_passesBurst_73 : decode cX12_passesBurst 73 = .ok (.iconst 1, 1) := by decide +kernel
theorem dX12_passesBurst_74 : decode cX12_passesBurst 74 = .ok (.iand, 1) := by decide +kernel
theorem dX12_passesBurst_75 : decode cX12_passesBurst 75 = .ok (.iconst 1, 1) := by decide +kernel
theorem dX12_passesBurst_76 : decode cX12_passesBurst 76 = .ok (.if_icmp .ne 29, 3) := by decide +kernel
theorem dX12_passesBurst_79 : decode cX12_passesBurst 79 = .ok (.aload_n 0, 1) := by decide +kernel
theorem dX12_passesBurst_80 : decode cX12_passesBurst 80 = .ok (.getfield 63, 3) := by decide +kernel
theorem dX12_passesBurst_83 : decode cX12_passesBurst 83 = .ok (.aload_n 0, 1) := by decide +kernel
theorem dX12_passesBurst_84 : decode cX12_passesBurst 84 = .ok (.getfield 193, 3) := by decide +kernel
theorem dX12_passesBurst_87 : decode cX12_passesBurst 87 = .ok (.iload 5, 2) := by decide +kernel
theorem dX12_passesBurst_89 : decode cX12_passesBurst 89 = .ok (.iconst 1, 1) := by decide +kernel
theorem dX12_passesBurst_90 : decode cX12_passesBurst 90 = .ok (.iadd, 1) := by decide +kernel
theorem dX12_passesBurst_91 : decode cX12_passesBurst 91 = .ok (.iload 7, 2) := by decide +kernel
theorem dX12_passesBurst_93 : decode cX12_passesBurst 93 = .ok (.iadd, 1) := by decide +kernel
theorem dX12_passesBurst_94 : decode cX12_passesBurst 94 = .ok (.iastore, 1) := by decide +kernel
theorem dX12_passesBurst_95 : decode cX12_passesBurst 95 = .ok (.aload_n 0, 1) := by decide +kernel
theorem dX12_passesBurst_96 : decode cX12_passesBurst 96 = .ok (.dup, 1) := by decide +kernel
theorem dX12_passesBurst_97 : decode cX12_passesBurst 97 = .ok (.getfield 193, 3) := by decide +kernel
theorem dX12_passesBurst_100 : decode cX12_passesBurst 100 = .ok (.iconst 1, 1) := by decide +kernel
theorem dX12_passesBurst_101 : decode cX12_passesBurst 101 = .ok (.iadd, 1) := by decide +kernel
theorem dX12_passesBurst_102 : decode cX12_passesBurst 102 = .ok (.putfield 193, 3) := by decide +kernel
theorem dX12_passesBurst_105 : decode cX12_passesBurst 105 = .ok (.iinc 7 1, 3) := by decide +kernel
theorem dX12_passesBurst_108 : decode cX12_passesBurst 108 = .ok (.goto (-52), 3) := by decide +kernel
theorem dX12_passesBurst_111 : decode cX12_passesBurst 111 = .ok (.iload_n 2, 1) := by decide +kernel
theorem dX12_passesBurst_112 : decode cX12_passesBurst 112 = .ok (.iconst 1, 1) := by decide +kernel
theorem dX12_passesBurst_113 : decode cX12_passesBurst 113 = .ok (.if_icmp .le 28, 3) := by decide +kernel
theorem dX12_passesBurst_116 : decode cX12_passesBurst 116 = .ok (.aload_n 0, 1) := by decide +kernel
theorem dX12_passesBurst_117 : decode cX12_passesBurst 117 = .ok (.getfield 63, 3) := by decide +kernel
theorem dX12_passesBurst_120 : decode cX12_passesBurst 120 = .ok (.aload_n 0, 1) := by decide +kernel
theorem dX12_passesBurst_121 : decode cX12_passesBurst 121 = .ok (.getfield 193, 3) := by decide +kernel
theorem dX12_passesBurst_124 : decode cX12_passesBurst 124 = .ok (.iload 5, 2) := by decide +kernel
theorem dX12_passesBurst_126 : decode cX12_passesBurst 126 = .ok (.iload_n 2, 1) := by decide +kernel
theorem dX12_passesBurst_127 : decode cX12_passesBurst 127 = .ok (.iadd, 1) := by decide +kernel
theorem dX12_passesBurst_128 : decode cX12_passesBurst 128 = .ok (.iconst 1, 1) := by decide +kernel
theorem dX12_passesBurst_129 : decode cX12_passesBurst 129 = .ok (.isub, 1) := by decide +kernel
theorem dX12_passesBurst_130 : decode cX12_passesBurst 130 = .ok (.iastore, 1) := by decide +kernel
theorem dX12_passesBurst_131 : decode cX12_passesBurst 131 = .ok (.aload_n 0, 1) := by decide +kernel
theorem dX12_passesBurst_132 : decode cX12_passesBurst 132 = .ok (.dup, 1) := by decide +kernel
theorem dX12_passesBurst_133 : decode cX12_passesBurst 133 = .ok (.getfield 193, 3) := by decide +kernel
theorem dX12_passesBurst_136 : decode cX12_passesBurst 136 = .ok (.iconst 1, 1) := by decide +kernel
theorem dX12_passesBurst_137 : decode cX12_passesBurst 137 = .ok (.iadd, 1) := by decide +kernel
theorem dX12_passesBurst_138 : decode cX12_passesBurst 138 = .ok (.putfield 193, 3) := by decide +kernel
theorem dX12_passesBurst_141 : decode cX12_passesBurst 141 = .ok (.aload_n 0, 1) := by decide +kernel
theorem dX12_passesBurst_142 : decode cX12_passesBurst 142 = .ok (.iload_n 1, 1) := by decide +kernel
theorem dX12_passesBurst_143 : decode cX12_passesBurst 143 = .ok (.iload_n 3, 1) := by decide +kernel
theorem dX12_passesBurst_144 : decode cX12_passesBurst 144 = .ok (.invokevirtual 207, 3) := by decide +kernel
theorem dX12_passesBurst_147 : decode cX12_passesBurst 147 = .ok (.ifCond .eq 5, 3) := by decide +kernel
theorem dX12_passesBurst_150 : decode cX12_passesBurst 150 = .ok (.iconst 1, 1) := by decide +kernel
theorem dX12_passesBurst_151 : decode cX12_passesBurst 151 = .ok (.ireturn, 1) := by decide +kernel
theorem dX12_passesBurst_152 : decode cX12_passesBurst 152 = .ok (.iinc 6 1, 3) := by decide +kernel
theorem dX12_passesBurst_155 : decode cX12_passesBurst 155 = .ok (.goto (-124), 3) := by decide +kernel
theorem dX12_passesBurst_158 : decode cX12_passesBurst 158 = .ok (.iinc 5 1, 3) := by decide +kernel
theorem dX12_passesBurst_161 : decode cX12_passesBurst 161 = .ok (.goto (-144), 3) := by decide +kernel
theorem dX12_passesBurst_164 : decode cX12_passesBurst 164 = .ok (.iconst 0, 1) := by decide +kernel
theorem dX12_passesBurst_165 : decode cX12_passesBurst 165 = .ok (.ireturn, 1) := by decide +kernel
set_option maxRecDepth 20000 in
theorem ggX12_alter_X12_turn : GoodIn wsX12_alter wsX12_turn := goodIn_r _ [5, 6, 7, 8, 9, 10, 11, 12, 4, 13, 14, 15, 16, 17, 18, 19, 20, 21, 22, 23, 24, 25, 26, 27, 28, 29, 30, 31, 32, 33, 34, 35, 36, 37, 38, 39, 40, 41, 42, 43, 44, 45, 46, 47] (by decide +kernel) (by decide +kernel)
set_option maxRecDepth 20000 in
theorem gX12_alter_X12_turn : GoodIn wsX12_alter (wsV RX12 196 RX12 yX12_turn wsX12_turn) := goodIn_app (goodIn_of _ (by decide +kernel)) ggX12_alter_X12_turn
theorem dX12_alter_0 : decode cX12_alter 0 = .ok (.iconst 0, 1) := by decide +kernel
theorem dX12_alter_1 : decode cX12_alter 1 = .ok (.istore 5, 2) := by decide +kernel
theorem dX12_alter_3 : decode cX12_alter 3 = .ok (.iload 5, 2) := by decide +kernel
theorem dX12_alter_5 : decode cX12_alter 5 = .ok (.bipush 8, 2) := by decide +kernel
theorem dX12_alter_7 : decode cX12_alter 7 = .ok (.if_icmp .ge 58, 3) := by decide +kernel
theorem dX12_alter_10 : decode cX12_alter 10 = .ok (.iload_n 3, 1) := by decide +kernel
theorem dX12_alter_11 : decode cX12_alter 11 = .ok (.bipush 7, 2) := by decide +kernel
theorem dX12_alter_13 : decode cX12_alter 13 = .ok (.iload 5, 2) := by decide +kernel
theorem dX12_alter_15 : decode cX12_alter 15 = .ok (.isub, 1) := by decide +kernel
theorem dX12_alter_16 : decode cX12_alter 16 = .ok (.ishr, 1) := by decide +kernel
theorem dX12_alter_17 : decode cX12_alter 17 = .ok (.iconst 1, 1) := by decide +kernel
theorem dX12_alter_18 : decode cX12_alter 18 = .ok (.iand, 1) := by decide +kernel
theorem dX12_alter_19 : decode cX12_alter 19 = .ok (.istore 6, 2) := by decide +kernel
theorem dX12_alter_21 : decode cX12_alter 21 = .ok (.iload 6, 2) := by decide +kernel
theorem dX12_alter_23 : decode cX12_alter 23 = .ok (.iload 4, 2) := by decide +kernel
theorem dX12_alter_25 : decode cX12_alter 25 = .ok (.bipush 7, 2) := by decide +kernel
theorem dX12_alter_27 : decode cX12_alter 27 = .ok (.iload 5, 2) := by decide +kernel
theorem dX12_alter_29 : decode cX12_alter 29 = .ok (.isub, 1) := by decide +kernel
theorem dX12_alter_30 : decode cX12_alter 30 = .ok (.ishr, 1) := by decide +kernel
theorem dX12_alter_31 : decode cX12_alter 31 = .ok (.iconst 1, 1) := by decide +kernel
theorem dX12_alter_32 : decode cX12_alter 32 = .ok (.iand, 1) := by decide +kernel
theorem dX12_alter_33 : decode cX12_alter 33 = .ok (.if_icmp .eq 26, 3) := by decide +kernel
theorem dX12_alter_36 : decode cX12_alter 36 = .ok (.aload_n 0, 1) := by decide +kernel
theorem dX12_alter_37 : decode cX12_alter 37 = .ok (.iload_n 1, 1) := by decide +kernel
theorem dX12_alter_38 : decode cX12_alter 38 = .ok (.bipush 8, 2) := by decide +kernel
theorem dX12_alter_40 : decode cX12_alter 40 = .ok (.iload_n 2, 1) := by decide +kernel
theorem dX12_alter_41 : decode cX12_alter 41 = .ok (.imul, 1) := by decide +kernel
theorem dX12_alter_42 : decode cX12_alter 42 = .ok (.iload 5, 2) := by decide +kernel
theorem dX12_alter_44 : decode cX12_alter 44 = .ok (.iadd, 1) := by decide +kernel
theorem dX12_alter_45 : decode cX12_alter 45 = .ok (.iload 6, 2) := by decide +kernel
theorem dX12_alter_47 : decode cX12_alter 47 = .ok (.iconst 1, 1) := by decide +kernel
theorem dX12_alter_48 : decode cX12_alter 48 = .ok (.if_icmp .ne 7, 3) := by decide +kernel
theorem dX12_alter_51 : decode cX12_alter 51 = .ok (.iconst 1, 1) := by decide +kernel
theorem dX12_alter_52 : decode cX12_alter 52 = .ok (.goto 4, 3) := by decide +kernel
theorem dX12_alter_55 : decode cX12_alter 55 = .ok (.iconst 0, 1) := by decide +kernel
theorem dX12_alter_56 : decode cX12_alter 56 = .ok (.invokevirtual 196, 3) := by decide +kernel
theorem dX12_alter_59 : decode cX12_alter 59 = .ok (.iinc 5 1, 3) := by decide +kernel
theorem dX12_alter_62 : decode cX12_alter 62 = .ok (.goto (-59), 3) := by decide +kernel
theorem dX12_alter_65 : decode cX12_alter 65 = .ok (.return_, 1) := by decide +kernel
set_option maxRecDepth 20000 in
theorem ggX12_passesBytes_X12_alter : GoodIn wsX12_passesBytes wsX12_alter := goodIn_r _ [9, 10, 11, 12, 8, 13, 1, 14, 2, 15, 16, 17, 18, 19, 20, 31, 32, 33, 34, 35, 36, 37, 38, 39, 40, 41, 42, 43, 44, 45, 46, 47, 48, 49, 50, 51, 52, 53, 54, 55, 56, 57, 58, 59, 60, 61, 62, 63] (by decide +kernel) (by decide +kernel)
set_option maxRecDepth 20000 in
theorem gX12_passesBytes_X12_alter : GoodIn wsX12_passesBytes (wsV RX12 211 RX12 yX12_alter wsX12_alter) := goodIn_app (goodIn_of _ (by decide +kernel)) ggX12_passesBytes_X12_alter
set_option maxRecDepth 20000 in
theorem ggX12_passesBytes_X12_isNothing : GoodIn wsX12_passesBytes wsX12_isNothing := goodIn_r _ [24, 1, 25, 2, 16, 17, 18, 8, 19, 20, 31, 32, 33, 34, 35, 36, 37, 38, 39, 40, 41, 42, 43, 44, 45, 46, 47, 48, 49, 50, 51, 52, 53, 54, 55, 56, 57, 58, 59, 60, 61, 62, 63] (by decide +kernel) (by decide +kernel)
set_option maxRecDepth 20000 in
theorem gX12_passesBytes_X12_isNothing : GoodIn wsX12_passesBytes (wsV RX12 200 RX12 yX12_isNothing wsX12_isNothing) := goodIn_app (goodIn_of _ (by decide +kernel)) ggX12_passesBytes_X12_isNothing
set_option maxRecDepth 20000 in
theorem ggX12_passesBytes_X12_beginKept : GoodIn wsX12_passesBytes wsX12_beginKept := goodIn_r _ [29, 30, 3, 4, 31, 32, 33, 34, 35, 36, 37, 38, 39, 40, 41, 42, 43, 44, 45, 46, 47, 48, 49, 50, 51, 52, 53, 54, 55, 56, 57, 58, 59, 60, 61, 62, 63] (by decide +kernel) (by decide +kernel)
set_option maxRecDepth 20000 in
theorem gX12_passesBytes_X12_beginKept : GoodIn wsX12_passesBytes (wsV RX12 203 RX12 yX12_beginKept wsX12_beginKept) := goodIn_app (goodIn_of _ (by decide +kernel)) ggX12_passesBytes_X12_beginKept
theorem dX12_passesBytes_0 : decode cX12_passesBytes 0 = .ok (.iload_n 2, 1) := by decide +kernel
theorem dX12_passesBytes_1 : decode cX12_passesBytes 1 = .ok (.iconst 2, 1) := by decide +kernel
theorem dX12_passesBytes_2 : decode cX12_passesBytes 2 = .ok (.if_icmp .ne 7, 3) := by decide +kernel
theorem dX12_passesBytes_5 : decode cX12_passesBytes 5 = .ok (.iconst 0, 1) := by decide +kernel
theorem dX12_passesBytes_6 : decode cX12_passesBytes 6 = .ok (.goto 13, 3) := by decide +kernel
theorem dX12_passesBytes_9 : decode cX12_passesBytes 9 = .ok (.iload_n 2, 1) := by decide +kernel
theorem dX12_passesBytes_10 : decode cX12_passesBytes 10 = .ok (.iconst 4, 1) := by decide +kernel
theorem dX12_passesBytes_11 : decode cX12_passesBytes 11 = .ok (.if_icmp .ne 7, 3) := by decide +kernel
theorem dX12_passesBytes_14 : decode cX12_passesBytes 14 = .ok (.iconst 2, 1) := by decide +kernel
theorem dX12_passesBytes_15 : decode cX12_passesBytes 15 = .ok (.goto 4, 3) := by decide +kernel
theorem dX12_passesBytes_18 : decode cX12_passesBytes 18 = .ok (.iconst 1, 1) := by decide +kernel
theorem dX12_passesBytes_19 : decode cX12_passesBytes 19 = .ok (.istore 4, 2) := by decide +kernel
theorem dX12_passesBytes_21 : decode cX12_passesBytes 21 = .ok (.iconst 0, 1) := by decide +kernel
theorem dX12_passesBytes_22 : decode cX12_passesBytes 22 = .ok (.istore 5, 2) := by decide +kernel
theorem dX12_passesBytes_24 : decode cX12_passesBytes 24 = .ok (.iload 5, 2) := by decide +kernel
theorem dX12_passesBytes_26 : decode cX12_passesBytes 26 = .ok (.iload 4, 2) := by decide +kernel
theorem dX12_passesBytes_28 : decode cX12_passesBytes 28 = .ok (.iadd, 1) := by decide +kernel
theorem dX12_passesBytes_29 : decode cX12_passesBytes 29 = .ok (.iload_n 3, 1) := by decide +kernel
theorem dX12_passesBytes_30 : decode cX12_passesBytes 30 = .ok (.if_icmp .ge 180, 3) := by decide +kernel
theorem dX12_passesBytes_33 : decode cX12_passesBytes 33 = .ok (.iconst 0, 1) := by decide +kernel
theorem dX12_passesBytes_34 : decode cX12_passesBytes 34 = .ok (.istore 6, 2) := by decide +kernel
theorem dX12_passesBytes_36 : decode cX12_passesBytes 36 = .ok (.iload 6, 2) := by decide +kernel
theorem dX12_passesBytes_38 : decode cX12_passesBytes 38 = .ok (.sipush 256, 3) := by decide +kernel
theorem dX12_passesBytes_41 : decode cX12_passesBytes 41 = .ok (.if_icmp .ge 163, 3) := by decide +kernel
theorem dX12_passesBytes_44 : decode cX12_passesBytes 44 = .ok (.iconst 0, 1) := by decide +kernel
theorem dX12_passesBytes_45 : decode cX12_passesBytes 45 = .ok (.istore 7, 2) := by decide +kernel
theorem dX12_passesBytes_47 : decode cX12_passesBytes 47 = .ok (.iload 7, 2) := by decide +kernel
theorem dX12_passesBytes_49 : decode cX12_passesBytes 49 = .ok (.sipush 256, 3) := by decide +kernel
theorem dX12_passesBytes_52 : decode cX12_passesBytes 52 = .ok (.if_icmp .ge 146, 3) := by decide +kernel
theorem dX12_passesBytes_55 : decode cX12_passesBytes 55 = .ok (.iload 6, 2) := by decide +kernel
theorem dX12_passesBytes_57 : decode cX12_passesBytes 57 = .ok (.iload 7, 2) := by decide +kernel
theorem dX12_passesBytes_59 : decode cX12_passesBytes 59 = .ok (.if_icmp .eq 133, 3) := by decide +kernel
theorem dX12_passesBytes_62 : decode cX12_passesBytes 62 = .ok (.iload_n 2, 1) := by decide +kernel
theorem dX12_passesBytes_63 : decode cX12_passesBytes 63 = .ok (.iconst 5, 1) := by decide +kernel
theorem dX12_passesBytes_64 : decode cX12_passesBytes 64 = .ok (.if_icmp .ne 8, 3) := by decide +kernel
theorem dX12_passesBytes_67 : decode cX12_passesBytes 67 = .ok (.iload 6, 2) := by decide +kernel
theorem dX12_passesBytes_69 : decode cX12_passesBytes 69 = .ok (.goto 5, 3) := by decide +kernel
theorem dX12_passesBytes_72 : decode cX12_passesBytes 72 = .ok (.iload 7, 2) := by decide +kernel
theorem dX12_passesBytes_74 : decode cX12_passesBytes 74 = .ok (.istore 8, 2) := by decide +kernel
theorem dX12_passesBytes_76 : decode cX12_passesBytes 76 = .ok (.iload_n 2, 1) := by decide +kernel
theorem dX12_passesBytes_77 : decode cX12_passesBytes 77 = .ok (.iconst 5, 1) := by decide +kernel
theorem dX12_passesBytes_78 : decode cX12_passesBytes 78 = .ok (.if_icmp .ne 8, 3) := by decide +kernel
theorem dX12_passesBytes_81 : decode cX12_passesBytes 81 = .ok (.iload 7, 2) := by decide +kernel
theorem dX12_passesBytes_83 : decode cX12_passesBytes 83 = .ok (.goto 5, 3) := by decide +kernel
theorem dX12_passesBytes_86 : decode cX12_passesBytes 86 = .ok (.iload 6, 2) := by decide +kernel
theorem dX12_passesBytes_88 : decode cX12_passesBytes 88 = .ok (.istore 9, 2) := by decide +kernel
theorem dX12_passesBytes_90 : decode cX12_passesBytes 90 = .ok (.aload_n 0, 1) := by decide +kernel
theorem dX12_passesBytes_91 : decode cX12_passesBytes 91 = .ok (.lconst 0, 1) := by decide +kernel
theorem dX12_passesBytes_92 : decode cX12_passesBytes 92 = .ok (.putfield 183, 3) := by decide +kernel
theorem dX12_passesBytes_95 : decode cX12_passesBytes 95 = .ok (.aload_n 0, 1) := by decide +kernel
theorem dX12_passesBytes_96 : decode cX12_passesBytes 96 = .ok (.lconst 0, 1) := by decide +kernel
theorem dX12_passesBytes_97 : decode cX12_passesBytes 97 = .ok (.putfield 187, 3) := by decide +kernel
theorem dX12_passesBytes_100 : decode cX12_passesBytes 100 = .ok (.aload_n 0, 1) := by decide +kernel
theorem dX12_passesBytes_101 : decode cX12_passesBytes 101 = .ok (.iload_n 1, 1) := by decide +kernel
theorem dX12_passesBytes_102 : decode cX12_passesBytes 102 = .ok (.iload 5, 2) := by decide +kernel
theorem dX12_passesBytes_104 : decode cX12_passesBytes 104 = .ok (.iload 6, 2) := by decide +kernel
theorem dX12_passesBytes_106 : decode cX12_passesBytes 106 = .ok (.iload 7, 2) := by decide +kernel
theorem dX12_passesBytes_108 : decode cX12_passesBytes 108 = .ok (.invokevirtual 211, 3) := by decide +kernel
theorem dX12_passesBytes_111 : decode cX12_passesBytes 111 = .ok (.iload 4, 2) := by decide +kernel
theorem dX12_passesBytes_113 : decode cX12_passesBytes 113 = .ok (.ifCond .le 17, 3) := by decide +kernel
theorem dX12_passesBytes_116 : decode cX12_passesBytes 116 = .ok (.aload_n 0, 1) := by decide +kernel
theorem dX12_passesBytes_117 : decode cX12_passesBytes 117 = .ok (.iload_n 1, 1) := by decide +kernel
theorem dX12_passesBytes_118 : decode cX12_passesBytes 118 = .ok (.iload 5, 2) := by decide +kernel
theorem dX12_passesBytes_120 : decode cX12_passesBytes 120 = .ok (.iload 4, 2) := by decide +kernel
theorem dX12_passesBytes_122 : decode cX12_passesBytes 122 = .ok (.iadd, 1) := by decide +kernel
theorem dX12_passesBytes_123 : decode cX12_passesBytes 123 = .ok (.iload 8, 2) := by decide +kernel
theorem dX12_passesBytes_125 : decode cX12_passesBytes 125 = .ok (.iload 9, 2) := by decide +kernel
theorem dX12_passesBytes_127 : decode cX12_passesBytes 127 = .ok (.invokevirtual 211, 3) := by decide +kernel
theorem dX12_passesBytes_130 : decode cX12_passesBytes 130 = .ok (.aload_n 0, 1) := by decide +kernel
theorem dX12_passesBytes_131 : decode cX12_passesBytes 131 = .ok (.iload_n 1, 1) := by decide +kernel
theorem dX12_passesBytes_132 : decode cX12_passesBytes 132 = .ok (.invokevirtual 200, 3) := by decide +kernel
theorem dX12_passesBytes_135 : decode cX12_passesBytes 135 = .ok (.ifCond .eq 57, 3) := by decide +kernel
theorem dX12_passesBytes_138 : decode cX12_passesBytes 138 = .ok (.aload_n 0, 1) := by decide +kernel
theorem dX12_passesBytes_139 : decode cX12_passesBytes 139 = .ok (.iload_n 3, 1) := by decide +kernel
theorem dX12_passesBytes_140 : decode cX12_passesBytes 140 = .ok (.invokevirtual 203, 3) := by decide +kernel
theorem dX12_passesBytes_143 : decode cX12_passesBytes 143 = .ok (.aload_n 0, 1) := by decide +kernel
theorem dX12_passesBytes_144 : decode cX12_passesBytes 144 = .ok (.getfield 51, 3) := by decide +kernel
theorem dX12_passesBytes_147 : decode cX12_passesBytes 147 = .ok (.iload 5, 2) := by decide +kernel
theorem dX12_passesBytes_149 : decode cX12_passesBytes 149 = .ok (.iload 6, 2) := by decide +kernel
theorem dX12_passesBytes_151 : decode cX12_passesBytes 151 = .ok (.iastore, 1) := by decide +kernel
theorem dX12_passesBytes_152 : decode cX12_passesBytes 152 = .ok (.aload_n 0, 1) := by decide +kernel
theorem dX12_passesBytes_153 : decode cX12_passesBytes 153 = .ok (.getfield 54, 3) := by decide +kernel
theorem dX12_passesBytes_156 : decode cX12_passesBytes 156 = .ok (.iload 5, 2) := by decide +kernel
theorem dX12_passesBytes_158 : decode cX12_passesBytes 158 = .ok (.iload 7, 2) := by decide +kernel
theorem dX12_passesBytes_160 : decode cX12_passesBytes 160 = .ok (.iastore, 1) := by decide +kernel
theorem dX12_passesBytes_161 : decode cX12_passesBytes 161 = .ok (.iload 4, 2) := by decide +kernel
theorem dX12_passesBytes_163 : decode cX12_passesBytes 163 = .ok (.ifCond .le 27, 3) := by decide +kernel
theorem dX12_passesBytes_166 : decode cX12_passesBytes 166 = .ok (.aload_n 0, 1) := by decide +kernel
theorem dX12_passesBytes_167 : decode cX12_passesBytes 167 = .ok (.getfield 51, 3) := by decide +kernel
theorem dX12_passesBytes_170 : decode cX12_passesBytes 170 = .ok (.iload 5, 2) := by decide +kernel
theorem dX12_passesBytes_172 : decode cX12_passesBytes 172 = .ok (.iload 4, 2) := by decide +kernel
theorem dX12_passesBytes_174 : decode cX12_passesBytes 174 = .ok (.iadd, 1) := by decide +kernel
theorem dX12_passesBytes_175 : decode cX12_passesBytes 175 = .ok (.iload 8, 2) := by decide +kernel
theorem dX12_passesBytes_177 : decode cX12_passesBytes 177 = .ok (.iastore, 1) := by decide +kernel
theorem dX12_passesBytes_178 : decode cX12_passesBytes 178 = .ok (.aload_n 0, 1) := by decide +kernel
theorem dX12_passesBytes_179 : decode cX12_passesBytes 179 = .ok (.getfield 54, 3) := by decide +kernel
theorem dX12_passesBytes_182 : decode cX12_passesBytes 182 = .ok (.iload 5, 2) := by decide +kernel
theorem dX12_passesBytes_184 : decode cX12_passesBytes 184 = .ok (.iload 4, 2) := by decide +kernel
theorem dX12_passesBytes_186 : decode cX12_passesBytes 186 = .ok (.iadd, 1) := by decide +kernel
theorem dX12_passesBytes_187 : decode cX12_passesBytes 187 = .ok (.iload 9, 2) := by decide +kernel
theorem dX12_passesBytes_189 : decode cX12_passesBytes 189 = .ok (.iastore, 1) := by decide +kernel
theorem dX12_passesBytes_190 : decode cX12_passesBytes 190 = .ok (.iconst 1, 1) := by decide +kernel
theorem dX12_passesBytes_191 : decode cX12_passesBytes 191 = .ok (.ireturn, 1) := by decide +kernel
theorem dX12_passesBytes_192 : decode cX12_passesBytes 192 = .ok (.iinc 7 1, 3) := by decide +kernel
theorem dX12_passesBytes_195 : decode cX12_passesBytes 195 = .ok (.goto (-148), 3) := by decide +kernel
theorem dX12_passesBytes_198 : decode cX12_passesBytes 198 = .ok (.iinc 6 1, 3) := by decide +kernel
theorem dX12_passesBytes_201 : decode cX12_passesBytes 201 = .ok (.goto (-165), 3) := by decide +kernel
theorem dX12_passesBytes_204 : decode cX12_passesBytes 204 = .ok (.iinc 5 1, 3) := by decide +kernel
theorem dX12_passesBytes_207 : decode cX12_passesBytes 207 = .ok (.goto (-183), 3) := by decide +kernel
theorem dX12_passesBytes_210 : decode cX12_passesBytes 210 = .ok (.iconst 0, 1) := by decide +kernel
theorem dX12_passesBytes_211 : decode cX12_passesBytes 211 = .ok (.ireturn, 1) := by decide +kernel
set_option maxRecDepth 20000 in
theorem ggX12_sees_X12_isSum : GoodIn wsX12_sees wsX12_isSum := goodIn_r _ [9, 10, 11, 12, 8, 13, 91, 92, 93, 94, 95, 96, 97, 98, 99, 100, 101, 102, 103, 104, 105, 106, 107, 108, 109, 110, 111, 112, 113, 114, 115, 116, 117, 118, 119, 120, 121, 122, 123] (by decide +kernel) (by decide +kernel)
set_option maxRecDepth 20000 in
theorem gX12_sees_X12_isSum : GoodIn wsX12_sees (wsV RX12 119 RX12 yX12_isSum wsX12_isSum) := goodIn_app (goodIn_of _ (by decide +kernel)) ggX12_sees_X12_isSum
set_option maxRecDepth 20000 in
theorem ggX12_sees_X12_in : GoodIn wsX12_sees wsX12_in := goodIn_r _ [13] (by decide +kernel) (by decide +kernel)
set_option maxRecDepth 20000 in
theorem gX12_sees_X12_in : GoodIn wsX12_sees (va_wsS RX12 88 yX12_in wsX12_in) := goodIn_app (goodIn_of _ (by decide +kernel)) ggX12_sees_X12_in
set_option maxRecDepth 20000 in
theorem ggX12_sees_X12_findPlaces : GoodIn wsX12_sees wsX12_findPlaces := goodIn_r _ [17, 18, 19, 20, 21, 22, 8, 23, 1, 24, 25, 26, 27, 28, 29, 30, 31, 32, 33, 34, 35, 36, 37, 38, 39, 40, 41, 42, 43, 44, 45, 46, 91, 92, 93, 94, 95, 96, 97, 98, 99, 100, 101, 102, 103, 104, 105, 106, 107, 108, 109, 110, 111, 112, 113, 114, 115, 116, 117, 118, 119, 120, 121, 122, 123] (by decide +kernel) (by decide +kernel)
set_option maxRecDepth 20000 in
theorem gX12_sees_X12_findPlaces : GoodIn wsX12_sees (wsV RX12 217 RX12 yX12_findPlaces wsX12_findPlaces) := goodIn_app (goodIn_of _ (by decide +kernel)) ggX12_sees_X12_findPlaces
set_option maxRecDepth 20000 in
theorem ggX12_sees_X12_passesFlip : GoodIn wsX12_sees wsX12_passesFlip := goodIn_r _ [50, 51, 52, 53, 54, 55, 8, 56, 57, 58, 59, 60, 61, 62, 63, 64, 18, 19, 65, 66, 67, 68, 1, 69, 70, 71, 72, 73, 74, 75, 76, 77, 78, 91, 92, 93, 94, 95, 96, 97, 98, 99, 100, 101, 102, 103, 104, 105, 106, 107, 108, 109, 110, 111, 112, 113, 114, 115, 116, 117, 118, 119, 120, 121, 122, 123] (by decide +kernel) (by decide +kernel)
set_option maxRecDepth 20000 in
theorem gX12_sees_X12_passesFlip : GoodIn wsX12_sees (wsV RX12 221 RX12 yX12_passesFlip wsX12_passesFlip) := goodIn_app (goodIn_of _ (by decide +kernel)) ggX12_sees_X12_passesFlip
set_option maxRecDepth 20000 in
theorem ggX12_sees_X12_passesBurst : GoodIn wsX12_sees wsX12_passesBurst := goodIn_r _ [82, 51, 52, 53, 54, 55, 8, 56, 57, 58, 59, 60, 61, 62, 63, 64, 18, 19, 65, 66, 67, 68, 1, 69, 70, 71, 72, 73, 74, 75, 76, 77, 78, 91, 92, 93, 94, 95, 96, 97, 98, 99, 100, 101, 102, 103, 104, 105, 106, 107, 108, 109, 110, 111, 112, 113, 114, 115, 116, 117, 118, 119, 120, 121, 122, 123] (by decide +kernel) (by decide +kernel)
set_option maxRecDepth 20000 in
theorem gX12_sees_X12_passesBurst : GoodIn wsX12_sees (wsV RX12 225 RX12 yX12_passesBurst wsX12_passesBurst) := goodIn_app (goodIn_of _ (by decide +kernel)) ggX12_sees_X12_passesBurst
set_option maxRecDepth 20000 in
theorem ggX12_sees_X12_passesBytes : GoodIn wsX12_sees wsX12_passesBytes := goodIn_r _ [86, 57, 58, 59, 60, 87, 88, 89, 8, 90, 61, 62, 63, 64, 18, 19, 65, 66, 67, 68, 1, 69, 70, 71, 72, 73, 74, 75, 76, 77, 78, 91, 92, 93, 94, 95, 96, 97, 98, 99, 100, 101, 102, 103, 104, 105, 106, 107, 108, 109, 110, 111, 112, 113, 114, 115, 116, 117, 118, 119, 120, 121, 122, 123] (by decide +kernel) (by decide +kernel)
set_option maxRecDepth 20000 in
theorem gX12_sees_X12_passesBytes : GoodIn wsX12_sees (wsV RX12 228 RX12 yX12_passesBytes wsX12_passesBytes) := goodIn_app (goodIn_of _ (by decide +kernel)) ggX12_sees_X12_passesBytes
theorem dX12_sees_0 : decode cX12_sees 0 = .ok (.aload_n 0, 1) := by decide +kernel
theorem dX12_sees_1 : decode cX12_sees 1 = .ok (.iload_n 1, 1) := by decide +kernel
theorem dX12_sees_2 : decode cX12_sees 2 = .ok (.invokevirtual 119, 3) := by decide +kernel
theorem dX12_sees_5 : decode cX12_sees 5 = .ok (.ifCond .ne 6, 3) := by decide +kernel
theorem dX12_sees_8 : decode cX12_sees 8 = .ok (.bipush (-2), 2) := by decide +kernel
theorem dX12_sees_10 : decode cX12_sees 10 = .ok (.ireturn, 1) := by decide +kernel
theorem dX12_sees_11 : decode cX12_sees 11 = .ok (.aload_n 0, 1) := by decide +kernel
theorem dX12_sees_12 : decode cX12_sees 12 = .ok (.getfield 13, 3) := by decide +kernel
theorem dX12_sees_15 : decode cX12_sees 15 = .ok (.iload_n 1, 1) := by decide +kernel
theorem dX12_sees_16 : decode cX12_sees 16 = .ok (.iaload, 1) := by decide +kernel
theorem dX12_sees_17 : decode cX12_sees 17 = .ok (.bipush 6, 2) := by decide +kernel
theorem dX12_sees_19 : decode cX12_sees 19 = .ok (.if_icmp .ne 6, 3) := by decide +kernel
theorem dX12_sees_22 : decode cX12_sees 22 = .ok (.bipush (-4), 2) := by decide +kernel
theorem dX12_sees_24 : decode cX12_sees 24 = .ok (.ireturn, 1) := by decide +kernel
theorem dX12_sees_25 : decode cX12_sees 25 = .ok (.iload_n 2, 1) := by decide +kernel
theorem dX12_sees_26 : decode cX12_sees 26 = .ok (.i2l, 1) := by decide +kernel
theorem dX12_sees_27 : decode cX12_sees 27 = .ok (.lconst 0, 1) := by decide +kernel
theorem dX12_sees_28 : decode cX12_sees 28 = .ok (.ldc2_w 215, 3) := by decide +kernel
theorem dX12_sees_31 : decode cX12_sees 31 = .ok (.invokestatic 88, 3) := by decide +kernel
theorem dX12_sees_34 : decode cX12_sees 34 = .ok (.ifCond .eq 49, 3) := by decide +kernel
theorem dX12_sees_37 : decode cX12_sees 37 = .ok (.iload_n 2, 1) := by decide +kernel
theorem dX12_sees_38 : decode cX12_sees 38 = .ok (.ifCond .ne 15, 3) := by decide +kernel
theorem dX12_sees_41 : decode cX12_sees 41 = .ok (.iload_n 3, 1) := by decide +kernel
theorem dX12_sees_42 : decode cX12_sees 42 = .ok (.i2l, 1) := by decide +kernel
theorem dX12_sees_43 : decode cX12_sees 43 = .ok (.lconst 1, 1) := by decide +kernel
theorem dX12_sees_44 : decode cX12_sees 44 = .ok (.ldc2_w 115, 3) := by decide +kernel
theorem dX12_sees_47 : decode cX12_sees 47 = .ok (.invokestatic 88, 3) := by decide +kernel
theorem dX12_sees_50 : decode cX12_sees 50 = .ok (.ifCond .eq 33, 3) := by decide +kernel
theorem dX12_sees_53 : decode cX12_sees 53 = .ok (.iload_n 2, 1) := by decide +kernel
theorem dX12_sees_54 : decode cX12_sees 54 = .ok (.iconst 1, 1) := by decide +kernel
theorem dX12_sees_55 : decode cX12_sees 55 = .ok (.if_icmp .ne 15, 3) := by decide +kernel
theorem dX12_sees_58 : decode cX12_sees 58 = .ok (.iload_n 3, 1) := by decide +kernel
theorem dX12_sees_59 : decode cX12_sees 59 = .ok (.i2l, 1) := by decide +kernel
theorem dX12_sees_60 : decode cX12_sees 60 = .ok (.lconst 1, 1) := by decide +kernel
theorem dX12_sees_61 : decode cX12_sees 61 = .ok (.ldc2_w 111, 3) := by decide +kernel
theorem dX12_sees_64 : decode cX12_sees 64 = .ok (.invokestatic 88, 3) := by decide +kernel
theorem dX12_sees_67 : decode cX12_sees 67 = .ok (.ifCond .eq 16, 3) := by decide +kernel
theorem dX12_sees_70 : decode cX12_sees 70 = .ok (.iload 4, 2) := by decide +kernel
theorem dX12_sees_72 : decode cX12_sees 72 = .ok (.i2l, 1) := by decide +kernel
theorem dX12_sees_73 : decode cX12_sees 73 = .ok (.lconst 1, 1) := by decide +kernel
theorem dX12_sees_74 : decode cX12_sees 74 = .ok (.ldc2_w 111, 3) := by decide +kernel
theorem dX12_sees_77 : decode cX12_sees 77 = .ok (.invokestatic 88, 3) := by decide +kernel
theorem dX12_sees_80 : decode cX12_sees 80 = .ok (.ifCond .ne 6, 3) := by decide +kernel
theorem dX12_sees_83 : decode cX12_sees 83 = .ok (.bipush (-3), 2) := by decide +kernel
theorem dX12_sees_85 : decode cX12_sees 85 = .ok (.ireturn, 1) := by decide +kernel
theorem dX12_sees_86 : decode cX12_sees 86 = .ok (.aload_n 0, 1) := by decide +kernel
theorem dX12_sees_87 : decode cX12_sees 87 = .ok (.iload_n 1, 1) := by decide +kernel
theorem dX12_sees_88 : decode cX12_sees 88 = .ok (.iload 4, 2) := by decide +kernel
theorem dX12_sees_90 : decode cX12_sees 90 = .ok (.invokevirtual 217, 3) := by decide +kernel
theorem dX12_sees_93 : decode cX12_sees 93 = .ok (.iload_n 2, 1) := by decide +kernel
theorem dX12_sees_94 : decode cX12_sees 94 = .ok (.ifCond .ne 14, 3) := by decide +kernel
theorem dX12_sees_97 : decode cX12_sees 97 = .ok (.aload_n 0, 1) := by decide +kernel
theorem dX12_sees_98 : decode cX12_sees 98 = .ok (.iload_n 1, 1) := by decide +kernel
theorem dX12_sees_99 : decode cX12_sees 99 = .ok (.iload_n 3, 1) := by decide +kernel
theorem dX12_sees_100 : decode cX12_sees 100 = .ok (.iload 4, 2) := by decide +kernel
theorem dX12_sees_102 : decode cX12_sees 102 = .ok (.invokevirtual 221, 3) := by decide +kernel
theorem dX12_sees_105 : decode cX12_sees 105 = .ok (.goto 27, 3) := by decide +kernel
theorem dX12_sees_108 : decode cX12_sees 108 = .ok (.iload_n 2, 1) := by decide +kernel
theorem dX12_sees_109 : decode cX12_sees 109 = .ok (.iconst 1, 1) := by decide +kernel
theorem dX12_sees_110 : decode cX12_sees 110 = .ok (.if_icmp .ne 14, 3) := by decide +kernel
theorem dX12_sees_113 : decode cX12_sees 113 = .ok (.aload_n 0, 1) := by decide +kernel
theorem dX12_sees_114 : decode cX12_sees 114 = .ok (.iload_n 1, 1) := by decide +kernel
theorem dX12_sees_115 : decode cX12_sees 115 = .ok (.iload_n 3, 1) := by decide +kernel
theorem dX12_sees_116 : decode cX12_sees 116 = .ok (.iload 4, 2) := by decide +kernel
theorem dX12_sees_118 : decode cX12_sees 118 = .ok (.invokevirtual 225, 3) := by decide +kernel
theorem dX12_sees_121 : decode cX12_sees 121 = .ok (.goto 11, 3) := by decide +kernel
theorem dX12_sees_124 : decode cX12_sees 124 = .ok (.aload_n 0, 1) := by decide +kernel
theorem dX12_sees_125 : decode cX12_sees 125 = .ok (.iload_n 1, 1) := by decide +kernel
theorem dX12_sees_126 : decode cX12_sees 126 = .ok (.iload_n 2, 1) := by decide +kernel
theorem dX12_sees_127 : decode cX12_sees 127 = .ok (.iload 4, 2) := by decide +kernel
theorem dX12_sees_129 : decode cX12_sees 129 = .ok (.invokevirtual 228, 3) := by decide +kernel
theorem dX12_sees_132 : decode cX12_sees 132 = .ok (.istore 5, 2) := by decide +kernel
theorem dX12_sees_134 : decode cX12_sees 134 = .ok (.iload 5, 2) := by decide +kernel
theorem dX12_sees_136 : decode cX12_sees 136 = .ok (.ifCond .eq 7, 3) := by decide +kernel
theorem dX12_sees_139 : decode cX12_sees 139 = .ok (.iconst 0, 1) := by decide +kernel
theorem dX12_sees_140 : decode cX12_sees 140 = .ok (.goto 4, 3) := by decide +kernel
theorem dX12_sees_143 : decode cX12_sees 143 = .ok (.iconst 1, 1) := by decide +kernel
theorem dX12_sees_144 : decode cX12_sees 144 = .ok (.ireturn, 1) := by decide +kernel
set_option maxRecDepth 20000 in
theorem ggX12_passes_X12_in : GoodIn wsX12_passes wsX12_in := goodIn_r _ [7] (by decide +kernel) (by decide +kernel)
set_option maxRecDepth 20000 in
theorem gX12_passes_X12_in : GoodIn wsX12_passes (va_wsS RX12 88 yX12_in wsX12_in) := goodIn_app (goodIn_of _ (by decide +kernel)) ggX12_passes_X12_in
theorem dX12_passes_0 : decode cX12_passes 0 = .ok (.iload_n 1, 1) := by decide +kernel
theorem dX12_passes_1 : decode cX12_passes 1 = .ok (.i2l, 1) := by decide +kernel
theorem dX12_passes_2 : decode cX12_passes 2 = .ok (.lconst 0, 1) := by decide +kernel
theorem dX12_passes_3 : decode cX12_passes 3 = .ok (.aload_n 0, 1) := by decide +kernel
theorem dX12_passes_4 : decode cX12_passes 4 = .ok (.getfield 190, 3) := by decide +kernel
theorem dX12_passes_7 : decode cX12_passes 7 = .ok (.iconst 1, 1) := by decide +kernel
theorem dX12_passes_8 : decode cX12_passes 8 = .ok (.isub, 1) := by decide +kernel
theorem dX12_passes_9 : decode cX12_passes 9 = .ok (.i2l, 1) := by decide +kernel
theorem dX12_passes_10 : decode cX12_passes 10 = .ok (.invokestatic 88, 3) := by decide +kernel
theorem dX12_passes_13 : decode cX12_passes 13 = .ok (.ifCond .ne 8, 3) := by decide +kernel
theorem dX12_passes_16 : decode cX12_passes 16 = .ok (.bipush (-2), 2) := by decide +kernel
theorem dX12_passes_18 : decode cX12_passes 18 = .ok (.goto 22, 3) := by decide +kernel
theorem dX12_passes_21 : decode cX12_passes 21 = .ok (.iload_n 2, 1) := by decide +kernel
theorem dX12_passes_22 : decode cX12_passes 22 = .ok (.ifCond .eq 12, 3) := by decide +kernel
theorem dX12_passes_25 : decode cX12_passes 25 = .ok (.aload_n 0, 1) := by decide +kernel
theorem dX12_passes_26 : decode cX12_passes 26 = .ok (.getfield 54, 3) := by decide +kernel
theorem dX12_passes_29 : decode cX12_passes 29 = .ok (.iload_n 1, 1) := by decide +kernel
theorem dX12_passes_30 : decode cX12_passes 30 = .ok (.iaload, 1) := by decide +kernel
theorem dX12_passes_31 : decode cX12_passes 31 = .ok (.goto 9, 3) := by decide +kernel
theorem dX12_passes_34 : decode cX12_passes 34 = .ok (.aload_n 0, 1) := by decide +kernel
theorem dX12_passes_35 : decode cX12_passes 35 = .ok (.getfield 51, 3) := by decide +kernel
theorem dX12_passes_38 : decode cX12_passes 38 = .ok (.iload_n 1, 1) := by decide +kernel
theorem dX12_passes_39 : decode cX12_passes 39 = .ok (.iaload, 1) := by decide +kernel
theorem dX12_passes_40 : decode cX12_passes 40 = .ok (.ireturn, 1) := by decide +kernel
theorem dX12_cellOf_0 : decode cX12_cellOf 0 = .ok (.aload_n 0, 1) := by decide +kernel
theorem dX12_cellOf_1 : decode cX12_cellOf 1 = .ok (.getfield 45, 3) := by decide +kernel
theorem dX12_cellOf_4 : decode cX12_cellOf 4 = .ok (.bipush 100, 2) := by decide +kernel
theorem dX12_cellOf_6 : decode cX12_cellOf 6 = .ok (.iload_n 1, 1) := by decide +kernel
theorem dX12_cellOf_7 : decode cX12_cellOf 7 = .ok (.imul, 1) := by decide +kernel
theorem dX12_cellOf_8 : decode cX12_cellOf 8 = .ok (.iload_n 2, 1) := by decide +kernel
theorem dX12_cellOf_9 : decode cX12_cellOf 9 = .ok (.aload_n 0, 1) := by decide +kernel
theorem dX12_cellOf_10 : decode cX12_cellOf 10 = .ok (.getfield 16, 3) := by decide +kernel
theorem dX12_cellOf_13 : decode cX12_cellOf 13 = .ok (.iload_n 1, 1) := by decide +kernel
theorem dX12_cellOf_14 : decode cX12_cellOf 14 = .ok (.iaload, 1) := by decide +kernel
theorem dX12_cellOf_15 : decode cX12_cellOf 15 = .ok (.imul, 1) := by decide +kernel
theorem dX12_cellOf_16 : decode cX12_cellOf 16 = .ok (.iadd, 1) := by decide +kernel
theorem dX12_cellOf_17 : decode cX12_cellOf 17 = .ok (.iload_n 3, 1) := by decide +kernel
theorem dX12_cellOf_18 : decode cX12_cellOf 18 = .ok (.iadd, 1) := by decide +kernel
theorem dX12_cellOf_19 : decode cX12_cellOf 19 = .ok (.iaload, 1) := by decide +kernel
theorem dX12_cellOf_20 : decode cX12_cellOf 20 = .ok (.ireturn, 1) := by decide +kernel
set_option maxRecDepth 20000 in
theorem ggX12_signs_X12_isSum : GoodIn wsX12_signs wsX12_isSum := goodIn_r _ [8, 9, 10, 11, 7, 12, 18, 19, 20, 21, 22, 23, 24, 25, 26, 27, 28, 29, 30, 31, 32, 33, 34, 35, 36, 37, 38, 39, 40, 41, 42, 43, 44, 45, 46, 47, 48, 49, 50] (by decide +kernel) (by decide +kernel)
set_option maxRecDepth 20000 in
theorem gX12_signs_X12_isSum : GoodIn wsX12_signs (wsV RX12 119 RX12 yX12_isSum wsX12_isSum) := goodIn_app (goodIn_of _ (by decide +kernel)) ggX12_signs_X12_isSum
set_option maxRecDepth 20000 in
theorem ggX12_signs_X12_in : GoodIn wsX12_signs wsX12_in := goodIn_r _ [12] (by decide +kernel) (by decide +kernel)
set_option maxRecDepth 20000 in
theorem gX12_signs_X12_in : GoodIn wsX12_signs (va_wsS RX12 88 yX12_in wsX12_in) := goodIn_app (goodIn_of _ (by decide +kernel)) ggX12_signs_X12_in
set_option maxRecDepth 20000 in
theorem ggX12_signs_X12_cellOf : GoodIn wsX12_signs wsX12_cellOf := goodIn_r _ [16, 17, 3, 18, 19, 20, 21, 22, 23, 24, 25, 26, 27, 28, 29, 30, 31, 32, 33, 34, 35, 36, 37, 38, 39, 40, 41, 42, 43, 44, 45, 46, 47, 48, 49, 50] (by decide +kernel) (by decide +kernel)
set_option maxRecDepth 20000 in
theorem gX12_signs_X12_cellOf : GoodIn wsX12_signs (wsV RX12 231 RX12 yX12_cellOf wsX12_cellOf) := goodIn_app (goodIn_of _ (by decide +kernel)) ggX12_signs_X12_cellOf
theorem dX12_signs_0 : decode cX12_signs 0 = .ok (.aload_n 0, 1) := by decide +kernel
theorem dX12_signs_1 : decode cX12_signs 1 = .ok (.iload_n 1, 1) := by decide +kernel
theorem dX12_signs_2 : decode cX12_signs 2 = .ok (.invokevirtual 119, 3) := by decide +kernel
theorem dX12_signs_5 : decode cX12_signs 5 = .ok (.ifCond .ne 6, 3) := by decide +kernel
theorem dX12_signs_8 : decode cX12_signs 8 = .ok (.bipush (-2), 2) := by decide +kernel
theorem dX12_signs_10 : decode cX12_signs 10 = .ok (.ireturn, 1) := by decide +kernel
theorem dX12_signs_11 : decode cX12_signs 11 = .ok (.aload_n 0, 1) := by decide +kernel
theorem dX12_signs_12 : decode cX12_signs 12 = .ok (.getfield 13, 3) := by decide +kernel
theorem dX12_signs_15 : decode cX12_signs 15 = .ok (.iload_n 1, 1) := by decide +kernel
theorem dX12_signs_16 : decode cX12_signs 16 = .ok (.iaload, 1) := by decide +kernel
theorem dX12_signs_17 : decode cX12_signs 17 = .ok (.bipush 6, 2) := by decide +kernel
theorem dX12_signs_19 : decode cX12_signs 19 = .ok (.if_icmp .eq 6, 3) := by decide +kernel
theorem dX12_signs_22 : decode cX12_signs 22 = .ok (.bipush (-4), 2) := by decide +kernel
theorem dX12_signs_24 : decode cX12_signs 24 = .ok (.ireturn, 1) := by decide +kernel
theorem dX12_signs_25 : decode cX12_signs 25 = .ok (.iload_n 2, 1) := by decide +kernel
theorem dX12_signs_26 : decode cX12_signs 26 = .ok (.i2l, 1) := by decide +kernel
theorem dX12_signs_27 : decode cX12_signs 27 = .ok (.lconst 0, 1) := by decide +kernel
theorem dX12_signs_28 : decode cX12_signs 28 = .ok (.ldc2_w 97, 3) := by decide +kernel
theorem dX12_signs_31 : decode cX12_signs 31 = .ok (.invokestatic 88, 3) := by decide +kernel
theorem dX12_signs_34 : decode cX12_signs 34 = .ok (.ifCond .ne 6, 3) := by decide +kernel
theorem dX12_signs_37 : decode cX12_signs 37 = .ok (.bipush (-3), 2) := by decide +kernel
theorem dX12_signs_39 : decode cX12_signs 39 = .ok (.ireturn, 1) := by decide +kernel
theorem dX12_signs_40 : decode cX12_signs 40 = .ok (.aload_n 0, 1) := by decide +kernel
theorem dX12_signs_41 : decode cX12_signs 41 = .ok (.getfield 16, 3) := by decide +kernel
theorem dX12_signs_44 : decode cX12_signs 44 = .ok (.iload_n 1, 1) := by decide +kernel
theorem dX12_signs_45 : decode cX12_signs 45 = .ok (.iaload, 1) := by decide +kernel
theorem dX12_signs_46 : decode cX12_signs 46 = .ok (.istore_n 3, 1) := by decide +kernel
theorem dX12_signs_47 : decode cX12_signs 47 = .ok (.iconst 0, 1) := by decide +kernel
theorem dX12_signs_48 : decode cX12_signs 48 = .ok (.istore 4, 2) := by decide +kernel
theorem dX12_signs_50 : decode cX12_signs 50 = .ok (.iload 4, 2) := by decide +kernel
theorem dX12_signs_52 : decode cX12_signs 52 = .ok (.iload_n 3, 1) := by decide +kernel
theorem dX12_signs_53 : decode cX12_signs 53 = .ok (.if_icmp .ge 201, 3) := by decide +kernel
theorem dX12_signs_56 : decode cX12_signs 56 = .ok (.iconst 0, 1) := by decide +kernel
theorem dX12_signs_57 : decode cX12_signs 57 = .ok (.istore 5, 2) := by decide +kernel
theorem dX12_signs_59 : decode cX12_signs 59 = .ok (.iload 5, 2) := by decide +kernel
theorem dX12_signs_61 : decode cX12_signs 61 = .ok (.iload_n 3, 1) := by decide +kernel
theorem dX12_signs_62 : decode cX12_signs 62 = .ok (.if_icmp .ge 186, 3) := by decide +kernel
theorem dX12_signs_65 : decode cX12_signs 65 = .ok (.iconst 0, 1) := by decide +kernel
theorem dX12_signs_66 : decode cX12_signs 66 = .ok (.istore 6, 2) := by decide +kernel
theorem dX12_signs_68 : decode cX12_signs 68 = .ok (.iload 6, 2) := by decide +kernel
theorem dX12_signs_70 : decode cX12_signs 70 = .ok (.iload_n 3, 1) := by decide +kernel
theorem dX12_signs_71 : decode cX12_signs 71 = .ok (.if_icmp .ge 171, 3) := by decide +kernel
theorem dX12_signs_74 : decode cX12_signs 74 = .ok (.iload_n 2, 1) := by decide +kernel
theorem dX12_signs_75 : decode cX12_signs 75 = .ok (.ifCond .ne 55, 3) := by decide +kernel
theorem dX12_signs_78 : decode cX12_signs 78 = .ok (.aload_n 0, 1) := by decide +kernel
theorem dX12_signs_79 : decode cX12_signs 79 = .ok (.iload_n 1, 1) := by decide +kernel
theorem dX12_signs_80 : decode cX12_signs 80 = .ok (.iload 4, 2) := by decide +kernel
theorem dX12_signs_82 : decode cX12_signs 82 = .ok (.iload 5, 2) := by decide +kernel
theorem dX12_signs_84 : decode cX12_signs 84 = .ok (.invokevirtual 231, 3) := by decide +kernel
theorem dX12_signs_87 : decode cX12_signs 87 = .ok (.aload_n 0, 1) := by decide +kernel
theorem dX12_signs_88 : decode cX12_signs 88 = .ok (.iload_n 1, 1) := by decide +kernel
theorem dX12_signs_89 : decode cX12_signs 89 = .ok (.iload 4, 2) := by decide +kernel
theorem dX12_signs_91 : decode cX12_signs 91 = .ok (.iload 6, 2) := by decide +kernel
theorem dX12_signs_93 : decode cX12_signs 93 = .ok (.invokevirtual 231, 3) := by decide +kernel
theorem dX12_signs_96 : decode cX12_signs 96 = .ok (.if_icmp .eq 24, 3) := by decide +kernel
theorem dX12_signs_99 : decode cX12_signs 99 = .ok (.aload_n 0, 1) := by decide +kernel
theorem dX12_signs_100 : decode cX12_signs 100 = .ok (.iload_n 1, 1) := by decide +kernel
theorem dX12_signs_101 : decode cX12_signs 101 = .ok (.iload 5, 2) := by decide +kernel
theorem dX12_signs_103 : decode cX12_signs 103 = .ok (.iload 4, 2) := by decide +kernel
theorem dX12_signs_105 : decode cX12_signs 105 = .ok (.invokevirtual 231, 3) := by decide +kernel
theorem dX12_signs_108 : decode cX12_signs 108 = .ok (.aload_n 0, 1) := by decide +kernel
theorem dX12_signs_109 : decode cX12_signs 109 = .ok (.iload_n 1, 1) := by decide +kernel
theorem dX12_signs_110 : decode cX12_signs 110 = .ok (.iload 6, 2) := by decide +kernel
theorem dX12_signs_112 : decode cX12_signs 112 = .ok (.iload 4, 2) := by decide +kernel
theorem dX12_signs_114 : decode cX12_signs 114 = .ok (.invokevirtual 231, 3) := by decide +kernel
theorem dX12_signs_117 : decode cX12_signs 117 = .ok (.if_icmp .ne 7, 3) := by decide +kernel
theorem dX12_signs_120 : decode cX12_signs 120 = .ok (.iconst 1, 1) := by decide +kernel
theorem dX12_signs_121 : decode cX12_signs 121 = .ok (.goto 4, 3) := by decide +kernel
theorem dX12_signs_124 : decode cX12_signs 124 = .ok (.iconst 0, 1) := by decide +kernel
theorem dX12_signs_125 : decode cX12_signs 125 = .ok (.istore 7, 2) := by decide +kernel
theorem dX12_signs_127 : decode cX12_signs 127 = .ok (.goto 95, 3) := by decide +kernel
theorem dX12_signs_130 : decode cX12_signs 130 = .ok (.iload_n 2, 1) := by decide +kernel
theorem dX12_signs_131 : decode cX12_signs 131 = .ok (.iconst 1, 1) := by decide +kernel
theorem dX12_signs_132 : decode cX12_signs 132 = .ok (.if_icmp .ne 48, 3) := by decide +kernel
theorem dX12_signs_135 : decode cX12_signs 135 = .ok (.aload_n 0, 1) := by decide +kernel
theorem dX12_signs_136 : decode cX12_signs 136 = .ok (.iload_n 1, 1) := by decide +kernel
theorem dX12_signs_137 : decode cX12_signs 137 = .ok (.aload_n 0, 1) := by decide +kernel
theorem dX12_signs_138 : decode cX12_signs 138 = .ok (.iload_n 1, 1) := by decide +kernel
theorem dX12_signs_139 : decode cX12_signs 139 = .ok (.iload 4, 2) := by decide +kernel
theorem dX12_signs_141 : decode cX12_signs 141 = .ok (.iload 5, 2) := by decide +kernel
theorem dX12_signs_143 : decode cX12_signs 143 = .ok (.invokevirtual 231, 3) := by decide +kernel
theorem dX12_signs_146 : decode cX12_signs 146 = .ok (.iload 6, 2) := by decide +kernel
theorem dX12_signs_148 : decode cX12_signs 148 = .ok (.invokevirtual 231, 3) := by decide +kernel
theorem dX12_signs_151 : decode cX12_signs 151 = .ok (.aload_n 0, 1) := by decide +kernel
theorem dX12_signs_152 : decode cX12_signs 152 = .ok (.iload_n 1, 1) := by decide +kernel
theorem dX12_signs_153 : decode cX12_signs 153 = .ok (.aload_n 0, 1) := by decide +kernel
theorem dX12_signs_154 : decode cX12_signs 154 = .ok (.iload_n 1, 1) := by decide +kernel
theorem dX12_signs_155 : decode cX12_signs 155 = .ok (.iload 4, 2) := by decide +kernel
theorem dX12_signs_157 : decode cX12_signs 157 = .ok (.iload 6, 2) := by decide +kernel
theorem dX12_signs_159 : decode cX12_signs 159 = .ok (.invokevirtual 231, 3) := by decide +kernel
theorem dX12_signs_162 : decode cX12_signs 162 = .ok (.iload 5, 2) := by decide +kernel
theorem dX12_signs_164 : decode cX12_signs 164 = .ok (.invokevirtual 231, 3) := by decide +kernel
theorem dX12_signs_167 : decode cX12_signs 167 = .ok (.if_icmp .ne 7, 3) := by decide +kernel
theorem dX12_signs_170 : decode cX12_signs 170 = .ok (.iconst 1, 1) := by decide +kernel
theorem dX12_signs_171 : decode cX12_signs 171 = .ok (.goto 4, 3) := by decide +kernel
theorem dX12_signs_174 : decode cX12_signs 174 = .ok (.iconst 0, 1) := by decide +kernel
theorem dX12_signs_175 : decode cX12_signs 175 = .ok (.istore 7, 2) := by decide +kernel
theorem dX12_signs_177 : decode cX12_signs 177 = .ok (.goto 45, 3) := by decide +kernel
theorem dX12_signs_180 : decode cX12_signs 180 = .ok (.aload_n 0, 1) := by decide +kernel
theorem dX12_signs_181 : decode cX12_signs 181 = .ok (.iload_n 1, 1) := by decide +kernel
theorem dX12_signs_182 : decode cX12_signs 182 = .ok (.aload_n 0, 1) := by decide +kernel
theorem dX12_signs_183 : decode cX12_signs 183 = .ok (.iload_n 1, 1) := by decide +kernel
theorem dX12_signs_184 : decode cX12_signs 184 = .ok (.iload 4, 2) := by decide +kernel
theorem dX12_signs_186 : decode cX12_signs 186 = .ok (.iload 5, 2) := by decide +kernel
theorem dX12_signs_188 : decode cX12_signs 188 = .ok (.invokevirtual 231, 3) := by decide +kernel
theorem dX12_signs_191 : decode cX12_signs 191 = .ok (.iload 5, 2) := by decide +kernel
theorem dX12_signs_193 : decode cX12_signs 193 = .ok (.invokevirtual 231, 3) := by decide +kernel
theorem dX12_signs_196 : decode cX12_signs 196 = .ok (.aload_n 0, 1) := by decide +kernel
theorem dX12_signs_197 : decode cX12_signs 197 = .ok (.iload_n 1, 1) := by decide +kernel
theorem dX12_signs_198 : decode cX12_signs 198 = .ok (.aload_n 0, 1) := by decide +kernel
theorem dX12_signs_199 : decode cX12_signs 199 = .ok (.iload_n 1, 1) := by decide +kernel
theorem dX12_signs_200 : decode cX12_signs 200 = .ok (.iload 4, 2) := by decide +kernel
theorem dX12_signs_202 : decode cX12_signs 202 = .ok (.iload 6, 2) := by decide +kernel
theorem dX12_signs_204 : decode cX12_signs 204 = .ok (.invokevirtual 231, 3) := by decide +kernel
theorem dX12_signs_207 : decode cX12_signs 207 = .ok (.iload 6, 2) := by decide +kernel
theorem dX12_signs_209 : decode cX12_signs 209 = .ok (.invokevirtual 231, 3) := by decide +kernel
theorem dX12_signs_212 : decode cX12_signs 212 = .ok (.if_icmp .ne 7, 3) := by decide +kernel
theorem dX12_signs_215 : decode cX12_signs 215 = .ok (.iconst 1, 1) := by decide +kernel
theorem dX12_signs_216 : decode cX12_signs 216 = .ok (.goto 4, 3) := by decide +kernel
theorem dX12_signs_219 : decode cX12_signs 219 = .ok (.iconst 0, 1) := by decide +kernel
theorem dX12_signs_220 : decode cX12_signs 220 = .ok (.istore 7, 2) := by decide +kernel
theorem dX12_signs_222 : decode cX12_signs 222 = .ok (.iload 5, 2) := by decide +kernel
theorem dX12_signs_224 : decode cX12_signs 224 = .ok (.iload 6, 2) := by decide +kernel
theorem dX12_signs_226 : decode cX12_signs 226 = .ok (.if_icmp .eq 10, 3) := by decide +kernel
theorem dX12_signs_229 : decode cX12_signs 229 = .ok (.iload 7, 2) := by decide +kernel
theorem dX12_signs_231 : decode cX12_signs 231 = .ok (.ifCond .eq 5, 3) := by decide +kernel
theorem dX12_signs_234 : decode cX12_signs 234 = .ok (.iconst 0, 1) := by decide +kernel
theorem dX12_signs_235 : decode cX12_signs 235 = .ok (.ireturn, 1) := by decide +kernel
theorem dX12_signs_236 : decode cX12_signs 236 = .ok (.iinc 6 1, 3) := by decide +kernel
theorem dX12_signs_239 : decode cX12_signs 239 = .ok (.goto (-171), 3) := by decide +kernel
theorem dX12_signs_242 : decode cX12_signs 242 = .ok (.iinc 5 1, 3) := by decide +kernel
theorem dX12_signs_245 : decode cX12_signs 245 = .ok (.goto (-186), 3) := by decide +kernel
theorem dX12_signs_248 : decode cX12_signs 248 = .ok (.iinc 4 1, 3) := by decide +kernel
theorem dX12_signs_251 : decode cX12_signs 251 = .ok (.goto (-201), 3) := by decide +kernel
theorem dX12_signs_254 : decode cX12_signs 254 = .ok (.iconst 1, 1) := by decide +kernel
theorem dX12_signs_255 : decode cX12_signs 255 = .ok (.ireturn, 1) := by decide +kernel
set_option maxRecDepth 20000 in
theorem ggX12_against_X12_isSum : GoodIn wsX12_against wsX12_isSum := goodIn_r _ [6, 7, 8, 9, 5, 10, 11, 12, 13, 14, 15, 16, 17, 18, 19, 20, 21, 22, 23, 24, 25, 26, 27, 28, 29, 30, 31, 32, 33, 34, 35, 36, 37, 38, 39, 40, 41, 42, 43] (by decide +kernel) (by decide +kernel)
set_option maxRecDepth 20000 in
theorem gX12_against_X12_isSum : GoodIn wsX12_against (wsV RX12 119 RX12 yX12_isSum wsX12_isSum) := goodIn_app (goodIn_of _ (by decide +kernel)) ggX12_against_X12_isSum
theorem dX12_against_0 : decode cX12_against 0 = .ok (.aload_n 0, 1) := by decide +kernel
theorem dX12_against_1 : decode cX12_against 1 = .ok (.iload_n 1, 1) := by decide +kernel
theorem dX12_against_2 : decode cX12_against 2 = .ok (.invokevirtual 119, 3) := by decide +kernel
theorem dX12_against_5 : decode cX12_against 5 = .ok (.ifCond .ne 8, 3) := by decide +kernel
theorem dX12_against_8 : decode cX12_against 8 = .ok (.bipush (-2), 2) := by decide +kernel
theorem dX12_against_10 : decode cX12_against 10 = .ok (.goto 29, 3) := by decide +kernel
theorem dX12_against_13 : decode cX12_against 13 = .ok (.aload_n 0, 1) := by decide +kernel
theorem dX12_against_14 : decode cX12_against 14 = .ok (.getfield 13, 3) := by decide +kernel
theorem dX12_against_17 : decode cX12_against 17 = .ok (.iload_n 1, 1) := by decide +kernel
theorem dX12_against_18 : decode cX12_against 18 = .ok (.iaload, 1) := by decide +kernel
theorem dX12_against_19 : decode cX12_against 19 = .ok (.iconst 4, 1) := by decide +kernel
theorem dX12_against_20 : decode cX12_against 20 = .ok (.if_icmp .eq 18, 3) := by decide +kernel
theorem dX12_against_23 : decode cX12_against 23 = .ok (.aload_n 0, 1) := by decide +kernel
theorem dX12_against_24 : decode cX12_against 24 = .ok (.getfield 13, 3) := by decide +kernel
theorem dX12_against_27 : decode cX12_against 27 = .ok (.iload_n 1, 1) := by decide +kernel
theorem dX12_against_28 : decode cX12_against 28 = .ok (.iaload, 1) := by decide +kernel
theorem dX12_against_29 : decode cX12_against 29 = .ok (.iconst 5, 1) := by decide +kernel
theorem dX12_against_30 : decode cX12_against 30 = .ok (.if_icmp .eq 8, 3) := by decide +kernel
theorem dX12_against_33 : decode cX12_against 33 = .ok (.bipush (-4), 2) := by decide +kernel
theorem dX12_against_35 : decode cX12_against 35 = .ok (.goto 4, 3) := by decide +kernel
theorem dX12_against_38 : decode cX12_against 38 = .ok (.iconst 0, 1) := by decide +kernel
theorem dX12_against_39 : decode cX12_against 39 = .ok (.ireturn, 1) := by decide +kernel
set_option maxRecDepth 20000 in
theorem ggX12_syndromeOf_X12_stepByte : GoodIn wsX12_syndromeOf wsX12_stepByte := goodIn_r _ [7, 8, 9, 6, 10] (by decide +kernel) (by decide +kernel)
set_option maxRecDepth 20000 in
theorem gX12_syndromeOf_X12_stepByte : GoodIn wsX12_syndromeOf (va_wsS RX12 138 yX12_stepByte wsX12_stepByte) := goodIn_app (goodIn_of _ (by decide +kernel)) ggX12_syndromeOf_X12_stepByte
set_option maxRecDepth 20000 in
theorem ggX12_syndromeOf_X12_passed : GoodIn wsX12_syndromeOf wsX12_passed := goodIn_r _ [14, 1, 2, 8, 9, 6, 10, 15, 16, 17, 18, 19, 20, 21, 22, 23, 24, 25, 26, 27, 28, 29, 30, 31, 32, 33, 34, 35, 36, 37, 38, 39, 40, 41, 42, 43, 44, 45, 46, 47] (by decide +kernel) (by decide +kernel)
set_option maxRecDepth 20000 in
theorem gX12_syndromeOf_X12_passed : GoodIn wsX12_syndromeOf (wsV RX12 162 RX12 yX12_passed wsX12_passed) := goodIn_app (goodIn_of _ (by decide +kernel)) ggX12_syndromeOf_X12_passed
theorem dX12_syndromeOf_0 : decode cX12_syndromeOf 0 = .ok (.aload_n 0, 1) := by decide +kernel
theorem dX12_syndromeOf_1 : decode cX12_syndromeOf 1 = .ok (.iload_n 1, 1) := by decide +kernel
theorem dX12_syndromeOf_2 : decode cX12_syndromeOf 2 = .ok (.lconst 0, 1) := by decide +kernel
theorem dX12_syndromeOf_3 : decode cX12_syndromeOf 3 = .ok (.sipush 128, 3) := by decide +kernel
theorem dX12_syndromeOf_6 : decode cX12_syndromeOf 6 = .ok (.iload_n 2, 1) := by decide +kernel
theorem dX12_syndromeOf_7 : decode cX12_syndromeOf 7 = .ok (.bipush 8, 2) := by decide +kernel
theorem dX12_syndromeOf_9 : decode cX12_syndromeOf 9 = .ok (.irem, 1) := by decide +kernel
theorem dX12_syndromeOf_10 : decode cX12_syndromeOf 10 = .ok (.ishr, 1) := by decide +kernel
theorem dX12_syndromeOf_11 : decode cX12_syndromeOf 11 = .ok (.aload_n 0, 1) := by decide +kernel
theorem dX12_syndromeOf_12 : decode cX12_syndromeOf 12 = .ok (.getfield 19, 3) := by decide +kernel
theorem dX12_syndromeOf_15 : decode cX12_syndromeOf 15 = .ok (.iload_n 1, 1) := by decide +kernel
theorem dX12_syndromeOf_16 : decode cX12_syndromeOf 16 = .ok (.iaload, 1) := by decide +kernel
theorem dX12_syndromeOf_17 : decode cX12_syndromeOf 17 = .ok (.aload_n 0, 1) := by decide +kernel
theorem dX12_syndromeOf_18 : decode cX12_syndromeOf 18 = .ok (.getfield 25, 3) := by decide +kernel
theorem dX12_syndromeOf_21 : decode cX12_syndromeOf 21 = .ok (.iload_n 1, 1) := by decide +kernel
theorem dX12_syndromeOf_22 : decode cX12_syndromeOf 22 = .ok (.laload, 1) := by decide +kernel
theorem dX12_syndromeOf_23 : decode cX12_syndromeOf 23 = .ok (.aload_n 0, 1) := by decide +kernel
theorem dX12_syndromeOf_24 : decode cX12_syndromeOf 24 = .ok (.getfield 35, 3) := by decide +kernel
theorem dX12_syndromeOf_27 : decode cX12_syndromeOf 27 = .ok (.iload_n 1, 1) := by decide +kernel
theorem dX12_syndromeOf_28 : decode cX12_syndromeOf 28 = .ok (.baload, 1) := by decide +kernel
theorem dX12_syndromeOf_29 : decode cX12_syndromeOf 29 = .ok (.invokestatic 138, 3) := by decide +kernel
theorem dX12_syndromeOf_32 : decode cX12_syndromeOf 32 = .ok (.iload_n 3, 1) := by decide +kernel
theorem dX12_syndromeOf_33 : decode cX12_syndromeOf 33 = .ok (.iconst 1, 1) := by decide +kernel
theorem dX12_syndromeOf_34 : decode cX12_syndromeOf 34 = .ok (.isub, 1) := by decide +kernel
theorem dX12_syndromeOf_35 : decode cX12_syndromeOf 35 = .ok (.iload_n 2, 1) := by decide +kernel
theorem dX12_syndromeOf_36 : decode cX12_syndromeOf 36 = .ok (.bipush 8, 2) := by decide +kernel
theorem dX12_syndromeOf_38 : decode cX12_syndromeOf 38 = .ok (.idiv, 1) := by decide +kernel
theorem dX12_syndromeOf_39 : decode cX12_syndromeOf 39 = .ok (.isub, 1) := by decide +kernel
theorem dX12_syndromeOf_40 : decode cX12_syndromeOf 40 = .ok (.invokevirtual 162, 3) := by decide +kernel
theorem dX12_syndromeOf_43 : decode cX12_syndromeOf 43 = .ok (.lreturn, 1) := by decide +kernel
set_option maxRecDepth 20000 in
theorem ggX12_syndrome_X12_against : GoodIn wsX12_syndrome wsX12_against := goodIn_r _ [7, 8, 9, 10, 11, 6, 12, 13, 14, 15, 16, 34, 35, 36, 37, 38, 39, 40, 41, 42, 43, 44, 45, 46, 47, 48, 49, 50, 51, 52, 53, 54, 55, 56, 57, 58, 59, 60, 61, 62, 63, 64, 65, 66] (by decide +kernel) (by decide +kernel)
set_option maxRecDepth 20000 in
theorem gX12_syndrome_X12_against : GoodIn wsX12_syndrome (wsV RX12 235 RX12 yX12_against wsX12_against) := goodIn_app (goodIn_of _ (by decide +kernel)) ggX12_syndrome_X12_against
set_option maxRecDepth 20000 in
theorem ggX12_syndrome_X12_in : GoodIn wsX12_syndrome wsX12_in := goodIn_r _ [16] (by decide +kernel) (by decide +kernel)
set_option maxRecDepth 20000 in
theorem gX12_syndrome_X12_in : GoodIn wsX12_syndrome (va_wsS RX12 88 yX12_in wsX12_in) := goodIn_app (goodIn_of _ (by decide +kernel)) ggX12_syndrome_X12_in
set_option maxRecDepth 20000 in
theorem ggX12_syndrome_X12_syndromeOf : GoodIn wsX12_syndrome wsX12_syndromeOf := goodIn_r _ [20, 21, 22, 23, 24, 25, 6, 26, 27, 28, 29, 30, 31, 32, 33, 34, 35, 36, 37, 38, 39, 40, 41, 42, 43, 44, 45, 46, 47, 48, 49, 50, 51, 52, 53, 54, 55, 56, 57, 58, 59, 60, 61, 62, 63, 64, 65, 66] (by decide +kernel) (by decide +kernel)
set_option maxRecDepth 20000 in
theorem gX12_syndrome_X12_syndromeOf : GoodIn wsX12_syndrome (wsV RX12 240 RX12 yX12_syndromeOf wsX12_syndromeOf) := goodIn_app (goodIn_of _ (by decide +kernel)) ggX12_syndrome_X12_syndromeOf
theorem dX12_syndrome_0 : decode cX12_syndrome 0 = .ok (.aload_n 0, 1) := by decide +kernel
theorem dX12_syndrome_1 : decode cX12_syndrome 1 = .ok (.iload_n 1, 1) := by decide +kernel
theorem dX12_syndrome_2 : decode cX12_syndrome 2 = .ok (.invokevirtual 235, 3) := by decide +kernel
theorem dX12_syndrome_5 : decode cX12_syndrome 5 = .ok (.istore 4, 2) := by decide +kernel
theorem dX12_syndrome_7 : decode cX12_syndrome 7 = .ok (.iload 4, 2) := by decide +kernel
theorem dX12_syndrome_9 : decode cX12_syndrome 9 = .ok (.ifCond .eq 7, 3) := by decide +kernel
theorem dX12_syndrome_12 : decode cX12_syndrome 12 = .ok (.iload 4, 2) := by decide +kernel
theorem dX12_syndrome_14 : decode cX12_syndrome 14 = .ok (.i2l, 1) := by decide +kernel
theorem dX12_syndrome_15 : decode cX12_syndrome 15 = .ok (.lreturn, 1) := by decide +kernel
theorem dX12_syndrome_16 : decode cX12_syndrome 16 = .ok (.iload_n 3, 1) := by decide +kernel
theorem dX12_syndrome_17 : decode cX12_syndrome 17 = .ok (.i2l, 1) := by decide +kernel
theorem dX12_syndrome_18 : decode cX12_syndrome 18 = .ok (.lconst 1, 1) := by decide +kernel
theorem dX12_syndrome_19 : decode cX12_syndrome 19 = .ok (.ldc2_w 238, 3) := by decide +kernel
theorem dX12_syndrome_22 : decode cX12_syndrome 22 = .ok (.invokestatic 88, 3) := by decide +kernel
theorem dX12_syndrome_25 : decode cX12_syndrome 25 = .ok (.ifCond .eq 19, 3) := by decide +kernel
theorem dX12_syndrome_28 : decode cX12_syndrome 28 = .ok (.iload_n 2, 1) := by decide +kernel
theorem dX12_syndrome_29 : decode cX12_syndrome 29 = .ok (.i2l, 1) := by decide +kernel
theorem dX12_syndrome_30 : decode cX12_syndrome 30 = .ok (.lconst 0, 1) := by decide +kernel
theorem dX12_syndrome_31 : decode cX12_syndrome 31 = .ok (.bipush 8, 2) := by decide +kernel
theorem dX12_syndrome_33 : decode cX12_syndrome 33 = .ok (.iload_n 3, 1) := by decide +kernel
theorem dX12_syndrome_34 : decode cX12_syndrome 34 = .ok (.imul, 1) := by decide +kernel
theorem dX12_syndrome_35 : decode cX12_syndrome 35 = .ok (.iconst 1, 1) := by decide +kernel
theorem dX12_syndrome_36 : decode cX12_syndrome 36 = .ok (.isub, 1) := by decide +kernel
theorem dX12_syndrome_37 : decode cX12_syndrome 37 = .ok (.i2l, 1) := by decide +kernel
theorem dX12_syndrome_38 : decode cX12_syndrome 38 = .ok (.invokestatic 88, 3) := by decide +kernel
theorem dX12_syndrome_41 : decode cX12_syndrome 41 = .ok (.ifCond .ne 7, 3) := by decide +kernel
theorem dX12_syndrome_44 : decode cX12_syndrome 44 = .ok (.ldc2_w 160, 3) := by decide +kernel
theorem dX12_syndrome_47 : decode cX12_syndrome 47 = .ok (.lreturn, 1) := by decide +kernel
theorem dX12_syndrome_48 : decode cX12_syndrome 48 = .ok (.aload_n 0, 1) := by decide +kernel
theorem dX12_syndrome_49 : decode cX12_syndrome 49 = .ok (.iload_n 1, 1) := by decide +kernel
theorem dX12_syndrome_50 : decode cX12_syndrome 50 = .ok (.iload_n 2, 1) := by decide +kernel
theorem dX12_syndrome_51 : decode cX12_syndrome 51 = .ok (.iload_n 3, 1) := by decide +kernel
theorem dX12_syndrome_52 : decode cX12_syndrome 52 = .ok (.invokevirtual 240, 3) := by decide +kernel
theorem dX12_syndrome_55 : decode cX12_syndrome 55 = .ok (.lreturn, 1) := by decide +kernel
set_option maxRecDepth 20000 in
theorem ggX12_findSyndromes_X12_syndromeOf : GoodIn wsX12_findSyndromes wsX12_syndromeOf := goodIn_r _ [6, 7, 8, 9, 10, 11, 5, 12, 13, 14, 15, 16, 17, 18, 19, 20, 21, 22, 23, 24, 25, 26, 27, 28, 29, 30, 31, 32, 33, 34, 35, 36, 37, 38, 39, 40, 41, 42, 43, 44, 45, 46, 47, 48, 49, 50, 51, 52] (by decide +kernel) (by decide +kernel)
set_option maxRecDepth 20000 in
theorem gX12_findSyndromes_X12_syndromeOf : GoodIn wsX12_findSyndromes (wsV RX12 240 RX12 yX12_syndromeOf wsX12_syndromeOf) := goodIn_app (goodIn_of _ (by decide +kernel)) ggX12_findSyndromes_X12_syndromeOf
theorem dX12_findSyndromes_0 : decode cX12_findSyndromes 0 = .ok (.iconst 0, 1) := by decide +kernel
theorem dX12_findSyndromes_1 : decode cX12_findSyndromes 1 = .ok (.istore_n 3, 1) := by decide +kernel
theorem dX12_findSyndromes_2 : decode cX12_findSyndromes 2 = .ok (.iload_n 3, 1) := by decide +kernel
theorem dX12_findSyndromes_3 : decode cX12_findSyndromes 3 = .ok (.bipush 8, 2) := by decide +kernel
theorem dX12_findSyndromes_5 : decode cX12_findSyndromes 5 = .ok (.iload_n 2, 1) := by decide +kernel
theorem dX12_findSyndromes_6 : decode cX12_findSyndromes 6 = .ok (.imul, 1) := by decide +kernel
theorem dX12_findSyndromes_7 : decode cX12_findSyndromes 7 = .ok (.if_icmp .ge 22, 3) := by decide +kernel
theorem dX12_findSyndromes_10 : decode cX12_findSyndromes 10 = .ok (.aload_n 0, 1) := by decide +kernel
theorem dX12_findSyndromes_11 : decode cX12_findSyndromes 11 = .ok (.getfield 66, 3) := by decide +kernel
theorem dX12_findSyndromes_14 : decode cX12_findSyndromes 14 = .ok (.iload_n 3, 1) := by decide +kernel
theorem dX12_findSyndromes_15 : decode cX12_findSyndromes 15 = .ok (.aload_n 0, 1) := by decide +kernel
theorem dX12_findSyndromes_16 : decode cX12_findSyndromes 16 = .ok (.iload_n 1, 1) := by decide +kernel
theorem dX12_findSyndromes_17 : decode cX12_findSyndromes 17 = .ok (.iload_n 3, 1) := by decide +kernel
theorem dX12_findSyndromes_18 : decode cX12_findSyndromes 18 = .ok (.iload_n 2, 1) := by decide +kernel
theorem dX12_findSyndromes_19 : decode cX12_findSyndromes 19 = .ok (.invokevirtual 240, 3) := by decide +kernel
theorem dX12_findSyndromes_22 : decode cX12_findSyndromes 22 = .ok (.lastore, 1) := by decide +kernel
theorem dX12_findSyndromes_23 : decode cX12_findSyndromes 23 = .ok (.iinc 3 1, 3) := by decide +kernel
theorem dX12_findSyndromes_26 : decode cX12_findSyndromes 26 = .ok (.goto (-24), 3) := by decide +kernel
theorem dX12_findSyndromes_29 : decode cX12_findSyndromes 29 = .ok (.return_, 1) := by decide +kernel
set_option maxRecDepth 20000 in
theorem ggX12_setsOf_X12_isZero : GoodIn wsX12_setsOf wsX12_isZero := goodIn_r _ [6, 7, 8, 9, 10, 11, 12, 13, 14, 15, 16, 17, 18, 19, 20, 21, 22, 23, 24, 25, 26, 27, 28, 29, 30, 31, 32, 33, 34, 35, 36, 37, 38, 39, 40] (by decide +kernel) (by decide +kernel)
set_option maxRecDepth 20000 in
theorem gX12_setsOf_X12_isZero : GoodIn wsX12_setsOf (wsV RX12 244 RX12 yX12_isZero wsX12_isZero) := goodIn_app (goodIn_of _ (by decide +kernel)) ggX12_setsOf_X12_isZero
theorem dX12_setsOf_0 : decode cX12_setsOf 0 = .ok (.iconst 0, 1) := by decide +kernel
theorem dX12_setsOf_1 : decode cX12_setsOf 1 = .ok (.istore 4, 2) := by decide +kernel
theorem dX12_setsOf_3 : decode cX12_setsOf 3 = .ok (.iconst 0, 1) := by decide +kernel
theorem dX12_setsOf_4 : decode cX12_setsOf 4 = .ok (.istore 5, 2) := by decide +kernel
theorem dX12_setsOf_6 : decode cX12_setsOf 6 = .ok (.iload 5, 2) := by decide +kernel
theorem dX12_setsOf_8 : decode cX12_setsOf 8 = .ok (.iload_n 2, 1) := by decide +kernel
theorem dX12_setsOf_9 : decode cX12_setsOf 9 = .ok (.if_icmp .ge 261, 3) := by decide +kernel
theorem dX12_setsOf_12 : decode cX12_setsOf 12 = .ok (.iload_n 1, 1) := by decide +kernel
theorem dX12_setsOf_13 : decode cX12_setsOf 13 = .ok (.iconst 1, 1) := by decide +kernel
theorem dX12_setsOf_14 : decode cX12_setsOf 14 = .ok (.if_icmp .ne 38, 3) := by decide +kernel
theorem dX12_setsOf_17 : decode cX12_setsOf 17 = .ok (.iload 4, 2) := by decide +kernel
theorem dX12_setsOf_19 : decode cX12_setsOf 19 = .ok (.aload_n 0, 1) := by decide +kernel
theorem dX12_setsOf_20 : decode cX12_setsOf 20 = .ok (.aload_n 0, 1) := by decide +kernel
theorem dX12_setsOf_21 : decode cX12_setsOf 21 = .ok (.getfield 66, 3) := by decide +kernel
theorem dX12_setsOf_24 : decode cX12_setsOf 24 = .ok (.iload 5, 2) := by decide +kernel
theorem dX12_setsOf_26 : decode cX12_setsOf 26 = .ok (.laload, 1) := by decide +kernel
theorem dX12_setsOf_27 : decode cX12_setsOf 27 = .ok (.iload_n 3, 1) := by decide +kernel
theorem dX12_setsOf_28 : decode cX12_setsOf 28 = .ok (.ifCond .eq 12, 3) := by decide +kernel
theorem dX12_setsOf_31 : decode cX12_setsOf 31 = .ok (.iload 4, 2) := by decide +kernel
theorem dX12_setsOf_33 : decode cX12_setsOf 33 = .ok (.ifCond .ne 7, 3) := by decide +kernel
theorem dX12_setsOf_36 : decode cX12_setsOf 36 = .ok (.iconst 1, 1) := by decide +kernel
theorem dX12_setsOf_37 : decode cX12_setsOf 37 = .ok (.goto 4, 3) := by decide +kernel
theorem dX12_setsOf_40 : decode cX12_setsOf 40 = .ok (.iconst 0, 1) := by decide +kernel
theorem dX12_setsOf_41 : decode cX12_setsOf 41 = .ok (.iload 5, 2) := by decide +kernel
theorem dX12_setsOf_43 : decode cX12_setsOf 43 = .ok (.iconst (-1), 1) := by decide +kernel
theorem dX12_setsOf_44 : decode cX12_setsOf 44 = .ok (.iconst (-1), 1) := by decide +kernel
theorem dX12_setsOf_45 : decode cX12_setsOf 45 = .ok (.iconst (-1), 1) := by decide +kernel
theorem dX12_setsOf_46 : decode cX12_setsOf 46 = .ok (.invokevirtual 244, 3) := by decide +kernel
theorem dX12_setsOf_49 : decode cX12_setsOf 49 = .ok (.iadd, 1) := by decide +kernel
theorem dX12_setsOf_50 : decode cX12_setsOf 50 = .ok (.istore 4, 2) := by decide +kernel
theorem dX12_setsOf_52 : decode cX12_setsOf 52 = .ok (.iload 5, 2) := by decide +kernel
theorem dX12_setsOf_54 : decode cX12_setsOf 54 = .ok (.iconst 1, 1) := by decide +kernel
theorem dX12_setsOf_55 : decode cX12_setsOf 55 = .ok (.iadd, 1) := by decide +kernel
theorem dX12_setsOf_56 : decode cX12_setsOf 56 = .ok (.istore 6, 2) := by decide +kernel
theorem dX12_setsOf_58 : decode cX12_setsOf 58 = .ok (.iload 6, 2) := by decide +kernel
theorem dX12_setsOf_60 : decode cX12_setsOf 60 = .ok (.iload_n 2, 1) := by decide +kernel
theorem dX12_setsOf_61 : decode cX12_setsOf 61 = .ok (.if_icmp .ge 203, 3) := by decide +kernel
theorem dX12_setsOf_64 : decode cX12_setsOf 64 = .ok (.iload_n 1, 1) := by decide +kernel
theorem dX12_setsOf_65 : decode cX12_setsOf 65 = .ok (.iconst 1, 1) := by decide +kernel
theorem dX12_setsOf_66 : decode cX12_setsOf 66 = .ok (.if_icmp .le 198, 3) := by decide +kernel
theorem dX12_setsOf_69 : decode cX12_setsOf 69 = .ok (.aload_n 0, 1) := by decide +kernel
theorem dX12_setsOf_70 : decode cX12_setsOf 70 = .ok (.getfield 66, 3) := by decide +kernel
theorem dX12_setsOf_73 : decode cX12_setsOf 73 = .ok (.iload 5, 2) := by decide +kernel
theorem dX12_setsOf_75 : decode cX12_setsOf 75 = .ok (.laload, 1) := by decide +kernel
theorem dX12_setsOf_76 : decode cX12_setsOf 76 = .ok (.aload_n 0, 1) := by decide +kernel
theorem dX12_setsOf_77 : decode cX12_setsOf 77 = .ok (.getfield 66, 3) := by decide +kernel
theorem dX12_setsOf_80 : decode cX12_setsOf 80 = .ok (.iload 6, 2) := by decide +kernel
theorem dX12_setsOf_82 : decode cX12_setsOf 82 = .ok (.laload, 1) := by decide +kernel
theorem dX12_setsOf_83 : decode cX12_setsOf 83 = .ok (.lxor, 1) := by decide +kernel
theorem dX12_setsOf_84 : decode cX12_setsOf 84 = .ok (.lstore 7, 2) := by decide +kernel
theorem dX12_setsOf_86 : decode cX12_setsOf 86 = .ok (.iload_n 1, 1) := by decide +kernel
theorem dX12_setsOf_87 : decode cX12_setsOf 87 = .ok (.iconst 2, 1) := by decide +kernel
theorem dX12_setsOf_88 : decode cX12_setsOf 88 = .ok (.if_icmp .ne 34, 3) := by decide +kernel
theorem dX12_setsOf_91 : decode cX12_setsOf 91 = .ok (.iload 4, 2) := by decide +kernel
theorem dX12_setsOf_93 : decode cX12_setsOf 93 = .ok (.aload_n 0, 1) := by decide +kernel
theorem dX12_setsOf_94 : decode cX12_setsOf 94 = .ok (.lload 7, 2) := by decide +kernel
theorem dX12_setsOf_96 : decode cX12_setsOf 96 = .ok (.iload_n 3, 1) := by decide +kernel
theorem dX12_setsOf_97 : decode cX12_setsOf 97 = .ok (.ifCond .eq 12, 3) := by decide +kernel
theorem dX12_setsOf_100 : decode cX12_setsOf 100 = .ok (.iload 4, 2) := by decide +kernel
theorem dX12_setsOf_102 : decode cX12_setsOf 102 = .ok (.ifCond .ne 7, 3) := by decide +kernel
theorem dX12_setsOf_105 : decode cX12_setsOf 105 = .ok (.iconst 1, 1) := by decide +kernel
theorem dX12_setsOf_106 : decode cX12_setsOf 106 = .ok (.goto 4, 3) := by decide +kernel
theorem dX12_setsOf_109 : decode cX12_setsOf 109 = .ok (.iconst 0, 1) := by decide +kernel
theorem dX12_setsOf_110 : decode cX12_setsOf 110 = .ok (.iload 5, 2) := by decide +kernel
theorem dX12_setsOf_112 : decode cX12_setsOf 112 = .ok (.iload 6, 2) := by decide +kernel
theorem dX12_setsOf_114 : decode cX12_setsOf 114 = .ok (.iconst (-1), 1) := by decide +kernel
theorem dX12_setsOf_115 : decode cX12_setsOf 115 = .ok (.iconst (-1), 1) := by decide +kernel
theorem dX12_setsOf_116 : decode cX12_setsOf 116 = .ok (.invokevirtual 244, 3) := by decide +kernel
theorem dX12_setsOf_119 : decode cX12_setsOf 119 = .ok (.iadd, 1) := by decide +kernel
theorem dX12_setsOf_120 : decode cX12_setsOf 120 = .ok (.istore 4, 2) := by decide +kernel
theorem dX12_setsOf_122 : decode cX12_setsOf 122 = .ok (.iload 6, 2) := by decide +kernel
theorem dX12_setsOf_124 : decode cX12_setsOf 124 = .ok (.iconst 1, 1) := by decide +kernel
theorem dX12_setsOf_125 : decode cX12_setsOf 125 = .ok (.iadd, 1) := by decide +kernel
theorem dX12_setsOf_126 : decode cX12_setsOf 126 = .ok (.istore 9, 2) := by decide +kernel
theorem dX12_setsOf_128 : decode cX12_setsOf 128 = .ok (.iload 9, 2) := by decide +kernel
theorem dX12_setsOf_130 : decode cX12_setsOf 130 = .ok (.iload_n 2, 1) := by decide +kernel
theorem dX12_setsOf_131 : decode cX12_setsOf 131 = .ok (.if_icmp .ge 127, 3) := by decide +kernel
theorem dX12_setsOf_134 : decode cX12_setsOf 134 = .ok (.iload_n 1, 1) := by decide +kernel
theorem dX12_setsOf_135 : decode cX12_setsOf 135 = .ok (.iconst 2, 1) := by decide +kernel
theorem dX12_setsOf_136 : decode cX12_setsOf 136 = .ok (.if_icmp .le 122, 3) := by decide +kernel
theorem dX12_setsOf_139 : decode cX12_setsOf 139 = .ok (.lload 7, 2) := by decide +kernel
theorem dX12_setsOf_141 : decode cX12_setsOf 141 = .ok (.aload_n 0, 1) := by decide +kernel
theorem dX12_setsOf_142 : decode cX12_setsOf 142 = .ok (.getfield 66, 3) := by decide +kernel
theorem dX12_setsOf_145 : decode cX12_setsOf 145 = .ok (.iload 9, 2) := by decide +kernel
theorem dX12_setsOf_147 : decode cX12_setsOf 147 = .ok (.laload, 1) := by decide +kernel
theorem dX12_setsOf_148 : decode cX12_setsOf 148 = .ok (.lxor, 1) := by decide +kernel
theorem dX12_setsOf_149 : decode cX12_setsOf 149 = .ok (.lstore 10, 2) := by decide +kernel
theorem dX12_setsOf_151 : decode cX12_setsOf 151 = .ok (.iload_n 1, 1) := by decide +kernel
theorem dX12_setsOf_152 : decode cX12_setsOf 152 = .ok (.iconst 3, 1) := by decide +kernel
theorem dX12_setsOf_153 : decode cX12_setsOf 153 = .ok (.if_icmp .ne 35, 3) := by decide +kernel
theorem dX12_setsOf_156 : decode cX12_setsOf 156 = .ok (.iload 4, 2) := by decide +kernel
theorem dX12_setsOf_158 : decode cX12_setsOf 158 = .ok (.aload_n 0, 1) := by decide +kernel
theorem dX12_setsOf_159 : decode cX12_setsOf 159 = .ok (.lload 10, 2) := by decide +kernel
theorem dX12_setsOf_161 : decode cX12_setsOf 161 = .ok (.iload_n 3, 1) := by decide +kernel
theorem dX12_setsOf_162 : decode cX12_setsOf 162 = .ok (.ifCond .eq 12, 3) := by decide +kernel
theorem dX12_setsOf_165 : decode cX12_setsOf 165 = .ok (.iload 4, 2) := by decide +kernel
theorem dX12_setsOf_167 : decode cX12_setsOf 167 = .ok (.ifCond .ne 7, 3) := by decide +kernel
theorem dX12_setsOf_170 : decode cX12_setsOf 170 = .ok (.iconst 1, 1) := by decide +kernel
theorem dX12_setsOf_171 : decode cX12_setsOf 171 = .ok (.goto 4, 3) := by decide +kernel
theorem dX12_setsOf_174 : decode cX12_setsOf 174 = .ok (.iconst 0, 1) := by decide +kernel
theorem dX12_setsOf_175 : decode cX12_setsOf 175 = .ok (.iload 5, 2) := by decide +kernel
theorem dX12_setsOf_177 : decode cX12_setsOf 177 = .ok (.iload 6, 2) := by decide +kernel
theorem dX12_setsOf_179 : decode cX12_setsOf 179 = .ok (.iload 9, 2) := by decide +kernel
theorem dX12_setsOf_181 : decode cX12_setsOf 181 = .ok (.iconst (-1), 1) := by decide +kernel
theorem dX12_setsOf_182 : decode cX12_setsOf 182 = .ok (.invokevirtual 244, 3) := by decide +kernel
theorem dX12_setsOf_185 : decode cX12_setsOf 185 = .ok (.iadd, 1) := by decide +kernel
theorem dX12_setsOf_186 : decode cX12_setsOf 186 = .ok (.istore 4, 2) := by decide +kernel
theorem dX12_setsOf_188 : decode cX12_setsOf 188 = .ok (.iload 9, 2) := by decide +kernel
theorem dX12_setsOf_190 : decode cX12_setsOf 190 = .ok (.iconst 1, 1) := by decide +kernel
theorem dX12_setsOf_191 : decode cX12_setsOf 191 = .ok (.iadd, 1) := by decide +kernel
theorem dX12_setsOf_192 : decode cX12_setsOf 192 = .ok (.istore 12, 2) := by decide +kernel
theorem dX12_setsOf_194 : decode cX12_setsOf 194 = .ok (.iload 12, 2) := by decide +kernel
theorem dX12_setsOf_196 : decode cX12_setsOf 196 = .ok (.iload_n 2, 1) := by decide +kernel
theorem dX12_setsOf_197 : decode cX12_setsOf 197 = .ok (.if_icmp .ge 55, 3) := by decide +kernel
theorem dX12_setsOf_200 : decode cX12_setsOf 200 = .ok (.iload_n 1, 1) := by decide +kernel
theorem dX12_setsOf_201 : decode cX12_setsOf 201 = .ok (.iconst 3, 1) := by decide +kernel
theorem dX12_setsOf_202 : decode cX12_setsOf 202 = .ok (.if_icmp .le 50, 3) := by decide +kernel
theorem dX12_setsOf_205 : decode cX12_setsOf 205 = .ok (.iload 4, 2) := by decide +kernel
theorem dX12_setsOf_207 : decode cX12_setsOf 207 = .ok (.aload_n 0, 1) := by decide +kernel
theorem dX12_setsOf_208 : decode cX12_setsOf 208 = .ok (.lload 10, 2) := by decide +kernel
theorem dX12_setsOf_210 : decode cX12_setsOf 210 = .ok (.aload_n 0, 1) := by decide +kernel
theorem dX12_setsOf_211 : decode cX12_setsOf 211 = .ok (.getfield 66, 3) := by decide +kernel
theorem dX12_setsOf_214 : decode cX12_setsOf 214 = .ok (.iload 12, 2) := by decide +kernel
theorem dX12_setsOf_216 : decode cX12_setsOf 216 = .ok (.laload, 1) := by decide +kernel
theorem dX12_setsOf_217 : decode cX12_setsOf 217 = .ok (.lxor, 1) := by decide +kernel
theorem dX12_setsOf_218 : decode cX12_setsOf 218 = .ok (.iload_n 3, 1) := by decide +kernel
theorem dX12_setsOf_219 : decode cX12_setsOf 219 = .ok (.ifCond .eq 12, 3) := by decide +kernel
theorem dX12_setsOf_222 : decode cX12_setsOf 222 = .ok (.iload 4, 2) := by decide +kernel
theorem dX12_setsOf_224 : decode cX12_setsOf 224 = .ok (.ifCond .ne 7, 3) := by decide +kernel
theorem dX12_setsOf_227 : decode cX12_setsOf 227 = .ok (.iconst 1, 1) := by decide +kernel
theorem dX12_setsOf_228 : decode cX12_setsOf 228 = .ok (.goto 4, 3) := by decide +kernel
theorem dX12_setsOf_231 : decode cX12_setsOf 231 = .ok (.iconst 0, 1) := by decide +kernel
theorem dX12_setsOf_232 : decode cX12_setsOf 232 = .ok (.iload 5, 2) := by decide +kernel
theorem dX12_setsOf_234 : decode cX12_setsOf 234 = .ok (.iload 6, 2) := by decide +kernel
theorem dX12_setsOf_236 : decode cX12_setsOf 236 = .ok (.iload 9, 2) := by decide +kernel
theorem dX12_setsOf_238 : decode cX12_setsOf 238 = .ok (.iload 12, 2) := by decide +kernel
theorem dX12_setsOf_240 : decode cX12_setsOf 240 = .ok (.invokevirtual 244, 3) := by decide +kernel
theorem dX12_setsOf_243 : decode cX12_setsOf 243 = .ok (.iadd, 1) := by decide +kernel
theorem dX12_setsOf_244 : decode cX12_setsOf 244 = .ok (.istore 4, 2) := by decide +kernel
theorem dX12_setsOf_246 : decode cX12_setsOf 246 = .ok (.iinc 12 1, 3) := by decide +kernel
theorem dX12_setsOf_249 : decode cX12_setsOf 249 = .ok (.goto (-55), 3) := by decide +kernel
theorem dX12_setsOf_252 : decode cX12_setsOf 252 = .ok (.iinc 9 1, 3) := by decide +kernel
theorem dX12_setsOf_255 : decode cX12_setsOf 255 = .ok (.goto (-127), 3) := by decide +kernel
theorem dX12_setsOf_258 : decode cX12_setsOf 258 = .ok (.iinc 6 1, 3) := by decide +kernel
theorem dX12_setsOf_261 : decode cX12_setsOf 261 = .ok (.goto (-203), 3) := by decide +kernel
theorem dX12_setsOf_264 : decode cX12_setsOf 264 = .ok (.iinc 5 1, 3) := by decide +kernel
theorem dX12_setsOf_267 : decode cX12_setsOf 267 = .ok (.goto (-261), 3) := by decide +kernel
theorem dX12_setsOf_270 : decode cX12_setsOf 270 = .ok (.iload 4, 2) := by decide +kernel
theorem dX12_setsOf_272 : decode cX12_setsOf 272 = .ok (.ireturn, 1) := by decide +kernel
theorem dX12_isZero_0 : decode cX12_isZero 0 = .ok (.lload_n 1, 1) := by decide +kernel
theorem dX12_isZero_1 : decode cX12_isZero 1 = .ok (.lconst 0, 1) := by decide +kernel
theorem dX12_isZero_2 : decode cX12_isZero 2 = .ok (.lcmp, 1) := by decide +kernel
theorem dX12_isZero_3 : decode cX12_isZero 3 = .ok (.ifCond .eq 5, 3) := by decide +kernel
theorem dX12_isZero_6 : decode cX12_isZero 6 = .ok (.iconst 0, 1) := by decide +kernel
theorem dX12_isZero_7 : decode cX12_isZero 7 = .ok (.ireturn, 1) := by decide +kernel
theorem dX12_isZero_8 : decode cX12_isZero 8 = .ok (.iload_n 3, 1) := by decide +kernel
theorem dX12_isZero_9 : decode cX12_isZero 9 = .ok (.ifCond .eq 35, 3) := by decide +kernel
theorem dX12_isZero_12 : decode cX12_isZero 12 = .ok (.aload_n 0, 1) := by decide +kernel
theorem dX12_isZero_13 : decode cX12_isZero 13 = .ok (.getfield 69, 3) := by decide +kernel
theorem dX12_isZero_16 : decode cX12_isZero 16 = .ok (.iconst 0, 1) := by decide +kernel
theorem dX12_isZero_17 : decode cX12_isZero 17 = .ok (.iload 4, 2) := by decide +kernel
theorem dX12_isZero_19 : decode cX12_isZero 19 = .ok (.iastore, 1) := by decide +kernel
theorem dX12_isZero_20 : decode cX12_isZero 20 = .ok (.aload_n 0, 1) := by decide +kernel
theorem dX12_isZero_21 : decode cX12_isZero 21 = .ok (.getfield 69, 3) := by decide +kernel
theorem dX12_isZero_24 : decode cX12_isZero 24 = .ok (.iconst 1, 1) := by decide +kernel
theorem dX12_isZero_25 : decode cX12_isZero 25 = .ok (.iload 5, 2) := by decide +kernel
theorem dX12_isZero_27 : decode cX12_isZero 27 = .ok (.iastore, 1) := by decide +kernel
theorem dX12_isZero_28 : decode cX12_isZero 28 = .ok (.aload_n 0, 1) := by decide +kernel
theorem dX12_isZero_29 : decode cX12_isZero 29 = .ok (.getfield 69, 3) := by decide +kernel
theorem dX12_isZero_32 : decode cX12_isZero 32 = .ok (.iconst 2, 1) := by decide +kernel
theorem dX12_isZero_33 : decode cX12_isZero 33 = .ok (.iload 6, 2) := by decide +kernel
theorem dX12_isZero_35 : decode cX12_isZero 35 = .ok (.iastore, 1) := by decide +kernel
theorem dX12_isZero_36 : decode cX12_isZero 36 = .ok (.aload_n 0, 1) := by decide +kernel
theorem dX12_isZero_37 : decode cX12_isZero 37 = .ok (.getfield 69, 3) := by decide +kernel
theorem dX12_isZero_40 : decode cX12_isZero 40 = .ok (.iconst 3, 1) := by decide +kernel
theorem dX12_isZero_41 : decode cX12_isZero 41 = .ok (.iload 7, 2) := by decide +kernel
theorem dX12_isZero_43 : decode cX12_isZero 43 = .ok (.iastore, 1) := by decide +kernel
theorem dX12_isZero_44 : decode cX12_isZero 44 = .ok (.iconst 1, 1) := by decide +kernel
theorem dX12_isZero_45 : decode cX12_isZero 45 = .ok (.ireturn, 1) := by decide +kernel
set_option maxRecDepth 20000 in
theorem ggX12_weight_X12_against : GoodIn wsX12_weight wsX12_against := goodIn_r _ [6, 7, 8, 9, 10, 5, 11, 12, 13, 14, 15, 47, 48, 49, 50, 51, 52, 53, 54, 55, 56, 57, 58, 59, 60, 61, 62, 63, 64, 65, 66, 67, 68, 69, 70, 71, 72, 73, 74, 75, 76, 77, 78, 79] (by decide +kernel) (by decide +kernel)
set_option maxRecDepth 20000 in
theorem gX12_weight_X12_against : GoodIn wsX12_weight (wsV RX12 235 RX12 yX12_against wsX12_against) := goodIn_app (goodIn_of _ (by decide +kernel)) ggX12_weight_X12_against
set_option maxRecDepth 20000 in
theorem ggX12_weight_X12_in : GoodIn wsX12_weight wsX12_in := goodIn_r _ [15] (by decide +kernel) (by decide +kernel)
set_option maxRecDepth 20000 in
theorem gX12_weight_X12_in : GoodIn wsX12_weight (va_wsS RX12 88 yX12_in wsX12_in) := goodIn_app (goodIn_of _ (by decide +kernel)) ggX12_weight_X12_in
set_option maxRecDepth 20000 in
theorem ggX12_weight_X12_findSyndromes : GoodIn wsX12_weight wsX12_findSyndromes := goodIn_r _ [19, 20, 21, 22, 23, 5, 24, 25, 26, 27, 28, 29, 30, 31, 32, 33, 34, 35, 36, 37, 47, 48, 49, 50, 51, 52, 53, 54, 55, 56, 57, 58, 59, 60, 61, 62, 63, 64, 65, 66, 67, 68, 69, 70, 71, 72, 73, 74, 75, 76, 77, 78, 79] (by decide +kernel) (by decide +kernel)
set_option maxRecDepth 20000 in
theorem gX12_weight_X12_findSyndromes : GoodIn wsX12_weight (wsV RX12 250 RX12 yX12_findSyndromes wsX12_findSyndromes) := goodIn_app (goodIn_of _ (by decide +kernel)) ggX12_weight_X12_findSyndromes
set_option maxRecDepth 20000 in
theorem ggX12_weight_X12_setsOf : GoodIn wsX12_weight wsX12_setsOf := goodIn_r _ [41, 20, 42, 43, 44, 5, 45, 46, 47, 48, 49, 50, 51, 52, 53, 54, 55, 56, 57, 58, 59, 60, 61, 62, 63, 64, 65, 66, 67, 68, 69, 70, 71, 72, 73, 74, 75, 76, 77, 78, 79] (by decide +kernel) (by decide +kernel)
set_option maxRecDepth 20000 in
theorem gX12_weight_X12_setsOf : GoodIn wsX12_weight (wsV RX12 253 RX12 yX12_setsOf wsX12_setsOf) := goodIn_app (goodIn_of _ (by decide +kernel)) ggX12_weight_X12_setsOf
theorem dX12_weight_0 : decode cX12_weight 0 = .ok (.aload_n 0, 1) := by decide +kernel
theorem dX12_weight_1 : decode cX12_weight 1 = .ok (.iload_n 1, 1) := by decide +kernel
theorem dX12_weight_2 : decode cX12_weight 2 = .ok (.invokevirtual 235, 3) := by decide +kernel
theorem dX12_weight_5 : decode cX12_weight 5 = .ok (.istore_n 3, 1) := by decide +kernel
theorem dX12_weight_6 : decode cX12_weight 6 = .ok (.iload_n 3, 1) := by decide +kernel
theorem dX12_weight_7 : decode cX12_weight 7 = .ok (.ifCond .eq 5, 3) := by decide +kernel
theorem dX12_weight_10 : decode cX12_weight 10 = .ok (.iload_n 3, 1) := by decide +kernel
theorem dX12_weight_11 : decode cX12_weight 11 = .ok (.ireturn, 1) := by decide +kernel
theorem dX12_weight_12 : decode cX12_weight 12 = .ok (.iload_n 2, 1) := by decide +kernel
theorem dX12_weight_13 : decode cX12_weight 13 = .ok (.i2l, 1) := by decide +kernel
theorem dX12_weight_14 : decode cX12_weight 14 = .ok (.lconst 1, 1) := by decide +kernel
theorem dX12_weight_15 : decode cX12_weight 15 = .ok (.ldc2_w 248, 3) := by decide +kernel
theorem dX12_weight_18 : decode cX12_weight 18 = .ok (.invokestatic 88, 3) := by decide +kernel
theorem dX12_weight_21 : decode cX12_weight 21 = .ok (.ifCond .ne 6, 3) := by decide +kernel
theorem dX12_weight_24 : decode cX12_weight 24 = .ok (.bipush (-3), 2) := by decide +kernel
theorem dX12_weight_26 : decode cX12_weight 26 = .ok (.ireturn, 1) := by decide +kernel
theorem dX12_weight_27 : decode cX12_weight 27 = .ok (.aload_n 0, 1) := by decide +kernel
theorem dX12_weight_28 : decode cX12_weight 28 = .ok (.iload_n 1, 1) := by decide +kernel
theorem dX12_weight_29 : decode cX12_weight 29 = .ok (.iload_n 2, 1) := by decide +kernel
theorem dX12_weight_30 : decode cX12_weight 30 = .ok (.invokevirtual 250, 3) := by decide +kernel
theorem dX12_weight_33 : decode cX12_weight 33 = .ok (.iconst 1, 1) := by decide +kernel
theorem dX12_weight_34 : decode cX12_weight 34 = .ok (.istore 4, 2) := by decide +kernel
theorem dX12_weight_36 : decode cX12_weight 36 = .ok (.iload 4, 2) := by decide +kernel
theorem dX12_weight_38 : decode cX12_weight 38 = .ok (.iconst 5, 1) := by decide +kernel
theorem dX12_weight_39 : decode cX12_weight 39 = .ok (.if_icmp .ge 26, 3) := by decide +kernel
theorem dX12_weight_42 : decode cX12_weight 42 = .ok (.aload_n 0, 1) := by decide +kernel
theorem dX12_weight_43 : decode cX12_weight 43 = .ok (.iload 4, 2) := by decide +kernel
theorem dX12_weight_45 : decode cX12_weight 45 = .ok (.bipush 8, 2) := by decide +kernel
theorem dX12_weight_47 : decode cX12_weight 47 = .ok (.iload_n 2, 1) := by decide +kernel
theorem dX12_weight_48 : decode cX12_weight 48 = .ok (.imul, 1) := by decide +kernel
theorem dX12_weight_49 : decode cX12_weight 49 = .ok (.iconst 1, 1) := by decide +kernel
theorem dX12_weight_50 : decode cX12_weight 50 = .ok (.invokevirtual 253, 3) := by decide +kernel
theorem dX12_weight_53 : decode cX12_weight 53 = .ok (.ifCond .le 6, 3) := by decide +kernel
theorem dX12_weight_56 : decode cX12_weight 56 = .ok (.iload 4, 2) := by decide +kernel
theorem dX12_weight_58 : decode cX12_weight 58 = .ok (.ireturn, 1) := by decide +kernel
theorem dX12_weight_59 : decode cX12_weight 59 = .ok (.iinc 4 1, 3) := by decide +kernel
theorem dX12_weight_62 : decode cX12_weight 62 = .ok (.goto (-26), 3) := by decide +kernel
theorem dX12_weight_65 : decode cX12_weight 65 = .ok (.iconst (-1), 1) := by decide +kernel
theorem dX12_weight_66 : decode cX12_weight 66 = .ok (.ireturn, 1) := by decide +kernel
set_option maxRecDepth 20000 in
theorem ggX12_lightest_X12_in : GoodIn wsX12_lightest wsX12_in := goodIn_r _ [6] (by decide +kernel) (by decide +kernel)
set_option maxRecDepth 20000 in
theorem gX12_lightest_X12_in : GoodIn wsX12_lightest (va_wsS RX12 88 yX12_in wsX12_in) := goodIn_app (goodIn_of _ (by decide +kernel)) ggX12_lightest_X12_in
theorem dX12_lightest_0 : decode cX12_lightest 0 = .ok (.iload_n 1, 1) := by decide +kernel
theorem dX12_lightest_1 : decode cX12_lightest 1 = .ok (.i2l, 1) := by decide +kernel
theorem dX12_lightest_2 : decode cX12_lightest 2 = .ok (.lconst 0, 1) := by decide +kernel
theorem dX12_lightest_3 : decode cX12_lightest 3 = .ok (.ldc2_w 115, 3) := by decide +kernel
theorem dX12_lightest_6 : decode cX12_lightest 6 = .ok (.invokestatic 88, 3) := by decide +kernel
theorem dX12_lightest_9 : decode cX12_lightest 9 = .ok (.ifCond .eq 12, 3) := by decide +kernel
theorem dX12_lightest_12 : decode cX12_lightest 12 = .ok (.aload_n 0, 1) := by decide +kernel
theorem dX12_lightest_13 : decode cX12_lightest 13 = .ok (.getfield 69, 3) := by decide +kernel
theorem dX12_lightest_16 : decode cX12_lightest 16 = .ok (.iload_n 1, 1) := by decide +kernel
theorem dX12_lightest_17 : decode cX12_lightest 17 = .ok (.iaload, 1) := by decide +kernel
theorem dX12_lightest_18 : decode cX12_lightest 18 = .ok (.goto 5, 3) := by decide +kernel
theorem dX12_lightest_21 : decode cX12_lightest 21 = .ok (.bipush (-3), 2) := by decide +kernel
theorem dX12_lightest_23 : decode cX12_lightest 23 = .ok (.ireturn, 1) := by decide +kernel
set_option maxRecDepth 20000 in
theorem ggX12_count_X12_against : GoodIn wsX12_count wsX12_against := goodIn_r _ [7, 8, 9, 10, 11, 6, 12, 13, 14, 15, 16, 48, 49, 50, 51, 52, 53, 54, 55, 56, 57, 58, 59, 60, 61, 62, 63, 64, 65, 66, 67, 68, 69, 70, 71, 72, 73, 74, 75, 76, 77, 78, 79, 80] (by decide +kernel) (by decide +kernel)
set_option maxRecDepth 20000 in
theorem gX12_count_X12_against : GoodIn wsX12_count (wsV RX12 235 RX12 yX12_against wsX12_against) := goodIn_app (goodIn_of _ (by decide +kernel)) ggX12_count_X12_against
set_option maxRecDepth 20000 in
theorem ggX12_count_X12_in : GoodIn wsX12_count wsX12_in := goodIn_r _ [16] (by decide +kernel) (by decide +kernel)
set_option maxRecDepth 20000 in
theorem gX12_count_X12_in : GoodIn wsX12_count (va_wsS RX12 88 yX12_in wsX12_in) := goodIn_app (goodIn_of _ (by decide +kernel)) ggX12_count_X12_in
set_option maxRecDepth 20000 in
theorem ggX12_count_X12_findSyndromes : GoodIn wsX12_count wsX12_findSyndromes := goodIn_r _ [20, 21, 22, 23, 24, 6, 25, 26, 27, 28, 29, 30, 31, 32, 33, 34, 35, 36, 37, 38, 48, 49, 50, 51, 52, 53, 54, 55, 56, 57, 58, 59, 60, 61, 62, 63, 64, 65, 66, 67, 68, 69, 70, 71, 72, 73, 74, 75, 76, 77, 78, 79, 80] (by decide +kernel) (by decide +kernel)
set_option maxRecDepth 20000 in
theorem gX12_count_X12_findSyndromes : GoodIn wsX12_count (wsV RX12 250 RX12 yX12_findSyndromes wsX12_findSyndromes) := goodIn_app (goodIn_of _ (by decide +kernel)) ggX12_count_X12_findSyndromes
set_option maxRecDepth 20000 in
theorem ggX12_count_X12_setsOf : GoodIn wsX12_count wsX12_setsOf := goodIn_r _ [42, 21, 43, 44, 45, 6, 46, 47, 48, 49, 50, 51, 52, 53, 54, 55, 56, 57, 58, 59, 60, 61, 62, 63, 64, 65, 66, 67, 68, 69, 70, 71, 72, 73, 74, 75, 76, 77, 78, 79, 80] (by decide +kernel) (by decide +kernel)
set_option maxRecDepth 20000 in
theorem gX12_count_X12_setsOf : GoodIn wsX12_count (wsV RX12 253 RX12 yX12_setsOf wsX12_setsOf) := goodIn_app (goodIn_of _ (by decide +kernel)) ggX12_count_X12_setsOf
theorem dX12_count_0 : decode cX12_count 0 = .ok (.aload_n 0, 1) := by decide +kernel
theorem dX12_count_1 : decode cX12_count 1 = .ok (.iload_n 1, 1) := by decide +kernel
theorem dX12_count_2 : decode cX12_count 2 = .ok (.invokevirtual 235, 3) := by decide +kernel
theorem dX12_count_5 : decode cX12_count 5 = .ok (.istore 4, 2) := by decide +kernel
theorem dX12_count_7 : decode cX12_count 7 = .ok (.iload 4, 2) := by decide +kernel
theorem dX12_count_9 : decode cX12_count 9 = .ok (.ifCond .eq 6, 3) := by decide +kernel
theorem dX12_count_12 : decode cX12_count 12 = .ok (.iload 4, 2) := by decide +kernel
theorem dX12_count_14 : decode cX12_count 14 = .ok (.ireturn, 1) := by decide +kernel
theorem dX12_count_15 : decode cX12_count 15 = .ok (.iload_n 2, 1) := by decide +kernel
theorem dX12_count_16 : decode cX12_count 16 = .ok (.i2l, 1) := by decide +kernel
theorem dX12_count_17 : decode cX12_count 17 = .ok (.lconst 1, 1) := by decide +kernel
theorem dX12_count_18 : decode cX12_count 18 = .ok (.ldc2_w 257, 3) := by decide +kernel
theorem dX12_count_21 : decode cX12_count 21 = .ok (.invokestatic 88, 3) := by decide +kernel
theorem dX12_count_24 : decode cX12_count 24 = .ok (.ifCond .eq 15, 3) := by decide +kernel
theorem dX12_count_27 : decode cX12_count 27 = .ok (.iload_n 3, 1) := by decide +kernel
theorem dX12_count_28 : decode cX12_count 28 = .ok (.i2l, 1) := by decide +kernel
theorem dX12_count_29 : decode cX12_count 29 = .ok (.lconst 1, 1) := by decide +kernel
theorem dX12_count_30 : decode cX12_count 30 = .ok (.ldc2_w 248, 3) := by decide +kernel
theorem dX12_count_33 : decode cX12_count 33 = .ok (.invokestatic 88, 3) := by decide +kernel
theorem dX12_count_36 : decode cX12_count 36 = .ok (.ifCond .ne 6, 3) := by decide +kernel
theorem dX12_count_39 : decode cX12_count 39 = .ok (.bipush (-3), 2) := by decide +kernel
theorem dX12_count_41 : decode cX12_count 41 = .ok (.ireturn, 1) := by decide +kernel
theorem dX12_count_42 : decode cX12_count 42 = .ok (.aload_n 0, 1) := by decide +kernel
theorem dX12_count_43 : decode cX12_count 43 = .ok (.iload_n 1, 1) := by decide +kernel
theorem dX12_count_44 : decode cX12_count 44 = .ok (.iload_n 3, 1) := by decide +kernel
theorem dX12_count_45 : decode cX12_count 45 = .ok (.invokevirtual 250, 3) := by decide +kernel
theorem dX12_count_48 : decode cX12_count 48 = .ok (.aload_n 0, 1) := by decide +kernel
theorem dX12_count_49 : decode cX12_count 49 = .ok (.iload_n 2, 1) := by decide +kernel
theorem dX12_count_50 : decode cX12_count 50 = .ok (.bipush 8, 2) := by decide +kernel
theorem dX12_count_52 : decode cX12_count 52 = .ok (.iload_n 3, 1) := by decide +kernel
theorem dX12_count_53 : decode cX12_count 53 = .ok (.imul, 1) := by decide +kernel
theorem dX12_count_54 : decode cX12_count 54 = .ok (.iconst 0, 1) := by decide +kernel
theorem dX12_count_55 : decode cX12_count 55 = .ok (.invokevirtual 253, 3) := by decide +kernel
theorem dX12_count_58 : decode cX12_count 58 = .ok (.ireturn, 1) := by decide +kernel
set_option maxRecDepth 20000 in
theorem ggX12_period_X12_against : GoodIn wsX12_period wsX12_against := goodIn_r _ [8, 9, 10, 11, 12, 7, 13, 14, 15, 16, 17, 21, 22, 23, 24, 25, 26, 27, 28, 29, 30, 31, 32, 33, 34, 35, 36, 37, 38, 39, 40, 41, 42, 43, 44, 45, 46, 47, 48, 49, 50, 51, 52, 53] (by decide +kernel) (by decide +kernel)
set_option maxRecDepth 20000 in
theorem gX12_period_X12_against : GoodIn wsX12_period (wsV RX12 235 RX12 yX12_against wsX12_against) := goodIn_app (goodIn_of _ (by decide +kernel)) ggX12_period_X12_against
set_option maxRecDepth 20000 in
theorem ggX12_period_X12_step : GoodIn wsX12_period wsX12_step := goodIn_r _ [20] (by decide +kernel) (by decide +kernel)
set_option maxRecDepth 20000 in
theorem gX12_period_X12_step : GoodIn wsX12_period (va_wsS RX12 128 yX12_step wsX12_step) := goodIn_app (goodIn_of _ (by decide +kernel)) ggX12_period_X12_step
theorem dX12_period_0 : decode cX12_period 0 = .ok (.aload_n 0, 1) := by decide +kernel
theorem dX12_period_1 : decode cX12_period 1 = .ok (.iload_n 1, 1) := by decide +kernel
theorem dX12_period_2 : decode cX12_period 2 = .ok (.invokevirtual 235, 3) := by decide +kernel
theorem dX12_period_5 : decode cX12_period 5 = .ok (.istore_n 2, 1) := by decide +kernel
theorem dX12_period_6 : decode cX12_period 6 = .ok (.iload_n 2, 1) := by decide +kernel
theorem dX12_period_7 : decode cX12_period 7 = .ok (.ifCond .eq 5, 3) := by decide +kernel
theorem dX12_period_10 : decode cX12_period 10 = .ok (.iload_n 2, 1) := by decide +kernel
theorem dX12_period_11 : decode cX12_period 11 = .ok (.ireturn, 1) := by decide +kernel
theorem dX12_period_12 : decode cX12_period 12 = .ok (.lconst 1, 1) := by decide +kernel
theorem dX12_period_13 : decode cX12_period 13 = .ok (.lstore_n 3, 1) := by decide +kernel
theorem dX12_period_14 : decode cX12_period 14 = .ok (.iconst 1, 1) := by decide +kernel
theorem dX12_period_15 : decode cX12_period 15 = .ok (.istore 5, 2) := by decide +kernel
theorem dX12_period_17 : decode cX12_period 17 = .ok (.iload 5, 2) := by decide +kernel
theorem dX12_period_19 : decode cX12_period 19 = .ok (.ldc_w 259, 3) := by decide +kernel
theorem dX12_period_22 : decode cX12_period 22 = .ok (.if_icmp .ge 36, 3) := by decide +kernel
theorem dX12_period_25 : decode cX12_period 25 = .ok (.lload_n 3, 1) := by decide +kernel
theorem dX12_period_26 : decode cX12_period 26 = .ok (.iconst 0, 1) := by decide +kernel
theorem dX12_period_27 : decode cX12_period 27 = .ok (.aload_n 0, 1) := by decide +kernel
theorem dX12_period_28 : decode cX12_period 28 = .ok (.getfield 19, 3) := by decide +kernel
theorem dX12_period_31 : decode cX12_period 31 = .ok (.iload_n 1, 1) := by decide +kernel
theorem dX12_period_32 : decode cX12_period 32 = .ok (.iaload, 1) := by decide +kernel
theorem dX12_period_33 : decode cX12_period 33 = .ok (.aload_n 0, 1) := by decide +kernel
theorem dX12_period_34 : decode cX12_period 34 = .ok (.getfield 25, 3) := by decide +kernel
theorem dX12_period_37 : decode cX12_period 37 = .ok (.iload_n 1, 1) := by decide +kernel
theorem dX12_period_38 : decode cX12_period 38 = .ok (.laload, 1) := by decide +kernel
theorem dX12_period_39 : decode cX12_period 39 = .ok (.invokestatic 128, 3) := by decide +kernel
theorem dX12_period_42 : decode cX12_period 42 = .ok (.lstore_n 3, 1) := by decide +kernel
theorem dX12_period_43 : decode cX12_period 43 = .ok (.lload_n 3, 1) := by decide +kernel
theorem dX12_period_44 : decode cX12_period 44 = .ok (.lconst 1, 1) := by decide +kernel
theorem dX12_period_45 : decode cX12_period 45 = .ok (.lcmp, 1) := by decide +kernel
theorem dX12_period_46 : decode cX12_period 46 = .ok (.ifCond .ne 6, 3) := by decide +kernel
theorem dX12_period_49 : decode cX12_period 49 = .ok (.iload 5, 2) := by decide +kernel
theorem dX12_period_51 : decode cX12_period 51 = .ok (.ireturn, 1) := by decide +kernel
theorem dX12_period_52 : decode cX12_period 52 = .ok (.iinc 5 1, 3) := by decide +kernel
theorem dX12_period_55 : decode cX12_period 55 = .ok (.goto (-38), 3) := by decide +kernel
theorem dX12_period_58 : decode cX12_period 58 = .ok (.iconst (-1), 1) := by decide +kernel
theorem dX12_period_59 : decode cX12_period 59 = .ok (.ireturn, 1) := by decide +kernel
set_option maxRecDepth 20000 in
theorem ggX12_free_X12_in : GoodIn wsX12_free wsX12_in := goodIn_r _ [7] (by decide +kernel) (by decide +kernel)
set_option maxRecDepth 20000 in
theorem gX12_free_X12_in : GoodIn wsX12_free (va_wsS RX12 88 yX12_in wsX12_in) := goodIn_app (goodIn_of _ (by decide +kernel)) ggX12_free_X12_in
theorem dX12_free_0 : decode cX12_free 0 = .ok (.iload_n 1, 1) := by decide +kernel
theorem dX12_free_1 : decode cX12_free 1 = .ok (.i2l, 1) := by decide +kernel
theorem dX12_free_2 : decode cX12_free 2 = .ok (.lconst 0, 1) := by decide +kernel
theorem dX12_free_3 : decode cX12_free 3 = .ok (.bipush 8, 2) := by decide +kernel
theorem dX12_free_5 : decode cX12_free 5 = .ok (.aload_n 0, 1) := by decide +kernel
theorem dX12_free_6 : decode cX12_free 6 = .ok (.getfield 125, 3) := by decide +kernel
theorem dX12_free_9 : decode cX12_free 9 = .ok (.imul, 1) := by decide +kernel
theorem dX12_free_10 : decode cX12_free 10 = .ok (.iconst 1, 1) := by decide +kernel
theorem dX12_free_11 : decode cX12_free 11 = .ok (.isub, 1) := by decide +kernel
theorem dX12_free_12 : decode cX12_free 12 = .ok (.i2l, 1) := by decide +kernel
theorem dX12_free_13 : decode cX12_free 13 = .ok (.invokestatic 88, 3) := by decide +kernel
theorem dX12_free_16 : decode cX12_free 16 = .ok (.istore_n 2, 1) := by decide +kernel
theorem dX12_free_17 : decode cX12_free 17 = .ok (.iconst 0, 1) := by decide +kernel
theorem dX12_free_18 : decode cX12_free 18 = .ok (.istore_n 3, 1) := by decide +kernel
theorem dX12_free_19 : decode cX12_free 19 = .ok (.iload_n 3, 1) := by decide +kernel
theorem dX12_free_20 : decode cX12_free 20 = .ok (.aload_n 0, 1) := by decide +kernel
theorem dX12_free_21 : decode cX12_free 21 = .ok (.getfield 260, 3) := by decide +kernel
theorem dX12_free_24 : decode cX12_free 24 = .ok (.if_icmp .ge 29, 3) := by decide +kernel
theorem dX12_free_27 : decode cX12_free 27 = .ok (.iload_n 2, 1) := by decide +kernel
theorem dX12_free_28 : decode cX12_free 28 = .ok (.ifCond .eq 17, 3) := by decide +kernel
theorem dX12_free_31 : decode cX12_free 31 = .ok (.aload_n 0, 1) := by decide +kernel
theorem dX12_free_32 : decode cX12_free 32 = .ok (.getfield 72, 3) := by decide +kernel
theorem dX12_free_35 : decode cX12_free 35 = .ok (.iload_n 3, 1) := by decide +kernel
theorem dX12_free_36 : decode cX12_free 36 = .ok (.iaload, 1) := by decide +kernel
theorem dX12_free_37 : decode cX12_free 37 = .ok (.iload_n 1, 1) := by decide +kernel
theorem dX12_free_38 : decode cX12_free 38 = .ok (.if_icmp .eq 7, 3) := by decide +kernel
theorem dX12_free_41 : decode cX12_free 41 = .ok (.iconst 1, 1) := by decide +kernel
theorem dX12_free_42 : decode cX12_free 42 = .ok (.goto 4, 3) := by decide +kernel
theorem dX12_free_45 : decode cX12_free 45 = .ok (.iconst 0, 1) := by decide +kernel
theorem dX12_free_46 : decode cX12_free 46 = .ok (.istore_n 2, 1) := by decide +kernel
theorem dX12_free_47 : decode cX12_free 47 = .ok (.iinc 3 1, 3) := by decide +kernel
theorem dX12_free_50 : decode cX12_free 50 = .ok (.goto (-31), 3) := by decide +kernel
theorem dX12_free_53 : decode cX12_free 53 = .ok (.iload_n 2, 1) := by decide +kernel
theorem dX12_free_54 : decode cX12_free 54 = .ok (.ifCond .ne 6, 3) := by decide +kernel
theorem dX12_free_57 : decode cX12_free 57 = .ok (.bipush (-3), 2) := by decide +kernel
theorem dX12_free_59 : decode cX12_free 59 = .ok (.ireturn, 1) := by decide +kernel
theorem dX12_free_60 : decode cX12_free 60 = .ok (.aload_n 0, 1) := by decide +kernel
theorem dX12_free_61 : decode cX12_free 61 = .ok (.getfield 260, 3) := by decide +kernel
theorem dX12_free_64 : decode cX12_free 64 = .ok (.bipush 16, 2) := by decide +kernel
theorem dX12_free_66 : decode cX12_free 66 = .ok (.if_icmp .ne 6, 3) := by decide +kernel
theorem dX12_free_69 : decode cX12_free 69 = .ok (.bipush (-6), 2) := by decide +kernel
theorem dX12_free_71 : decode cX12_free 71 = .ok (.ireturn, 1) := by decide +kernel
theorem dX12_free_72 : decode cX12_free 72 = .ok (.aload_n 0, 1) := by decide +kernel
theorem dX12_free_73 : decode cX12_free 73 = .ok (.getfield 72, 3) := by decide +kernel
theorem dX12_free_76 : decode cX12_free 76 = .ok (.aload_n 0, 1) := by decide +kernel
theorem dX12_free_77 : decode cX12_free 77 = .ok (.getfield 260, 3) := by decide +kernel
theorem dX12_free_80 : decode cX12_free 80 = .ok (.iload_n 1, 1) := by decide +kernel
theorem dX12_free_81 : decode cX12_free 81 = .ok (.iastore, 1) := by decide +kernel
theorem dX12_free_82 : decode cX12_free 82 = .ok (.aload_n 0, 1) := by decide +kernel
theorem dX12_free_83 : decode cX12_free 83 = .ok (.dup, 1) := by decide +kernel
theorem dX12_free_84 : decode cX12_free 84 = .ok (.getfield 260, 3) := by decide +kernel
theorem dX12_free_87 : decode cX12_free 87 = .ok (.iconst 1, 1) := by decide +kernel
theorem dX12_free_88 : decode cX12_free 88 = .ok (.iadd, 1) := by decide +kernel
theorem dX12_free_89 : decode cX12_free 89 = .ok (.putfield 260, 3) := by decide +kernel
theorem dX12_free_92 : decode cX12_free 92 = .ok (.aload_n 0, 1) := by decide +kernel
theorem dX12_free_93 : decode cX12_free 93 = .ok (.getfield 260, 3) := by decide +kernel
theorem dX12_free_96 : decode cX12_free 96 = .ok (.ireturn, 1) := by decide +kernel
theorem dX12_bind_0 : decode cX12_bind 0 = .ok (.aload_n 0, 1) := by decide +kernel
theorem dX12_bind_1 : decode cX12_bind 1 = .ok (.getfield 260, 3) := by decide +kernel
theorem dX12_bind_4 : decode cX12_bind 4 = .ok (.istore_n 1, 1) := by decide +kernel
theorem dX12_bind_5 : decode cX12_bind 5 = .ok (.aload_n 0, 1) := by decide +kernel
theorem dX12_bind_6 : decode cX12_bind 6 = .ok (.iconst 0, 1) := by decide +kernel
theorem dX12_bind_7 : decode cX12_bind 7 = .ok (.putfield 260, 3) := by decide +kernel
theorem dX12_bind_10 : decode cX12_bind 10 = .ok (.iload_n 1, 1) := by decide +kernel
theorem dX12_bind_11 : decode cX12_bind 11 = .ok (.ireturn, 1) := by decide +kernel
set_option maxRecDepth 20000 in
theorem ggX12_aim_X12_against : GoodIn wsX12_aim wsX12_against := goodIn_r _ [12, 13, 14, 15, 16, 11, 17, 18, 19, 20, 21, 59, 60, 61, 62, 63, 64, 65, 66, 67, 68, 69, 70, 71, 72, 73, 74, 75, 76, 77, 78, 79, 80, 81, 82, 83, 84, 85, 86, 87, 88, 89, 90, 91] (by decide +kernel) (by decide +kernel)
set_option maxRecDepth 20000 in
theorem gX12_aim_X12_against : GoodIn wsX12_aim (wsV RX12 235 RX12 yX12_against wsX12_against) := goodIn_app (goodIn_of _ (by decide +kernel)) ggX12_aim_X12_against
set_option maxRecDepth 20000 in
theorem ggX12_aim_X12_mask : GoodIn wsX12_aim wsX12_mask := goodIn_r _ [25, 26, 59, 60, 61, 62, 63, 64, 65, 66, 67, 68, 69, 70, 71, 72, 73, 74, 75, 76, 77, 78, 79, 80, 81, 82, 83, 84, 85, 86, 87, 88, 89, 90, 91] (by decide +kernel) (by decide +kernel)
set_option maxRecDepth 20000 in
theorem gX12_aim_X12_mask : GoodIn wsX12_aim (wsV RX12 148 RX12 yX12_mask wsX12_mask) := goodIn_app (goodIn_of _ (by decide +kernel)) ggX12_aim_X12_mask
set_option maxRecDepth 20000 in
theorem ggX12_aim_X12_in : GoodIn wsX12_aim wsX12_in := goodIn_r _ [21] (by decide +kernel) (by decide +kernel)
set_option maxRecDepth 20000 in
theorem gX12_aim_X12_in : GoodIn wsX12_aim (va_wsS RX12 88 yX12_in wsX12_in) := goodIn_app (goodIn_of _ (by decide +kernel)) ggX12_aim_X12_in
set_option maxRecDepth 20000 in
theorem ggX12_aim_X12_sumOf : GoodIn wsX12_aim wsX12_sumOf := goodIn_r _ [30, 13, 31, 32, 33, 34, 35, 26, 36, 37, 38, 39, 40, 41, 42, 43, 11, 44, 45, 46, 47, 48, 49, 50, 59, 60, 61, 62, 63, 64, 65, 66, 67, 68, 69, 70, 71, 72, 73, 74, 75, 76, 77, 78, 79, 80, 81, 82, 83, 84, 85, 86, 87, 88, 89, 90, 91] (by decide +kernel) (by decide +kernel)
set_option maxRecDepth 20000 in
theorem gX12_aim_X12_sumOf : GoodIn wsX12_aim (wsV RX12 144 RX12 yX12_sumOf wsX12_sumOf) := goodIn_app (goodIn_of _ (by decide +kernel)) ggX12_aim_X12_sumOf
set_option maxRecDepth 20000 in
theorem ggX12_aim_X12_syndromeOf : GoodIn wsX12_aim wsX12_syndromeOf := goodIn_r _ [54, 26, 38, 39, 45, 46, 11, 47, 48, 49, 50, 55, 56, 57, 58, 59, 60, 61, 62, 63, 64, 65, 66, 67, 68, 69, 70, 71, 72, 73, 74, 75, 76, 77, 78, 79, 80, 81, 82, 83, 84, 85, 86, 87, 88, 89, 90, 91] (by decide +kernel) (by decide +kernel)
set_option maxRecDepth 20000 in
theorem gX12_aim_X12_syndromeOf : GoodIn wsX12_aim (wsV RX12 240 RX12 yX12_syndromeOf wsX12_syndromeOf) := goodIn_app (goodIn_of _ (by decide +kernel)) ggX12_aim_X12_syndromeOf
theorem dX12_aim_0 : decode cX12_aim 0 = .ok (.aload_n 0, 1) := by decide +kernel
theorem dX12_aim_1 : decode cX12_aim 1 = .ok (.iload_n 1, 1) := by decide +kernel
theorem dX12_aim_2 : decode cX12_aim 2 = .ok (.invokevirtual 235, 3) := by decide +kernel
theorem dX12_aim_5 : decode cX12_aim 5 = .ok (.istore 4, 2) := by decide +kernel
theorem dX12_aim_7 : decode cX12_aim 7 = .ok (.iload 4, 2) := by decide +kernel
theorem dX12_aim_9 : decode cX12_aim 9 = .ok (.ifCond .eq 6, 3) := by decide +kernel
theorem dX12_aim_12 : decode cX12_aim 12 = .ok (.iload 4, 2) := by decide +kernel
theorem dX12_aim_14 : decode cX12_aim 14 = .ok (.ireturn, 1) := by decide +kernel
theorem dX12_aim_15 : decode cX12_aim 15 = .ok (.lload_n 2, 1) := by decide +kernel
theorem dX12_aim_16 : decode cX12_aim 16 = .ok (.lconst 0, 1) := by decide +kernel
theorem dX12_aim_17 : decode cX12_aim 17 = .ok (.aload_n 0, 1) := by decide +kernel
theorem dX12_aim_18 : decode cX12_aim 18 = .ok (.iload_n 1, 1) := by decide +kernel
theorem dX12_aim_19 : decode cX12_aim 19 = .ok (.invokevirtual 148, 3) := by decide +kernel
theorem dX12_aim_22 : decode cX12_aim 22 = .ok (.invokestatic 88, 3) := by decide +kernel
theorem dX12_aim_25 : decode cX12_aim 25 = .ok (.ifCond .ne 6, 3) := by decide +kernel
theorem dX12_aim_28 : decode cX12_aim 28 = .ok (.bipush (-3), 2) := by decide +kernel
theorem dX12_aim_30 : decode cX12_aim 30 = .ok (.ireturn, 1) := by decide +kernel
theorem dX12_aim_31 : decode cX12_aim 31 = .ok (.aload_n 0, 1) := by decide +kernel
theorem dX12_aim_32 : decode cX12_aim 32 = .ok (.iload_n 1, 1) := by decide +kernel
theorem dX12_aim_33 : decode cX12_aim 33 = .ok (.aload_n 0, 1) := by decide +kernel
theorem dX12_aim_34 : decode cX12_aim 34 = .ok (.getfield 48, 3) := by decide +kernel
theorem dX12_aim_37 : decode cX12_aim 37 = .ok (.aload_n 0, 1) := by decide +kernel
theorem dX12_aim_38 : decode cX12_aim 38 = .ok (.getfield 125, 3) := by decide +kernel
theorem dX12_aim_41 : decode cX12_aim 41 = .ok (.invokevirtual 144, 3) := by decide +kernel
theorem dX12_aim_44 : decode cX12_aim 44 = .ok (.lload_n 2, 1) := by decide +kernel
theorem dX12_aim_45 : decode cX12_aim 45 = .ok (.lxor, 1) := by decide +kernel
theorem dX12_aim_46 : decode cX12_aim 46 = .ok (.lstore 5, 2) := by decide +kernel
theorem dX12_aim_48 : decode cX12_aim 48 = .ok (.iconst 0, 1) := by decide +kernel
theorem dX12_aim_49 : decode cX12_aim 49 = .ok (.istore 7, 2) := by decide +kernel
theorem dX12_aim_51 : decode cX12_aim 51 = .ok (.iconst 0, 1) := by decide +kernel
theorem dX12_aim_52 : decode cX12_aim 52 = .ok (.istore 8, 2) := by decide +kernel
theorem dX12_aim_54 : decode cX12_aim 54 = .ok (.iload 8, 2) := by decide +kernel
theorem dX12_aim_56 : decode cX12_aim 56 = .ok (.aload_n 0, 1) := by decide +kernel
theorem dX12_aim_57 : decode cX12_aim 57 = .ok (.getfield 260, 3) := by decide +kernel
theorem dX12_aim_60 : decode cX12_aim 60 = .ok (.if_icmp .ge 83, 3) := by decide +kernel
theorem dX12_aim_63 : decode cX12_aim 63 = .ok (.aload_n 0, 1) := by decide +kernel
theorem dX12_aim_64 : decode cX12_aim 64 = .ok (.getfield 72, 3) := by decide +kernel
theorem dX12_aim_67 : decode cX12_aim 67 = .ok (.iload 8, 2) := by decide +kernel
theorem dX12_aim_69 : decode cX12_aim 69 = .ok (.iaload, 1) := by decide +kernel
theorem dX12_aim_70 : decode cX12_aim 70 = .ok (.bipush 8, 2) := by decide +kernel
theorem dX12_aim_72 : decode cX12_aim 72 = .ok (.aload_n 0, 1) := by decide +kernel
theorem dX12_aim_73 : decode cX12_aim 73 = .ok (.getfield 125, 3) := by decide +kernel
theorem dX12_aim_76 : decode cX12_aim 76 = .ok (.imul, 1) := by decide +kernel
theorem dX12_aim_77 : decode cX12_aim 77 = .ok (.if_icmp .ge 7, 3) := by decide +kernel
theorem dX12_aim_80 : decode cX12_aim 80 = .ok (.iconst 1, 1) := by decide +kernel
theorem dX12_aim_81 : decode cX12_aim 81 = .ok (.goto 4, 3) := by decide +kernel
theorem dX12_aim_84 : decode cX12_aim 84 = .ok (.iconst 0, 1) := by decide +kernel
theorem dX12_aim_85 : decode cX12_aim 85 = .ok (.istore 9, 2) := by decide +kernel
theorem dX12_aim_87 : decode cX12_aim 87 = .ok (.aload_n 0, 1) := by decide +kernel
theorem dX12_aim_88 : decode cX12_aim 88 = .ok (.getfield 75, 3) := by decide +kernel
theorem dX12_aim_91 : decode cX12_aim 91 = .ok (.iload 8, 2) := by decide +kernel
theorem dX12_aim_93 : decode cX12_aim 93 = .ok (.iload 9, 2) := by decide +kernel
theorem dX12_aim_95 : decode cX12_aim 95 = .ok (.ifCond .eq 22, 3) := by decide +kernel
theorem dX12_aim_98 : decode cX12_aim 98 = .ok (.aload_n 0, 1) := by decide +kernel
theorem dX12_aim_99 : decode cX12_aim 99 = .ok (.iload_n 1, 1) := by decide +kernel
theorem dX12_aim_100 : decode cX12_aim 100 = .ok (.aload_n 0, 1) := by decide +kernel
theorem dX12_aim_101 : decode cX12_aim 101 = .ok (.getfield 72, 3) := by decide +kernel
theorem dX12_aim_104 : decode cX12_aim 104 = .ok (.iload 8, 2) := by decide +kernel
theorem dX12_aim_106 : decode cX12_aim 106 = .ok (.iaload, 1) := by decide +kernel
theorem dX12_aim_107 : decode cX12_aim 107 = .ok (.aload_n 0, 1) := by decide +kernel
theorem dX12_aim_108 : decode cX12_aim 108 = .ok (.getfield 125, 3) := by decide +kernel
theorem dX12_aim_111 : decode cX12_aim 111 = .ok (.invokevirtual 240, 3) := by decide +kernel
theorem dX12_aim_114 : decode cX12_aim 114 = .ok (.goto 4, 3) := by decide +kernel
theorem dX12_aim_117 : decode cX12_aim 117 = .ok (.lconst 0, 1) := by decide +kernel
theorem dX12_aim_118 : decode cX12_aim 118 = .ok (.lastore, 1) := by decide +kernel
theorem dX12_aim_119 : decode cX12_aim 119 = .ok (.iload 7, 2) := by decide +kernel
theorem dX12_aim_121 : decode cX12_aim 121 = .ok (.iload 9, 2) := by decide +kernel
theorem dX12_aim_123 : decode cX12_aim 123 = .ok (.ifCond .eq 7, 3) := by decide +kernel
theorem dX12_aim_126 : decode cX12_aim 126 = .ok (.iconst 0, 1) := by decide +kernel
theorem dX12_aim_127 : decode cX12_aim 127 = .ok (.goto 7, 3) := by decide +kernel
theorem dX12_aim_130 : decode cX12_aim 130 = .ok (.iconst 1, 1) := by decide +kernel
theorem dX12_aim_131 : decode cX12_aim 131 = .ok (.iload 8, 2) := by decide +kernel
theorem dX12_aim_133 : decode cX12_aim 133 = .ok (.ishl, 1) := by decide +kernel
theorem dX12_aim_134 : decode cX12_aim 134 = .ok (.ior, 1) := by decide +kernel
theorem dX12_aim_135 : decode cX12_aim 135 = .ok (.istore 7, 2) := by decide +kernel
theorem dX12_aim_137 : decode cX12_aim 137 = .ok (.iinc 8 1, 3) := by decide +kernel
theorem dX12_aim_140 : decode cX12_aim 140 = .ok (.goto (-86), 3) := by decide +kernel
theorem dX12_aim_143 : decode cX12_aim 143 = .ok (.iconst 0, 1) := by decide +kernel
theorem dX12_aim_144 : decode cX12_aim 144 = .ok (.istore 8, 2) := by decide +kernel
theorem dX12_aim_146 : decode cX12_aim 146 = .ok (.aload_n 0, 1) := by decide +kernel
theorem dX12_aim_147 : decode cX12_aim 147 = .ok (.iconst 0, 1) := by decide +kernel
theorem dX12_aim_148 : decode cX12_aim 148 = .ok (.putfield 263, 3) := by decide +kernel
theorem dX12_aim_151 : decode cX12_aim 151 = .ok (.iconst 0, 1) := by decide +kernel
theorem dX12_aim_152 : decode cX12_aim 152 = .ok (.istore 9, 2) := by decide +kernel
theorem dX12_aim_154 : decode cX12_aim 154 = .ok (.iload 9, 2) := by decide +kernel
theorem dX12_aim_156 : decode cX12_aim 156 = .ok (.iconst 1, 1) := by decide +kernel
theorem dX12_aim_157 : decode cX12_aim 157 = .ok (.aload_n 0, 1) := by decide +kernel
theorem dX12_aim_158 : decode cX12_aim 158 = .ok (.getfield 260, 3) := by decide +kernel
theorem dX12_aim_161 : decode cX12_aim 161 = .ok (.ishl, 1) := by decide +kernel
theorem dX12_aim_162 : decode cX12_aim 162 = .ok (.if_icmp .ge 103, 3) := by decide +kernel
theorem dX12_aim_165 : decode cX12_aim 165 = .ok (.lconst 0, 1) := by decide +kernel
theorem dX12_aim_166 : decode cX12_aim 166 = .ok (.lstore 10, 2) := by decide +kernel
theorem dX12_aim_168 : decode cX12_aim 168 = .ok (.iconst 0, 1) := by decide +kernel
theorem dX12_aim_169 : decode cX12_aim 169 = .ok (.istore 12, 2) := by decide +kernel
theorem dX12_aim_171 : decode cX12_aim 171 = .ok (.iload 12, 2) := by decide +kernel
theorem dX12_aim_173 : decode cX12_aim 173 = .ok (.aload_n 0, 1) := by decide +kernel
theorem dX12_aim_174 : decode cX12_aim 174 = .ok (.getfield 260, 3) := by decide +kernel
theorem dX12_aim_177 : decode cX12_aim 177 = .ok (.if_icmp .ge 37, 3) := by decide +kernel
theorem dX12_aim_180 : decode cX12_aim 180 = .ok (.iload 9, 2) := by decide +kernel
theorem dX12_aim_182 : decode cX12_aim 182 = .ok (.iload 12, 2) := by decide +kernel
theorem dX12_aim_184 : decode cX12_aim 184 = .ok (.ishr, 1) := by decide +kernel
theorem dX12_aim_185 : decode cX12_aim 185 = .ok (.iconst 1, 1) := by decide +kernel
theorem dX12_aim_186 : decode cX12_aim 186 = .ok (.iand, 1) := by decide +kernel
theorem dX12_aim_187 : decode cX12_aim 187 = .ok (.iconst 1, 1) := by decide +kernel
theorem dX12_aim_188 : decode cX12_aim 188 = .ok (.if_icmp .ne 16, 3) := by decide +kernel
theorem dX12_aim_191 : decode cX12_aim 191 = .ok (.lload 10, 2) := by decide +kernel
theorem dX12_aim_193 : decode cX12_aim 193 = .ok (.aload_n 0, 1) := by decide +kernel
theorem dX12_aim_194 : decode cX12_aim 194 = .ok (.getfield 75, 3) := by decide +kernel
theorem dX12_aim_197 : decode cX12_aim 197 = .ok (.iload 12, 2) := by decide +kernel
theorem dX12_aim_199 : decode cX12_aim 199 = .ok (.laload, 1) := by decide +kernel
theorem dX12_aim_200 : decode cX12_aim 200 = .ok (.lxor, 1) := by decide +kernel
theorem dX12_aim_201 : decode cX12_aim 201 = .ok (.goto 5, 3) := by decide +kernel
theorem dX12_aim_204 : decode cX12_aim 204 = .ok (.lload 10, 2) := by decide +kernel
theorem dX12_aim_206 : decode cX12_aim 206 = .ok (.lstore 10, 2) := by decide +kernel
theorem dX12_aim_208 : decode cX12_aim 208 = .ok (.iinc 12 1, 3) := by decide +kernel
theorem dX12_aim_211 : decode cX12_aim 211 = .ok (.goto (-40), 3) := by decide +kernel
theorem dX12_aim_214 : decode cX12_aim 214 = .ok (.iload 9, 2) := by decide +kernel
theorem dX12_aim_216 : decode cX12_aim 216 = .ok (.iload 7, 2) := by decide +kernel
theorem dX12_aim_218 : decode cX12_aim 218 = .ok (.iand, 1) := by decide +kernel
theorem dX12_aim_219 : decode cX12_aim 219 = .ok (.ifCond .ne 40, 3) := by decide +kernel
theorem dX12_aim_222 : decode cX12_aim 222 = .ok (.lload 10, 2) := by decide +kernel
theorem dX12_aim_224 : decode cX12_aim 224 = .ok (.lload 5, 2) := by decide +kernel
theorem dX12_aim_226 : decode cX12_aim 226 = .ok (.lcmp, 1) := by decide +kernel
theorem dX12_aim_227 : decode cX12_aim 227 = .ok (.ifCond .ne 32, 3) := by decide +kernel
theorem dX12_aim_230 : decode cX12_aim 230 = .ok (.iload 8, 2) := by decide +kernel
theorem dX12_aim_232 : decode cX12_aim 232 = .ok (.bipush 64, 2) := by decide +kernel
theorem dX12_aim_234 : decode cX12_aim 234 = .ok (.if_icmp .ge 22, 3) := by decide +kernel
theorem dX12_aim_237 : decode cX12_aim 237 = .ok (.aload_n 0, 1) := by decide +kernel
theorem dX12_aim_238 : decode cX12_aim 238 = .ok (.getfield 78, 3) := by decide +kernel
theorem dX12_aim_241 : decode cX12_aim 241 = .ok (.iload 8, 2) := by decide +kernel
theorem dX12_aim_243 : decode cX12_aim 243 = .ok (.iload 9, 2) := by decide +kernel
theorem dX12_aim_245 : decode cX12_aim 245 = .ok (.iastore, 1) := by decide +kernel
theorem dX12_aim_246 : decode cX12_aim 246 = .ok (.aload_n 0, 1) := by decide +kernel
theorem dX12_aim_247 : decode cX12_aim 247 = .ok (.dup, 1) := by decide +kernel
theorem dX12_aim_248 : decode cX12_aim 248 = .ok (.getfield 263, 3) := by decide +kernel
theorem dX12_aim_251 : decode cX12_aim 251 = .ok (.iconst 1, 1) := by decide +kernel
theorem dX12_aim_252 : decode cX12_aim 252 = .ok (.iadd, 1) := by decide +kernel
theorem dX12_aim_253 : decode cX12_aim 253 = .ok (.putfield 263, 3) := by decide +kernel
theorem dX12_aim_256 : decode cX12_aim 256 = .ok (.iinc 8 1, 3) := by decide +kernel
theorem dX12_aim_259 : decode cX12_aim 259 = .ok (.iinc 9 1, 3) := by decide +kernel
theorem dX12_aim_262 : decode cX12_aim 262 = .ok (.goto (-108), 3) := by decide +kernel
theorem dX12_aim_265 : decode cX12_aim 265 = .ok (.iload 8, 2) := by decide +kernel
theorem dX12_aim_267 : decode cX12_aim 267 = .ok (.ireturn, 1) := by decide +kernel
set_option maxRecDepth 20000 in
theorem ggX12_way_X12_in : GoodIn wsX12_way wsX12_in := goodIn_r _ [6] (by decide +kernel) (by decide +kernel)
set_option maxRecDepth 20000 in
theorem gX12_way_X12_in : GoodIn wsX12_way (va_wsS RX12 88 yX12_in wsX12_in) := goodIn_app (goodIn_of _ (by decide +kernel)) ggX12_way_X12_in
theorem dX12_way_0 : decode cX12_way 0 = .ok (.iload_n 1, 1) := by decide +kernel
theorem dX12_way_1 : decode cX12_way 1 = .ok (.i2l, 1) := by decide +kernel
theorem dX12_way_2 : decode cX12_way 2 = .ok (.lconst 0, 1) := by decide +kernel
theorem dX12_way_3 : decode cX12_way 3 = .ok (.aload_n 0, 1) := by decide +kernel
theorem dX12_way_4 : decode cX12_way 4 = .ok (.getfield 263, 3) := by decide +kernel
theorem dX12_way_7 : decode cX12_way 7 = .ok (.iconst 1, 1) := by decide +kernel
theorem dX12_way_8 : decode cX12_way 8 = .ok (.isub, 1) := by decide +kernel
theorem dX12_way_9 : decode cX12_way 9 = .ok (.i2l, 1) := by decide +kernel
theorem dX12_way_10 : decode cX12_way 10 = .ok (.invokestatic 88, 3) := by decide +kernel
theorem dX12_way_13 : decode cX12_way 13 = .ok (.ifCond .eq 12, 3) := by decide +kernel
theorem dX12_way_16 : decode cX12_way 16 = .ok (.aload_n 0, 1) := by decide +kernel
theorem dX12_way_17 : decode cX12_way 17 = .ok (.getfield 78, 3) := by decide +kernel
theorem dX12_way_20 : decode cX12_way 20 = .ok (.iload_n 1, 1) := by decide +kernel
theorem dX12_way_21 : decode cX12_way 21 = .ok (.iaload, 1) := by decide +kernel
theorem dX12_way_22 : decode cX12_way 22 = .ok (.goto 4, 3) := by decide +kernel
theorem dX12_way_25 : decode cX12_way 25 = .ok (.iconst (-1), 1) := by decide +kernel
theorem dX12_way_26 : decode cX12_way 26 = .ok (.ireturn, 1) := by decide +kernel
set_option maxRecDepth 20000 in
theorem ggX12_best_X12_in : GoodIn wsX12_best wsX12_in := goodIn_r _ [7] (by decide +kernel) (by decide +kernel)
set_option maxRecDepth 20000 in
theorem gX12_best_X12_in : GoodIn wsX12_best (va_wsS RX12 88 yX12_in wsX12_in) := goodIn_app (goodIn_of _ (by decide +kernel)) ggX12_best_X12_in
set_option maxRecDepth 20000 in
theorem ggX12_best_X12_stepByte : GoodIn wsX12_best wsX12_stepByte := goodIn_r _ [10, 11, 12, 6, 13] (by decide +kernel) (by decide +kernel)
set_option maxRecDepth 20000 in
theorem gX12_best_X12_stepByte : GoodIn wsX12_best (va_wsS RX12 138 yX12_stepByte wsX12_stepByte) := goodIn_app (goodIn_of _ (by decide +kernel)) ggX12_best_X12_stepByte
set_option maxRecDepth 20000 in
theorem ggX12_best_X12_step : GoodIn wsX12_best wsX12_step := goodIn_r _ [13] (by decide +kernel) (by decide +kernel)
set_option maxRecDepth 20000 in
theorem gX12_best_X12_step : GoodIn wsX12_best (va_wsS RX12 128 yX12_step wsX12_step) := goodIn_app (goodIn_of _ (by decide +kernel)) ggX12_best_X12_step
set_option maxRecDepth 20000 in
theorem ggX12_best_X12_setsOf : GoodIn wsX12_best wsX12_setsOf := goodIn_r _ [17, 3, 18, 19, 20, 6, 21, 22, 23, 24, 25, 26, 27, 28, 29, 30, 31, 32, 33, 34, 35, 36, 37, 38, 39, 40, 41, 42, 43, 44, 45, 46, 47, 48, 49, 50, 51, 52, 53, 54, 55] (by decide +kernel) (by decide +kernel)
set_option maxRecDepth 20000 in
theorem gX12_best_X12_setsOf : GoodIn wsX12_best (wsV RX12 253 RX12 yX12_setsOf wsX12_setsOf) := goodIn_app (goodIn_of _ (by decide +kernel)) ggX12_best_X12_setsOf
theorem dX12_best_0 : decode cX12_best 0 = .ok (.iload_n 1, 1) := by decide +kernel
theorem dX12_best_1 : decode cX12_best 1 = .ok (.i2l, 1) := by decide +kernel
theorem dX12_best_2 : decode cX12_best 2 = .ok (.ldc2_w 115, 3) := by decide +kernel
theorem dX12_best_5 : decode cX12_best 5 = .ok (.ldc2_w 111, 3) := by decide +kernel
theorem dX12_best_8 : decode cX12_best 8 = .ok (.invokestatic 88, 3) := by decide +kernel
theorem dX12_best_11 : decode cX12_best 11 = .ok (.ifCond .eq 15, 3) := by decide +kernel
theorem dX12_best_14 : decode cX12_best 14 = .ok (.iload_n 2, 1) := by decide +kernel
theorem dX12_best_15 : decode cX12_best 15 = .ok (.i2l, 1) := by decide +kernel
theorem dX12_best_16 : decode cX12_best 16 = .ok (.lconst 1, 1) := by decide +kernel
theorem dX12_best_17 : decode cX12_best 17 = .ok (.ldc2_w 115, 3) := by decide +kernel
theorem dX12_best_20 : decode cX12_best 20 = .ok (.invokestatic 88, 3) := by decide +kernel
theorem dX12_best_23 : decode cX12_best 23 = .ok (.ifCond .ne 6, 3) := by decide +kernel
theorem dX12_best_26 : decode cX12_best 26 = .ok (.bipush (-3), 2) := by decide +kernel
theorem dX12_best_28 : decode cX12_best 28 = .ok (.ireturn, 1) := by decide +kernel
theorem dX12_best_29 : decode cX12_best 29 = .ok (.iconst (-1), 1) := by decide +kernel
theorem dX12_best_30 : decode cX12_best 30 = .ok (.istore_n 3, 1) := by decide +kernel
theorem dX12_best_31 : decode cX12_best 31 = .ok (.iconst 0, 1) := by decide +kernel
theorem dX12_best_32 : decode cX12_best 32 = .ok (.istore 4, 2) := by decide +kernel
theorem dX12_best_34 : decode cX12_best 34 = .ok (.iconst 0, 1) := by decide +kernel
theorem dX12_best_35 : decode cX12_best 35 = .ok (.istore 5, 2) := by decide +kernel
theorem dX12_best_37 : decode cX12_best 37 = .ok (.iconst 1, 1) := by decide +kernel
theorem dX12_best_38 : decode cX12_best 38 = .ok (.istore 6, 2) := by decide +kernel
theorem dX12_best_40 : decode cX12_best 40 = .ok (.iload 6, 2) := by decide +kernel
theorem dX12_best_42 : decode cX12_best 42 = .ok (.iconst 1, 1) := by decide +kernel
theorem dX12_best_43 : decode cX12_best 43 = .ok (.iload_n 1, 1) := by decide +kernel
theorem dX12_best_44 : decode cX12_best 44 = .ok (.ishl, 1) := by decide +kernel
theorem dX12_best_45 : decode cX12_best 45 = .ok (.if_icmp .ge 177, 3) := by decide +kernel
theorem dX12_best_48 : decode cX12_best 48 = .ok (.iconst 0, 1) := by decide +kernel
theorem dX12_best_49 : decode cX12_best 49 = .ok (.istore 7, 2) := by decide +kernel
theorem dX12_best_51 : decode cX12_best 51 = .ok (.iload 7, 2) := by decide +kernel
theorem dX12_best_53 : decode cX12_best 53 = .ok (.bipush 8, 2) := by decide +kernel
theorem dX12_best_55 : decode cX12_best 55 = .ok (.iload_n 2, 1) := by decide +kernel
theorem dX12_best_56 : decode cX12_best 56 = .ok (.imul, 1) := by decide +kernel
theorem dX12_best_57 : decode cX12_best 57 = .ok (.if_icmp .ge 76, 3) := by decide +kernel
theorem dX12_best_60 : decode cX12_best 60 = .ok (.lconst 0, 1) := by decide +kernel
theorem dX12_best_61 : decode cX12_best 61 = .ok (.sipush 128, 3) := by decide +kernel
theorem dX12_best_64 : decode cX12_best 64 = .ok (.iload 7, 2) := by decide +kernel
theorem dX12_best_66 : decode cX12_best 66 = .ok (.bipush 8, 2) := by decide +kernel
theorem dX12_best_68 : decode cX12_best 68 = .ok (.irem, 1) := by decide +kernel
theorem dX12_best_69 : decode cX12_best 69 = .ok (.ishr, 1) := by decide +kernel
theorem dX12_best_70 : decode cX12_best 70 = .ok (.iload_n 1, 1) := by decide +kernel
theorem dX12_best_71 : decode cX12_best 71 = .ok (.iload 6, 2) := by decide +kernel
theorem dX12_best_73 : decode cX12_best 73 = .ok (.i2l, 1) := by decide +kernel
theorem dX12_best_74 : decode cX12_best 74 = .ok (.iconst 0, 1) := by decide +kernel
theorem dX12_best_75 : decode cX12_best 75 = .ok (.invokestatic 138, 3) := by decide +kernel
theorem dX12_best_78 : decode cX12_best 78 = .ok (.lstore 8, 2) := by decide +kernel
theorem dX12_best_80 : decode cX12_best 80 = .ok (.iconst 0, 1) := by decide +kernel
theorem dX12_best_81 : decode cX12_best 81 = .ok (.istore 10, 2) := by decide +kernel
theorem dX12_best_83 : decode cX12_best 83 = .ok (.iload 10, 2) := by decide +kernel
theorem dX12_best_85 : decode cX12_best 85 = .ok (.bipush 8, 2) := by decide +kernel
theorem dX12_best_87 : decode cX12_best 87 = .ok (.iload_n 2, 1) := by decide +kernel
theorem dX12_best_88 : decode cX12_best 88 = .ok (.iconst 1, 1) := by decide +kernel
theorem dX12_best_89 : decode cX12_best 89 = .ok (.isub, 1) := by decide +kernel
theorem dX12_best_90 : decode cX12_best 90 = .ok (.iload 7, 2) := by decide +kernel
theorem dX12_best_92 : decode cX12_best 92 = .ok (.bipush 8, 2) := by decide +kernel
theorem dX12_best_94 : decode cX12_best 94 = .ok (.idiv, 1) := by decide +kernel
theorem dX12_best_95 : decode cX12_best 95 = .ok (.isub, 1) := by decide +kernel
theorem dX12_best_96 : decode cX12_best 96 = .ok (.imul, 1) := by decide +kernel
theorem dX12_best_97 : decode cX12_best 97 = .ok (.if_icmp .ge 21, 3) := by decide +kernel
theorem dX12_best_100 : decode cX12_best 100 = .ok (.lload 8, 2) := by decide +kernel
theorem dX12_best_102 : decode cX12_best 102 = .ok (.iconst 0, 1) := by decide +kernel
theorem dX12_best_103 : decode cX12_best 103 = .ok (.iload_n 1, 1) := by decide +kernel
theorem dX12_best_104 : decode cX12_best 104 = .ok (.iload 6, 2) := by decide +kernel
theorem dX12_best_106 : decode cX12_best 106 = .ok (.i2l, 1) := by decide +kernel
theorem dX12_best_107 : decode cX12_best 107 = .ok (.invokestatic 128, 3) := by decide +kernel
theorem dX12_best_110 : decode cX12_best 110 = .ok (.lstore 8, 2) := by decide +kernel
theorem dX12_best_112 : decode cX12_best 112 = .ok (.iinc 10 1, 3) := by decide +kernel
theorem dX12_best_115 : decode cX12_best 115 = .ok (.goto (-32), 3) := by decide +kernel
theorem dX12_best_118 : decode cX12_best 118 = .ok (.aload_n 0, 1) := by decide +kernel
theorem dX12_best_119 : decode cX12_best 119 = .ok (.getfield 66, 3) := by decide +kernel
theorem dX12_best_122 : decode cX12_best 122 = .ok (.iload 7, 2) := by decide +kernel
theorem dX12_best_124 : decode cX12_best 124 = .ok (.lload 8, 2) := by decide +kernel
theorem dX12_best_126 : decode cX12_best 126 = .ok (.lastore, 1) := by decide +kernel
theorem dX12_best_127 : decode cX12_best 127 = .ok (.iinc 7 1, 3) := by decide +kernel
theorem dX12_best_130 : decode cX12_best 130 = .ok (.goto (-79), 3) := by decide +kernel
theorem dX12_best_133 : decode cX12_best 133 = .ok (.iconst 0, 1) := by decide +kernel
theorem dX12_best_134 : decode cX12_best 134 = .ok (.istore 7, 2) := by decide +kernel
theorem dX12_best_136 : decode cX12_best 136 = .ok (.iconst 0, 1) := by decide +kernel
theorem dX12_best_137 : decode cX12_best 137 = .ok (.istore 8, 2) := by decide +kernel
theorem dX12_best_139 : decode cX12_best 139 = .ok (.iload 8, 2) := by decide +kernel
theorem dX12_best_141 : decode cX12_best 141 = .ok (.ifCond .ne 38, 3) := by decide +kernel
theorem dX12_best_144 : decode cX12_best 144 = .ok (.iload 7, 2) := by decide +kernel
theorem dX12_best_146 : decode cX12_best 146 = .ok (.iconst 5, 1) := by decide +kernel
theorem dX12_best_147 : decode cX12_best 147 = .ok (.if_icmp .ge 32, 3) := by decide +kernel
theorem dX12_best_150 : decode cX12_best 150 = .ok (.iinc 7 1, 3) := by decide +kernel
theorem dX12_best_153 : decode cX12_best 153 = .ok (.iload 7, 2) := by decide +kernel
theorem dX12_best_155 : decode cX12_best 155 = .ok (.iconst 5, 1) := by decide +kernel
theorem dX12_best_156 : decode cX12_best 156 = .ok (.if_icmp .ge 17, 3) := by decide +kernel
theorem dX12_best_159 : decode cX12_best 159 = .ok (.aload_n 0, 1) := by decide +kernel
theorem dX12_best_160 : decode cX12_best 160 = .ok (.iload 7, 2) := by decide +kernel
theorem dX12_best_162 : decode cX12_best 162 = .ok (.bipush 8, 2) := by decide +kernel
theorem dX12_best_164 : decode cX12_best 164 = .ok (.iload_n 2, 1) := by decide +kernel
theorem dX12_best_165 : decode cX12_best 165 = .ok (.imul, 1) := by decide +kernel
theorem dX12_best_166 : decode cX12_best 166 = .ok (.iconst 0, 1) := by decide +kernel
theorem dX12_best_167 : decode cX12_best 167 = .ok (.invokevirtual 253, 3) := by decide +kernel
theorem dX12_best_170 : decode cX12_best 170 = .ok (.goto 4, 3) := by decide +kernel
theorem dX12_best_173 : decode cX12_best 173 = .ok (.iconst 0, 1) := by decide +kernel
theorem dX12_best_174 : decode cX12_best 174 = .ok (.istore 8, 2) := by decide +kernel
theorem dX12_best_176 : decode cX12_best 176 = .ok (.goto (-37), 3) := by decide +kernel
theorem dX12_best_179 : decode cX12_best 179 = .ok (.iload_n 3, 1) := by decide +kernel
theorem dX12_best_180 : decode cX12_best 180 = .ok (.iconst (-1), 1) := by decide +kernel
theorem dX12_best_181 : decode cX12_best 181 = .ok (.if_icmp .eq 24, 3) := by decide +kernel
theorem dX12_best_184 : decode cX12_best 184 = .ok (.iload 7, 2) := by decide +kernel
theorem dX12_best_186 : decode cX12_best 186 = .ok (.iload 4, 2) := by decide +kernel
theorem dX12_best_188 : decode cX12_best 188 = .ok (.if_icmp .gt 17, 3) := by decide +kernel
theorem dX12_best_191 : decode cX12_best 191 = .ok (.iload 7, 2) := by decide +kernel
theorem dX12_best_193 : decode cX12_best 193 = .ok (.iload 4, 2) := by decide +kernel
theorem dX12_best_195 : decode cX12_best 195 = .ok (.if_icmp .ne 21, 3) := by decide +kernel
theorem dX12_best_198 : decode cX12_best 198 = .ok (.iload 8, 2) := by decide +kernel
theorem dX12_best_200 : decode cX12_best 200 = .ok (.iload 5, 2) := by decide +kernel
theorem dX12_best_202 : decode cX12_best 202 = .ok (.if_icmp .ge 14, 3) := by decide +kernel
theorem dX12_best_205 : decode cX12_best 205 = .ok (.iload 6, 2) := by decide +kernel
theorem dX12_best_207 : decode cX12_best 207 = .ok (.istore_n 3, 1) := by decide +kernel
theorem dX12_best_208 : decode cX12_best 208 = .ok (.iload 7, 2) := by decide +kernel
theorem dX12_best_210 : decode cX12_best 210 = .ok (.istore 4, 2) := by decide +kernel
theorem dX12_best_212 : decode cX12_best 212 = .ok (.iload 8, 2) := by decide +kernel
theorem dX12_best_214 : decode cX12_best 214 = .ok (.istore 5, 2) := by decide +kernel
theorem dX12_best_216 : decode cX12_best 216 = .ok (.iinc 6 2, 3) := by decide +kernel
theorem dX12_best_219 : decode cX12_best 219 = .ok (.goto (-179), 3) := by decide +kernel
theorem dX12_best_222 : decode cX12_best 222 = .ok (.iload_n 3, 1) := by decide +kernel
theorem dX12_best_223 : decode cX12_best 223 = .ok (.ireturn, 1) := by decide +kernel
set_option maxRecDepth 20000 in
theorem ggX12_mend_X12_isSum : GoodIn wsX12_mend wsX12_isSum := goodIn_r _ [8, 9, 10, 11, 7, 12, 50, 51, 52, 53, 54, 55, 56, 57, 58, 59, 60, 61, 62, 63, 64, 65, 66, 67, 68, 69, 70, 71, 72, 73, 74, 75, 76, 77, 78, 79, 80, 81, 82] (by decide +kernel) (by decide +kernel)
set_option maxRecDepth 20000 in
theorem gX12_mend_X12_isSum : GoodIn wsX12_mend (wsV RX12 119 RX12 yX12_isSum wsX12_isSum) := goodIn_app (goodIn_of _ (by decide +kernel)) ggX12_mend_X12_isSum
set_option maxRecDepth 20000 in
theorem ggX12_mend_X12_mask : GoodIn wsX12_mend wsX12_mask := goodIn_r _ [16, 17, 50, 51, 52, 53, 54, 55, 56, 57, 58, 59, 60, 61, 62, 63, 64, 65, 66, 67, 68, 69, 70, 71, 72, 73, 74, 75, 76, 77, 78, 79, 80, 81, 82] (by decide +kernel) (by decide +kernel)
set_option maxRecDepth 20000 in
theorem gX12_mend_X12_mask : GoodIn wsX12_mend (wsV RX12 148 RX12 yX12_mask wsX12_mask) := goodIn_app (goodIn_of _ (by decide +kernel)) ggX12_mend_X12_mask
set_option maxRecDepth 20000 in
theorem ggX12_mend_X12_in : GoodIn wsX12_mend wsX12_in := goodIn_r _ [12] (by decide +kernel) (by decide +kernel)
set_option maxRecDepth 20000 in
theorem gX12_mend_X12_in : GoodIn wsX12_mend (va_wsS RX12 88 yX12_in wsX12_in) := goodIn_app (goodIn_of _ (by decide +kernel)) ggX12_mend_X12_in
set_option maxRecDepth 20000 in
theorem ggX12_mend_X12_sumOf : GoodIn wsX12_mend wsX12_sumOf := goodIn_r _ [21, 1, 22, 23, 24, 25, 26, 17, 27, 28, 29, 30, 31, 32, 33, 34, 7, 35, 36, 37, 38, 39, 40, 41, 50, 51, 52, 53, 54, 55, 56, 57, 58, 59, 60, 61, 62, 63, 64, 65, 66, 67, 68, 69, 70, 71, 72, 73, 74, 75, 76, 77, 78, 79, 80, 81, 82] (by decide +kernel) (by decide +kernel)
set_option maxRecDepth 20000 in
theorem gX12_mend_X12_sumOf : GoodIn wsX12_mend (wsV RX12 144 RX12 yX12_sumOf wsX12_sumOf) := goodIn_app (goodIn_of _ (by decide +kernel)) ggX12_mend_X12_sumOf
set_option maxRecDepth 20000 in
theorem ggX12_mend_X12_syndromeOf : GoodIn wsX12_mend wsX12_syndromeOf := goodIn_r _ [45, 17, 29, 30, 36, 37, 7, 38, 39, 40, 41, 46, 47, 48, 49, 50, 51, 52, 53, 54, 55, 56, 57, 58, 59, 60, 61, 62, 63, 64, 65, 66, 67, 68, 69, 70, 71, 72, 73, 74, 75, 76, 77, 78, 79, 80, 81, 82] (by decide +kernel) (by decide +kernel)
set_option maxRecDepth 20000 in
theorem gX12_mend_X12_syndromeOf : GoodIn wsX12_mend (wsV RX12 240 RX12 yX12_syndromeOf wsX12_syndromeOf) := goodIn_app (goodIn_of _ (by decide +kernel)) ggX12_mend_X12_syndromeOf
theorem dX12_mend_0 : decode cX12_mend 0 = .ok (.aload_n 0, 1) := by decide +kernel
theorem dX12_mend_1 : decode cX12_mend 1 = .ok (.iload_n 1, 1) := by decide +kernel
theorem dX12_mend_2 : decode cX12_mend 2 = .ok (.invokevirtual 119, 3) := by decide +kernel
theorem dX12_mend_5 : decode cX12_mend 5 = .ok (.ifCond .ne 6, 3) := by decide +kernel
theorem dX12_mend_8 : decode cX12_mend 8 = .ok (.bipush (-2), 2) := by decide +kernel
theorem dX12_mend_10 : decode cX12_mend 10 = .ok (.ireturn, 1) := by decide +kernel
theorem dX12_mend_11 : decode cX12_mend 11 = .ok (.aload_n 0, 1) := by decide +kernel
theorem dX12_mend_12 : decode cX12_mend 12 = .ok (.getfield 13, 3) := by decide +kernel
theorem dX12_mend_15 : decode cX12_mend 15 = .ok (.iload_n 1, 1) := by decide +kernel
theorem dX12_mend_16 : decode cX12_mend 16 = .ok (.iaload, 1) := by decide +kernel
theorem dX12_mend_17 : decode cX12_mend 17 = .ok (.iconst 5, 1) := by decide +kernel
theorem dX12_mend_18 : decode cX12_mend 18 = .ok (.if_icmp .eq 6, 3) := by decide +kernel
theorem dX12_mend_21 : decode cX12_mend 21 = .ok (.bipush (-4), 2) := by decide +kernel
theorem dX12_mend_23 : decode cX12_mend 23 = .ok (.ireturn, 1) := by decide +kernel
theorem dX12_mend_24 : decode cX12_mend 24 = .ok (.lload_n 2, 1) := by decide +kernel
theorem dX12_mend_25 : decode cX12_mend 25 = .ok (.lconst 0, 1) := by decide +kernel
theorem dX12_mend_26 : decode cX12_mend 26 = .ok (.aload_n 0, 1) := by decide +kernel
theorem dX12_mend_27 : decode cX12_mend 27 = .ok (.iload_n 1, 1) := by decide +kernel
theorem dX12_mend_28 : decode cX12_mend 28 = .ok (.invokevirtual 148, 3) := by decide +kernel
theorem dX12_mend_31 : decode cX12_mend 31 = .ok (.invokestatic 88, 3) := by decide +kernel
theorem dX12_mend_34 : decode cX12_mend 34 = .ok (.ifCond .ne 6, 3) := by decide +kernel
theorem dX12_mend_37 : decode cX12_mend 37 = .ok (.bipush (-3), 2) := by decide +kernel
theorem dX12_mend_39 : decode cX12_mend 39 = .ok (.ireturn, 1) := by decide +kernel
theorem dX12_mend_40 : decode cX12_mend 40 = .ok (.aload_n 0, 1) := by decide +kernel
theorem dX12_mend_41 : decode cX12_mend 41 = .ok (.iload_n 1, 1) := by decide +kernel
theorem dX12_mend_42 : decode cX12_mend 42 = .ok (.aload_n 0, 1) := by decide +kernel
theorem dX12_mend_43 : decode cX12_mend 43 = .ok (.getfield 48, 3) := by decide +kernel
theorem dX12_mend_46 : decode cX12_mend 46 = .ok (.aload_n 0, 1) := by decide +kernel
theorem dX12_mend_47 : decode cX12_mend 47 = .ok (.getfield 125, 3) := by decide +kernel
theorem dX12_mend_50 : decode cX12_mend 50 = .ok (.invokevirtual 144, 3) := by decide +kernel
theorem dX12_mend_53 : decode cX12_mend 53 = .ok (.lload_n 2, 1) := by decide +kernel
theorem dX12_mend_54 : decode cX12_mend 54 = .ok (.lxor, 1) := by decide +kernel
theorem dX12_mend_55 : decode cX12_mend 55 = .ok (.lstore 4, 2) := by decide +kernel
theorem dX12_mend_57 : decode cX12_mend 57 = .ok (.lload 4, 2) := by decide +kernel
theorem dX12_mend_59 : decode cX12_mend 59 = .ok (.lconst 0, 1) := by decide +kernel
theorem dX12_mend_60 : decode cX12_mend 60 = .ok (.lcmp, 1) := by decide +kernel
theorem dX12_mend_61 : decode cX12_mend 61 = .ok (.ifCond .ne 5, 3) := by decide +kernel
theorem dX12_mend_64 : decode cX12_mend 64 = .ok (.iconst 0, 1) := by decide +kernel
theorem dX12_mend_65 : decode cX12_mend 65 = .ok (.ireturn, 1) := by decide +kernel
theorem dX12_mend_66 : decode cX12_mend 66 = .ok (.iconst 0, 1) := by decide +kernel
theorem dX12_mend_67 : decode cX12_mend 67 = .ok (.istore 6, 2) := by decide +kernel
theorem dX12_mend_69 : decode cX12_mend 69 = .ok (.iload 6, 2) := by decide +kernel
theorem dX12_mend_71 : decode cX12_mend 71 = .ok (.bipush 8, 2) := by decide +kernel
theorem dX12_mend_73 : decode cX12_mend 73 = .ok (.aload_n 0, 1) := by decide +kernel
theorem dX12_mend_74 : decode cX12_mend 74 = .ok (.getfield 125, 3) := by decide +kernel
theorem dX12_mend_77 : decode cX12_mend 77 = .ok (.imul, 1) := by decide +kernel
theorem dX12_mend_78 : decode cX12_mend 78 = .ok (.if_icmp .ge 61, 3) := by decide +kernel
theorem dX12_mend_81 : decode cX12_mend 81 = .ok (.aload_n 0, 1) := by decide +kernel
theorem dX12_mend_82 : decode cX12_mend 82 = .ok (.iload_n 1, 1) := by decide +kernel
theorem dX12_mend_83 : decode cX12_mend 83 = .ok (.iload 6, 2) := by decide +kernel
theorem dX12_mend_85 : decode cX12_mend 85 = .ok (.aload_n 0, 1) := by decide +kernel
theorem dX12_mend_86 : decode cX12_mend 86 = .ok (.getfield 125, 3) := by decide +kernel
theorem dX12_mend_89 : decode cX12_mend 89 = .ok (.invokevirtual 240, 3) := by decide +kernel
theorem dX12_mend_92 : decode cX12_mend 92 = .ok (.lload 4, 2) := by decide +kernel
theorem dX12_mend_94 : decode cX12_mend 94 = .ok (.lcmp, 1) := by decide +kernel
theorem dX12_mend_95 : decode cX12_mend 95 = .ok (.ifCond .ne 38, 3) := by decide +kernel
theorem dX12_mend_98 : decode cX12_mend 98 = .ok (.aload_n 0, 1) := by decide +kernel
theorem dX12_mend_99 : decode cX12_mend 99 = .ok (.getfield 48, 3) := by decide +kernel
theorem dX12_mend_102 : decode cX12_mend 102 = .ok (.iload 6, 2) := by decide +kernel
theorem dX12_mend_104 : decode cX12_mend 104 = .ok (.bipush 8, 2) := by decide +kernel
theorem dX12_mend_106 : decode cX12_mend 106 = .ok (.idiv, 1) := by decide +kernel
theorem dX12_mend_107 : decode cX12_mend 107 = .ok (.aload_n 0, 1) := by decide +kernel
theorem dX12_mend_108 : decode cX12_mend 108 = .ok (.getfield 48, 3) := by decide +kernel
theorem dX12_mend_111 : decode cX12_mend 111 = .ok (.iload 6, 2) := by decide +kernel
theorem dX12_mend_113 : decode cX12_mend 113 = .ok (.bipush 8, 2) := by decide +kernel
theorem dX12_mend_115 : decode cX12_mend 115 = .ok (.idiv, 1) := by decide +kernel
theorem dX12_mend_116 : decode cX12_mend 116 = .ok (.iaload, 1) := by decide +kernel
theorem dX12_mend_117 : decode cX12_mend 117 = .ok (.sipush 128, 3) := by decide +kernel
theorem dX12_mend_120 : decode cX12_mend 120 = .ok (.iload 6, 2) := by decide +kernel
theorem dX12_mend_122 : decode cX12_mend 122 = .ok (.bipush 8, 2) := by decide +kernel
theorem dX12_mend_124 : decode cX12_mend 124 = .ok (.irem, 1) := by decide +kernel
theorem dX12_mend_125 : decode cX12_mend 125 = .ok (.ishr, 1) := by decide +kernel
theorem dX12_mend_126 : decode cX12_mend 126 = .ok (.ixor, 1) := by decide +kernel
theorem dX12_mend_127 : decode cX12_mend 127 = .ok (.iastore, 1) := by decide +kernel
theorem dX12_mend_128 : decode cX12_mend 128 = .ok (.iconst 1, 1) := by decide +kernel
theorem dX12_mend_129 : decode cX12_mend 129 = .ok (.iload 6, 2) := by decide +kernel
theorem dX12_mend_131 : decode cX12_mend 131 = .ok (.iadd, 1) := by decide +kernel
theorem dX12_mend_132 : decode cX12_mend 132 = .ok (.ireturn, 1) := by decide +kernel
theorem dX12_mend_133 : decode cX12_mend 133 = .ok (.iinc 6 1, 3) := by decide +kernel
theorem dX12_mend_136 : decode cX12_mend 136 = .ok (.goto (-67), 3) := by decide +kernel
theorem dX12_mend_139 : decode cX12_mend 139 = .ok (.lload 4, 2) := by decide +kernel
theorem dX12_mend_141 : decode cX12_mend 141 = .ok (.lload 4, 2) := by decide +kernel
theorem dX12_mend_143 : decode cX12_mend 143 = .ok (.lconst 1, 1) := by decide +kernel
theorem dX12_mend_144 : decode cX12_mend 144 = .ok (.lsub, 1) := by decide +kernel
theorem dX12_mend_145 : decode cX12_mend 145 = .ok (.land, 1) := by decide +kernel
theorem dX12_mend_146 : decode cX12_mend 146 = .ok (.lconst 0, 1) := by decide +kernel
theorem dX12_mend_147 : decode cX12_mend 147 = .ok (.lcmp, 1) := by decide +kernel
theorem dX12_mend_148 : decode cX12_mend 148 = .ok (.ifCond .eq 5, 3) := by decide +kernel
theorem dX12_mend_151 : decode cX12_mend 151 = .ok (.iconst (-1), 1) := by decide +kernel
theorem dX12_mend_152 : decode cX12_mend 152 = .ok (.ireturn, 1) := by decide +kernel
theorem dX12_mend_153 : decode cX12_mend 153 = .ok (.iconst 0, 1) := by decide +kernel
theorem dX12_mend_154 : decode cX12_mend 154 = .ok (.istore 6, 2) := by decide +kernel
theorem dX12_mend_156 : decode cX12_mend 156 = .ok (.lload 4, 2) := by decide +kernel
theorem dX12_mend_158 : decode cX12_mend 158 = .ok (.iload 6, 2) := by decide +kernel
theorem dX12_mend_160 : decode cX12_mend 160 = .ok (.lshr, 1) := by decide +kernel
theorem dX12_mend_161 : decode cX12_mend 161 = .ok (.lconst 1, 1) := by decide +kernel
theorem dX12_mend_162 : decode cX12_mend 162 = .ok (.lcmp, 1) := by decide +kernel
theorem dX12_mend_163 : decode cX12_mend 163 = .ok (.ifCond .eq 9, 3) := by decide +kernel
theorem dX12_mend_166 : decode cX12_mend 166 = .ok (.iinc 6 1, 3) := by decide +kernel
theorem dX12_mend_169 : decode cX12_mend 169 = .ok (.goto (-13), 3) := by decide +kernel
theorem dX12_mend_172 : decode cX12_mend 172 = .ok (.sipush 1000, 3) := by decide +kernel
theorem dX12_mend_175 : decode cX12_mend 175 = .ok (.iload 6, 2) := by decide +kernel
theorem dX12_mend_177 : decode cX12_mend 177 = .ok (.iadd, 1) := by decide +kernel
theorem dX12_mend_178 : decode cX12_mend 178 = .ok (.ireturn, 1) := by decide +kernel
set_option maxRecDepth 20000 in
theorem ggX12_reach_X12_isSum : GoodIn wsX12_reach wsX12_isSum := goodIn_r _ [7, 8, 9, 10, 6, 11, 29, 30, 31, 32, 33, 34, 35, 36, 37, 38, 39, 40, 41, 42, 43, 44, 45, 46, 47, 48, 49, 50, 51, 52, 53, 54, 55, 56, 57, 58, 59, 60, 61] (by decide +kernel) (by decide +kernel)
set_option maxRecDepth 20000 in
theorem gX12_reach_X12_isSum : GoodIn wsX12_reach (wsV RX12 119 RX12 yX12_isSum wsX12_isSum) := goodIn_app (goodIn_of _ (by decide +kernel)) ggX12_reach_X12_isSum
set_option maxRecDepth 20000 in
theorem ggX12_reach_X12_syndromeOf : GoodIn wsX12_reach wsX12_syndromeOf := goodIn_r _ [15, 16, 17, 18, 19, 20, 6, 21, 22, 23, 24, 25, 26, 27, 28, 29, 30, 31, 32, 33, 34, 35, 36, 37, 38, 39, 40, 41, 42, 43, 44, 45, 46, 47, 48, 49, 50, 51, 52, 53, 54, 55, 56, 57, 58, 59, 60, 61] (by decide +kernel) (by decide +kernel)
set_option maxRecDepth 20000 in
theorem gX12_reach_X12_syndromeOf : GoodIn wsX12_reach (wsV RX12 240 RX12 yX12_syndromeOf wsX12_syndromeOf) := goodIn_app (goodIn_of _ (by decide +kernel)) ggX12_reach_X12_syndromeOf
theorem dX12_reach_0 : decode cX12_reach 0 = .ok (.aload_n 0, 1) := by decide +kernel
theorem dX12_reach_1 : decode cX12_reach 1 = .ok (.iload_n 1, 1) := by decide +kernel
theorem dX12_reach_2 : decode cX12_reach 2 = .ok (.invokevirtual 119, 3) := by decide +kernel
theorem dX12_reach_5 : decode cX12_reach 5 = .ok (.ifCond .ne 6, 3) := by decide +kernel
theorem dX12_reach_8 : decode cX12_reach 8 = .ok (.bipush (-2), 2) := by decide +kernel
theorem dX12_reach_10 : decode cX12_reach 10 = .ok (.ireturn, 1) := by decide +kernel
theorem dX12_reach_11 : decode cX12_reach 11 = .ok (.aload_n 0, 1) := by decide +kernel
theorem dX12_reach_12 : decode cX12_reach 12 = .ok (.getfield 13, 3) := by decide +kernel
theorem dX12_reach_15 : decode cX12_reach 15 = .ok (.iload_n 1, 1) := by decide +kernel
theorem dX12_reach_16 : decode cX12_reach 16 = .ok (.iaload, 1) := by decide +kernel
theorem dX12_reach_17 : decode cX12_reach 17 = .ok (.iconst 5, 1) := by decide +kernel
theorem dX12_reach_18 : decode cX12_reach 18 = .ok (.if_icmp .eq 6, 3) := by decide +kernel
theorem dX12_reach_21 : decode cX12_reach 21 = .ok (.bipush (-4), 2) := by decide +kernel
theorem dX12_reach_23 : decode cX12_reach 23 = .ok (.ireturn, 1) := by decide +kernel
theorem dX12_reach_24 : decode cX12_reach 24 = .ok (.iconst 0, 1) := by decide +kernel
theorem dX12_reach_25 : decode cX12_reach 25 = .ok (.istore_n 2, 1) := by decide +kernel
theorem dX12_reach_26 : decode cX12_reach 26 = .ok (.iconst 1, 1) := by decide +kernel
theorem dX12_reach_27 : decode cX12_reach 27 = .ok (.istore_n 3, 1) := by decide +kernel
theorem dX12_reach_28 : decode cX12_reach 28 = .ok (.iload_n 3, 1) := by decide +kernel
theorem dX12_reach_29 : decode cX12_reach 29 = .ok (.ifCond .eq 132, 3) := by decide +kernel
theorem dX12_reach_32 : decode cX12_reach 32 = .ok (.iload_n 2, 1) := by decide +kernel
theorem dX12_reach_33 : decode cX12_reach 33 = .ok (.bipush 64, 2) := by decide +kernel
theorem dX12_reach_35 : decode cX12_reach 35 = .ok (.if_icmp .ge 126, 3) := by decide +kernel
theorem dX12_reach_38 : decode cX12_reach 38 = .ok (.iconst 0, 1) := by decide +kernel
theorem dX12_reach_39 : decode cX12_reach 39 = .ok (.istore 4, 2) := by decide +kernel
theorem dX12_reach_41 : decode cX12_reach 41 = .ok (.iload 4, 2) := by decide +kernel
theorem dX12_reach_43 : decode cX12_reach 43 = .ok (.bipush 8, 2) := by decide +kernel
theorem dX12_reach_45 : decode cX12_reach 45 = .ok (.if_icmp .ge 101, 3) := by decide +kernel
theorem dX12_reach_48 : decode cX12_reach 48 = .ok (.aload_n 0, 1) := by decide +kernel
theorem dX12_reach_49 : decode cX12_reach 49 = .ok (.iload_n 1, 1) := by decide +kernel
theorem dX12_reach_50 : decode cX12_reach 50 = .ok (.iload 4, 2) := by decide +kernel
theorem dX12_reach_52 : decode cX12_reach 52 = .ok (.iload_n 2, 1) := by decide +kernel
theorem dX12_reach_53 : decode cX12_reach 53 = .ok (.iconst 1, 1) := by decide +kernel
theorem dX12_reach_54 : decode cX12_reach 54 = .ok (.iadd, 1) := by decide +kernel
theorem dX12_reach_55 : decode cX12_reach 55 = .ok (.invokevirtual 240, 3) := by decide +kernel
theorem dX12_reach_58 : decode cX12_reach 58 = .ok (.lstore 5, 2) := by decide +kernel
theorem dX12_reach_60 : decode cX12_reach 60 = .ok (.iload_n 3, 1) := by decide +kernel
theorem dX12_reach_61 : decode cX12_reach 61 = .ok (.ifCond .eq 19, 3) := by decide +kernel
theorem dX12_reach_64 : decode cX12_reach 64 = .ok (.lload 5, 2) := by decide +kernel
theorem dX12_reach_66 : decode cX12_reach 66 = .ok (.lload 5, 2) := by decide +kernel
theorem dX12_reach_68 : decode cX12_reach 68 = .ok (.lconst 1, 1) := by decide +kernel
theorem dX12_reach_69 : decode cX12_reach 69 = .ok (.lsub, 1) := by decide +kernel
theorem dX12_reach_70 : decode cX12_reach 70 = .ok (.land, 1) := by decide +kernel
theorem dX12_reach_71 : decode cX12_reach 71 = .ok (.lconst 0, 1) := by decide +kernel
theorem dX12_reach_72 : decode cX12_reach 72 = .ok (.lcmp, 1) := by decide +kernel
theorem dX12_reach_73 : decode cX12_reach 73 = .ok (.ifCond .eq 7, 3) := by decide +kernel
theorem dX12_reach_76 : decode cX12_reach 76 = .ok (.iconst 1, 1) := by decide +kernel
theorem dX12_reach_77 : decode cX12_reach 77 = .ok (.goto 4, 3) := by decide +kernel
theorem dX12_reach_80 : decode cX12_reach 80 = .ok (.iconst 0, 1) := by decide +kernel
theorem dX12_reach_81 : decode cX12_reach 81 = .ok (.istore_n 3, 1) := by decide +kernel
theorem dX12_reach_82 : decode cX12_reach 82 = .ok (.iconst 0, 1) := by decide +kernel
theorem dX12_reach_83 : decode cX12_reach 83 = .ok (.istore 7, 2) := by decide +kernel
theorem dX12_reach_85 : decode cX12_reach 85 = .ok (.iload 7, 2) := by decide +kernel
theorem dX12_reach_87 : decode cX12_reach 87 = .ok (.bipush 8, 2) := by decide +kernel
theorem dX12_reach_89 : decode cX12_reach 89 = .ok (.iload_n 2, 1) := by decide +kernel
theorem dX12_reach_90 : decode cX12_reach 90 = .ok (.imul, 1) := by decide +kernel
theorem dX12_reach_91 : decode cX12_reach 91 = .ok (.iload 4, 2) := by decide +kernel
theorem dX12_reach_93 : decode cX12_reach 93 = .ok (.iadd, 1) := by decide +kernel
theorem dX12_reach_94 : decode cX12_reach 94 = .ok (.if_icmp .ge 32, 3) := by decide +kernel
theorem dX12_reach_97 : decode cX12_reach 97 = .ok (.iload_n 3, 1) := by decide +kernel
theorem dX12_reach_98 : decode cX12_reach 98 = .ok (.ifCond .eq 20, 3) := by decide +kernel
theorem dX12_reach_101 : decode cX12_reach 101 = .ok (.aload_n 0, 1) := by decide +kernel
theorem dX12_reach_102 : decode cX12_reach 102 = .ok (.getfield 66, 3) := by decide +kernel
theorem dX12_reach_105 : decode cX12_reach 105 = .ok (.iload 7, 2) := by decide +kernel
theorem dX12_reach_107 : decode cX12_reach 107 = .ok (.laload, 1) := by decide +kernel
theorem dX12_reach_108 : decode cX12_reach 108 = .ok (.lload 5, 2) := by decide +kernel
theorem dX12_reach_110 : decode cX12_reach 110 = .ok (.lcmp, 1) := by decide +kernel
theorem dX12_reach_111 : decode cX12_reach 111 = .ok (.ifCond .eq 7, 3) := by decide +kernel
theorem dX12_reach_114 : decode cX12_reach 114 = .ok (.iconst 1, 1) := by decide +kernel
theorem dX12_reach_115 : decode cX12_reach 115 = .ok (.goto 4, 3) := by decide +kernel
theorem dX12_reach_118 : decode cX12_reach 118 = .ok (.iconst 0, 1) := by decide +kernel
theorem dX12_reach_119 : decode cX12_reach 119 = .ok (.istore_n 3, 1) := by decide +kernel
theorem dX12_reach_120 : decode cX12_reach 120 = .ok (.iinc 7 1, 3) := by decide +kernel
theorem dX12_reach_123 : decode cX12_reach 123 = .ok (.goto (-38), 3) := by decide +kernel
theorem dX12_reach_126 : decode cX12_reach 126 = .ok (.aload_n 0, 1) := by decide +kernel
theorem dX12_reach_127 : decode cX12_reach 127 = .ok (.getfield 66, 3) := by decide +kernel
theorem dX12_reach_130 : decode cX12_reach 130 = .ok (.bipush 8, 2) := by decide +kernel
theorem dX12_reach_132 : decode cX12_reach 132 = .ok (.iload_n 2, 1) := by decide +kernel
theorem dX12_reach_133 : decode cX12_reach 133 = .ok (.imul, 1) := by decide +kernel
theorem dX12_reach_134 : decode cX12_reach 134 = .ok (.iload 4, 2) := by decide +kernel
theorem dX12_reach_136 : decode cX12_reach 136 = .ok (.iadd, 1) := by decide +kernel
theorem dX12_reach_137 : decode cX12_reach 137 = .ok (.lload 5, 2) := by decide +kernel
theorem dX12_reach_139 : decode cX12_reach 139 = .ok (.lastore, 1) := by decide +kernel
theorem dX12_reach_140 : decode cX12_reach 140 = .ok (.iinc 4 1, 3) := by decide +kernel
theorem dX12_reach_143 : decode cX12_reach 143 = .ok (.goto (-102), 3) := by decide +kernel
theorem dX12_reach_146 : decode cX12_reach 146 = .ok (.iload_n 2, 1) := by decide +kernel
theorem dX12_reach_147 : decode cX12_reach 147 = .ok (.iload_n 3, 1) := by decide +kernel
theorem dX12_reach_148 : decode cX12_reach 148 = .ok (.ifCond .eq 7, 3) := by decide +kernel
theorem dX12_reach_151 : decode cX12_reach 151 = .ok (.iconst 1, 1) := by decide +kernel
theorem dX12_reach_152 : decode cX12_reach 152 = .ok (.goto 4, 3) := by decide +kernel
theorem dX12_reach_155 : decode cX12_reach 155 = .ok (.iconst 0, 1) := by decide +kernel
theorem dX12_reach_156 : decode cX12_reach 156 = .ok (.iadd, 1) := by decide +kernel
theorem dX12_reach_157 : decode cX12_reach 157 = .ok (.istore_n 2, 1) := by decide +kernel
theorem dX12_reach_158 : decode cX12_reach 158 = .ok (.goto (-130), 3) := by decide +kernel
theorem dX12_reach_161 : decode cX12_reach 161 = .ok (.iload_n 2, 1) := by decide +kernel
theorem dX12_reach_162 : decode cX12_reach 162 = .ok (.ireturn, 1) := by decide +kernel
set_option maxRecDepth 20000 in
theorem ggX12_trace_X12_in : GoodIn wsX12_trace wsX12_in := goodIn_r _ [6] (by decide +kernel) (by decide +kernel)
set_option maxRecDepth 20000 in
theorem gX12_trace_X12_in : GoodIn wsX12_trace (va_wsS RX12 88 yX12_in wsX12_in) := goodIn_app (goodIn_of _ (by decide +kernel)) ggX12_trace_X12_in
theorem dX12_trace_0 : decode cX12_trace 0 = .ok (.iload_n 1, 1) := by decide +kernel
theorem dX12_trace_1 : decode cX12_trace 1 = .ok (.i2l, 1) := by decide +kernel
theorem dX12_trace_2 : decode cX12_trace 2 = .ok (.lconst 0, 1) := by decide +kernel
theorem dX12_trace_3 : decode cX12_trace 3 = .ok (.ldc2_w 248, 3) := by decide +kernel
theorem dX12_trace_6 : decode cX12_trace 6 = .ok (.invokestatic 88, 3) := by decide +kernel
theorem dX12_trace_9 : decode cX12_trace 9 = .ok (.ifCond .eq 12, 3) := by decide +kernel
theorem dX12_trace_12 : decode cX12_trace 12 = .ok (.aload_n 0, 1) := by decide +kernel
theorem dX12_trace_13 : decode cX12_trace 13 = .ok (.getfield 81, 3) := by decide +kernel
theorem dX12_trace_16 : decode cX12_trace 16 = .ok (.iload_n 1, 1) := by decide +kernel
theorem dX12_trace_17 : decode cX12_trace 17 = .ok (.iaload, 1) := by decide +kernel
theorem dX12_trace_18 : decode cX12_trace 18 = .ok (.goto 5, 3) := by decide +kernel
theorem dX12_trace_21 : decode cX12_trace 21 = .ok (.bipush (-3), 2) := by decide +kernel
theorem dX12_trace_23 : decode cX12_trace 23 = .ok (.ireturn, 1) := by decide +kernel
theorem dX12_about_0 : decode cX12_about 0 = .ok (.iload_n 1, 1) := by decide +kernel
theorem dX12_about_1 : decode cX12_about 1 = .ok (.tableswitch 60 0 4 #[35, 40, 45, 50, 55], 35) := by decide +kernel
theorem dX12_about_36 : decode cX12_about 36 = .ok (.aload_n 0, 1) := by decide +kernel
theorem dX12_about_37 : decode cX12_about 37 = .ok (.getfield 84, 3) := by decide +kernel
theorem dX12_about_40 : decode cX12_about 40 = .ok (.ireturn, 1) := by decide +kernel
theorem dX12_about_41 : decode cX12_about 41 = .ok (.aload_n 0, 1) := by decide +kernel
theorem dX12_about_42 : decode cX12_about 42 = .ok (.getfield 125, 3) := by decide +kernel
theorem dX12_about_45 : decode cX12_about 45 = .ok (.ireturn, 1) := by decide +kernel
theorem dX12_about_46 : decode cX12_about 46 = .ok (.aload_n 0, 1) := by decide +kernel
theorem dX12_about_47 : decode cX12_about 47 = .ok (.getfield 94, 3) := by decide +kernel
theorem dX12_about_50 : decode cX12_about 50 = .ok (.ireturn, 1) := by decide +kernel
theorem dX12_about_51 : decode cX12_about 51 = .ok (.aload_n 0, 1) := by decide +kernel
theorem dX12_about_52 : decode cX12_about 52 = .ok (.getfield 260, 3) := by decide +kernel
theorem dX12_about_55 : decode cX12_about 55 = .ok (.ireturn, 1) := by decide +kernel
theorem dX12_about_56 : decode cX12_about 56 = .ok (.aload_n 0, 1) := by decide +kernel
theorem dX12_about_57 : decode cX12_about 57 = .ok (.getfield 190, 3) := by decide +kernel
theorem dX12_about_60 : decode cX12_about 60 = .ok (.ireturn, 1) := by decide +kernel
theorem dX12_about_61 : decode cX12_about 61 = .ok (.bipush (-3), 2) := by decide +kernel
theorem dX12_about_63 : decode cX12_about 63 = .ok (.ireturn, 1) := by decide +kernel
theorem dJ6_numberOfTrailingZeros_0f7a4_0 : decode cJ6_numberOfTrailingZeros_0f7a4 0 = .ok (.iload_n 0, 1) := by decide +kernel
theorem dJ6_numberOfTrailingZeros_0f7a4_1 : decode cJ6_numberOfTrailingZeros_0f7a4 1 = .ok (.iconst (-1), 1) := by decide +kernel
theorem dJ6_numberOfTrailingZeros_0f7a4_2 : decode cJ6_numberOfTrailingZeros_0f7a4 2 = .ok (.ixor, 1) := by decide +kernel
theorem dJ6_numberOfTrailingZeros_0f7a4_3 : decode cJ6_numberOfTrailingZeros_0f7a4 3 = .ok (.iload_n 0, 1) := by decide +kernel
theorem dJ6_numberOfTrailingZeros_0f7a4_4 : decode cJ6_numberOfTrailingZeros_0f7a4 4 = .ok (.iconst 1, 1) := by decide +kernel
theorem dJ6_numberOfTrailingZeros_0f7a4_5 : decode cJ6_numberOfTrailingZeros_0f7a4 5 = .ok (.isub, 1) := by decide +kernel
theorem dJ6_numberOfTrailingZeros_0f7a4_6 : decode cJ6_numberOfTrailingZeros_0f7a4 6 = .ok (.iand, 1) := by decide +kernel
theorem dJ6_numberOfTrailingZeros_0f7a4_7 : decode cJ6_numberOfTrailingZeros_0f7a4 7 = .ok (.istore_n 0, 1) := by decide +kernel
theorem dJ6_numberOfTrailingZeros_0f7a4_8 : decode cJ6_numberOfTrailingZeros_0f7a4 8 = .ok (.iload_n 0, 1) := by decide +kernel
theorem dJ6_numberOfTrailingZeros_0f7a4_9 : decode cJ6_numberOfTrailingZeros_0f7a4 9 = .ok (.ifCond .gt 8, 3) := by decide +kernel
theorem dJ6_numberOfTrailingZeros_0f7a4_12 : decode cJ6_numberOfTrailingZeros_0f7a4 12 = .ok (.iload_n 0, 1) := by decide +kernel
theorem dJ6_numberOfTrailingZeros_0f7a4_13 : decode cJ6_numberOfTrailingZeros_0f7a4 13 = .ok (.bipush 32, 2) := by decide +kernel
theorem dJ6_numberOfTrailingZeros_0f7a4_15 : decode cJ6_numberOfTrailingZeros_0f7a4 15 = .ok (.iand, 1) := by decide +kernel
theorem dJ6_numberOfTrailingZeros_0f7a4_16 : decode cJ6_numberOfTrailingZeros_0f7a4 16 = .ok (.ireturn, 1) := by decide +kernel
theorem dJ6_numberOfTrailingZeros_0f7a4_17 : decode cJ6_numberOfTrailingZeros_0f7a4 17 = .ok (.iconst 1, 1) := by decide +kernel
theorem dJ6_numberOfTrailingZeros_0f7a4_18 : decode cJ6_numberOfTrailingZeros_0f7a4 18 = .ok (.istore_n 1, 1) := by decide +kernel
theorem dJ6_numberOfTrailingZeros_0f7a4_19 : decode cJ6_numberOfTrailingZeros_0f7a4 19 = .ok (.iload_n 0, 1) := by decide +kernel
theorem dJ6_numberOfTrailingZeros_0f7a4_20 : decode cJ6_numberOfTrailingZeros_0f7a4 20 = .ok (.ldc_w 264, 3) := by decide +kernel
theorem dJ6_numberOfTrailingZeros_0f7a4_23 : decode cJ6_numberOfTrailingZeros_0f7a4 23 = .ok (.if_icmp .le 11, 3) := by decide +kernel
theorem dJ6_numberOfTrailingZeros_0f7a4_26 : decode cJ6_numberOfTrailingZeros_0f7a4 26 = .ok (.iinc 1 16, 3) := by decide +kernel
theorem dJ6_numberOfTrailingZeros_0f7a4_29 : decode cJ6_numberOfTrailingZeros_0f7a4 29 = .ok (.iload_n 0, 1) := by decide +kernel
theorem dJ6_numberOfTrailingZeros_0f7a4_30 : decode cJ6_numberOfTrailingZeros_0f7a4 30 = .ok (.bipush 16, 2) := by decide +kernel
theorem dJ6_numberOfTrailingZeros_0f7a4_32 : decode cJ6_numberOfTrailingZeros_0f7a4 32 = .ok (.iushr, 1) := by decide +kernel
theorem dJ6_numberOfTrailingZeros_0f7a4_33 : decode cJ6_numberOfTrailingZeros_0f7a4 33 = .ok (.istore_n 0, 1) := by decide +kernel
theorem dJ6_numberOfTrailingZeros_0f7a4_34 : decode cJ6_numberOfTrailingZeros_0f7a4 34 = .ok (.iload_n 0, 1) := by decide +kernel
theorem dJ6_numberOfTrailingZeros_0f7a4_35 : decode cJ6_numberOfTrailingZeros_0f7a4 35 = .ok (.sipush 256, 3) := by decide +kernel
theorem dJ6_numberOfTrailingZeros_0f7a4_38 : decode cJ6_numberOfTrailingZeros_0f7a4 38 = .ok (.if_icmp .le 11, 3) := by decide +kernel
theorem dJ6_numberOfTrailingZeros_0f7a4_41 : decode cJ6_numberOfTrailingZeros_0f7a4 41 = .ok (.iinc 1 8, 3) := by decide +kernel
theorem dJ6_numberOfTrailingZeros_0f7a4_44 : decode cJ6_numberOfTrailingZeros_0f7a4 44 = .ok (.iload_n 0, 1) := by decide +kernel
theorem dJ6_numberOfTrailingZeros_0f7a4_45 : decode cJ6_numberOfTrailingZeros_0f7a4 45 = .ok (.bipush 8, 2) := by decide +kernel
theorem dJ6_numberOfTrailingZeros_0f7a4_47 : decode cJ6_numberOfTrailingZeros_0f7a4 47 = .ok (.iushr, 1) := by decide +kernel
theorem dJ6_numberOfTrailingZeros_0f7a4_48 : decode cJ6_numberOfTrailingZeros_0f7a4 48 = .ok (.istore_n 0, 1) := by decide +kernel
theorem dJ6_numberOfTrailingZeros_0f7a4_49 : decode cJ6_numberOfTrailingZeros_0f7a4 49 = .ok (.iload_n 0, 1) := by decide +kernel
theorem dJ6_numberOfTrailingZeros_0f7a4_50 : decode cJ6_numberOfTrailingZeros_0f7a4 50 = .ok (.bipush 16, 2) := by decide +kernel
theorem dJ6_numberOfTrailingZeros_0f7a4_52 : decode cJ6_numberOfTrailingZeros_0f7a4 52 = .ok (.if_icmp .le 10, 3) := by decide +kernel
theorem dJ6_numberOfTrailingZeros_0f7a4_55 : decode cJ6_numberOfTrailingZeros_0f7a4 55 = .ok (.iinc 1 4, 3) := by decide +kernel
theorem dJ6_numberOfTrailingZeros_0f7a4_58 : decode cJ6_numberOfTrailingZeros_0f7a4 58 = .ok (.iload_n 0, 1) := by decide +kernel
theorem dJ6_numberOfTrailingZeros_0f7a4_59 : decode cJ6_numberOfTrailingZeros_0f7a4 59 = .ok (.iconst 4, 1) := by decide +kernel
theorem dJ6_numberOfTrailingZeros_0f7a4_60 : decode cJ6_numberOfTrailingZeros_0f7a4 60 = .ok (.iushr, 1) := by decide +kernel
theorem dJ6_numberOfTrailingZeros_0f7a4_61 : decode cJ6_numberOfTrailingZeros_0f7a4 61 = .ok (.istore_n 0, 1) := by decide +kernel
theorem dJ6_numberOfTrailingZeros_0f7a4_62 : decode cJ6_numberOfTrailingZeros_0f7a4 62 = .ok (.iload_n 0, 1) := by decide +kernel
theorem dJ6_numberOfTrailingZeros_0f7a4_63 : decode cJ6_numberOfTrailingZeros_0f7a4 63 = .ok (.iconst 4, 1) := by decide +kernel
theorem dJ6_numberOfTrailingZeros_0f7a4_64 : decode cJ6_numberOfTrailingZeros_0f7a4 64 = .ok (.if_icmp .le 10, 3) := by decide +kernel
theorem dJ6_numberOfTrailingZeros_0f7a4_67 : decode cJ6_numberOfTrailingZeros_0f7a4 67 = .ok (.iinc 1 2, 3) := by decide +kernel
theorem dJ6_numberOfTrailingZeros_0f7a4_70 : decode cJ6_numberOfTrailingZeros_0f7a4 70 = .ok (.iload_n 0, 1) := by decide +kernel
theorem dJ6_numberOfTrailingZeros_0f7a4_71 : decode cJ6_numberOfTrailingZeros_0f7a4 71 = .ok (.iconst 2, 1) := by decide +kernel
theorem dJ6_numberOfTrailingZeros_0f7a4_72 : decode cJ6_numberOfTrailingZeros_0f7a4 72 = .ok (.iushr, 1) := by decide +kernel
theorem dJ6_numberOfTrailingZeros_0f7a4_73 : decode cJ6_numberOfTrailingZeros_0f7a4 73 = .ok (.istore_n 0, 1) := by decide +kernel
theorem dJ6_numberOfTrailingZeros_0f7a4_74 : decode cJ6_numberOfTrailingZeros_0f7a4 74 = .ok (.iload_n 1, 1) := by decide +kernel
theorem dJ6_numberOfTrailingZeros_0f7a4_75 : decode cJ6_numberOfTrailingZeros_0f7a4 75 = .ok (.iload_n 0, 1) := by decide +kernel
theorem dJ6_numberOfTrailingZeros_0f7a4_76 : decode cJ6_numberOfTrailingZeros_0f7a4 76 = .ok (.iconst 1, 1) := by decide +kernel
theorem dJ6_numberOfTrailingZeros_0f7a4_77 : decode cJ6_numberOfTrailingZeros_0f7a4 77 = .ok (.iushr, 1) := by decide +kernel
theorem dJ6_numberOfTrailingZeros_0f7a4_78 : decode cJ6_numberOfTrailingZeros_0f7a4 78 = .ok (.iadd, 1) := by decide +kernel
theorem dJ6_numberOfTrailingZeros_0f7a4_79 : decode cJ6_numberOfTrailingZeros_0f7a4 79 = .ok (.ireturn, 1) := by decide +kernel
set_option maxRecDepth 20000 in
theorem ggJ13_numberOfTrailingZeros_95d88_J6_numberOfTrailingZeros_0f7a4 : GoodIn wsJ13_numberOfTrailingZeros_95d88 wsJ6_numberOfTrailingZeros_0f7a4 := goodIn_r _ [4, 5] (by decide +kernel) (by decide +kernel)
set_option maxRecDepth 20000 in
theorem gJ13_numberOfTrailingZeros_95d88_J6_numberOfTrailingZeros_0f7a4 : GoodIn wsJ13_numberOfTrailingZeros_95d88 (va_wsS RJ13 311 yJ6_numberOfTrailingZeros_0f7a4 wsJ6_numberOfTrailingZeros_0f7a4) := goodIn_app (goodIn_of _ (by decide +kernel)) ggJ13_numberOfTrailingZeros_95d88_J6_numberOfTrailingZeros_0f7a4
theorem dJ13_numberOfTrailingZeros_95d88_0 : decode cJ13_numberOfTrailingZeros_95d88 0 = .ok (.lload_n 0, 1) := by decide +kernel
theorem dJ13_numberOfTrailingZeros_95d88_1 : decode cJ13_numberOfTrailingZeros_95d88 1 = .ok (.l2i, 1) := by decide +kernel
theorem dJ13_numberOfTrailingZeros_95d88_2 : decode cJ13_numberOfTrailingZeros_95d88 2 = .ok (.istore_n 2, 1) := by decide +kernel
theorem dJ13_numberOfTrailingZeros_95d88_3 : decode cJ13_numberOfTrailingZeros_95d88 3 = .ok (.iload_n 2, 1) := by decide +kernel
theorem dJ13_numberOfTrailingZeros_95d88_4 : decode cJ13_numberOfTrailingZeros_95d88 4 = .ok (.ifCond .ne 17, 3) := by decide +kernel
theorem dJ13_numberOfTrailingZeros_95d88_7 : decode cJ13_numberOfTrailingZeros_95d88 7 = .ok (.bipush 32, 2) := by decide +kernel
theorem dJ13_numberOfTrailingZeros_95d88_9 : decode cJ13_numberOfTrailingZeros_95d88 9 = .ok (.lload_n 0, 1) := by decide +kernel
theorem dJ13_numberOfTrailingZeros_95d88_10 : decode cJ13_numberOfTrailingZeros_95d88 10 = .ok (.bipush 32, 2) := by decide +kernel
theorem dJ13_numberOfTrailingZeros_95d88_12 : decode cJ13_numberOfTrailingZeros_95d88 12 = .ok (.lushr, 1) := by decide +kernel
theorem dJ13_numberOfTrailingZeros_95d88_13 : decode cJ13_numberOfTrailingZeros_95d88 13 = .ok (.l2i, 1) := by decide +kernel
theorem dJ13_numberOfTrailingZeros_95d88_14 : decode cJ13_numberOfTrailingZeros_95d88 14 = .ok (.invokestatic 311, 3) := by decide +kernel
theorem dJ13_numberOfTrailingZeros_95d88_17 : decode cJ13_numberOfTrailingZeros_95d88 17 = .ok (.iadd, 1) := by decide +kernel
theorem dJ13_numberOfTrailingZeros_95d88_18 : decode cJ13_numberOfTrailingZeros_95d88 18 = .ok (.goto 7, 3) := by decide +kernel
theorem dJ13_numberOfTrailingZeros_95d88_21 : decode cJ13_numberOfTrailingZeros_95d88 21 = .ok (.iload_n 2, 1) := by decide +kernel
theorem dJ13_numberOfTrailingZeros_95d88_22 : decode cJ13_numberOfTrailingZeros_95d88 22 = .ok (.invokestatic 311, 3) := by decide +kernel
theorem dJ13_numberOfTrailingZeros_95d88_25 : decode cJ13_numberOfTrailingZeros_95d88 25 = .ok (.ireturn, 1) := by decide +kernel
theorem dJ13_bitCount_95d88_0 : decode cJ13_bitCount_95d88 0 = .ok (.lload_n 0, 1) := by decide +kernel
theorem dJ13_bitCount_95d88_1 : decode cJ13_bitCount_95d88 1 = .ok (.lload_n 0, 1) := by decide +kernel
theorem dJ13_bitCount_95d88_2 : decode cJ13_bitCount_95d88 2 = .ok (.iconst 1, 1) := by decide +kernel
theorem dJ13_bitCount_95d88_3 : decode cJ13_bitCount_95d88 3 = .ok (.lushr, 1) := by decide +kernel
theorem dJ13_bitCount_95d88_4 : decode cJ13_bitCount_95d88 4 = .ok (.ldc2_w 314, 3) := by decide +kernel
theorem dJ13_bitCount_95d88_7 : decode cJ13_bitCount_95d88 7 = .ok (.land, 1) := by decide +kernel
theorem dJ13_bitCount_95d88_8 : decode cJ13_bitCount_95d88 8 = .ok (.lsub, 1) := by decide +kernel
theorem dJ13_bitCount_95d88_9 : decode cJ13_bitCount_95d88 9 = .ok (.lstore_n 0, 1) := by decide +kernel
theorem dJ13_bitCount_95d88_10 : decode cJ13_bitCount_95d88 10 = .ok (.lload_n 0, 1) := by decide +kernel
theorem dJ13_bitCount_95d88_11 : decode cJ13_bitCount_95d88 11 = .ok (.ldc2_w 316, 3) := by decide +kernel
theorem dJ13_bitCount_95d88_14 : decode cJ13_bitCount_95d88 14 = .ok (.land, 1) := by decide +kernel
theorem dJ13_bitCount_95d88_15 : decode cJ13_bitCount_95d88 15 = .ok (.lload_n 0, 1) := by decide +kernel
