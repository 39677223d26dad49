theorem dX12_init_102 : decode cX12_init 102 = .ok (.aload_n 0, 1) := by decide +kernel
theorem dX12_init_103 : decode cX12_init 103 = .ok (.bipush 64, 2) := by decide +kernel
theorem dX12_init_105 : decode cX12_init 105 = .ok (.newarray .int, 2) := by decide +kernel
theorem dX12_init_107 : decode cX12_init 107 = .ok (.putfield 48, 3) := by decide +kernel
theorem dX12_init_110 : decode cX12_init 110 = .ok (.aload_n 0, 1) := by decide +kernel
theorem dX12_init_111 : decode cX12_init 111 = .ok (.bipush 8, 2) := by decide +kernel
theorem dX12_init_113 : decode cX12_init 113 = .ok (.newarray .int, 2) := by decide +kernel
theorem dX12_init_115 : decode cX12_init 115 = .ok (.putfield 51, 3) := by decide +kernel
theorem dX12_init_118 : decode cX12_init 118 = .ok (.aload_n 0, 1) := by decide +kernel
theorem dX12_init_119 : decode cX12_init 119 = .ok (.bipush 8, 2) := by decide +kernel
theorem dX12_init_121 : decode cX12_init 121 = .ok (.newarray .int, 2) := by decide +kernel
theorem dX12_init_123 : decode cX12_init 123 = .ok (.putfield 54, 3) := by decide +kernel
theorem dX12_init_126 : decode cX12_init 126 = .ok (.aload_n 0, 1) := by decide +kernel
theorem dX12_init_127 : decode cX12_init 127 = .ok (.bipush 64, 2) := by decide +kernel
theorem dX12_init_129 : decode cX12_init 129 = .ok (.newarray .long, 2) := by decide +kernel
theorem dX12_init_131 : decode cX12_init 131 = .ok (.putfield 57, 3) := by decide +kernel
theorem dX12_init_134 : decode cX12_init 134 = .ok (.aload_n 0, 1) := by decide +kernel
theorem dX12_init_135 : decode cX12_init 135 = .ok (.bipush 64, 2) := by decide +kernel
theorem dX12_init_137 : decode cX12_init 137 = .ok (.newarray .long, 2) := by decide +kernel
theorem dX12_init_139 : decode cX12_init 139 = .ok (.putfield 60, 3) := by decide +kernel
theorem dX12_init_142 : decode cX12_init 142 = .ok (.aload_n 0, 1) := by decide +kernel
theorem dX12_init_143 : decode cX12_init 143 = .ok (.bipush 8, 2) := by decide +kernel
theorem dX12_init_145 : decode cX12_init 145 = .ok (.newarray .int, 2) := by decide +kernel
theorem dX12_init_147 : decode cX12_init 147 = .ok (.putfield 63, 3) := by decide +kernel
theorem dX12_init_150 : decode cX12_init 150 = .ok (.aload_n 0, 1) := by decide +kernel
theorem dX12_init_151 : decode cX12_init 151 = .ok (.sipush 512, 3) := by decide +kernel
theorem dX12_init_154 : decode cX12_init 154 = .ok (.newarray .long, 2) := by decide +kernel
theorem dX12_init_156 : decode cX12_init 156 = .ok (.putfield 66, 3) := by decide +kernel
theorem dX12_init_159 : decode cX12_init 159 = .ok (.aload_n 0, 1) := by decide +kernel
theorem dX12_init_160 : decode cX12_init 160 = .ok (.iconst 4, 1) := by decide +kernel
theorem dX12_init_161 : decode cX12_init 161 = .ok (.newarray .int, 2) := by decide +kernel
theorem dX12_init_163 : decode cX12_init 163 = .ok (.putfield 69, 3) := by decide +kernel
theorem dX12_init_166 : decode cX12_init 166 = .ok (.aload_n 0, 1) := by decide +kernel
theorem dX12_init_167 : decode cX12_init 167 = .ok (.bipush 16, 2) := by decide +kernel
theorem dX12_init_169 : decode cX12_init 169 = .ok (.newarray .int, 2) := by decide +kernel
theorem dX12_init_171 : decode cX12_init 171 = .ok (.putfield 72, 3) := by decide +kernel
theorem dX12_init_174 : decode cX12_init 174 = .ok (.aload_n 0, 1) := by decide +kernel
theorem dX12_init_175 : decode cX12_init 175 = .ok (.bipush 16, 2) := by decide +kernel
theorem dX12_init_177 : decode cX12_init 177 = .ok (.newarray .long, 2) := by decide +kernel
theorem dX12_init_179 : decode cX12_init 179 = .ok (.putfield 75, 3) := by decide +kernel
theorem dX12_init_182 : decode cX12_init 182 = .ok (.aload_n 0, 1) := by decide +kernel
theorem dX12_init_183 : decode cX12_init 183 = .ok (.bipush 64, 2) := by decide +kernel
theorem dX12_init_185 : decode cX12_init 185 = .ok (.newarray .int, 2) := by decide +kernel
theorem dX12_init_187 : decode cX12_init 187 = .ok (.putfield 78, 3) := by decide +kernel
theorem dX12_init_190 : decode cX12_init 190 = .ok (.aload_n 0, 1) := by decide +kernel
theorem dX12_init_191 : decode cX12_init 191 = .ok (.bipush 7, 2) := by decide +kernel
theorem dX12_init_193 : decode cX12_init 193 = .ok (.newarray .int, 2) := by decide +kernel
theorem dX12_init_195 : decode cX12_init 195 = .ok (.putfield 81, 3) := by decide +kernel
theorem dX12_init_198 : decode cX12_init 198 = .ok (.iconst 0, 1) := by decide +kernel
theorem dX12_init_199 : decode cX12_init 199 = .ok (.istore_n 1, 1) := by decide +kernel
theorem dX12_init_200 : decode cX12_init 200 = .ok (.iload_n 1, 1) := by decide +kernel
theorem dX12_init_201 : decode cX12_init 201 = .ok (.iconst 4, 1) := by decide +kernel
theorem dX12_init_202 : decode cX12_init 202 = .ok (.if_icmp .ge 16, 3) := by decide +kernel
theorem dX12_init_205 : decode cX12_init 205 = .ok (.aload_n 0, 1) := by decide +kernel
theorem dX12_init_206 : decode cX12_init 206 = .ok (.getfield 69, 3) := by decide +kernel
theorem dX12_init_209 : decode cX12_init 209 = .ok (.iload_n 1, 1) := by decide +kernel
theorem dX12_init_210 : decode cX12_init 210 = .ok (.iconst (-1), 1) := by decide +kernel
theorem dX12_init_211 : decode cX12_init 211 = .ok (.iastore, 1) := by decide +kernel
theorem dX12_init_212 : decode cX12_init 212 = .ok (.iinc 1 1, 3) := by decide +kernel
theorem dX12_init_215 : decode cX12_init 215 = .ok (.goto (-15), 3) := by decide +kernel
theorem dX12_init_218 : decode cX12_init 218 = .ok (.return_, 1) := by decide +kernel
theorem dX12_in_0 : decode cX12_in 0 = .ok (.lload_n 0, 1) := by decide +kernel
theorem dX12_in_1 : decode cX12_in 1 = .ok (.lload_n 2, 1) := by decide +kernel
theorem dX12_in_2 : decode cX12_in 2 = .ok (.lcmp, 1) := by decide +kernel
theorem dX12_in_3 : decode cX12_in 3 = .ok (.ifCond .lt 14, 3) := by decide +kernel
theorem dX12_in_6 : decode cX12_in 6 = .ok (.lload_n 0, 1) := by decide +kernel
theorem dX12_in_7 : decode cX12_in 7 = .ok (.lload 4, 2) := by decide +kernel
theorem dX12_in_9 : decode cX12_in 9 = .ok (.lcmp, 1) := by decide +kernel
theorem dX12_in_10 : decode cX12_in 10 = .ok (.ifCond .gt 7, 3) := by decide +kernel
theorem dX12_in_13 : decode cX12_in 13 = .ok (.iconst 1, 1) := by decide +kernel
theorem dX12_in_14 : decode cX12_in 14 = .ok (.goto 4, 3) := by decide +kernel
theorem dX12_in_17 : decode cX12_in 17 = .ok (.iconst 0, 1) := by decide +kernel
theorem dX12_in_18 : decode cX12_in 18 = .ok (.ireturn, 1) := by decide +kernel
set_option maxRecDepth 20000 in
theorem ggX12_isSum_X12_in : GoodIn wsX12_isSum wsX12_in := goodIn_r _ [5] (by decide +kernel) (by decide +kernel)
set_option maxRecDepth 20000 in
theorem gX12_isSum_X12_in : GoodIn wsX12_isSum (va_wsS RX12 88 yX12_in wsX12_in) := goodIn_app (goodIn_of _ (by decide +kernel)) ggX12_isSum_X12_in
theorem dX12_isSum_0 : decode cX12_isSum 0 = .ok (.iload_n 1, 1) := by decide +kernel
theorem dX12_isSum_1 : decode cX12_isSum 1 = .ok (.i2l, 1) := by decide +kernel
theorem dX12_isSum_2 : decode cX12_isSum 2 = .ok (.lconst 0, 1) := by decide +kernel
theorem dX12_isSum_3 : decode cX12_isSum 3 = .ok (.aload_n 0, 1) := by decide +kernel
theorem dX12_isSum_4 : decode cX12_isSum 4 = .ok (.getfield 84, 3) := by decide +kernel
theorem dX12_isSum_7 : decode cX12_isSum 7 = .ok (.iconst 1, 1) := by decide +kernel
theorem dX12_isSum_8 : decode cX12_isSum 8 = .ok (.isub, 1) := by decide +kernel
theorem dX12_isSum_9 : decode cX12_isSum 9 = .ok (.i2l, 1) := by decide +kernel
theorem dX12_isSum_10 : decode cX12_isSum 10 = .ok (.invokestatic 88, 3) := by decide +kernel
theorem dX12_isSum_13 : decode cX12_isSum 13 = .ok (.ireturn, 1) := by decide +kernel
theorem dX12_mask_0 : decode cX12_mask 0 = .ok (.lconst 1, 1) := by decide +kernel
theorem dX12_mask_1 : decode cX12_mask 1 = .ok (.aload_n 0, 1) := by decide +kernel
theorem dX12_mask_2 : decode cX12_mask 2 = .ok (.getfield 19, 3) := by decide +kernel
theorem dX12_mask_5 : decode cX12_mask 5 = .ok (.iload_n 1, 1) := by decide +kernel
theorem dX12_mask_6 : decode cX12_mask 6 = .ok (.iaload, 1) := by decide +kernel
theorem dX12_mask_7 : decode cX12_mask 7 = .ok (.lshl, 1) := by decide +kernel
theorem dX12_mask_8 : decode cX12_mask 8 = .ok (.lconst 1, 1) := by decide +kernel
theorem dX12_mask_9 : decode cX12_mask 9 = .ok (.lsub, 1) := by decide +kernel
theorem dX12_mask_10 : decode cX12_mask 10 = .ok (.lreturn, 1) := by decide +kernel
set_option maxRecDepth 20000 in
theorem ggX12_tell_X12_in : GoodIn wsX12_tell wsX12_in := goodIn_r _ [7] (by decide +kernel) (by decide +kernel)
set_option maxRecDepth 20000 in
theorem gX12_tell_X12_in : GoodIn wsX12_tell (va_wsS RX12 88 yX12_in wsX12_in) := goodIn_app (goodIn_of _ (by decide +kernel)) ggX12_tell_X12_in
theorem dX12_tell_0 : decode cX12_tell 0 = .ok (.iload_n 1, 1) := by decide +kernel
theorem dX12_tell_1 : decode cX12_tell 1 = .ok (.i2l, 1) := by decide +kernel
theorem dX12_tell_2 : decode cX12_tell 2 = .ok (.lconst 0, 1) := by decide +kernel
theorem dX12_tell_3 : decode cX12_tell 3 = .ok (.ldc2_w 92, 3) := by decide +kernel
theorem dX12_tell_6 : decode cX12_tell 6 = .ok (.invokestatic 88, 3) := by decide +kernel
theorem dX12_tell_9 : decode cX12_tell 9 = .ok (.ifCond .ne 6, 3) := by decide +kernel
theorem dX12_tell_12 : decode cX12_tell 12 = .ok (.bipush (-3), 2) := by decide +kernel
theorem dX12_tell_14 : decode cX12_tell 14 = .ok (.ireturn, 1) := by decide +kernel
theorem dX12_tell_15 : decode cX12_tell 15 = .ok (.aload_n 0, 1) := by decide +kernel
theorem dX12_tell_16 : decode cX12_tell 16 = .ok (.getfield 94, 3) := by decide +kernel
theorem dX12_tell_19 : decode cX12_tell 19 = .ok (.bipush 100, 2) := by decide +kernel
theorem dX12_tell_21 : decode cX12_tell 21 = .ok (.if_icmp .ne 6, 3) := by decide +kernel
theorem dX12_tell_24 : decode cX12_tell 24 = .ok (.bipush (-6), 2) := by decide +kernel
theorem dX12_tell_26 : decode cX12_tell 26 = .ok (.ireturn, 1) := by decide +kernel
theorem dX12_tell_27 : decode cX12_tell 27 = .ok (.aload_n 0, 1) := by decide +kernel
theorem dX12_tell_28 : decode cX12_tell 28 = .ok (.getfield 7, 3) := by decide +kernel
theorem dX12_tell_31 : decode cX12_tell 31 = .ok (.aload_n 0, 1) := by decide +kernel
theorem dX12_tell_32 : decode cX12_tell 32 = .ok (.getfield 94, 3) := by decide +kernel
theorem dX12_tell_35 : decode cX12_tell 35 = .ok (.iload_n 1, 1) := by decide +kernel
theorem dX12_tell_36 : decode cX12_tell 36 = .ok (.iastore, 1) := by decide +kernel
theorem dX12_tell_37 : decode cX12_tell 37 = .ok (.aload_n 0, 1) := by decide +kernel
theorem dX12_tell_38 : decode cX12_tell 38 = .ok (.dup, 1) := by decide +kernel
theorem dX12_tell_39 : decode cX12_tell 39 = .ok (.getfield 94, 3) := by decide +kernel
theorem dX12_tell_42 : decode cX12_tell 42 = .ok (.iconst 1, 1) := by decide +kernel
theorem dX12_tell_43 : decode cX12_tell 43 = .ok (.iadd, 1) := by decide +kernel
theorem dX12_tell_44 : decode cX12_tell 44 = .ok (.putfield 94, 3) := by decide +kernel
theorem dX12_tell_47 : decode cX12_tell 47 = .ok (.aload_n 0, 1) := by decide +kernel
theorem dX12_tell_48 : decode cX12_tell 48 = .ok (.getfield 94, 3) := by decide +kernel
theorem dX12_tell_51 : decode cX12_tell 51 = .ok (.ireturn, 1) := by decide +kernel
theorem dX12_untell_0 : decode cX12_untell 0 = .ok (.aload_n 0, 1) := by decide +kernel
theorem dX12_untell_1 : decode cX12_untell 1 = .ok (.getfield 94, 3) := by decide +kernel
theorem dX12_untell_4 : decode cX12_untell 4 = .ok (.istore_n 1, 1) := by decide +kernel
theorem dX12_untell_5 : decode cX12_untell 5 = .ok (.aload_n 0, 1) := by decide +kernel
theorem dX12_untell_6 : decode cX12_untell 6 = .ok (.iconst 0, 1) := by decide +kernel
theorem dX12_untell_7 : decode cX12_untell 7 = .ok (.putfield 94, 3) := by decide +kernel
theorem dX12_untell_10 : decode cX12_untell 10 = .ok (.iload_n 1, 1) := by decide +kernel
theorem dX12_untell_11 : decode cX12_untell 11 = .ok (.ireturn, 1) := by decide +kernel
theorem dX12_made_0 : decode cX12_made 0 = .ok (.aload_n 0, 1) := by decide +kernel
theorem dX12_made_1 : decode cX12_made 1 = .ok (.getfield 13, 3) := by decide +kernel
theorem dX12_made_4 : decode cX12_made 4 = .ok (.aload_n 0, 1) := by decide +kernel
theorem dX12_made_5 : decode cX12_made 5 = .ok (.getfield 84, 3) := by decide +kernel
theorem dX12_made_8 : decode cX12_made 8 = .ok (.iload_n 1, 1) := by decide +kernel
theorem dX12_made_9 : decode cX12_made 9 = .ok (.iastore, 1) := by decide +kernel
theorem dX12_made_10 : decode cX12_made 10 = .ok (.aload_n 0, 1) := by decide +kernel
theorem dX12_made_11 : decode cX12_made 11 = .ok (.dup, 1) := by decide +kernel
theorem dX12_made_12 : decode cX12_made 12 = .ok (.getfield 84, 3) := by decide +kernel
theorem dX12_made_15 : decode cX12_made 15 = .ok (.iconst 1, 1) := by decide +kernel
theorem dX12_made_16 : decode cX12_made 16 = .ok (.iadd, 1) := by decide +kernel
theorem dX12_made_17 : decode cX12_made 17 = .ok (.putfield 84, 3) := by decide +kernel
theorem dX12_made_20 : decode cX12_made 20 = .ok (.aload_n 0, 1) := by decide +kernel
theorem dX12_made_21 : decode cX12_made 21 = .ok (.getfield 84, 3) := by decide +kernel
theorem dX12_made_24 : decode cX12_made 24 = .ok (.iconst 1, 1) := by decide +kernel
theorem dX12_made_25 : decode cX12_made 25 = .ok (.isub, 1) := by decide +kernel
theorem dX12_made_26 : decode cX12_made 26 = .ok (.ireturn, 1) := by decide +kernel
set_option maxRecDepth 20000 in
theorem ggX12_modular_X12_in : GoodIn wsX12_modular wsX12_in := goodIn_r _ [8] (by decide +kernel) (by decide +kernel)
set_option maxRecDepth 20000 in
theorem gX12_modular_X12_in : GoodIn wsX12_modular (va_wsS RX12 88 yX12_in wsX12_in) := goodIn_app (goodIn_of _ (by decide +kernel)) ggX12_modular_X12_in
set_option maxRecDepth 20000 in
theorem ggX12_modular_X12_made : GoodIn wsX12_modular wsX12_made := goodIn_r _ [12, 13, 3, 14, 15, 16, 17, 18, 19, 20, 21, 22, 23, 24, 25, 26, 27, 28, 29, 30, 31, 32, 33, 34, 35, 36, 37, 38, 39, 40, 41, 42, 43, 44, 45, 46] (by decide +kernel) (by decide +kernel)
set_option maxRecDepth 20000 in
theorem gX12_modular_X12_made : GoodIn wsX12_modular (wsV RX12 101 RX12 yX12_made wsX12_made) := goodIn_app (goodIn_of _ (by decide +kernel)) ggX12_modular_X12_made
theorem dX12_modular_0 : decode cX12_modular 0 = .ok (.iload_n 2, 1) := by decide +kernel
theorem dX12_modular_1 : decode cX12_modular 1 = .ok (.i2l, 1) := by decide +kernel
theorem dX12_modular_2 : decode cX12_modular 2 = .ok (.ldc2_w 97, 3) := by decide +kernel
theorem dX12_modular_5 : decode cX12_modular 5 = .ok (.ldc2_w 99, 3) := by decide +kernel
theorem dX12_modular_8 : decode cX12_modular 8 = .ok (.invokestatic 88, 3) := by decide +kernel
theorem dX12_modular_11 : decode cX12_modular 11 = .ok (.ifCond .ne 6, 3) := by decide +kernel
theorem dX12_modular_14 : decode cX12_modular 14 = .ok (.bipush (-3), 2) := by decide +kernel
theorem dX12_modular_16 : decode cX12_modular 16 = .ok (.ireturn, 1) := by decide +kernel
theorem dX12_modular_17 : decode cX12_modular 17 = .ok (.aload_n 0, 1) := by decide +kernel
theorem dX12_modular_18 : decode cX12_modular 18 = .ok (.getfield 84, 3) := by decide +kernel
theorem dX12_modular_21 : decode cX12_modular 21 = .ok (.bipush 16, 2) := by decide +kernel
theorem dX12_modular_23 : decode cX12_modular 23 = .ok (.if_icmp .ne 6, 3) := by decide +kernel
theorem dX12_modular_26 : decode cX12_modular 26 = .ok (.bipush (-6), 2) := by decide +kernel
theorem dX12_modular_28 : decode cX12_modular 28 = .ok (.ireturn, 1) := by decide +kernel
theorem dX12_modular_29 : decode cX12_modular 29 = .ok (.aload_n 0, 1) := by decide +kernel
theorem dX12_modular_30 : decode cX12_modular 30 = .ok (.getfield 16, 3) := by decide +kernel
theorem dX12_modular_33 : decode cX12_modular 33 = .ok (.aload_n 0, 1) := by decide +kernel
theorem dX12_modular_34 : decode cX12_modular 34 = .ok (.getfield 84, 3) := by decide +kernel
theorem dX12_modular_37 : decode cX12_modular 37 = .ok (.iload_n 2, 1) := by decide +kernel
theorem dX12_modular_38 : decode cX12_modular 38 = .ok (.iastore, 1) := by decide +kernel
theorem dX12_modular_39 : decode cX12_modular 39 = .ok (.aload_n 0, 1) := by decide +kernel
theorem dX12_modular_40 : decode cX12_modular 40 = .ok (.iload_n 1, 1) := by decide +kernel
theorem dX12_modular_41 : decode cX12_modular 41 = .ok (.invokevirtual 101, 3) := by decide +kernel
theorem dX12_modular_44 : decode cX12_modular 44 = .ok (.ireturn, 1) := by decide +kernel
set_option maxRecDepth 20000 in
theorem ggX12_plain_X12_modular : GoodIn wsX12_plain wsX12_modular := goodIn_r _ [5, 6, 7, 8, 9, 10, 11, 4, 12, 13, 14, 15, 16, 17, 18, 19, 20, 21, 22, 23, 24, 25, 26, 27, 28, 29, 30, 31, 32, 33, 34, 35, 36, 37, 38, 39, 40, 41, 42, 43, 44, 45, 46, 47, 48, 49, 50] (by decide +kernel) (by decide +kernel)
set_option maxRecDepth 20000 in
theorem gX12_plain_X12_modular : GoodIn wsX12_plain (wsV RX12 105 RX12 yX12_modular wsX12_modular) := goodIn_app (goodIn_of _ (by decide +kernel)) ggX12_plain_X12_modular
theorem dX12_plain_0 : decode cX12_plain 0 = .ok (.aload_n 0, 1) := by decide +kernel
theorem dX12_plain_1 : decode cX12_plain 1 = .ok (.iconst 0, 1) := by decide +kernel
theorem dX12_plain_2 : decode cX12_plain 2 = .ok (.iload_n 1, 1) := by decide +kernel
theorem dX12_plain_3 : decode cX12_plain 3 = .ok (.invokevirtual 105, 3) := by decide +kernel
theorem dX12_plain_6 : decode cX12_plain 6 = .ok (.ireturn, 1) := by decide +kernel
set_option maxRecDepth 20000 in
theorem ggX12_twofold_X12_modular : GoodIn wsX12_twofold wsX12_modular := goodIn_r _ [5, 6, 7, 8, 9, 10, 11, 4, 12, 13, 14, 15, 16, 17, 18, 19, 20, 21, 22, 23, 24, 25, 26, 27, 28, 29, 30, 31, 32, 33, 34, 35, 36, 37, 38, 39, 40, 41, 42, 43, 44, 45, 46, 47, 48, 49, 50] (by decide +kernel) (by decide +kernel)
set_option maxRecDepth 20000 in
theorem gX12_twofold_X12_modular : GoodIn wsX12_twofold (wsV RX12 105 RX12 yX12_modular wsX12_modular) := goodIn_app (goodIn_of _ (by decide +kernel)) ggX12_twofold_X12_modular
theorem dX12_twofold_0 : decode cX12_twofold 0 = .ok (.aload_n 0, 1) := by decide +kernel
theorem dX12_twofold_1 : decode cX12_twofold 1 = .ok (.iconst 1, 1) := by decide +kernel
theorem dX12_twofold_2 : decode cX12_twofold 2 = .ok (.iload_n 1, 1) := by decide +kernel
theorem dX12_twofold_3 : decode cX12_twofold 3 = .ok (.invokevirtual 105, 3) := by decide +kernel
theorem dX12_twofold_6 : decode cX12_twofold 6 = .ok (.ireturn, 1) := by decide +kernel
set_option maxRecDepth 20000 in
theorem ggX12_weighted_X12_in : GoodIn wsX12_weighted wsX12_in := goodIn_r _ [13] (by decide +kernel) (by decide +kernel)
set_option maxRecDepth 20000 in
theorem gX12_weighted_X12_in : GoodIn wsX12_weighted (va_wsS RX12 88 yX12_in wsX12_in) := goodIn_app (goodIn_of _ (by decide +kernel)) ggX12_weighted_X12_in
set_option maxRecDepth 20000 in
theorem ggX12_weighted_X12_made : GoodIn wsX12_weighted wsX12_made := goodIn_r _ [17, 18, 5, 19, 20, 21, 22, 23, 24, 25, 26, 27, 28, 29, 30, 31, 32, 33, 34, 35, 36, 37, 38, 39, 40, 41, 42, 43, 44, 45, 46, 47, 48, 49, 50, 51] (by decide +kernel) (by decide +kernel)
set_option maxRecDepth 20000 in
theorem gX12_weighted_X12_made : GoodIn wsX12_weighted (wsV RX12 101 RX12 yX12_made wsX12_made) := goodIn_app (goodIn_of _ (by decide +kernel)) ggX12_weighted_X12_made
theorem dX12_weighted_0 : decode cX12_weighted 0 = .ok (.iload_n 1, 1) := by decide +kernel
theorem dX12_weighted_1 : decode cX12_weighted 1 = .ok (.i2l, 1) := by decide +kernel
theorem dX12_weighted_2 : decode cX12_weighted 2 = .ok (.ldc2_w 97, 3) := by decide +kernel
theorem dX12_weighted_5 : decode cX12_weighted 5 = .ok (.ldc2_w 99, 3) := by decide +kernel
theorem dX12_weighted_8 : decode cX12_weighted 8 = .ok (.invokestatic 88, 3) := by decide +kernel
theorem dX12_weighted_11 : decode cX12_weighted 11 = .ok (.ifCond .ne 6, 3) := by decide +kernel
theorem dX12_weighted_14 : decode cX12_weighted 14 = .ok (.bipush (-3), 2) := by decide +kernel
theorem dX12_weighted_16 : decode cX12_weighted 16 = .ok (.ireturn, 1) := by decide +kernel
theorem dX12_weighted_17 : decode cX12_weighted 17 = .ok (.aload_n 0, 1) := by decide +kernel
theorem dX12_weighted_18 : decode cX12_weighted 18 = .ok (.getfield 94, 3) := by decide +kernel
theorem dX12_weighted_21 : decode cX12_weighted 21 = .ok (.i2l, 1) := by decide +kernel
theorem dX12_weighted_22 : decode cX12_weighted 22 = .ok (.lconst 1, 1) := by decide +kernel
theorem dX12_weighted_23 : decode cX12_weighted 23 = .ok (.ldc2_w 109, 3) := by decide +kernel
theorem dX12_weighted_26 : decode cX12_weighted 26 = .ok (.invokestatic 88, 3) := by decide +kernel
theorem dX12_weighted_29 : decode cX12_weighted 29 = .ok (.ifCond .ne 6, 3) := by decide +kernel
theorem dX12_weighted_32 : decode cX12_weighted 32 = .ok (.bipush (-5), 2) := by decide +kernel
theorem dX12_weighted_34 : decode cX12_weighted 34 = .ok (.ireturn, 1) := by decide +kernel
theorem dX12_weighted_35 : decode cX12_weighted 35 = .ok (.aload_n 0, 1) := by decide +kernel
theorem dX12_weighted_36 : decode cX12_weighted 36 = .ok (.getfield 84, 3) := by decide +kernel
theorem dX12_weighted_39 : decode cX12_weighted 39 = .ok (.bipush 16, 2) := by decide +kernel
theorem dX12_weighted_41 : decode cX12_weighted 41 = .ok (.if_icmp .ne 6, 3) := by decide +kernel
theorem dX12_weighted_44 : decode cX12_weighted 44 = .ok (.bipush (-6), 2) := by decide +kernel
theorem dX12_weighted_46 : decode cX12_weighted 46 = .ok (.ireturn, 1) := by decide +kernel
theorem dX12_weighted_47 : decode cX12_weighted 47 = .ok (.aload_n 0, 1) := by decide +kernel
theorem dX12_weighted_48 : decode cX12_weighted 48 = .ok (.getfield 39, 3) := by decide +kernel
theorem dX12_weighted_51 : decode cX12_weighted 51 = .ok (.aload_n 0, 1) := by decide +kernel
theorem dX12_weighted_52 : decode cX12_weighted 52 = .ok (.getfield 84, 3) := by decide +kernel
theorem dX12_weighted_55 : decode cX12_weighted 55 = .ok (.aload_n 0, 1) := by decide +kernel
theorem dX12_weighted_56 : decode cX12_weighted 56 = .ok (.getfield 94, 3) := by decide +kernel
theorem dX12_weighted_59 : decode cX12_weighted 59 = .ok (.iastore, 1) := by decide +kernel
theorem dX12_weighted_60 : decode cX12_weighted 60 = .ok (.iconst 0, 1) := by decide +kernel
theorem dX12_weighted_61 : decode cX12_weighted 61 = .ok (.istore_n 2, 1) := by decide +kernel
theorem dX12_weighted_62 : decode cX12_weighted 62 = .ok (.iload_n 2, 1) := by decide +kernel
theorem dX12_weighted_63 : decode cX12_weighted 63 = .ok (.aload_n 0, 1) := by decide +kernel
theorem dX12_weighted_64 : decode cX12_weighted 64 = .ok (.getfield 94, 3) := by decide +kernel
theorem dX12_weighted_67 : decode cX12_weighted 67 = .ok (.if_icmp .ge 29, 3) := by decide +kernel
theorem dX12_weighted_70 : decode cX12_weighted 70 = .ok (.aload_n 0, 1) := by decide +kernel
theorem dX12_weighted_71 : decode cX12_weighted 71 = .ok (.getfield 42, 3) := by decide +kernel
theorem dX12_weighted_74 : decode cX12_weighted 74 = .ok (.bipush 12, 2) := by decide +kernel
theorem dX12_weighted_76 : decode cX12_weighted 76 = .ok (.aload_n 0, 1) := by decide +kernel
theorem dX12_weighted_77 : decode cX12_weighted 77 = .ok (.getfield 84, 3) := by decide +kernel
theorem dX12_weighted_80 : decode cX12_weighted 80 = .ok (.imul, 1) := by decide +kernel
theorem dX12_weighted_81 : decode cX12_weighted 81 = .ok (.iload_n 2, 1) := by decide +kernel
theorem dX12_weighted_82 : decode cX12_weighted 82 = .ok (.iadd, 1) := by decide +kernel
theorem dX12_weighted_83 : decode cX12_weighted 83 = .ok (.aload_n 0, 1) := by decide +kernel
theorem dX12_weighted_84 : decode cX12_weighted 84 = .ok (.getfield 7, 3) := by decide +kernel
theorem dX12_weighted_87 : decode cX12_weighted 87 = .ok (.iload_n 2, 1) := by decide +kernel
theorem dX12_weighted_88 : decode cX12_weighted 88 = .ok (.iaload, 1) := by decide +kernel
theorem dX12_weighted_89 : decode cX12_weighted 89 = .ok (.iastore, 1) := by decide +kernel
theorem dX12_weighted_90 : decode cX12_weighted 90 = .ok (.iinc 2 1, 3) := by decide +kernel
theorem dX12_weighted_93 : decode cX12_weighted 93 = .ok (.goto (-31), 3) := by decide +kernel
theorem dX12_weighted_96 : decode cX12_weighted 96 = .ok (.aload_n 0, 1) := by decide +kernel
theorem dX12_weighted_97 : decode cX12_weighted 97 = .ok (.iconst 0, 1) := by decide +kernel
theorem dX12_weighted_98 : decode cX12_weighted 98 = .ok (.putfield 94, 3) := by decide +kernel
theorem dX12_weighted_101 : decode cX12_weighted 101 = .ok (.aload_n 0, 1) := by decide +kernel
theorem dX12_weighted_102 : decode cX12_weighted 102 = .ok (.getfield 16, 3) := by decide +kernel
theorem dX12_weighted_105 : decode cX12_weighted 105 = .ok (.aload_n 0, 1) := by decide +kernel
theorem dX12_weighted_106 : decode cX12_weighted 106 = .ok (.getfield 84, 3) := by decide +kernel
theorem dX12_weighted_109 : decode cX12_weighted 109 = .ok (.iload_n 1, 1) := by decide +kernel
theorem dX12_weighted_110 : decode cX12_weighted 110 = .ok (.iastore, 1) := by decide +kernel
theorem dX12_weighted_111 : decode cX12_weighted 111 = .ok (.aload_n 0, 1) := by decide +kernel
theorem dX12_weighted_112 : decode cX12_weighted 112 = .ok (.iconst 2, 1) := by decide +kernel
theorem dX12_weighted_113 : decode cX12_weighted 113 = .ok (.invokevirtual 101, 3) := by decide +kernel
theorem dX12_weighted_116 : decode cX12_weighted 116 = .ok (.ireturn, 1) := by decide +kernel
set_option maxRecDepth 20000 in
theorem ggX12_turning_X12_in : GoodIn wsX12_turning wsX12_in := goodIn_r _ [9] (by decide +kernel) (by decide +kernel)
set_option maxRecDepth 20000 in
theorem gX12_turning_X12_in : GoodIn wsX12_turning (va_wsS RX12 88 yX12_in wsX12_in) := goodIn_app (goodIn_of _ (by decide +kernel)) ggX12_turning_X12_in
set_option maxRecDepth 20000 in
theorem ggX12_turning_X12_made : GoodIn wsX12_turning wsX12_made := goodIn_r _ [13, 14, 3, 15, 16, 17, 18, 19, 20, 21, 22, 23, 24, 25, 26, 27, 28, 29, 30, 31, 32, 33, 34, 35, 36, 37, 38, 39, 40, 41, 42, 43, 44, 45, 46, 47] (by decide +kernel) (by decide +kernel)
set_option maxRecDepth 20000 in
theorem gX12_turning_X12_made : GoodIn wsX12_turning (wsV RX12 101 RX12 yX12_made wsX12_made) := goodIn_app (goodIn_of _ (by decide +kernel)) ggX12_turning_X12_made
theorem dX12_turning_0 : decode cX12_turning 0 = .ok (.iload_n 1, 1) := by decide +kernel
theorem dX12_turning_1 : decode cX12_turning 1 = .ok (.i2l, 1) := by decide +kernel
theorem dX12_turning_2 : decode cX12_turning 2 = .ok (.ldc2_w 111, 3) := by decide +kernel
theorem dX12_turning_5 : decode cX12_turning 5 = .ok (.ldc2_w 113, 3) := by decide +kernel
theorem dX12_turning_8 : decode cX12_turning 8 = .ok (.invokestatic 88, 3) := by decide +kernel
theorem dX12_turning_11 : decode cX12_turning 11 = .ok (.ifCond .eq 16, 3) := by decide +kernel
theorem dX12_turning_14 : decode cX12_turning 14 = .ok (.iload_n 2, 1) := by decide +kernel
theorem dX12_turning_15 : decode cX12_turning 15 = .ok (.i2l, 1) := by decide +kernel
theorem dX12_turning_16 : decode cX12_turning 16 = .ok (.lconst 0, 1) := by decide +kernel
theorem dX12_turning_17 : decode cX12_turning 17 = .ok (.iload_n 1, 1) := by decide +kernel
theorem dX12_turning_18 : decode cX12_turning 18 = .ok (.iconst 1, 1) := by decide +kernel
theorem dX12_turning_19 : decode cX12_turning 19 = .ok (.isub, 1) := by decide +kernel
theorem dX12_turning_20 : decode cX12_turning 20 = .ok (.i2l, 1) := by decide +kernel
theorem dX12_turning_21 : decode cX12_turning 21 = .ok (.invokestatic 88, 3) := by decide +kernel
theorem dX12_turning_24 : decode cX12_turning 24 = .ok (.ifCond .ne 6, 3) := by decide +kernel
theorem dX12_turning_27 : decode cX12_turning 27 = .ok (.bipush (-3), 2) := by decide +kernel
theorem dX12_turning_29 : decode cX12_turning 29 = .ok (.ireturn, 1) := by decide +kernel
theorem dX12_turning_30 : decode cX12_turning 30 = .ok (.aload_n 0, 1) := by decide +kernel
theorem dX12_turning_31 : decode cX12_turning 31 = .ok (.getfield 84, 3) := by decide +kernel
theorem dX12_turning_34 : decode cX12_turning 34 = .ok (.bipush 16, 2) := by decide +kernel
theorem dX12_turning_36 : decode cX12_turning 36 = .ok (.if_icmp .ne 6, 3) := by decide +kernel
theorem dX12_turning_39 : decode cX12_turning 39 = .ok (.bipush (-6), 2) := by decide +kernel
theorem dX12_turning_41 : decode cX12_turning 41 = .ok (.ireturn, 1) := by decide +kernel
theorem dX12_turning_42 : decode cX12_turning 42 = .ok (.aload_n 0, 1) := by decide +kernel
theorem dX12_turning_43 : decode cX12_turning 43 = .ok (.getfield 19, 3) := by decide +kernel
theorem dX12_turning_46 : decode cX12_turning 46 = .ok (.aload_n 0, 1) := by decide +kernel
theorem dX12_turning_47 : decode cX12_turning 47 = .ok (.getfield 84, 3) := by decide +kernel
theorem dX12_turning_50 : decode cX12_turning 50 = .ok (.iload_n 1, 1) := by decide +kernel
theorem dX12_turning_51 : decode cX12_turning 51 = .ok (.iastore, 1) := by decide +kernel
theorem dX12_turning_52 : decode cX12_turning 52 = .ok (.aload_n 0, 1) := by decide +kernel
theorem dX12_turning_53 : decode cX12_turning 53 = .ok (.getfield 22, 3) := by decide +kernel
theorem dX12_turning_56 : decode cX12_turning 56 = .ok (.aload_n 0, 1) := by decide +kernel
theorem dX12_turning_57 : decode cX12_turning 57 = .ok (.getfield 84, 3) := by decide +kernel
theorem dX12_turning_60 : decode cX12_turning 60 = .ok (.iload_n 2, 1) := by decide +kernel
theorem dX12_turning_61 : decode cX12_turning 61 = .ok (.iastore, 1) := by decide +kernel
theorem dX12_turning_62 : decode cX12_turning 62 = .ok (.aload_n 0, 1) := by decide +kernel
theorem dX12_turning_63 : decode cX12_turning 63 = .ok (.iconst 3, 1) := by decide +kernel
theorem dX12_turning_64 : decode cX12_turning 64 = .ok (.invokevirtual 101, 3) := by decide +kernel
theorem dX12_turning_67 : decode cX12_turning 67 = .ok (.ireturn, 1) := by decide +kernel
set_option maxRecDepth 20000 in
theorem ggX12_divided_X12_in : GoodIn wsX12_divided wsX12_in := goodIn_r _ [12] (by decide +kernel) (by decide +kernel)
set_option maxRecDepth 20000 in
theorem gX12_divided_X12_in : GoodIn wsX12_divided (va_wsS RX12 88 yX12_in wsX12_in) := goodIn_app (goodIn_of _ (by decide +kernel)) ggX12_divided_X12_in
set_option maxRecDepth 20000 in
theorem ggX12_divided_X12_made : GoodIn wsX12_divided wsX12_made := goodIn_r _ [16, 17, 3, 18, 19, 20, 21, 22, 23, 24, 25, 26, 27, 28, 29, 30, 31, 32, 33, 34, 35, 36, 37, 38, 39, 40, 41, 42, 43, 44, 45, 46, 47, 48, 49, 50] (by decide +kernel) (by decide +kernel)
set_option maxRecDepth 20000 in
theorem gX12_divided_X12_made : GoodIn wsX12_divided (wsV RX12 101 RX12 yX12_made wsX12_made) := goodIn_app (goodIn_of _ (by decide +kernel)) ggX12_divided_X12_made
theorem dX12_divided_0 : decode cX12_divided 0 = .ok (.iload_n 1, 1) := by decide +kernel
theorem dX12_divided_1 : decode cX12_divided 1 = .ok (.i2l, 1) := by decide +kernel
theorem dX12_divided_2 : decode cX12_divided 2 = .ok (.ldc2_w 115, 3) := by decide +kernel
theorem dX12_divided_5 : decode cX12_divided 5 = .ok (.ldc2_w 113, 3) := by decide +kernel
theorem dX12_divided_8 : decode cX12_divided 8 = .ok (.invokestatic 88, 3) := by decide +kernel
theorem dX12_divided_11 : decode cX12_divided 11 = .ok (.ifCond .ne 6, 3) := by decide +kernel
theorem dX12_divided_14 : decode cX12_divided 14 = .ok (.bipush (-3), 2) := by decide +kernel
theorem dX12_divided_16 : decode cX12_divided 16 = .ok (.ireturn, 1) := by decide +kernel
theorem dX12_divided_17 : decode cX12_divided 17 = .ok (.lconst 1, 1) := by decide +kernel
theorem dX12_divided_18 : decode cX12_divided 18 = .ok (.iload_n 1, 1) := by decide +kernel
theorem dX12_divided_19 : decode cX12_divided 19 = .ok (.lshl, 1) := by decide +kernel
theorem dX12_divided_20 : decode cX12_divided 20 = .ok (.lconst 1, 1) := by decide +kernel
theorem dX12_divided_21 : decode cX12_divided 21 = .ok (.lsub, 1) := by decide +kernel
theorem dX12_divided_22 : decode cX12_divided 22 = .ok (.lstore 10, 2) := by decide +kernel
theorem dX12_divided_24 : decode cX12_divided 24 = .ok (.lload_n 2, 1) := by decide +kernel
theorem dX12_divided_25 : decode cX12_divided 25 = .ok (.lconst 0, 1) := by decide +kernel
theorem dX12_divided_26 : decode cX12_divided 26 = .ok (.lload 10, 2) := by decide +kernel
theorem dX12_divided_28 : decode cX12_divided 28 = .ok (.invokestatic 88, 3) := by decide +kernel
theorem dX12_divided_31 : decode cX12_divided 31 = .ok (.ifCond .eq 25, 3) := by decide +kernel
theorem dX12_divided_34 : decode cX12_divided 34 = .ok (.lload 4, 2) := by decide +kernel
theorem dX12_divided_36 : decode cX12_divided 36 = .ok (.lconst 0, 1) := by decide +kernel
theorem dX12_divided_37 : decode cX12_divided 37 = .ok (.lload 10, 2) := by decide +kernel
theorem dX12_divided_39 : decode cX12_divided 39 = .ok (.invokestatic 88, 3) := by decide +kernel
theorem dX12_divided_42 : decode cX12_divided 42 = .ok (.ifCond .eq 14, 3) := by decide +kernel
theorem dX12_divided_45 : decode cX12_divided 45 = .ok (.lload 6, 2) := by decide +kernel
theorem dX12_divided_47 : decode cX12_divided 47 = .ok (.lconst 0, 1) := by decide +kernel
theorem dX12_divided_48 : decode cX12_divided 48 = .ok (.lload 10, 2) := by decide +kernel
theorem dX12_divided_50 : decode cX12_divided 50 = .ok (.invokestatic 88, 3) := by decide +kernel
theorem dX12_divided_53 : decode cX12_divided 53 = .ok (.ifCond .ne 6, 3) := by decide +kernel
theorem dX12_divided_56 : decode cX12_divided 56 = .ok (.bipush (-3), 2) := by decide +kernel
theorem dX12_divided_58 : decode cX12_divided 58 = .ok (.ireturn, 1) := by decide +kernel
theorem dX12_divided_59 : decode cX12_divided 59 = .ok (.aload_n 0, 1) := by decide +kernel
theorem dX12_divided_60 : decode cX12_divided 60 = .ok (.getfield 84, 3) := by decide +kernel
theorem dX12_divided_63 : decode cX12_divided 63 = .ok (.bipush 16, 2) := by decide +kernel
theorem dX12_divided_65 : decode cX12_divided 65 = .ok (.if_icmp .ne 6, 3) := by decide +kernel
theorem dX12_divided_68 : decode cX12_divided 68 = .ok (.bipush (-6), 2) := by decide +kernel
theorem dX12_divided_70 : decode cX12_divided 70 = .ok (.ireturn, 1) := by decide +kernel
theorem dX12_divided_71 : decode cX12_divided 71 = .ok (.aload_n 0, 1) := by decide +kernel
theorem dX12_divided_72 : decode cX12_divided 72 = .ok (.getfield 19, 3) := by decide +kernel
theorem dX12_divided_75 : decode cX12_divided 75 = .ok (.aload_n 0, 1) := by decide +kernel
theorem dX12_divided_76 : decode cX12_divided 76 = .ok (.getfield 84, 3) := by decide +kernel
theorem dX12_divided_79 : decode cX12_divided 79 = .ok (.iload_n 1, 1) := by decide +kernel
theorem dX12_divided_80 : decode cX12_divided 80 = .ok (.iastore, 1) := by decide +kernel
theorem dX12_divided_81 : decode cX12_divided 81 = .ok (.aload_n 0, 1) := by decide +kernel
theorem dX12_divided_82 : decode cX12_divided 82 = .ok (.getfield 25, 3) := by decide +kernel
theorem dX12_divided_85 : decode cX12_divided 85 = .ok (.aload_n 0, 1) := by decide +kernel
theorem dX12_divided_86 : decode cX12_divided 86 = .ok (.getfield 84, 3) := by decide +kernel
theorem dX12_divided_89 : decode cX12_divided 89 = .ok (.lload_n 2, 1) := by decide +kernel
theorem dX12_divided_90 : decode cX12_divided 90 = .ok (.lastore, 1) := by decide +kernel
theorem dX12_divided_91 : decode cX12_divided 91 = .ok (.aload_n 0, 1) := by decide +kernel
theorem dX12_divided_92 : decode cX12_divided 92 = .ok (.getfield 29, 3) := by decide +kernel
theorem dX12_divided_95 : decode cX12_divided 95 = .ok (.aload_n 0, 1) := by decide +kernel
theorem dX12_divided_96 : decode cX12_divided 96 = .ok (.getfield 84, 3) := by decide +kernel
theorem dX12_divided_99 : decode cX12_divided 99 = .ok (.lload 4, 2) := by decide +kernel
theorem dX12_divided_101 : decode cX12_divided 101 = .ok (.lastore, 1) := by decide +kernel
theorem dX12_divided_102 : decode cX12_divided 102 = .ok (.aload_n 0, 1) := by decide +kernel
theorem dX12_divided_103 : decode cX12_divided 103 = .ok (.getfield 32, 3) := by decide +kernel
theorem dX12_divided_106 : decode cX12_divided 106 = .ok (.aload_n 0, 1) := by decide +kernel
theorem dX12_divided_107 : decode cX12_divided 107 = .ok (.getfield 84, 3) := by decide +kernel
theorem dX12_divided_110 : decode cX12_divided 110 = .ok (.lload 6, 2) := by decide +kernel
theorem dX12_divided_112 : decode cX12_divided 112 = .ok (.lastore, 1) := by decide +kernel
theorem dX12_divided_113 : decode cX12_divided 113 = .ok (.aload_n 0, 1) := by decide +kernel
theorem dX12_divided_114 : decode cX12_divided 114 = .ok (.getfield 35, 3) := by decide +kernel
theorem dX12_divided_117 : decode cX12_divided 117 = .ok (.aload_n 0, 1) := by decide +kernel
theorem dX12_divided_118 : decode cX12_divided 118 = .ok (.getfield 84, 3) := by decide +kernel
theorem dX12_divided_121 : decode cX12_divided 121 = .ok (.iload 8, 2) := by decide +kernel
theorem dX12_divided_123 : decode cX12_divided 123 = .ok (.bastore, 1) := by decide +kernel
theorem dX12_divided_124 : decode cX12_divided 124 = .ok (.aload_n 0, 1) := by decide +kernel
theorem dX12_divided_125 : decode cX12_divided 125 = .ok (.iload 9, 2) := by decide +kernel
theorem dX12_divided_127 : decode cX12_divided 127 = .ok (.ifCond .eq 7, 3) := by decide +kernel
theorem dX12_divided_130 : decode cX12_divided 130 = .ok (.iconst 5, 1) := by decide +kernel
theorem dX12_divided_131 : decode cX12_divided 131 = .ok (.goto 4, 3) := by decide +kernel
theorem dX12_divided_134 : decode cX12_divided 134 = .ok (.iconst 4, 1) := by decide +kernel
theorem dX12_divided_135 : decode cX12_divided 135 = .ok (.invokevirtual 101, 3) := by decide +kernel
theorem dX12_divided_138 : decode cX12_divided 138 = .ok (.ireturn, 1) := by decide +kernel
set_option maxRecDepth 20000 in
theorem ggX12_square_X12_in : GoodIn wsX12_square wsX12_in := goodIn_r _ [11] (by decide +kernel) (by decide +kernel)
set_option maxRecDepth 20000 in
theorem gX12_square_X12_in : GoodIn wsX12_square (va_wsS RX12 88 yX12_in wsX12_in) := goodIn_app (goodIn_of _ (by decide +kernel)) ggX12_square_X12_in
set_option maxRecDepth 20000 in
theorem ggX12_square_X12_made : GoodIn wsX12_square wsX12_made := goodIn_r _ [15, 16, 5, 17, 18, 19, 20, 21, 22, 23, 24, 25, 26, 27, 28, 29, 30, 31, 32, 33, 34, 35, 36, 37, 38, 39, 40, 41, 42, 43, 44, 45, 46, 47, 48, 49] (by decide +kernel) (by decide +kernel)
set_option maxRecDepth 20000 in
theorem gX12_square_X12_made : GoodIn wsX12_square (wsV RX12 101 RX12 yX12_made wsX12_made) := goodIn_app (goodIn_of _ (by decide +kernel)) ggX12_square_X12_made
theorem dX12_square_0 : decode cX12_square 0 = .ok (.iload_n 1, 1) := by decide +kernel
theorem dX12_square_1 : decode cX12_square 1 = .ok (.i2l, 1) := by decide +kernel
theorem dX12_square_2 : decode cX12_square 2 = .ok (.ldc2_w 97, 3) := by decide +kernel
theorem dX12_square_5 : decode cX12_square 5 = .ok (.ldc2_w 117, 3) := by decide +kernel
theorem dX12_square_8 : decode cX12_square 8 = .ok (.invokestatic 88, 3) := by decide +kernel
theorem dX12_square_11 : decode cX12_square 11 = .ok (.ifCond .ne 6, 3) := by decide +kernel
theorem dX12_square_14 : decode cX12_square 14 = .ok (.bipush (-3), 2) := by decide +kernel
theorem dX12_square_16 : decode cX12_square 16 = .ok (.ireturn, 1) := by decide +kernel
theorem dX12_square_17 : decode cX12_square 17 = .ok (.aload_n 0, 1) := by decide +kernel
theorem dX12_square_18 : decode cX12_square 18 = .ok (.getfield 94, 3) := by decide +kernel
theorem dX12_square_21 : decode cX12_square 21 = .ok (.iload_n 1, 1) := by decide +kernel
theorem dX12_square_22 : decode cX12_square 22 = .ok (.iload_n 1, 1) := by decide +kernel
theorem dX12_square_23 : decode cX12_square 23 = .ok (.imul, 1) := by decide +kernel
theorem dX12_square_24 : decode cX12_square 24 = .ok (.if_icmp .ne 7, 3) := by decide +kernel
theorem dX12_square_27 : decode cX12_square 27 = .ok (.iconst 1, 1) := by decide +kernel
theorem dX12_square_28 : decode cX12_square 28 = .ok (.goto 4, 3) := by decide +kernel
theorem dX12_square_31 : decode cX12_square 31 = .ok (.iconst 0, 1) := by decide +kernel
theorem dX12_square_32 : decode cX12_square 32 = .ok (.istore_n 2, 1) := by decide +kernel
theorem dX12_square_33 : decode cX12_square 33 = .ok (.iconst 0, 1) := by decide +kernel
theorem dX12_square_34 : decode cX12_square 34 = .ok (.istore_n 3, 1) := by decide +kernel
theorem dX12_square_35 : decode cX12_square 35 = .ok (.iload_n 3, 1) := by decide +kernel
theorem dX12_square_36 : decode cX12_square 36 = .ok (.aload_n 0, 1) := by decide +kernel
theorem dX12_square_37 : decode cX12_square 37 = .ok (.getfield 94, 3) := by decide +kernel
theorem dX12_square_40 : decode cX12_square 40 = .ok (.if_icmp .ge 29, 3) := by decide +kernel
theorem dX12_square_43 : decode cX12_square 43 = .ok (.iload_n 2, 1) := by decide +kernel
theorem dX12_square_44 : decode cX12_square 44 = .ok (.ifCond .eq 17, 3) := by decide +kernel
theorem dX12_square_47 : decode cX12_square 47 = .ok (.aload_n 0, 1) := by decide +kernel
theorem dX12_square_48 : decode cX12_square 48 = .ok (.getfield 7, 3) := by decide +kernel
theorem dX12_square_51 : decode cX12_square 51 = .ok (.iload_n 3, 1) := by decide +kernel
theorem dX12_square_52 : decode cX12_square 52 = .ok (.iaload, 1) := by decide +kernel
theorem dX12_square_53 : decode cX12_square 53 = .ok (.iload_n 1, 1) := by decide +kernel
theorem dX12_square_54 : decode cX12_square 54 = .ok (.if_icmp .ge 7, 3) := by decide +kernel
theorem dX12_square_57 : decode cX12_square 57 = .ok (.iconst 1, 1) := by decide +kernel
theorem dX12_square_58 : decode cX12_square 58 = .ok (.goto 4, 3) := by decide +kernel
theorem dX12_square_61 : decode cX12_square 61 = .ok (.iconst 0, 1) := by decide +kernel
theorem dX12_square_62 : decode cX12_square 62 = .ok (.istore_n 2, 1) := by decide +kernel
theorem dX12_square_63 : decode cX12_square 63 = .ok (.iinc 3 1, 3) := by decide +kernel
theorem dX12_square_66 : decode cX12_square 66 = .ok (.goto (-31), 3) := by decide +kernel
theorem dX12_square_69 : decode cX12_square 69 = .ok (.iload_n 2, 1) := by decide +kernel
theorem dX12_square_70 : decode cX12_square 70 = .ok (.ifCond .ne 6, 3) := by decide +kernel
theorem dX12_square_73 : decode cX12_square 73 = .ok (.bipush (-5), 2) := by decide +kernel
theorem dX12_square_75 : decode cX12_square 75 = .ok (.ireturn, 1) := by decide +kernel
theorem dX12_square_76 : decode cX12_square 76 = .ok (.aload_n 0, 1) := by decide +kernel
theorem dX12_square_77 : decode cX12_square 77 = .ok (.getfield 84, 3) := by decide +kernel
theorem dX12_square_80 : decode cX12_square 80 = .ok (.bipush 16, 2) := by decide +kernel
theorem dX12_square_82 : decode cX12_square 82 = .ok (.if_icmp .ne 6, 3) := by decide +kernel
theorem dX12_square_85 : decode cX12_square 85 = .ok (.bipush (-6), 2) := by decide +kernel
theorem dX12_square_87 : decode cX12_square 87 = .ok (.ireturn, 1) := by decide +kernel
theorem dX12_square_88 : decode cX12_square 88 = .ok (.iconst 0, 1) := by decide +kernel
theorem dX12_square_89 : decode cX12_square 89 = .ok (.istore_n 3, 1) := by decide +kernel
theorem dX12_square_90 : decode cX12_square 90 = .ok (.iload_n 3, 1) := by decide +kernel
theorem dX12_square_91 : decode cX12_square 91 = .ok (.aload_n 0, 1) := by decide +kernel
theorem dX12_square_92 : decode cX12_square 92 = .ok (.getfield 94, 3) := by decide +kernel
theorem dX12_square_95 : decode cX12_square 95 = .ok (.if_icmp .ge 29, 3) := by decide +kernel
theorem dX12_square_98 : decode cX12_square 98 = .ok (.aload_n 0, 1) := by decide +kernel
theorem dX12_square_99 : decode cX12_square 99 = .ok (.getfield 45, 3) := by decide +kernel
theorem dX12_square_102 : decode cX12_square 102 = .ok (.bipush 100, 2) := by decide +kernel
theorem dX12_square_104 : decode cX12_square 104 = .ok (.aload_n 0, 1) := by decide +kernel
theorem dX12_square_105 : decode cX12_square 105 = .ok (.getfield 84, 3) := by decide +kernel
theorem dX12_square_108 : decode cX12_square 108 = .ok (.imul, 1) := by decide +kernel
theorem dX12_square_109 : decode cX12_square 109 = .ok (.iload_n 3, 1) := by decide +kernel
theorem dX12_square_110 : decode cX12_square 110 = .ok (.iadd, 1) := by decide +kernel
theorem dX12_square_111 : decode cX12_square 111 = .ok (.aload_n 0, 1) := by decide +kernel
theorem dX12_square_112 : decode cX12_square 112 = .ok (.getfield 7, 3) := by decide +kernel
theorem dX12_square_115 : decode cX12_square 115 = .ok (.iload_n 3, 1) := by decide +kernel
theorem dX12_square_116 : decode cX12_square 116 = .ok (.iaload, 1) := by decide +kernel
theorem dX12_square_117 : decode cX12_square 117 = .ok (.iastore, 1) := by decide +kernel
theorem dX12_square_118 : decode cX12_square 118 = .ok (.iinc 3 1, 3) := by decide +kernel
theorem dX12_square_121 : decode cX12_square 121 = .ok (.goto (-31), 3) := by decide +kernel
theorem dX12_square_124 : decode cX12_square 124 = .ok (.aload_n 0, 1) := by decide +kernel
theorem dX12_square_125 : decode cX12_square 125 = .ok (.iconst 0, 1) := by decide +kernel
theorem dX12_square_126 : decode cX12_square 126 = .ok (.putfield 94, 3) := by decide +kernel
theorem dX12_square_129 : decode cX12_square 129 = .ok (.aload_n 0, 1) := by decide +kernel
theorem dX12_square_130 : decode cX12_square 130 = .ok (.getfield 16, 3) := by decide +kernel
theorem dX12_square_133 : decode cX12_square 133 = .ok (.aload_n 0, 1) := by decide +kernel
theorem dX12_square_134 : decode cX12_square 134 = .ok (.getfield 84, 3) := by decide +kernel
theorem dX12_square_137 : decode cX12_square 137 = .ok (.iload_n 1, 1) := by decide +kernel
theorem dX12_square_138 : decode cX12_square 138 = .ok (.iastore, 1) := by decide +kernel
theorem dX12_square_139 : decode cX12_square 139 = .ok (.aload_n 0, 1) := by decide +kernel
theorem dX12_square_140 : decode cX12_square 140 = .ok (.bipush 6, 2) := by decide +kernel
theorem dX12_square_142 : decode cX12_square 142 = .ok (.invokevirtual 101, 3) := by decide +kernel
theorem dX12_square_145 : decode cX12_square 145 = .ok (.ireturn, 1) := by decide +kernel
set_option maxRecDepth 20000 in
theorem ggX12_kind_X12_isSum : GoodIn wsX12_kind wsX12_isSum := goodIn_r _ [6, 7, 8, 9, 5, 10, 11, 12, 13, 14, 15, 16, 17, 18, 19, 20, 21, 22, 23, 24, 25, 26, 27, 28, 29, 30, 31, 32, 33, 34, 35, 36, 37, 38, 39, 40, 41, 42, 43] (by decide +kernel) (by decide +kernel)
set_option maxRecDepth 20000 in
theorem gX12_kind_X12_isSum : GoodIn wsX12_kind (wsV RX12 119 RX12 yX12_isSum wsX12_isSum) := goodIn_app (goodIn_of _ (by decide +kernel)) ggX12_kind_X12_isSum
theorem dX12_kind_0 : decode cX12_kind 0 = .ok (.aload_n 0, 1) := by decide +kernel
theorem dX12_kind_1 : decode cX12_kind 1 = .ok (.iload_n 1, 1) := by decide +kernel
theorem dX12_kind_2 : decode cX12_kind 2 = .ok (.invokevirtual 119, 3) := by decide +kernel
theorem dX12_kind_5 : decode cX12_kind 5 = .ok (.ifCond .eq 12, 3) := by decide +kernel
theorem dX12_kind_8 : decode cX12_kind 8 = .ok (.aload_n 0, 1) := by decide +kernel
theorem dX12_kind_9 : decode cX12_kind 9 = .ok (.getfield 13, 3) := by decide +kernel
theorem dX12_kind_12 : decode cX12_kind 12 = .ok (.iload_n 1, 1) := by decide +kernel
theorem dX12_kind_13 : decode cX12_kind 13 = .ok (.iaload, 1) := by decide +kernel
theorem dX12_kind_14 : decode cX12_kind 14 = .ok (.goto 5, 3) := by decide +kernel
theorem dX12_kind_17 : decode cX12_kind 17 = .ok (.bipush (-2), 2) := by decide +kernel
theorem dX12_kind_19 : decode cX12_kind 19 = .ok (.ireturn, 1) := by decide +kernel
set_option maxRecDepth 20000 in
theorem ggX12_put_X12_in : GoodIn wsX12_put wsX12_in := goodIn_r _ [7] (by decide +kernel) (by decide +kernel)
set_option maxRecDepth 20000 in
theorem gX12_put_X12_in : GoodIn wsX12_put (va_wsS RX12 88 yX12_in wsX12_in) := goodIn_app (goodIn_of _ (by decide +kernel)) ggX12_put_X12_in
theorem dX12_put_0 : decode cX12_put 0 = .ok (.iload_n 1, 1) := by decide +kernel
theorem dX12_put_1 : decode cX12_put 1 = .ok (.i2l, 1) := by decide +kernel
theorem dX12_put_2 : decode cX12_put 2 = .ok (.lconst 0, 1) := by decide +kernel
theorem dX12_put_3 : decode cX12_put 3 = .ok (.ldc2_w 123, 3) := by decide +kernel
theorem dX12_put_6 : decode cX12_put 6 = .ok (.invokestatic 88, 3) := by decide +kernel
theorem dX12_put_9 : decode cX12_put 9 = .ok (.ifCond .ne 6, 3) := by decide +kernel
theorem dX12_put_12 : decode cX12_put 12 = .ok (.bipush (-3), 2) := by decide +kernel
theorem dX12_put_14 : decode cX12_put 14 = .ok (.ireturn, 1) := by decide +kernel
theorem dX12_put_15 : decode cX12_put 15 = .ok (.aload_n 0, 1) := by decide +kernel
theorem dX12_put_16 : decode cX12_put 16 = .ok (.getfield 125, 3) := by decide +kernel
theorem dX12_put_19 : decode cX12_put 19 = .ok (.bipush 64, 2) := by decide +kernel
theorem dX12_put_21 : decode cX12_put 21 = .ok (.if_icmp .ne 6, 3) := by decide +kernel
theorem dX12_put_24 : decode cX12_put 24 = .ok (.bipush (-6), 2) := by decide +kernel
theorem dX12_put_26 : decode cX12_put 26 = .ok (.ireturn, 1) := by decide +kernel
theorem dX12_put_27 : decode cX12_put 27 = .ok (.aload_n 0, 1) := by decide +kernel
theorem dX12_put_28 : decode cX12_put 28 = .ok (.getfield 48, 3) := by decide +kernel
theorem dX12_put_31 : decode cX12_put 31 = .ok (.aload_n 0, 1) := by decide +kernel
theorem dX12_put_32 : decode cX12_put 32 = .ok (.getfield 125, 3) := by decide +kernel
theorem dX12_put_35 : decode cX12_put 35 = .ok (.iload_n 1, 1) := by decide +kernel
theorem dX12_put_36 : decode cX12_put 36 = .ok (.iastore, 1) := by decide +kernel
theorem dX12_put_37 : decode cX12_put 37 = .ok (.aload_n 0, 1) := by decide +kernel
theorem dX12_put_38 : decode cX12_put 38 = .ok (.dup, 1) := by decide +kernel
theorem dX12_put_39 : decode cX12_put 39 = .ok (.getfield 125, 3) := by decide +kernel
theorem dX12_put_42 : decode cX12_put 42 = .ok (.iconst 1, 1) := by decide +kernel
theorem dX12_put_43 : decode cX12_put 43 = .ok (.iadd, 1) := by decide +kernel
theorem dX12_put_44 : decode cX12_put 44 = .ok (.putfield 125, 3) := by decide +kernel
theorem dX12_put_47 : decode cX12_put 47 = .ok (.aload_n 0, 1) := by decide +kernel
theorem dX12_put_48 : decode cX12_put 48 = .ok (.getfield 125, 3) := by decide +kernel
theorem dX12_put_51 : decode cX12_put 51 = .ok (.ireturn, 1) := by decide +kernel
set_option maxRecDepth 20000 in
theorem ggX12_set_X12_in : GoodIn wsX12_set wsX12_in := goodIn_r _ [7] (by decide +kernel) (by decide +kernel)
set_option maxRecDepth 20000 in
theorem gX12_set_X12_in : GoodIn wsX12_set (va_wsS RX12 88 yX12_in wsX12_in) := goodIn_app (goodIn_of _ (by decide +kernel)) ggX12_set_X12_in
theorem dX12_set_0 : decode cX12_set 0 = .ok (.iload_n 1, 1) := by decide +kernel
theorem dX12_set_1 : decode cX12_set 1 = .ok (.i2l, 1) := by decide +kernel
theorem dX12_set_2 : decode cX12_set 2 = .ok (.lconst 0, 1) := by decide +kernel
theorem dX12_set_3 : decode cX12_set 3 = .ok (.aload_n 0, 1) := by decide +kernel
theorem dX12_set_4 : decode cX12_set 4 = .ok (.getfield 125, 3) := by decide +kernel
theorem dX12_set_7 : decode cX12_set 7 = .ok (.iconst 1, 1) := by decide +kernel
theorem dX12_set_8 : decode cX12_set 8 = .ok (.isub, 1) := by decide +kernel
theorem dX12_set_9 : decode cX12_set 9 = .ok (.i2l, 1) := by decide +kernel
theorem dX12_set_10 : decode cX12_set 10 = .ok (.invokestatic 88, 3) := by decide +kernel
theorem dX12_set_13 : decode cX12_set 13 = .ok (.ifCond .ne 6, 3) := by decide +kernel
theorem dX12_set_16 : decode cX12_set 16 = .ok (.bipush (-2), 2) := by decide +kernel
theorem dX12_set_18 : decode cX12_set 18 = .ok (.ireturn, 1) := by decide +kernel
theorem dX12_set_19 : decode cX12_set 19 = .ok (.iload_n 2, 1) := by decide +kernel
theorem dX12_set_20 : decode cX12_set 20 = .ok (.i2l, 1) := by decide +kernel
theorem dX12_set_21 : decode cX12_set 21 = .ok (.lconst 0, 1) := by decide +kernel
theorem dX12_set_22 : decode cX12_set 22 = .ok (.ldc2_w 123, 3) := by decide +kernel
theorem dX12_set_25 : decode cX12_set 25 = .ok (.invokestatic 88, 3) := by decide +kernel
theorem dX12_set_28 : decode cX12_set 28 = .ok (.ifCond .ne 6, 3) := by decide +kernel
theorem dX12_set_31 : decode cX12_set 31 = .ok (.bipush (-3), 2) := by decide +kernel
theorem dX12_set_33 : decode cX12_set 33 = .ok (.ireturn, 1) := by decide +kernel
theorem dX12_set_34 : decode cX12_set 34 = .ok (.aload_n 0, 1) := by decide +kernel
theorem dX12_set_35 : decode cX12_set 35 = .ok (.getfield 48, 3) := by decide +kernel
theorem dX12_set_38 : decode cX12_set 38 = .ok (.iload_n 1, 1) := by decide +kernel
theorem dX12_set_39 : decode cX12_set 39 = .ok (.iaload, 1) := by decide +kernel
theorem dX12_set_40 : decode cX12_set 40 = .ok (.istore_n 3, 1) := by decide +kernel
theorem dX12_set_41 : decode cX12_set 41 = .ok (.aload_n 0, 1) := by decide +kernel
theorem dX12_set_42 : decode cX12_set 42 = .ok (.getfield 48, 3) := by decide +kernel
theorem dX12_set_45 : decode cX12_set 45 = .ok (.iload_n 1, 1) := by decide +kernel
theorem dX12_set_46 : decode cX12_set 46 = .ok (.iload_n 2, 1) := by decide +kernel
theorem dX12_set_47 : decode cX12_set 47 = .ok (.iastore, 1) := by decide +kernel
theorem dX12_set_48 : decode cX12_set 48 = .ok (.iload_n 3, 1) := by decide +kernel
theorem dX12_set_49 : decode cX12_set 49 = .ok (.ireturn, 1) := by decide +kernel
set_option maxRecDepth 20000 in
theorem ggX12_at_X12_in : GoodIn wsX12_at wsX12_in := goodIn_r _ [6] (by decide +kernel) (by decide +kernel)
set_option maxRecDepth 20000 in
theorem gX12_at_X12_in : GoodIn wsX12_at (va_wsS RX12 88 yX12_in wsX12_in) := goodIn_app (goodIn_of _ (by decide +kernel)) ggX12_at_X12_in
theorem dX12_at_0 : decode cX12_at 0 = .ok (.iload_n 1, 1) := by decide +kernel
theorem dX12_at_1 : decode cX12_at 1 = .ok (.i2l, 1) := by decide +kernel
theorem dX12_at_2 : decode cX12_at 2 = .ok (.lconst 0, 1) := by decide +kernel
theorem dX12_at_3 : decode cX12_at 3 = .ok (.aload_n 0, 1) := by decide +kernel
theorem dX12_at_4 : decode cX12_at 4 = .ok (.getfield 125, 3) := by decide +kernel
theorem dX12_at_7 : decode cX12_at 7 = .ok (.iconst 1, 1) := by decide +kernel
theorem dX12_at_8 : decode cX12_at 8 = .ok (.isub, 1) := by decide +kernel
theorem dX12_at_9 : decode cX12_at 9 = .ok (.i2l, 1) := by decide +kernel
theorem dX12_at_10 : decode cX12_at 10 = .ok (.invokestatic 88, 3) := by decide +kernel
theorem dX12_at_13 : decode cX12_at 13 = .ok (.ifCond .eq 12, 3) := by decide +kernel
theorem dX12_at_16 : decode cX12_at 16 = .ok (.aload_n 0, 1) := by decide +kernel
theorem dX12_at_17 : decode cX12_at 17 = .ok (.getfield 48, 3) := by decide +kernel
theorem dX12_at_20 : decode cX12_at 20 = .ok (.iload_n 1, 1) := by decide +kernel
theorem dX12_at_21 : decode cX12_at 21 = .ok (.iaload, 1) := by decide +kernel
theorem dX12_at_22 : decode cX12_at 22 = .ok (.goto 5, 3) := by decide +kernel
theorem dX12_at_25 : decode cX12_at 25 = .ok (.bipush (-2), 2) := by decide +kernel
theorem dX12_at_27 : decode cX12_at 27 = .ok (.ireturn, 1) := by decide +kernel
set_option maxRecDepth 20000 in
theorem ggX12_cut_X12_in : GoodIn wsX12_cut wsX12_in := goodIn_r _ [5] (by decide +kernel) (by decide +kernel)
set_option maxRecDepth 20000 in
theorem gX12_cut_X12_in : GoodIn wsX12_cut (va_wsS RX12 88 yX12_in wsX12_in) := goodIn_app (goodIn_of _ (by decide +kernel)) ggX12_cut_X12_in
theorem dX12_cut_0 : decode cX12_cut 0 = .ok (.iload_n 1, 1) := by decide +kernel
theorem dX12_cut_1 : decode cX12_cut 1 = .ok (.i2l, 1) := by decide +kernel
theorem dX12_cut_2 : decode cX12_cut 2 = .ok (.lconst 0, 1) := by decide +kernel
theorem dX12_cut_3 : decode cX12_cut 3 = .ok (.aload_n 0, 1) := by decide +kernel
theorem dX12_cut_4 : decode cX12_cut 4 = .ok (.getfield 125, 3) := by decide +kernel
theorem dX12_cut_7 : decode cX12_cut 7 = .ok (.i2l, 1) := by decide +kernel
theorem dX12_cut_8 : decode cX12_cut 8 = .ok (.invokestatic 88, 3) := by decide +kernel
theorem dX12_cut_11 : decode cX12_cut 11 = .ok (.ifCond .ne 6, 3) := by decide +kernel
theorem dX12_cut_14 : decode cX12_cut 14 = .ok (.bipush (-3), 2) := by decide +kernel
theorem dX12_cut_16 : decode cX12_cut 16 = .ok (.ireturn, 1) := by decide +kernel
theorem dX12_cut_17 : decode cX12_cut 17 = .ok (.aload_n 0, 1) := by decide +kernel
theorem dX12_cut_18 : decode cX12_cut 18 = .ok (.getfield 125, 3) := by decide +kernel
theorem dX12_cut_21 : decode cX12_cut 21 = .ok (.iload_n 1, 1) := by decide +kernel
theorem dX12_cut_22 : decode cX12_cut 22 = .ok (.isub, 1) := by decide +kernel
theorem dX12_cut_23 : decode cX12_cut 23 = .ok (.istore_n 2, 1) := by decide +kernel
theorem dX12_cut_24 : decode cX12_cut 24 = .ok (.aload_n 0, 1) := by decide +kernel
theorem dX12_cut_25 : decode cX12_cut 25 = .ok (.iload_n 1, 1) := by decide +kernel
theorem dX12_cut_26 : decode cX12_cut 26 = .ok (.putfield 125, 3) := by decide +kernel
theorem dX12_cut_29 : decode cX12_cut 29 = .ok (.iload_n 2, 1) := by decide +kernel
theorem dX12_cut_30 : decode cX12_cut 30 = .ok (.ireturn, 1) := by decide +kernel
theorem dX12_rolled_0 : decode cX12_rolled 0 = .ok (.iload_n 2, 1) := by decide +kernel
theorem dX12_rolled_1 : decode cX12_rolled 1 = .ok (.iload_n 3, 1) := by decide +kernel
theorem dX12_rolled_2 : decode cX12_rolled 2 = .ok (.irem, 1) := by decide +kernel
theorem dX12_rolled_3 : decode cX12_rolled 3 = .ok (.istore 4, 2) := by decide +kernel
theorem dX12_rolled_5 : decode cX12_rolled 5 = .ok (.lconst 1, 1) := by decide +kernel
theorem dX12_rolled_6 : decode cX12_rolled 6 = .ok (.iload_n 3, 1) := by decide +kernel
theorem dX12_rolled_7 : decode cX12_rolled 7 = .ok (.lshl, 1) := by decide +kernel
theorem dX12_rolled_8 : decode cX12_rolled 8 = .ok (.lconst 1, 1) := by decide +kernel
theorem dX12_rolled_9 : decode cX12_rolled 9 = .ok (.lsub, 1) := by decide +kernel
theorem dX12_rolled_10 : decode cX12_rolled 10 = .ok (.lstore 5, 2) := by decide +kernel
theorem dX12_rolled_12 : decode cX12_rolled 12 = .ok (.iload 4, 2) := by decide +kernel
theorem dX12_rolled_14 : decode cX12_rolled 14 = .ok (.ifCond .ne 7, 3) := by decide +kernel
theorem dX12_rolled_17 : decode cX12_rolled 17 = .ok (.lload_n 0, 1) := by decide +kernel
theorem dX12_rolled_18 : decode cX12_rolled 18 = .ok (.goto 17, 3) := by decide +kernel
theorem dX12_rolled_21 : decode cX12_rolled 21 = .ok (.lload_n 0, 1) := by decide +kernel
theorem dX12_rolled_22 : decode cX12_rolled 22 = .ok (.iload 4, 2) := by decide +kernel
theorem dX12_rolled_24 : decode cX12_rolled 24 = .ok (.lshl, 1) := by decide +kernel
theorem dX12_rolled_25 : decode cX12_rolled 25 = .ok (.lload_n 0, 1) := by decide +kernel
theorem dX12_rolled_26 : decode cX12_rolled 26 = .ok (.iload_n 3, 1) := by decide +kernel
theorem dX12_rolled_27 : decode cX12_rolled 27 = .ok (.iload 4, 2) := by decide +kernel
theorem dX12_rolled_29 : decode cX12_rolled 29 = .ok (.isub, 1) := by decide +kernel
theorem dX12_rolled_30 : decode cX12_rolled 30 = .ok (.lushr, 1) := by decide +kernel
theorem dX12_rolled_31 : decode cX12_rolled 31 = .ok (.lor, 1) := by decide +kernel
theorem dX12_rolled_32 : decode cX12_rolled 32 = .ok (.lload 5, 2) := by decide +kernel
theorem dX12_rolled_34 : decode cX12_rolled 34 = .ok (.land, 1) := by decide +kernel
theorem dX12_rolled_35 : decode cX12_rolled 35 = .ok (.lreturn, 1) := by decide +kernel
theorem dX12_step_0 : decode cX12_step 0 = .ok (.lload_n 0, 1) := by decide +kernel
theorem dX12_step_1 : decode cX12_step 1 = .ok (.iload_n 3, 1) := by decide +kernel
theorem dX12_step_2 : decode cX12_step 2 = .ok (.iconst 1, 1) := by decide +kernel
theorem dX12_step_3 : decode cX12_step 3 = .ok (.isub, 1) := by decide +kernel
theorem dX12_step_4 : decode cX12_step 4 = .ok (.lushr, 1) := by decide +kernel
theorem dX12_step_5 : decode cX12_step 5 = .ok (.iload_n 2, 1) := by decide +kernel
theorem dX12_step_6 : decode cX12_step 6 = .ok (.i2l, 1) := by decide +kernel
theorem dX12_step_7 : decode cX12_step 7 = .ok (.lxor, 1) := by decide +kernel
theorem dX12_step_8 : decode cX12_step 8 = .ok (.lstore 6, 2) := by decide +kernel
theorem dX12_step_10 : decode cX12_step 10 = .ok (.lload_n 0, 1) := by decide +kernel
theorem dX12_step_11 : decode cX12_step 11 = .ok (.iconst 1, 1) := by decide +kernel
theorem dX12_step_12 : decode cX12_step 12 = .ok (.lshl, 1) := by decide +kernel
theorem dX12_step_13 : decode cX12_step 13 = .ok (.lconst 1, 1) := by decide +kernel
theorem dX12_step_14 : decode cX12_step 14 = .ok (.iload_n 3, 1) := by decide +kernel
theorem dX12_step_15 : decode cX12_step 15 = .ok (.lshl, 1) := by decide +kernel
theorem dX12_step_16 : decode cX12_step 16 = .ok (.lconst 1, 1) := by decide +kernel
theorem dX12_step_17 : decode cX12_step 17 = .ok (.lsub, 1) := by decide +kernel
theorem dX12_step_18 : decode cX12_step 18 = .ok (.land, 1) := by decide +kernel
theorem dX12_step_19 : decode cX12_step 19 = .ok (.lstore 8, 2) := by decide +kernel
theorem dX12_step_21 : decode cX12_step 21 = .ok (.lload 6, 2) := by decide +kernel
theorem dX12_step_23 : decode cX12_step 23 = .ok (.lconst 1, 1) := by decide +kernel
theorem dX12_step_24 : decode cX12_step 24 = .ok (.lcmp, 1) := by decide +kernel
theorem dX12_step_25 : decode cX12_step 25 = .ok (.ifCond .ne 11, 3) := by decide +kernel
theorem dX12_step_28 : decode cX12_step 28 = .ok (.lload 8, 2) := by decide +kernel
theorem dX12_step_30 : decode cX12_step 30 = .ok (.lload 4, 2) := by decide +kernel
theorem dX12_step_32 : decode cX12_step 32 = .ok (.lxor, 1) := by decide +kernel
theorem dX12_step_33 : decode cX12_step 33 = .ok (.goto 5, 3) := by decide +kernel
theorem dX12_step_36 : decode cX12_step 36 = .ok (.lload 8, 2) := by decide +kernel
theorem dX12_step_38 : decode cX12_step 38 = .ok (.lreturn, 1) := by decide +kernel
set_option maxRecDepth 20000 in
theorem ggX12_stepByte_X12_step : GoodIn wsX12_stepByte wsX12_step := goodIn_r _ [4] (by decide +kernel) (by decide +kernel)
set_option maxRecDepth 20000 in
theorem gX12_stepByte_X12_step : GoodIn wsX12_stepByte (va_wsS RX12 128 yX12_step wsX12_step) := goodIn_app (goodIn_of _ (by decide +kernel)) ggX12_stepByte_X12_step
theorem dX12_stepByte_0 : decode cX12_stepByte 0 = .ok (.lload_n 0, 1) := by decide +kernel
theorem dX12_stepByte_1 : decode cX12_stepByte 1 = .ok (.lstore 7, 2) := by decide +kernel
theorem dX12_stepByte_3 : decode cX12_stepByte 3 = .ok (.iconst 0, 1) := by decide +kernel
theorem dX12_stepByte_4 : decode cX12_stepByte 4 = .ok (.istore 9, 2) := by decide +kernel
theorem dX12_stepByte_6 : decode cX12_stepByte 6 = .ok (.iload 9, 2) := by decide +kernel
theorem dX12_stepByte_8 : decode cX12_stepByte 8 = .ok (.bipush 8, 2) := by decide +kernel
theorem dX12_stepByte_10 : decode cX12_stepByte 10 = .ok (.if_icmp .ge 46, 3) := by decide +kernel
theorem dX12_stepByte_13 : decode cX12_stepByte 13 = .ok (.iload 6, 2) := by decide +kernel
theorem dX12_stepByte_15 : decode cX12_stepByte 15 = .ok (.ifCond .eq 12, 3) := by decide +kernel
theorem dX12_stepByte_18 : decode cX12_stepByte 18 = .ok (.iload_n 2, 1) := by decide +kernel
theorem dX12_stepByte_19 : decode cX12_stepByte 19 = .ok (.iload 9, 2) := by decide +kernel
theorem dX12_stepByte_21 : decode cX12_stepByte 21 = .ok (.ishr, 1) := by decide +kernel
theorem dX12_stepByte_22 : decode cX12_stepByte 22 = .ok (.iconst 1, 1) := by decide +kernel
theorem dX12_stepByte_23 : decode cX12_stepByte 23 = .ok (.iand, 1) := by decide +kernel
theorem dX12_stepByte_24 : decode cX12_stepByte 24 = .ok (.goto 12, 3) := by decide +kernel
theorem dX12_stepByte_27 : decode cX12_stepByte 27 = .ok (.iload_n 2, 1) := by decide +kernel
theorem dX12_stepByte_28 : decode cX12_stepByte 28 = .ok (.bipush 7, 2) := by decide +kernel
theorem dX12_stepByte_30 : decode cX12_stepByte 30 = .ok (.iload 9, 2) := by decide +kernel
theorem dX12_stepByte_32 : decode cX12_stepByte 32 = .ok (.isub, 1) := by decide +kernel
theorem dX12_stepByte_33 : decode cX12_stepByte 33 = .ok (.ishr, 1) := by decide +kernel
theorem dX12_stepByte_34 : decode cX12_stepByte 34 = .ok (.iconst 1, 1) := by decide +kernel
theorem dX12_stepByte_35 : decode cX12_stepByte 35 = .ok (.iand, 1) := by decide +kernel
theorem dX12_stepByte_36 : decode cX12_stepByte 36 = .ok (.istore 10, 2) := by decide +kernel
theorem dX12_stepByte_38 : decode cX12_stepByte 38 = .ok (.lload 7, 2) := by decide +kernel
theorem dX12_stepByte_40 : decode cX12_stepByte 40 = .ok (.iload 10, 2) := by decide +kernel
theorem dX12_stepByte_42 : decode cX12_stepByte 42 = .ok (.iload_n 3, 1) := by decide +kernel
theorem dX12_stepByte_43 : decode cX12_stepByte 43 = .ok (.lload 4, 2) := by decide +kernel
theorem dX12_stepByte_45 : decode cX12_stepByte 45 = .ok (.invokestatic 128, 3) := by decide +kernel
theorem dX12_stepByte_48 : decode cX12_stepByte 48 = .ok (.lstore 7, 2) := by decide +kernel
theorem dX12_stepByte_50 : decode cX12_stepByte 50 = .ok (.iinc 9 1, 3) := by decide +kernel
theorem dX12_stepByte_53 : decode cX12_stepByte 53 = .ok (.goto (-47), 3) := by decide +kernel
theorem dX12_stepByte_56 : decode cX12_stepByte 56 = .ok (.lload 7, 2) := by decide +kernel
theorem dX12_stepByte_58 : decode cX12_stepByte 58 = .ok (.lreturn, 1) := by decide +kernel
set_option maxRecDepth 20000 in
theorem ggX12_passed_X12_step : GoodIn wsX12_passed wsX12_step := goodIn_r _ [6] (by decide +kernel) (by decide +kernel)
set_option maxRecDepth 20000 in
theorem gX12_passed_X12_step : GoodIn wsX12_passed (va_wsS RX12 128 yX12_step wsX12_step) := goodIn_app (goodIn_of _ (by decide +kernel)) ggX12_passed_X12_step
theorem dX12_passed_0 : decode cX12_passed 0 = .ok (.lload_n 2, 1) := by decide +kernel
theorem dX12_passed_1 : decode cX12_passed 1 = .ok (.lstore 5, 2) := by decide +kernel
theorem dX12_passed_3 : decode cX12_passed 3 = .ok (.iconst 0, 1) := by decide +kernel
theorem dX12_passed_4 : decode cX12_passed 4 = .ok (.istore 7, 2) := by decide +kernel
theorem dX12_passed_6 : decode cX12_passed 6 = .ok (.iload 7, 2) := by decide +kernel
theorem dX12_passed_8 : decode cX12_passed 8 = .ok (.bipush 8, 2) := by decide +kernel
theorem dX12_passed_10 : decode cX12_passed 10 = .ok (.iload 4, 2) := by decide +kernel
theorem dX12_passed_12 : decode cX12_passed 12 = .ok (.imul, 1) := by decide +kernel
theorem dX12_passed_13 : decode cX12_passed 13 = .ok (.if_icmp .ge 29, 3) := by decide +kernel
theorem dX12_passed_16 : decode cX12_passed 16 = .ok (.lload 5, 2) := by decide +kernel
theorem dX12_passed_18 : decode cX12_passed 18 = .ok (.iconst 0, 1) := by decide +kernel
theorem dX12_passed_19 : decode cX12_passed 19 = .ok (.aload_n 0, 1) := by decide +kernel
theorem dX12_passed_20 : decode cX12_passed 20 = .ok (.getfield 19, 3) := by decide +kernel
theorem dX12_passed_23 : decode cX12_passed 23 = .ok (.iload_n 1, 1) := by decide +kernel
theorem dX12_passed_24 : decode cX12_passed 24 = .ok (.iaload, 1) := by decide +kernel
theorem dX12_passed_25 : decode cX12_passed 25 = .ok (.aload_n 0, 1) := by decide +kernel
theorem dX12_passed_26 : decode cX12_passed 26 = .ok (.getfield 25, 3) := by decide +kernel
theorem dX12_passed_29 : decode cX12_passed 29 = .ok (.iload_n 1, 1) := by decide +kernel
theorem dX12_passed_30 : decode cX12_passed 30 = .ok (.laload, 1) := by decide +kernel
theorem dX12_passed_31 : decode cX12_passed 31 = .ok (.invokestatic 128, 3) := by decide +kernel
theorem dX12_passed_34 : decode cX12_passed 34 = .ok (.lstore 5, 2) := by decide +kernel
theorem dX12_passed_36 : decode cX12_passed 36 = .ok (.iinc 7 1, 3) := by decide +kernel
theorem dX12_passed_39 : decode cX12_passed 39 = .ok (.goto (-33), 3) := by decide +kernel
theorem dX12_passed_42 : decode cX12_passed 42 = .ok (.lload 5, 2) := by decide +kernel
theorem dX12_passed_44 : decode cX12_passed 44 = .ok (.lreturn, 1) := by decide +kernel
set_option maxRecDepth 20000 in
theorem ggX12_sumOf_X12_rolled : GoodIn wsX12_sumOf wsX12_rolled := goodIn_r _ [17] (by decide +kernel) (by decide +kernel)
set_option maxRecDepth 20000 in
theorem gX12_sumOf_X12_rolled : GoodIn wsX12_sumOf (va_wsS RX12 132 yX12_rolled wsX12_rolled) := goodIn_app (goodIn_of _ (by decide +kernel)) ggX12_sumOf_X12_rolled
set_option maxRecDepth 20000 in
theorem ggX12_sumOf_X12_stepByte : GoodIn wsX12_sumOf wsX12_stepByte := goodIn_r _ [20, 21, 22, 16, 23] (by decide +kernel) (by decide +kernel)
set_option maxRecDepth 20000 in
theorem gX12_sumOf_X12_stepByte : GoodIn wsX12_sumOf (va_wsS RX12 138 yX12_stepByte wsX12_stepByte) := goodIn_app (goodIn_of _ (by decide +kernel)) ggX12_sumOf_X12_stepByte
theorem dX12_sumOf_0 : decode cX12_sumOf 0 = .ok (.aload_n 0, 1) := by decide +kernel
theorem dX12_sumOf_1 : decode cX12_sumOf 1 = .ok (.getfield 13, 3) := by decide +kernel
theorem dX12_sumOf_4 : decode cX12_sumOf 4 = .ok (.iload_n 1, 1) := by decide +kernel
theorem dX12_sumOf_5 : decode cX12_sumOf 5 = .ok (.iaload, 1) := by decide +kernel
theorem dX12_sumOf_6 : decode cX12_sumOf 6 = .ok (.istore 4, 2) := by decide +kernel
theorem dX12_sumOf_8 : decode cX12_sumOf 8 = .ok (.aload_n 0, 1) := by decide +kernel
theorem dX12_sumOf_9 : decode cX12_sumOf 9 = .ok (.getfield 16, 3) := by decide +kernel
theorem dX12_sumOf_12 : decode cX12_sumOf 12 = .ok (.iload_n 1, 1) := by decide +kernel
theorem dX12_sumOf_13 : decode cX12_sumOf 13 = .ok (.iaload, 1) := by decide +kernel
theorem dX12_sumOf_14 : decode cX12_sumOf 14 = .ok (.istore 5, 2) := by decide +kernel
theorem dX12_sumOf_16 : decode cX12_sumOf 16 = .ok (.iload 4, 2) := by decide +kernel
theorem dX12_sumOf_18 : decode cX12_sumOf 18 = .ok (.iconst 4, 1) := by decide +kernel
theorem dX12_sumOf_19 : decode cX12_sumOf 19 = .ok (.if_icmp .eq 9, 3) := by decide +kernel
theorem dX12_sumOf_22 : decode cX12_sumOf 22 = .ok (.iload 4, 2) := by decide +kernel
theorem dX12_sumOf_24 : decode cX12_sumOf 24 = .ok (.iconst 5, 1) := by decide +kernel
theorem dX12_sumOf_25 : decode cX12_sumOf 25 = .ok (.if_icmp .ne 12, 3) := by decide +kernel
theorem dX12_sumOf_28 : decode cX12_sumOf 28 = .ok (.aload_n 0, 1) := by decide +kernel
theorem dX12_sumOf_29 : decode cX12_sumOf 29 = .ok (.getfield 29, 3) := by decide +kernel
theorem dX12_sumOf_32 : decode cX12_sumOf 32 = .ok (.iload_n 1, 1) := by decide +kernel
theorem dX12_sumOf_33 : decode cX12_sumOf 33 = .ok (.laload, 1) := by decide +kernel
theorem dX12_sumOf_34 : decode cX12_sumOf 34 = .ok (.goto 4, 3) := by decide +kernel
theorem dX12_sumOf_37 : decode cX12_sumOf 37 = .ok (.lconst 0, 1) := by decide +kernel
theorem dX12_sumOf_38 : decode cX12_sumOf 38 = .ok (.lstore 6, 2) := by decide +kernel
theorem dX12_sumOf_40 : decode cX12_sumOf 40 = .ok (.lconst 0, 1) := by decide +kernel
theorem dX12_sumOf_41 : decode cX12_sumOf 41 = .ok (.lstore 8, 2) := by decide +kernel
theorem dX12_sumOf_43 : decode cX12_sumOf 43 = .ok (.iconst 0, 1) := by decide +kernel
theorem dX12_sumOf_44 : decode cX12_sumOf 44 = .ok (.istore 10, 2) := by decide +kernel
theorem dX12_sumOf_46 : decode cX12_sumOf 46 = .ok (.iload 10, 2) := by decide +kernel
theorem dX12_sumOf_48 : decode cX12_sumOf 48 = .ok (.iload_n 3, 1) := by decide +kernel
theorem dX12_sumOf_49 : decode cX12_sumOf 49 = .ok (.if_icmp .ge 233, 3) := by decide +kernel
theorem dX12_sumOf_52 : decode cX12_sumOf 52 = .ok (.iload 4, 2) := by decide +kernel
theorem dX12_sumOf_54 : decode cX12_sumOf 54 = .ok (.tableswitch 193 0 6 #[42, 59, 87, 125, 193, 193, 153], 42) := by decide +kernel
theorem dX12_sumOf_96 : decode cX12_sumOf 96 = .ok (.lload 6, 2) := by decide +kernel
theorem dX12_sumOf_98 : decode cX12_sumOf 98 = .ok (.aload_n 2, 1) := by decide +kernel
theorem dX12_sumOf_99 : decode cX12_sumOf 99 = .ok (.iload 10, 2) := by decide +kernel
theorem dX12_sumOf_101 : decode cX12_sumOf 101 = .ok (.iaload, 1) := by decide +kernel
theorem dX12_sumOf_102 : decode cX12_sumOf 102 = .ok (.i2l, 1) := by decide +kernel
theorem dX12_sumOf_103 : decode cX12_sumOf 103 = .ok (.ladd, 1) := by decide +kernel
theorem dX12_sumOf_104 : decode cX12_sumOf 104 = .ok (.iload 5, 2) := by decide +kernel
theorem dX12_sumOf_106 : decode cX12_sumOf 106 = .ok (.i2l, 1) := by decide +kernel
theorem dX12_sumOf_107 : decode cX12_sumOf 107 = .ok (.lrem, 1) := by decide +kernel
theorem dX12_sumOf_108 : decode cX12_sumOf 108 = .ok (.lstore 6, 2) := by decide +kernel
theorem dX12_sumOf_110 : decode cX12_sumOf 110 = .ok (.goto 166, 3) := by decide +kernel
theorem dX12_sumOf_113 : decode cX12_sumOf 113 = .ok (.lload 6, 2) := by decide +kernel
theorem dX12_sumOf_115 : decode cX12_sumOf 115 = .ok (.aload_n 2, 1) := by decide +kernel
theorem dX12_sumOf_116 : decode cX12_sumOf 116 = .ok (.iload 10, 2) := by decide +kernel
theorem dX12_sumOf_118 : decode cX12_sumOf 118 = .ok (.iaload, 1) := by decide +kernel
theorem dX12_sumOf_119 : decode cX12_sumOf 119 = .ok (.i2l, 1) := by decide +kernel
theorem dX12_sumOf_120 : decode cX12_sumOf 120 = .ok (.ladd, 1) := by decide +kernel
theorem dX12_sumOf_121 : decode cX12_sumOf 121 = .ok (.iload 5, 2) := by decide +kernel
theorem dX12_sumOf_123 : decode cX12_sumOf 123 = .ok (.i2l, 1) := by decide +kernel
theorem dX12_sumOf_124 : decode cX12_sumOf 124 = .ok (.lrem, 1) := by decide +kernel
theorem dX12_sumOf_125 : decode cX12_sumOf 125 = .ok (.lstore 6, 2) := by decide +kernel
theorem dX12_sumOf_127 : decode cX12_sumOf 127 = .ok (.lload 8, 2) := by decide +kernel
theorem dX12_sumOf_129 : decode cX12_sumOf 129 = .ok (.lload 6, 2) := by decide +kernel
theorem dX12_sumOf_131 : decode cX12_sumOf 131 = .ok (.ladd, 1) := by decide +kernel
theorem dX12_sumOf_132 : decode cX12_sumOf 132 = .ok (.iload 5, 2) := by decide +kernel
theorem dX12_sumOf_134 : decode cX12_sumOf 134 = .ok (.i2l, 1) := by decide +kernel
theorem dX12_sumOf_135 : decode cX12_sumOf 135 = .ok (.lrem, 1) := by decide +kernel
theorem dX12_sumOf_136 : decode cX12_sumOf 136 = .ok (.lstore 8, 2) := by decide +kernel
theorem dX12_sumOf_138 : decode cX12_sumOf 138 = .ok (.goto 138, 3) := by decide +kernel
theorem dX12_sumOf_141 : decode cX12_sumOf 141 = .ok (.lload 6, 2) := by decide +kernel
theorem dX12_sumOf_143 : decode cX12_sumOf 143 = .ok (.aload_n 0, 1) := by decide +kernel
theorem dX12_sumOf_144 : decode cX12_sumOf 144 = .ok (.getfield 42, 3) := by decide +kernel
theorem dX12_sumOf_147 : decode cX12_sumOf 147 = .ok (.bipush 12, 2) := by decide +kernel
theorem dX12_sumOf_149 : decode cX12_sumOf 149 = .ok (.iload_n 1, 1) := by decide +kernel
theorem dX12_sumOf_150 : decode cX12_sumOf 150 = .ok (.imul, 1) := by decide +kernel
theorem dX12_sumOf_151 : decode cX12_sumOf 151 = .ok (.iload 10, 2) := by decide +kernel
theorem dX12_sumOf_153 : decode cX12_sumOf 153 = .ok (.aload_n 0, 1) := by decide +kernel
theorem dX12_sumOf_154 : decode cX12_sumOf 154 = .ok (.getfield 39, 3) := by decide +kernel
theorem dX12_sumOf_157 : decode cX12_sumOf 157 = .ok (.iload_n 1, 1) := by decide +kernel
theorem dX12_sumOf_158 : decode cX12_sumOf 158 = .ok (.iaload, 1) := by decide +kernel
theorem dX12_sumOf_159 : decode cX12_sumOf 159 = .ok (.irem, 1) := by decide +kernel
theorem dX12_sumOf_160 : decode cX12_sumOf 160 = .ok (.iadd, 1) := by decide +kernel
theorem dX12_sumOf_161 : decode cX12_sumOf 161 = .ok (.iaload, 1) := by decide +kernel
theorem dX12_sumOf_162 : decode cX12_sumOf 162 = .ok (.i2l, 1) := by decide +kernel
theorem dX12_sumOf_163 : decode cX12_sumOf 163 = .ok (.aload_n 2, 1) := by decide +kernel
theorem dX12_sumOf_164 : decode cX12_sumOf 164 = .ok (.iload 10, 2) := by decide +kernel
theorem dX12_sumOf_166 : decode cX12_sumOf 166 = .ok (.iaload, 1) := by decide +kernel
theorem dX12_sumOf_167 : decode cX12_sumOf 167 = .ok (.i2l, 1) := by decide +kernel
theorem dX12_sumOf_168 : decode cX12_sumOf 168 = .ok (.lmul, 1) := by decide +kernel
theorem dX12_sumOf_169 : decode cX12_sumOf 169 = .ok (.ladd, 1) := by decide +kernel
theorem dX12_sumOf_170 : decode cX12_sumOf 170 = .ok (.iload 5, 2) := by decide +kernel
theorem dX12_sumOf_172 : decode cX12_sumOf 172 = .ok (.i2l, 1) := by decide +kernel
theorem dX12_sumOf_173 : decode cX12_sumOf 173 = .ok (.lrem, 1) := by decide +kernel
theorem dX12_sumOf_174 : decode cX12_sumOf 174 = .ok (.lstore 6, 2) := by decide +kernel
theorem dX12_sumOf_176 : decode cX12_sumOf 176 = .ok (.goto 100, 3) := by decide +kernel
theorem dX12_sumOf_179 : decode cX12_sumOf 179 = .ok (.lload 6, 2) := by decide +kernel
theorem dX12_sumOf_181 : decode cX12_sumOf 181 = .ok (.aload_n 0, 1) := by decide +kernel
theorem dX12_sumOf_182 : decode cX12_sumOf 182 = .ok (.getfield 22, 3) := by decide +kernel
theorem dX12_sumOf_185 : decode cX12_sumOf 185 = .ok (.iload_n 1, 1) := by decide +kernel
theorem dX12_sumOf_186 : decode cX12_sumOf 186 = .ok (.iaload, 1) := by decide +kernel
theorem dX12_sumOf_187 : decode cX12_sumOf 187 = .ok (.aload_n 0, 1) := by decide +kernel
theorem dX12_sumOf_188 : decode cX12_sumOf 188 = .ok (.getfield 19, 3) := by decide +kernel
theorem dX12_sumOf_191 : decode cX12_sumOf 191 = .ok (.iload_n 1, 1) := by decide +kernel
theorem dX12_sumOf_192 : decode cX12_sumOf 192 = .ok (.iaload, 1) := by decide +kernel
theorem dX12_sumOf_193 : decode cX12_sumOf 193 = .ok (.invokestatic 132, 3) := by decide +kernel
theorem dX12_sumOf_196 : decode cX12_sumOf 196 = .ok (.aload_n 2, 1) := by decide +kernel
theorem dX12_sumOf_197 : decode cX12_sumOf 197 = .ok (.iload 10, 2) := by decide +kernel
theorem dX12_sumOf_199 : decode cX12_sumOf 199 = .ok (.iaload, 1) := by decide +kernel
theorem dX12_sumOf_200 : decode cX12_sumOf 200 = .ok (.i2l, 1) := by decide +kernel
theorem dX12_sumOf_201 : decode cX12_sumOf 201 = .ok (.lxor, 1) := by decide +kernel
theorem dX12_sumOf_202 : decode cX12_sumOf 202 = .ok (.lstore 6, 2) := by decide +kernel
theorem dX12_sumOf_204 : decode cX12_sumOf 204 = .ok (.goto 72, 3) := by decide +kernel
theorem dX12_sumOf_207 : decode cX12_sumOf 207 = .ok (.aload_n 2, 1) := by decide +kernel
theorem dX12_sumOf_208 : decode cX12_sumOf 208 = .ok (.iload 10, 2) := by decide +kernel
theorem dX12_sumOf_210 : decode cX12_sumOf 210 = .ok (.iaload, 1) := by decide +kernel
theorem dX12_sumOf_211 : decode cX12_sumOf 211 = .ok (.iload 5, 2) := by decide +kernel
theorem dX12_sumOf_213 : decode cX12_sumOf 213 = .ok (.if_icmp .lt 7, 3) := by decide +kernel
theorem dX12_sumOf_216 : decode cX12_sumOf 216 = .ok (.ldc2_w 136, 3) := by decide +kernel
theorem dX12_sumOf_219 : decode cX12_sumOf 219 = .ok (.lreturn, 1) := by decide +kernel
theorem dX12_sumOf_220 : decode cX12_sumOf 220 = .ok (.aload_n 0, 1) := by decide +kernel
theorem dX12_sumOf_221 : decode cX12_sumOf 221 = .ok (.getfield 45, 3) := by decide +kernel
theorem dX12_sumOf_224 : decode cX12_sumOf 224 = .ok (.bipush 100, 2) := by decide +kernel
theorem dX12_sumOf_226 : decode cX12_sumOf 226 = .ok (.iload_n 1, 1) := by decide +kernel
theorem dX12_sumOf_227 : decode cX12_sumOf 227 = .ok (.imul, 1) := by decide +kernel
theorem dX12_sumOf_228 : decode cX12_sumOf 228 = .ok (.lload 6, 2) := by decide +kernel
theorem dX12_sumOf_230 : decode cX12_sumOf 230 = .ok (.l2i, 1) := by decide +kernel
theorem dX12_sumOf_231 : decode cX12_sumOf 231 = .ok (.iload 5, 2) := by decide +kernel
theorem dX12_sumOf_233 : decode cX12_sumOf 233 = .ok (.imul, 1) := by decide +kernel
theorem dX12_sumOf_234 : decode cX12_sumOf 234 = .ok (.iadd, 1) := by decide +kernel
theorem dX12_sumOf_235 : decode cX12_sumOf 235 = .ok (.aload_n 2, 1) := by decide +kernel
theorem dX12_sumOf_236 : decode cX12_sumOf 236 = .ok (.iload 10, 2) := by decide +kernel
theorem dX12_sumOf_238 : decode cX12_sumOf 238 = .ok (.iaload, 1) := by decide +kernel
theorem dX12_sumOf_239 : decode cX12_sumOf 239 = .ok (.iadd, 1) := by decide +kernel
theorem dX12_sumOf_240 : decode cX12_sumOf 240 = .ok (.iaload, 1) := by decide +kernel
theorem dX12_sumOf_241 : decode cX12_sumOf 241 = .ok (.i2l, 1) := by decide +kernel
theorem dX12_sumOf_242 : decode cX12_sumOf 242 = .ok (.lstore 6, 2) := by decide +kernel
theorem dX12_sumOf_244 : decode cX12_sumOf 244 = .ok (.goto 32, 3) := by decide +kernel
theorem dX12_sumOf_247 : decode cX12_sumOf 247 = .ok (.lload 6, 2) := by decide +kernel
theorem dX12_sumOf_249 : decode cX12_sumOf 249 = .ok (.aload_n 2, 1) := by decide +kernel
theorem dX12_sumOf_250 : decode cX12_sumOf 250 = .ok (.iload 10, 2) := by decide +kernel
theorem dX12_sumOf_252 : decode cX12_sumOf 252 = .ok (.iaload, 1) := by decide +kernel
theorem dX12_sumOf_253 : decode cX12_sumOf 253 = .ok (.aload_n 0, 1) := by decide +kernel
theorem dX12_sumOf_254 : decode cX12_sumOf 254 = .ok (.getfield 19, 3) := by decide +kernel
theorem dX12_sumOf_257 : decode cX12_sumOf 257 = .ok (.iload_n 1, 1) := by decide +kernel
theorem dX12_sumOf_258 : decode cX12_sumOf 258 = .ok (.iaload, 1) := by decide +kernel
theorem dX12_sumOf_259 : decode cX12_sumOf 259 = .ok (.aload_n 0, 1) := by decide +kernel
theorem dX12_sumOf_260 : decode cX12_sumOf 260 = .ok (.getfield 25, 3) := by decide +kernel
theorem dX12_sumOf_263 : decode cX12_sumOf 263 = .ok (.iload_n 1, 1) := by decide +kernel
theorem dX12_sumOf_264 : decode cX12_sumOf 264 = .ok (.laload, 1) := by decide +kernel
theorem dX12_sumOf_265 : decode cX12_sumOf 265 = .ok (.aload_n 0, 1) := by decide +kernel
theorem dX12_sumOf_266 : decode cX12_sumOf 266 = .ok (.getfield 35, 3) := by decide +kernel
theorem dX12_sumOf_269 : decode cX12_sumOf 269 = .ok (.iload_n 1, 1) := by decide +kernel
theorem dX12_sumOf_270 : decode cX12_sumOf 270 = .ok (.baload, 1) := by decide +kernel
theorem dX12_sumOf_271 : decode cX12_sumOf 271 = .ok (.invokestatic 138, 3) := by decide +kernel
theorem dX12_sumOf_274 : decode cX12_sumOf 274 = .ok (.lstore 6, 2) := by decide +kernel
theorem dX12_sumOf_276 : decode cX12_sumOf 276 = .ok (.iinc 10 1, 3) := by decide +kernel
theorem dX12_sumOf_279 : decode cX12_sumOf 279 = .ok (.goto (-233), 3) := by decide +kernel
theorem dX12_sumOf_282 : decode cX12_sumOf 282 = .ok (.iload 4, 2) := by decide +kernel
theorem dX12_sumOf_284 : decode cX12_sumOf 284 = .ok (.iconst 1, 1) := by decide +kernel
theorem dX12_sumOf_285 : decode cX12_sumOf 285 = .ok (.if_icmp .ne 15, 3) := by decide +kernel
theorem dX12_sumOf_288 : decode cX12_sumOf 288 = .ok (.ldc2_w 99, 3) := by decide +kernel
theorem dX12_sumOf_291 : decode cX12_sumOf 291 = .ok (.lload 8, 2) := by decide +kernel
theorem dX12_sumOf_293 : decode cX12_sumOf 293 = .ok (.lmul, 1) := by decide +kernel
theorem dX12_sumOf_294 : decode cX12_sumOf 294 = .ok (.lload 6, 2) := by decide +kernel
theorem dX12_sumOf_296 : decode cX12_sumOf 296 = .ok (.ladd, 1) := by decide +kernel
theorem dX12_sumOf_297 : decode cX12_sumOf 297 = .ok (.goto 29, 3) := by decide +kernel
theorem dX12_sumOf_300 : decode cX12_sumOf 300 = .ok (.iload 4, 2) := by decide +kernel
theorem dX12_sumOf_302 : decode cX12_sumOf 302 = .ok (.iconst 4, 1) := by decide +kernel
theorem dX12_sumOf_303 : decode cX12_sumOf 303 = .ok (.if_icmp .eq 9, 3) := by decide +kernel
theorem dX12_sumOf_306 : decode cX12_sumOf 306 = .ok (.iload 4, 2) := by decide +kernel
theorem dX12_sumOf_308 : decode cX12_sumOf 308 = .ok (.iconst 5, 1) := by decide +kernel
theorem dX12_sumOf_309 : decode cX12_sumOf 309 = .ok (.if_icmp .ne 15, 3) := by decide +kernel
theorem dX12_sumOf_312 : decode cX12_sumOf 312 = .ok (.lload 6, 2) := by decide +kernel
theorem dX12_sumOf_314 : decode cX12_sumOf 314 = .ok (.aload_n 0, 1) := by decide +kernel
theorem dX12_sumOf_315 : decode cX12_sumOf 315 = .ok (.getfield 32, 3) := by decide +kernel
theorem dX12_sumOf_318 : decode cX12_sumOf 318 = .ok (.iload_n 1, 1) := by decide +kernel
theorem dX12_sumOf_319 : decode cX12_sumOf 319 = .ok (.laload, 1) := by decide +kernel
theorem dX12_sumOf_320 : decode cX12_sumOf 320 = .ok (.lxor, 1) := by decide +kernel
theorem dX12_sumOf_321 : decode cX12_sumOf 321 = .ok (.goto 5, 3) := by decide +kernel
theorem dX12_sumOf_324 : decode cX12_sumOf 324 = .ok (.lload 6, 2) := by decide +kernel
theorem dX12_sumOf_326 : decode cX12_sumOf 326 = .ok (.lreturn, 1) := by decide +kernel
set_option maxRecDepth 20000 in
theorem ggX12_sum_X12_isSum : GoodIn wsX12_sum wsX12_isSum := goodIn_r _ [10, 11, 12, 13, 9, 14, 40, 41, 42, 43, 44, 45, 46, 47, 48, 49, 50, 51, 52, 53, 54, 55, 56, 57, 58, 59, 60, 61, 62, 63, 64, 65, 66, 67, 68, 69, 70, 71, 72] (by decide +kernel) (by decide +kernel)
set_option maxRecDepth 20000 in
theorem gX12_sum_X12_isSum : GoodIn wsX12_sum (wsV RX12 119 RX12 yX12_isSum wsX12_isSum) := goodIn_app (goodIn_of _ (by decide +kernel)) ggX12_sum_X12_isSum
set_option maxRecDepth 20000 in
theorem ggX12_sum_X12_sumOf : GoodIn wsX12_sum wsX12_sumOf := goodIn_r _ [18, 3, 19, 20, 21, 22, 23, 24, 25, 26, 27, 28, 29, 30, 31, 32, 9, 33, 34, 35, 36, 37, 38, 39, 40, 41, 42, 43, 44, 45, 46, 47, 48, 49, 50, 51, 52, 53, 54, 55, 56, 57, 58, 59, 60, 61, 62, 63, 64, 65, 66, 67, 68, 69, 70, 71, 72] (by decide +kernel) (by decide +kernel)
set_option maxRecDepth 20000 in
theorem gX12_sum_X12_sumOf : GoodIn wsX12_sum (wsV RX12 144 RX12 yX12_sumOf wsX12_sumOf) := goodIn_app (goodIn_of _ (by decide +kernel)) ggX12_sum_X12_sumOf
theorem dX12_sum_0 : decode cX12_sum 0 = .ok (.aload_n 0, 1) := by decide +kernel
theorem dX12_sum_1 : decode cX12_sum 1 = .ok (.iload_n 1, 1) := by decide +kernel
theorem dX12_sum_2 : decode cX12_sum 2 = .ok (.invokevirtual 119, 3) := by decide +kernel
theorem dX12_sum_5 : decode cX12_sum 5 = .ok (.ifCond .ne 7, 3) := by decide +kernel
theorem dX12_sum_8 : decode cX12_sum 8 = .ok (.ldc2_w 142, 3) := by decide +kernel
theorem dX12_sum_11 : decode cX12_sum 11 = .ok (.lreturn, 1) := by decide +kernel
theorem dX12_sum_12 : decode cX12_sum 12 = .ok (.aload_n 0, 1) := by decide +kernel
theorem dX12_sum_13 : decode cX12_sum 13 = .ok (.getfield 81, 3) := by decide +kernel
theorem dX12_sum_16 : decode cX12_sum 16 = .ok (.aload_n 0, 1) := by decide +kernel
theorem dX12_sum_17 : decode cX12_sum 17 = .ok (.getfield 13, 3) := by decide +kernel
theorem dX12_sum_20 : decode cX12_sum 20 = .ok (.iload_n 1, 1) := by decide +kernel
theorem dX12_sum_21 : decode cX12_sum 21 = .ok (.iaload, 1) := by decide +kernel
theorem dX12_sum_22 : decode cX12_sum 22 = .ok (.dup2, 1) := by decide +kernel
theorem dX12_sum_23 : decode cX12_sum 23 = .ok (.iaload, 1) := by decide +kernel
theorem dX12_sum_24 : decode cX12_sum 24 = .ok (.iconst 1, 1) := by decide +kernel
theorem dX12_sum_25 : decode cX12_sum 25 = .ok (.iadd, 1) := by decide +kernel
theorem dX12_sum_26 : decode cX12_sum 26 = .ok (.iastore, 1) := by decide +kernel
theorem dX12_sum_27 : decode cX12_sum 27 = .ok (.aload_n 0, 1) := by decide +kernel
theorem dX12_sum_28 : decode cX12_sum 28 = .ok (.getfield 13, 3) := by decide +kernel
theorem dX12_sum_31 : decode cX12_sum 31 = .ok (.iload_n 1, 1) := by decide +kernel
theorem dX12_sum_32 : decode cX12_sum 32 = .ok (.iaload, 1) := by decide +kernel
theorem dX12_sum_33 : decode cX12_sum 33 = .ok (.iconst 5, 1) := by decide +kernel
theorem dX12_sum_34 : decode cX12_sum 34 = .ok (.if_icmp .ne 13, 3) := by decide +kernel
theorem dX12_sum_37 : decode cX12_sum 37 = .ok (.aload_n 0, 1) := by decide +kernel
theorem dX12_sum_38 : decode cX12_sum 38 = .ok (.getfield 81, 3) := by decide +kernel
theorem dX12_sum_41 : decode cX12_sum 41 = .ok (.iconst 4, 1) := by decide +kernel
theorem dX12_sum_42 : decode cX12_sum 42 = .ok (.dup2, 1) := by decide +kernel
theorem dX12_sum_43 : decode cX12_sum 43 = .ok (.iaload, 1) := by decide +kernel
theorem dX12_sum_44 : decode cX12_sum 44 = .ok (.iconst 1, 1) := by decide +kernel
theorem dX12_sum_45 : decode cX12_sum 45 = .ok (.iadd, 1) := by decide +kernel
theorem dX12_sum_46 : decode cX12_sum 46 = .ok (.iastore, 1) := by decide +kernel
theorem dX12_sum_47 : decode cX12_sum 47 = .ok (.aload_n 0, 1) := by decide +kernel
theorem dX12_sum_48 : decode cX12_sum 48 = .ok (.iload_n 1, 1) := by decide +kernel
theorem dX12_sum_49 : decode cX12_sum 49 = .ok (.aload_n 0, 1) := by decide +kernel
theorem dX12_sum_50 : decode cX12_sum 50 = .ok (.getfield 48, 3) := by decide +kernel
theorem dX12_sum_53 : decode cX12_sum 53 = .ok (.aload_n 0, 1) := by decide +kernel
theorem dX12_sum_54 : decode cX12_sum 54 = .ok (.getfield 125, 3) := by decide +kernel
theorem dX12_sum_57 : decode cX12_sum 57 = .ok (.invokevirtual 144, 3) := by decide +kernel
theorem dX12_sum_60 : decode cX12_sum 60 = .ok (.lreturn, 1) := by decide +kernel
set_option maxRecDepth 20000 in
theorem ggX12_bears_X12_in : GoodIn wsX12_bears wsX12_in := goodIn_r _ [7] (by decide +kernel) (by decide +kernel)
set_option maxRecDepth 20000 in
theorem gX12_bears_X12_in : GoodIn wsX12_bears (va_wsS RX12 88 yX12_in wsX12_in) := goodIn_app (goodIn_of _ (by decide +kernel)) ggX12_bears_X12_in
set_option maxRecDepth 20000 in
theorem ggX12_bears_X12_mask : GoodIn wsX12_bears wsX12_mask := goodIn_r _ [11, 12, 13, 14, 15, 16, 17, 18, 19, 20, 21, 22, 23, 24, 25, 26, 27, 28, 29, 30, 31, 32, 33, 34, 35, 36, 37, 38, 39, 40, 41, 42, 43, 44, 45] (by decide +kernel) (by decide +kernel)
set_option maxRecDepth 20000 in
theorem gX12_bears_X12_mask : GoodIn wsX12_bears (wsV RX12 148 RX12 yX12_mask wsX12_mask) := goodIn_app (goodIn_of _ (by decide +kernel)) ggX12_bears_X12_mask
theorem dX12_bears_0 : decode cX12_bears 0 = .ok (.aload_n 0, 1) := by decide +kernel
theorem dX12_bears_1 : decode cX12_bears 1 = .ok (.getfield 13, 3) := by decide +kernel
theorem dX12_bears_4 : decode cX12_bears 4 = .ok (.iload_n 1, 1) := by decide +kernel
theorem dX12_bears_5 : decode cX12_bears 5 = .ok (.iaload, 1) := by decide +kernel
theorem dX12_bears_6 : decode cX12_bears 6 = .ok (.istore 4, 2) := by decide +kernel
theorem dX12_bears_8 : decode cX12_bears 8 = .ok (.iload 4, 2) := by decide +kernel
theorem dX12_bears_10 : decode cX12_bears 10 = .ok (.ifCond .eq 9, 3) := by decide +kernel
theorem dX12_bears_13 : decode cX12_bears 13 = .ok (.iload 4, 2) := by decide +kernel
theorem dX12_bears_15 : decode cX12_bears 15 = .ok (.iconst 2, 1) := by decide +kernel
theorem dX12_bears_16 : decode cX12_bears 16 = .ok (.if_icmp .ne 18, 3) := by decide +kernel
theorem dX12_bears_19 : decode cX12_bears 19 = .ok (.lload_n 2, 1) := by decide +kernel
theorem dX12_bears_20 : decode cX12_bears 20 = .ok (.lconst 0, 1) := by decide +kernel
theorem dX12_bears_21 : decode cX12_bears 21 = .ok (.aload_n 0, 1) := by decide +kernel
theorem dX12_bears_22 : decode cX12_bears 22 = .ok (.getfield 16, 3) := by decide +kernel
theorem dX12_bears_25 : decode cX12_bears 25 = .ok (.iload_n 1, 1) := by decide +kernel
theorem dX12_bears_26 : decode cX12_bears 26 = .ok (.iaload, 1) := by decide +kernel
theorem dX12_bears_27 : decode cX12_bears 27 = .ok (.i2l, 1) := by decide +kernel
theorem dX12_bears_28 : decode cX12_bears 28 = .ok (.lconst 1, 1) := by decide +kernel
theorem dX12_bears_29 : decode cX12_bears 29 = .ok (.lsub, 1) := by decide +kernel
theorem dX12_bears_30 : decode cX12_bears 30 = .ok (.invokestatic 88, 3) := by decide +kernel
theorem dX12_bears_33 : decode cX12_bears 33 = .ok (.ireturn, 1) := by decide +kernel
theorem dX12_bears_34 : decode cX12_bears 34 = .ok (.iload 4, 2) := by decide +kernel
theorem dX12_bears_36 : decode cX12_bears 36 = .ok (.iconst 1, 1) := by decide +kernel
theorem dX12_bears_37 : decode cX12_bears 37 = .ok (.if_icmp .ne 47, 3) := by decide +kernel
theorem dX12_bears_40 : decode cX12_bears 40 = .ok (.lload_n 2, 1) := by decide +kernel
theorem dX12_bears_41 : decode cX12_bears 41 = .ok (.lconst 0, 1) := by decide +kernel
theorem dX12_bears_42 : decode cX12_bears 42 = .ok (.lcmp, 1) := by decide +kernel
theorem dX12_bears_43 : decode cX12_bears 43 = .ok (.ifCond .lt 39, 3) := by decide +kernel
theorem dX12_bears_46 : decode cX12_bears 46 = .ok (.lload_n 2, 1) := by decide +kernel
theorem dX12_bears_47 : decode cX12_bears 47 = .ok (.ldc2_w 99, 3) := by decide +kernel
theorem dX12_bears_50 : decode cX12_bears 50 = .ok (.lrem, 1) := by decide +kernel
theorem dX12_bears_51 : decode cX12_bears 51 = .ok (.aload_n 0, 1) := by decide +kernel
theorem dX12_bears_52 : decode cX12_bears 52 = .ok (.getfield 16, 3) := by decide +kernel
theorem dX12_bears_55 : decode cX12_bears 55 = .ok (.iload_n 1, 1) := by decide +kernel
theorem dX12_bears_56 : decode cX12_bears 56 = .ok (.iaload, 1) := by decide +kernel
theorem dX12_bears_57 : decode cX12_bears 57 = .ok (.i2l, 1) := by decide +kernel
theorem dX12_bears_58 : decode cX12_bears 58 = .ok (.lcmp, 1) := by decide +kernel
theorem dX12_bears_59 : decode cX12_bears 59 = .ok (.ifCond .ge 23, 3) := by decide +kernel
theorem dX12_bears_62 : decode cX12_bears 62 = .ok (.lload_n 2, 1) := by decide +kernel
theorem dX12_bears_63 : decode cX12_bears 63 = .ok (.ldc2_w 99, 3) := by decide +kernel
theorem dX12_bears_66 : decode cX12_bears 66 = .ok (.ldiv, 1) := by decide +kernel
theorem dX12_bears_67 : decode cX12_bears 67 = .ok (.aload_n 0, 1) := by decide +kernel
theorem dX12_bears_68 : decode cX12_bears 68 = .ok (.getfield 16, 3) := by decide +kernel
theorem dX12_bears_71 : decode cX12_bears 71 = .ok (.iload_n 1, 1) := by decide +kernel
theorem dX12_bears_72 : decode cX12_bears 72 = .ok (.iaload, 1) := by decide +kernel
theorem dX12_bears_73 : decode cX12_bears 73 = .ok (.i2l, 1) := by decide +kernel
theorem dX12_bears_74 : decode cX12_bears 74 = .ok (.lcmp, 1) := by decide +kernel
theorem dX12_bears_75 : decode cX12_bears 75 = .ok (.ifCond .ge 7, 3) := by decide +kernel
theorem dX12_bears_78 : decode cX12_bears 78 = .ok (.iconst 1, 1) := by decide +kernel
theorem dX12_bears_79 : decode cX12_bears 79 = .ok (.goto 4, 3) := by decide +kernel
theorem dX12_bears_82 : decode cX12_bears 82 = .ok (.iconst 0, 1) := by decide +kernel
theorem dX12_bears_83 : decode cX12_bears 83 = .ok (.ireturn, 1) := by decide +kernel
theorem dX12_bears_84 : decode cX12_bears 84 = .ok (.lload_n 2, 1) := by decide +kernel
theorem dX12_bears_85 : decode cX12_bears 85 = .ok (.lconst 0, 1) := by decide +kernel
theorem dX12_bears_86 : decode cX12_bears 86 = .ok (.aload_n 0, 1) := by decide +kernel
theorem dX12_bears_87 : decode cX12_bears 87 = .ok (.iload_n 1, 1) := by decide +kernel
theorem dX12_bears_88 : decode cX12_bears 88 = .ok (.invokevirtual 148, 3) := by decide +kernel
theorem dX12_bears_91 : decode cX12_bears 91 = .ok (.invokestatic 88, 3) := by decide +kernel
theorem dX12_bears_94 : decode cX12_bears 94 = .ok (.ireturn, 1) := by decide +kernel
theorem dX12_modulo_0 : decode cX12_modulo 0 = .ok (.lload_n 0, 1) := by decide +kernel
theorem dX12_modulo_1 : decode cX12_modulo 1 = .ok (.lload_n 2, 1) := by decide +kernel
theorem dX12_modulo_2 : decode cX12_modulo 2 = .ok (.lrem, 1) := by decide +kernel
theorem dX12_modulo_3 : decode cX12_modulo 3 = .ok (.lstore 4, 2) := by decide +kernel
theorem dX12_modulo_5 : decode cX12_modulo 5 = .ok (.lload 4, 2) := by decide +kernel
theorem dX12_modulo_7 : decode cX12_modulo 7 = .ok (.lconst 0, 1) := by decide +kernel
theorem dX12_modulo_8 : decode cX12_modulo 8 = .ok (.lcmp, 1) := by decide +kernel
theorem dX12_modulo_9 : decode cX12_modulo 9 = .ok (.ifCond .ge 10, 3) := by decide +kernel
theorem dX12_modulo_12 : decode cX12_modulo 12 = .ok (.lload 4, 2) := by decide +kernel
theorem dX12_modulo_14 : decode cX12_modulo 14 = .ok (.lload_n 2, 1) := by decide +kernel
theorem dX12_modulo_15 : decode cX12_modulo 15 = .ok (.ladd, 1) := by decide +kernel
theorem dX12_modulo_16 : decode cX12_modulo 16 = .ok (.goto 5, 3) := by decide +kernel
theorem dX12_modulo_19 : decode cX12_modulo 19 = .ok (.lload 4, 2) := by decide +kernel
theorem dX12_modulo_21 : decode cX12_modulo 21 = .ok (.lreturn, 1) := by decide +kernel
set_option maxRecDepth 20000 in
theorem ggX12_isByte_X12_in : GoodIn wsX12_isByte wsX12_in := goodIn_r _ [5] (by decide +kernel) (by decide +kernel)
set_option maxRecDepth 20000 in
theorem gX12_isByte_X12_in : GoodIn wsX12_isByte (va_wsS RX12 88 yX12_in wsX12_in) := goodIn_app (goodIn_of _ (by decide +kernel)) ggX12_isByte_X12_in
theorem dX12_isByte_0 : decode cX12_isByte 0 = .ok (.iload_n 0, 1) := by decide +kernel
theorem dX12_isByte_1 : decode cX12_isByte 1 = .ok (.i2l, 1) := by decide +kernel
theorem dX12_isByte_2 : decode cX12_isByte 2 = .ok (.lconst 0, 1) := by decide +kernel
theorem dX12_isByte_3 : decode cX12_isByte 3 = .ok (.ldc2_w 123, 3) := by decide +kernel
theorem dX12_isByte_6 : decode cX12_isByte 6 = .ok (.invokestatic 88, 3) := by decide +kernel
theorem dX12_isByte_9 : decode cX12_isByte 9 = .ok (.ireturn, 1) := by decide +kernel
set_option maxRecDepth 20000 in
theorem ggX12_joined_X12_isSum : GoodIn wsX12_joined wsX12_isSum := goodIn_r _ [18, 19, 20, 21, 17, 22, 42, 43, 44, 45, 46, 47, 48, 49, 50, 51, 52, 53, 54, 55, 56, 57, 58, 59, 60, 61, 62, 63, 64, 65, 66, 67, 68, 69, 70, 71, 72, 73, 74] (by decide +kernel) (by decide +kernel)
set_option maxRecDepth 20000 in
theorem gX12_joined_X12_isSum : GoodIn wsX12_joined (wsV RX12 119 RX12 yX12_isSum wsX12_isSum) := goodIn_app (goodIn_of _ (by decide +kernel)) ggX12_joined_X12_isSum
set_option maxRecDepth 20000 in
theorem ggX12_joined_X12_bears : GoodIn wsX12_joined wsX12_bears := goodIn_r _ [26, 2, 6, 7, 20, 21, 17, 22, 27, 28, 29, 30, 11, 42, 43, 44, 45, 46, 47, 48, 49, 50, 51, 52, 53, 54, 55, 56, 57, 58, 59, 60, 61, 62, 63, 64, 65, 66, 67, 68, 69, 70, 71, 72, 73, 74] (by decide +kernel) (by decide +kernel)
set_option maxRecDepth 20000 in
theorem gX12_joined_X12_bears : GoodIn wsX12_joined (wsV RX12 154 RX12 yX12_bears wsX12_bears) := goodIn_app (goodIn_of _ (by decide +kernel)) ggX12_joined_X12_bears
set_option maxRecDepth 20000 in
theorem ggX12_joined_X12_in : GoodIn wsX12_joined wsX12_in := goodIn_r _ [22] (by decide +kernel) (by decide +kernel)
set_option maxRecDepth 20000 in
theorem gX12_joined_X12_in : GoodIn wsX12_joined (va_wsS RX12 88 yX12_in wsX12_in) := goodIn_app (goodIn_of _ (by decide +kernel)) ggX12_joined_X12_in
set_option maxRecDepth 20000 in
theorem ggX12_joined_X12_rolled : GoodIn wsX12_joined wsX12_rolled := goodIn_r _ [33] (by decide +kernel) (by decide +kernel)
set_option maxRecDepth 20000 in
theorem gX12_joined_X12_rolled : GoodIn wsX12_joined (va_wsS RX12 132 yX12_rolled wsX12_rolled) := goodIn_app (goodIn_of _ (by decide +kernel)) ggX12_joined_X12_rolled
set_option maxRecDepth 20000 in
theorem ggX12_joined_X12_passed : GoodIn wsX12_joined wsX12_passed := goodIn_r _ [37, 11, 38, 39, 40, 17, 41, 42, 43, 44, 45, 46, 47, 48, 49, 50, 51, 52, 53, 54, 55, 56, 57, 58, 59, 60, 61, 62, 63, 64, 65, 66, 67, 68, 69, 70, 71, 72, 73, 74] (by decide +kernel) (by decide +kernel)
set_option maxRecDepth 20000 in
theorem gX12_joined_X12_passed : GoodIn wsX12_joined (wsV RX12 162 RX12 yX12_passed wsX12_passed) := goodIn_app (goodIn_of _ (by decide +kernel)) ggX12_joined_X12_passed
theorem dX12_joined_0 : decode cX12_joined 0 = .ok (.aload_n 0, 1) := by decide +kernel
theorem dX12_joined_1 : decode cX12_joined 1 = .ok (.iload_n 1, 1) := by decide +kernel
theorem dX12_joined_2 : decode cX12_joined 2 = .ok (.invokevirtual 119, 3) := by decide +kernel
theorem dX12_joined_5 : decode cX12_joined 5 = .ok (.ifCond .ne 7, 3) := by decide +kernel
theorem dX12_joined_8 : decode cX12_joined 8 = .ok (.ldc2_w 142, 3) := by decide +kernel
theorem dX12_joined_11 : decode cX12_joined 11 = .ok (.lreturn, 1) := by decide +kernel
theorem dX12_joined_12 : decode cX12_joined 12 = .ok (.aload_n 0, 1) := by decide +kernel
theorem dX12_joined_13 : decode cX12_joined 13 = .ok (.getfield 13, 3) := by decide +kernel
theorem dX12_joined_16 : decode cX12_joined 16 = .ok (.iload_n 1, 1) := by decide +kernel
theorem dX12_joined_17 : decode cX12_joined 17 = .ok (.iaload, 1) := by decide +kernel
theorem dX12_joined_18 : decode cX12_joined 18 = .ok (.istore 8, 2) := by decide +kernel
theorem dX12_joined_20 : decode cX12_joined 20 = .ok (.iload 8, 2) := by decide +kernel
theorem dX12_joined_22 : decode cX12_joined 22 = .ok (.bipush 6, 2) := by decide +kernel
theorem dX12_joined_24 : decode cX12_joined 24 = .ok (.if_icmp .ne 7, 3) := by decide +kernel
theorem dX12_joined_27 : decode cX12_joined 27 = .ok (.ldc2_w 152, 3) := by decide +kernel
theorem dX12_joined_30 : decode cX12_joined 30 = .ok (.lreturn, 1) := by decide +kernel
theorem dX12_joined_31 : decode cX12_joined 31 = .ok (.aload_n 0, 1) := by decide +kernel
theorem dX12_joined_32 : decode cX12_joined 32 = .ok (.iload_n 1, 1) := by decide +kernel
theorem dX12_joined_33 : decode cX12_joined 33 = .ok (.lload_n 2, 1) := by decide +kernel
theorem dX12_joined_34 : decode cX12_joined 34 = .ok (.invokevirtual 154, 3) := by decide +kernel
theorem dX12_joined_37 : decode cX12_joined 37 = .ok (.ifCond .eq 39, 3) := by decide +kernel
theorem dX12_joined_40 : decode cX12_joined 40 = .ok (.aload_n 0, 1) := by decide +kernel
theorem dX12_joined_41 : decode cX12_joined 41 = .ok (.iload_n 1, 1) := by decide +kernel
theorem dX12_joined_42 : decode cX12_joined 42 = .ok (.lload 5, 2) := by decide +kernel
theorem dX12_joined_44 : decode cX12_joined 44 = .ok (.invokevirtual 154, 3) := by decide +kernel
theorem dX12_joined_47 : decode cX12_joined 47 = .ok (.ifCond .eq 29, 3) := by decide +kernel
theorem dX12_joined_50 : decode cX12_joined 50 = .ok (.iload 4, 2) := by decide +kernel
theorem dX12_joined_52 : decode cX12_joined 52 = .ok (.i2l, 1) := by decide +kernel
theorem dX12_joined_53 : decode cX12_joined 53 = .ok (.lconst 0, 1) := by decide +kernel
theorem dX12_joined_54 : decode cX12_joined 54 = .ok (.ldc2_w 158, 3) := by decide +kernel
theorem dX12_joined_57 : decode cX12_joined 57 = .ok (.invokestatic 88, 3) := by decide +kernel
theorem dX12_joined_60 : decode cX12_joined 60 = .ok (.ifCond .eq 16, 3) := by decide +kernel
theorem dX12_joined_63 : decode cX12_joined 63 = .ok (.iload 7, 2) := by decide +kernel
theorem dX12_joined_65 : decode cX12_joined 65 = .ok (.i2l, 1) := by decide +kernel
theorem dX12_joined_66 : decode cX12_joined 66 = .ok (.lconst 0, 1) := by decide +kernel
theorem dX12_joined_67 : decode cX12_joined 67 = .ok (.ldc2_w 158, 3) := by decide +kernel
theorem dX12_joined_70 : decode cX12_joined 70 = .ok (.invokestatic 88, 3) := by decide +kernel
theorem dX12_joined_73 : decode cX12_joined 73 = .ok (.ifCond .ne 7, 3) := by decide +kernel
theorem dX12_joined_76 : decode cX12_joined 76 = .ok (.ldc2_w 160, 3) := by decide +kernel
theorem dX12_joined_79 : decode cX12_joined 79 = .ok (.lreturn, 1) := by decide +kernel
theorem dX12_joined_80 : decode cX12_joined 80 = .ok (.aload_n 0, 1) := by decide +kernel
theorem dX12_joined_81 : decode cX12_joined 81 = .ok (.getfield 16, 3) := by decide +kernel
theorem dX12_joined_84 : decode cX12_joined 84 = .ok (.iload_n 1, 1) := by decide +kernel
theorem dX12_joined_85 : decode cX12_joined 85 = .ok (.iaload, 1) := by decide +kernel
theorem dX12_joined_86 : decode cX12_joined 86 = .ok (.istore 9, 2) := by decide +kernel
theorem dX12_joined_88 : decode cX12_joined 88 = .ok (.iload 8, 2) := by decide +kernel
theorem dX12_joined_90 : decode cX12_joined 90 = .ok (.tableswitch 145 0 3 #[30, 39, 95, 122], 30) := by decide +kernel
theorem dX12_joined_120 : decode cX12_joined 120 = .ok (.lload_n 2, 1) := by decide +kernel
theorem dX12_joined_121 : decode cX12_joined 121 = .ok (.lload 5, 2) := by decide +kernel
theorem dX12_joined_123 : decode cX12_joined 123 = .ok (.ladd, 1) := by decide +kernel
theorem dX12_joined_124 : decode cX12_joined 124 = .ok (.iload 9, 2) := by decide +kernel
theorem dX12_joined_126 : decode cX12_joined 126 = .ok (.i2l, 1) := by decide +kernel
theorem dX12_joined_127 : decode cX12_joined 127 = .ok (.lrem, 1) := by decide +kernel
theorem dX12_joined_128 : decode cX12_joined 128 = .ok (.lreturn, 1) := by decide +kernel
theorem dX12_joined_129 : decode cX12_joined 129 = .ok (.lload_n 2, 1) := by decide +kernel
theorem dX12_joined_130 : decode cX12_joined 130 = .ok (.ldc2_w 99, 3) := by decide +kernel
theorem dX12_joined_133 : decode cX12_joined 133 = .ok (.lrem, 1) := by decide +kernel
theorem dX12_joined_134 : decode cX12_joined 134 = .ok (.lload 5, 2) := by decide +kernel
theorem dX12_joined_136 : decode cX12_joined 136 = .ok (.ldc2_w 99, 3) := by decide +kernel
theorem dX12_joined_139 : decode cX12_joined 139 = .ok (.lrem, 1) := by decide +kernel
theorem dX12_joined_140 : decode cX12_joined 140 = .ok (.ladd, 1) := by decide +kernel
theorem dX12_joined_141 : decode cX12_joined 141 = .ok (.iload 9, 2) := by decide +kernel
theorem dX12_joined_143 : decode cX12_joined 143 = .ok (.i2l, 1) := by decide +kernel
theorem dX12_joined_144 : decode cX12_joined 144 = .ok (.lrem, 1) := by decide +kernel
theorem dX12_joined_145 : decode cX12_joined 145 = .ok (.lstore 10, 2) := by decide +kernel
theorem dX12_joined_147 : decode cX12_joined 147 = .ok (.lload_n 2, 1) := by decide +kernel
theorem dX12_joined_148 : decode cX12_joined 148 = .ok (.ldc2_w 99, 3) := by decide +kernel
theorem dX12_joined_151 : decode cX12_joined 151 = .ok (.ldiv, 1) := by decide +kernel
theorem dX12_joined_152 : decode cX12_joined 152 = .ok (.lload 5, 2) := by decide +kernel
theorem dX12_joined_154 : decode cX12_joined 154 = .ok (.ldc2_w 99, 3) := by decide +kernel
theorem dX12_joined_157 : decode cX12_joined 157 = .ok (.ldiv, 1) := by decide +kernel
theorem dX12_joined_158 : decode cX12_joined 158 = .ok (.ladd, 1) := by decide +kernel
theorem dX12_joined_159 : decode cX12_joined 159 = .ok (.lload_n 2, 1) := by decide +kernel
theorem dX12_joined_160 : decode cX12_joined 160 = .ok (.ldc2_w 99, 3) := by decide +kernel
theorem dX12_joined_163 : decode cX12_joined 163 = .ok (.lrem, 1) := by decide +kernel
theorem dX12_joined_164 : decode cX12_joined 164 = .ok (.iload 7, 2) := by decide +kernel
theorem dX12_joined_166 : decode cX12_joined 166 = .ok (.i2l, 1) := by decide +kernel
theorem dX12_joined_167 : decode cX12_joined 167 = .ok (.lmul, 1) := by decide +kernel
theorem dX12_joined_168 : decode cX12_joined 168 = .ok (.ladd, 1) := by decide +kernel
theorem dX12_joined_169 : decode cX12_joined 169 = .ok (.iload 9, 2) := by decide +kernel
theorem dX12_joined_171 : decode cX12_joined 171 = .ok (.i2l, 1) := by decide +kernel
theorem dX12_joined_172 : decode cX12_joined 172 = .ok (.lrem, 1) := by decide +kernel
theorem dX12_joined_173 : decode cX12_joined 173 = .ok (.lstore 12, 2) := by decide +kernel
theorem dX12_joined_175 : decode cX12_joined 175 = .ok (.ldc2_w 99, 3) := by decide +kernel
theorem dX12_joined_178 : decode cX12_joined 178 = .ok (.lload 12, 2) := by decide +kernel
theorem dX12_joined_180 : decode cX12_joined 180 = .ok (.lmul, 1) := by decide +kernel
theorem dX12_joined_181 : decode cX12_joined 181 = .ok (.lload 10, 2) := by decide +kernel
theorem dX12_joined_183 : decode cX12_joined 183 = .ok (.ladd, 1) := by decide +kernel
theorem dX12_joined_184 : decode cX12_joined 184 = .ok (.lreturn, 1) := by decide +kernel
theorem dX12_joined_185 : decode cX12_joined 185 = .ok (.iload 4, 2) := by decide +kernel
theorem dX12_joined_187 : decode cX12_joined 187 = .ok (.aload_n 0, 1) := by decide +kernel
theorem dX12_joined_188 : decode cX12_joined 188 = .ok (.getfield 39, 3) := by decide +kernel
theorem dX12_joined_191 : decode cX12_joined 191 = .ok (.iload_n 1, 1) := by decide +kernel
theorem dX12_joined_192 : decode cX12_joined 192 = .ok (.iaload, 1) := by decide +kernel
theorem dX12_joined_193 : decode cX12_joined 193 = .ok (.irem, 1) := by decide +kernel
theorem dX12_joined_194 : decode cX12_joined 194 = .ok (.ifCond .eq 9, 3) := by decide +kernel
theorem dX12_joined_197 : decode cX12_joined 197 = .ok (.ldc2_w 136, 3) := by decide +kernel
theorem dX12_joined_200 : decode cX12_joined 200 = .ok (.goto 11, 3) := by decide +kernel
theorem dX12_joined_203 : decode cX12_joined 203 = .ok (.lload_n 2, 1) := by decide +kernel
theorem dX12_joined_204 : decode cX12_joined 204 = .ok (.lload 5, 2) := by decide +kernel
theorem dX12_joined_206 : decode cX12_joined 206 = .ok (.ladd, 1) := by decide +kernel
theorem dX12_joined_207 : decode cX12_joined 207 = .ok (.iload 9, 2) := by decide +kernel
theorem dX12_joined_209 : decode cX12_joined 209 = .ok (.i2l, 1) := by decide +kernel
theorem dX12_joined_210 : decode cX12_joined 210 = .ok (.lrem, 1) := by decide +kernel
theorem dX12_joined_211 : decode cX12_joined 211 = .ok (.lreturn, 1) := by decide +kernel
theorem dX12_joined_212 : decode cX12_joined 212 = .ok (.lload_n 2, 1) := by decide +kernel
theorem dX12_joined_213 : decode cX12_joined 213 = .ok (.aload_n 0, 1) := by decide +kernel
theorem dX12_joined_214 : decode cX12_joined 214 = .ok (.getfield 22, 3) := by decide +kernel
theorem dX12_joined_217 : decode cX12_joined 217 = .ok (.iload_n 1, 1) := by decide +kernel
theorem dX12_joined_218 : decode cX12_joined 218 = .ok (.iaload, 1) := by decide +kernel
theorem dX12_joined_219 : decode cX12_joined 219 = .ok (.iload 7, 2) := by decide +kernel
theorem dX12_joined_221 : decode cX12_joined 221 = .ok (.imul, 1) := by decide +kernel
theorem dX12_joined_222 : decode cX12_joined 222 = .ok (.aload_n 0, 1) := by decide +kernel
theorem dX12_joined_223 : decode cX12_joined 223 = .ok (.getfield 19, 3) := by decide +kernel
theorem dX12_joined_226 : decode cX12_joined 226 = .ok (.iload_n 1, 1) := by decide +kernel
theorem dX12_joined_227 : decode cX12_joined 227 = .ok (.iaload, 1) := by decide +kernel
theorem dX12_joined_228 : decode cX12_joined 228 = .ok (.invokestatic 132, 3) := by decide +kernel
theorem dX12_joined_231 : decode cX12_joined 231 = .ok (.lload 5, 2) := by decide +kernel
theorem dX12_joined_233 : decode cX12_joined 233 = .ok (.lxor, 1) := by decide +kernel
theorem dX12_joined_234 : decode cX12_joined 234 = .ok (.lreturn, 1) := by decide +kernel
theorem dX12_joined_235 : decode cX12_joined 235 = .ok (.lload 5, 2) := by decide +kernel
theorem dX12_joined_237 : decode cX12_joined 237 = .ok (.aload_n 0, 1) := by decide +kernel
theorem dX12_joined_238 : decode cX12_joined 238 = .ok (.iload_n 1, 1) := by decide +kernel
theorem dX12_joined_239 : decode cX12_joined 239 = .ok (.lload_n 2, 1) := by decide +kernel
theorem dX12_joined_240 : decode cX12_joined 240 = .ok (.aload_n 0, 1) := by decide +kernel
theorem dX12_joined_241 : decode cX12_joined 241 = .ok (.getfield 32, 3) := by decide +kernel
theorem dX12_joined_244 : decode cX12_joined 244 = .ok (.iload_n 1, 1) := by decide +kernel
theorem dX12_joined_245 : decode cX12_joined 245 = .ok (.laload, 1) := by decide +kernel
theorem dX12_joined_246 : decode cX12_joined 246 = .ok (.lxor, 1) := by decide +kernel
theorem dX12_joined_247 : decode cX12_joined 247 = .ok (.aload_n 0, 1) := by decide +kernel
theorem dX12_joined_248 : decode cX12_joined 248 = .ok (.getfield 29, 3) := by decide +kernel
theorem dX12_joined_251 : decode cX12_joined 251 = .ok (.iload_n 1, 1) := by decide +kernel
theorem dX12_joined_252 : decode cX12_joined 252 = .ok (.laload, 1) := by decide +kernel
theorem dX12_joined_253 : decode cX12_joined 253 = .ok (.lxor, 1) := by decide +kernel
theorem dX12_joined_254 : decode cX12_joined 254 = .ok (.iload 7, 2) := by decide +kernel
theorem dX12_joined_256 : decode cX12_joined 256 = .ok (.invokevirtual 162, 3) := by decide +kernel
theorem dX12_joined_259 : decode cX12_joined 259 = .ok (.lxor, 1) := by decide +kernel
theorem dX12_joined_260 : decode cX12_joined 260 = .ok (.lreturn, 1) := by decide +kernel
set_option maxRecDepth 20000 in
theorem ggX12_other_X12_isSum : GoodIn wsX12_other wsX12_isSum := goodIn_r _ [18, 19, 20, 21, 17, 22, 51, 52, 53, 54, 55, 56, 57, 58, 59, 60, 61, 62, 63, 64, 65, 66, 67, 68, 69, 70, 71, 72, 73, 74, 75, 76, 77, 78, 79, 80, 81, 82, 83] (by decide +kernel) (by decide +kernel)
set_option maxRecDepth 20000 in
theorem gX12_other_X12_isSum : GoodIn wsX12_other (wsV RX12 119 RX12 yX12_isSum wsX12_isSum) := goodIn_app (goodIn_of _ (by decide +kernel)) ggX12_other_X12_isSum
set_option maxRecDepth 20000 in
theorem ggX12_other_X12_bears : GoodIn wsX12_other wsX12_bears := goodIn_r _ [26, 2, 6, 7, 20, 21, 17, 22, 27, 28, 29, 30, 11, 51, 52, 53, 54, 55, 56, 57, 58, 59, 60, 61, 62, 63, 64, 65, 66, 67, 68, 69, 70, 71, 72, 73, 74, 75, 76, 77, 78, 79, 80, 81, 82, 83] (by decide +kernel) (by decide +kernel)
set_option maxRecDepth 20000 in
theorem gX12_other_X12_bears : GoodIn wsX12_other (wsV RX12 154 RX12 yX12_bears wsX12_bears) := goodIn_app (goodIn_of _ (by decide +kernel)) ggX12_other_X12_bears
set_option maxRecDepth 20000 in
theorem ggX12_other_X12_in : GoodIn wsX12_other wsX12_in := goodIn_r _ [22] (by decide +kernel) (by decide +kernel)
set_option maxRecDepth 20000 in
theorem gX12_other_X12_in : GoodIn wsX12_other (va_wsS RX12 88 yX12_in wsX12_in) := goodIn_app (goodIn_of _ (by decide +kernel)) ggX12_other_X12_in
set_option maxRecDepth 20000 in
theorem ggX12_other_X12_isByte : GoodIn wsX12_other wsX12_isByte := goodIn_r _ [33, 34, 20, 21, 17, 22] (by decide +kernel) (by decide +kernel)
set_option maxRecDepth 20000 in
theorem gX12_other_X12_isByte : GoodIn wsX12_other (va_wsS RX12 166 yX12_isByte wsX12_isByte) := goodIn_app (goodIn_of _ (by decide +kernel)) ggX12_other_X12_isByte
set_option maxRecDepth 20000 in
theorem ggX12_other_X12_modulo : GoodIn wsX12_other wsX12_modulo := goodIn_r _ [37] (by decide +kernel) (by decide +kernel)
set_option maxRecDepth 20000 in
theorem gX12_other_X12_modulo : GoodIn wsX12_other (va_wsS RX12 169 yX12_modulo wsX12_modulo) := goodIn_app (goodIn_of _ (by decide +kernel)) ggX12_other_X12_modulo
set_option maxRecDepth 20000 in
theorem ggX12_other_X12_rolled : GoodIn wsX12_other wsX12_rolled := goodIn_r _ [40] (by decide +kernel) (by decide +kernel)
set_option maxRecDepth 20000 in
theorem gX12_other_X12_rolled : GoodIn wsX12_other (va_wsS RX12 132 yX12_rolled wsX12_rolled) := goodIn_app (goodIn_of _ (by decide +kernel)) ggX12_other_X12_rolled
set_option maxRecDepth 20000 in
theorem ggX12_other_X12_stepByte : GoodIn wsX12_other wsX12_stepByte := goodIn_r _ [43, 44, 45, 17, 46] (by decide +kernel) (by decide +kernel)
set_option maxRecDepth 20000 in
theorem gX12_other_X12_stepByte : GoodIn wsX12_other (va_wsS RX12 138 yX12_stepByte wsX12_stepByte) := goodIn_app (goodIn_of _ (by decide +kernel)) ggX12_other_X12_stepByte
set_option maxRecDepth 20000 in
theorem ggX12_other_X12_passed : GoodIn wsX12_other wsX12_passed := goodIn_r _ [50, 11, 12, 44, 45, 17, 46, 51, 52, 53, 54, 55, 56, 57, 58, 59, 60, 61, 62, 63, 64, 65, 66, 67, 68, 69, 70, 71, 72, 73, 74, 75, 76, 77, 78, 79, 80, 81, 82, 83] (by decide +kernel) (by decide +kernel)
set_option maxRecDepth 20000 in
theorem gX12_other_X12_passed : GoodIn wsX12_other (wsV RX12 162 RX12 yX12_passed wsX12_passed) := goodIn_app (goodIn_of _ (by decide +kernel)) ggX12_other_X12_passed
theorem dX12_other_0 : decode cX12_other 0 = .ok (.aload_n 0, 1) := by decide +kernel
theorem dX12_other_1 : decode cX12_other 1 = .ok (.iload_n 1, 1) := by decide +kernel
theorem dX12_other_2 : decode cX12_other 2 = .ok (.invokevirtual 119, 3) := by decide +kernel
theorem dX12_other_5 : decode cX12_other 5 = .ok (.ifCond .ne 7, 3) := by decide +kernel
theorem dX12_other_8 : decode cX12_other 8 = .ok (.ldc2_w 142, 3) := by decide +kernel
theorem dX12_other_11 : decode cX12_other 11 = .ok (.lreturn, 1) := by decide +kernel
theorem dX12_other_12 : decode cX12_other 12 = .ok (.aload_n 0, 1) := by decide +kernel
theorem dX12_other_13 : decode cX12_other 13 = .ok (.getfield 13, 3) := by decide +kernel
theorem dX12_other_16 : decode cX12_other 16 = .ok (.iload_n 1, 1) := by decide +kernel
theorem dX12_other_17 : decode cX12_other 17 = .ok (.iaload, 1) := by decide +kernel
theorem dX12_other_18 : decode cX12_other 18 = .ok (.istore 8, 2) := by decide +kernel
theorem dX12_other_20 : decode cX12_other 20 = .ok (.iload 8, 2) := by decide +kernel
theorem dX12_other_22 : decode cX12_other 22 = .ok (.bipush 6, 2) := by decide +kernel
theorem dX12_other_24 : decode cX12_other 24 = .ok (.if_icmp .ne 7, 3) := by decide +kernel
theorem dX12_other_27 : decode cX12_other 27 = .ok (.ldc2_w 152, 3) := by decide +kernel
theorem dX12_other_30 : decode cX12_other 30 = .ok (.lreturn, 1) := by decide +kernel
theorem dX12_other_31 : decode cX12_other 31 = .ok (.aload_n 0, 1) := by decide +kernel
theorem dX12_other_32 : decode cX12_other 32 = .ok (.iload_n 1, 1) := by decide +kernel
theorem dX12_other_33 : decode cX12_other 33 = .ok (.lload_n 2, 1) := by decide +kernel
theorem dX12_other_34 : decode cX12_other 34 = .ok (.invokevirtual 154, 3) := by decide +kernel
theorem dX12_other_37 : decode cX12_other 37 = .ok (.ifCond .eq 47, 3) := by decide +kernel
theorem dX12_other_40 : decode cX12_other 40 = .ok (.iload 4, 2) := by decide +kernel
theorem dX12_other_42 : decode cX12_other 42 = .ok (.i2l, 1) := by decide +kernel
theorem dX12_other_43 : decode cX12_other 43 = .ok (.lconst 1, 1) := by decide +kernel
theorem dX12_other_44 : decode cX12_other 44 = .ok (.ldc2_w 158, 3) := by decide +kernel
theorem dX12_other_47 : decode cX12_other 47 = .ok (.invokestatic 88, 3) := by decide +kernel
theorem dX12_other_50 : decode cX12_other 50 = .ok (.ifCond .eq 34, 3) := by decide +kernel
theorem dX12_other_53 : decode cX12_other 53 = .ok (.iload 5, 2) := by decide +kernel
theorem dX12_other_55 : decode cX12_other 55 = .ok (.i2l, 1) := by decide +kernel
theorem dX12_other_56 : decode cX12_other 56 = .ok (.lconst 0, 1) := by decide +kernel
theorem dX12_other_57 : decode cX12_other 57 = .ok (.iload 4, 2) := by decide +kernel
theorem dX12_other_59 : decode cX12_other 59 = .ok (.iconst 1, 1) := by decide +kernel
theorem dX12_other_60 : decode cX12_other 60 = .ok (.isub, 1) := by decide +kernel
theorem dX12_other_61 : decode cX12_other 61 = .ok (.i2l, 1) := by decide +kernel
theorem dX12_other_62 : decode cX12_other 62 = .ok (.invokestatic 88, 3) := by decide +kernel
theorem dX12_other_65 : decode cX12_other 65 = .ok (.ifCond .eq 19, 3) := by decide +kernel
theorem dX12_other_68 : decode cX12_other 68 = .ok (.iload 6, 2) := by decide +kernel
theorem dX12_other_70 : decode cX12_other 70 = .ok (.invokestatic 166, 3) := by decide +kernel
theorem dX12_other_73 : decode cX12_other 73 = .ok (.ifCond .eq 11, 3) := by decide +kernel
theorem dX12_other_76 : decode cX12_other 76 = .ok (.iload 7, 2) := by decide +kernel
theorem dX12_other_78 : decode cX12_other 78 = .ok (.invokestatic 166, 3) := by decide +kernel
theorem dX12_other_81 : decode cX12_other 81 = .ok (.ifCond .ne 7, 3) := by decide +kernel
theorem dX12_other_84 : decode cX12_other 84 = .ok (.ldc2_w 160, 3) := by decide +kernel
theorem dX12_other_87 : decode cX12_other 87 = .ok (.lreturn, 1) := by decide +kernel
theorem dX12_other_88 : decode cX12_other 88 = .ok (.aload_n 0, 1) := by decide +kernel
theorem dX12_other_89 : decode cX12_other 89 = .ok (.getfield 16, 3) := by decide +kernel
theorem dX12_other_92 : decode cX12_other 92 = .ok (.iload_n 1, 1) := by decide +kernel
theorem dX12_other_93 : decode cX12_other 93 = .ok (.iaload, 1) := by decide +kernel
theorem dX12_other_94 : decode cX12_other 94 = .ok (.istore 9, 2) := by decide +kernel
theorem dX12_other_96 : decode cX12_other 96 = .ok (.iload 7, 2) := by decide +kernel
theorem dX12_other_98 : decode cX12_other 98 = .ok (.iload 6, 2) := by decide +kernel
theorem dX12_other_100 : decode cX12_other 100 = .ok (.isub, 1) := by decide +kernel
theorem dX12_other_101 : decode cX12_other 101 = .ok (.i2l, 1) := by decide +kernel
theorem dX12_other_102 : decode cX12_other 102 = .ok (.lstore 10, 2) := by decide +kernel
theorem dX12_other_104 : decode cX12_other 104 = .ok (.iload 8, 2) := by decide +kernel
theorem dX12_other_106 : decode cX12_other 106 = .ok (.tableswitch 146 0 3 #[30, 41, 82, 114], 30) := by decide +kernel
theorem dX12_other_136 : decode cX12_other 136 = .ok (.lload_n 2, 1) := by decide +kernel
theorem dX12_other_137 : decode cX12_other 137 = .ok (.lload 10, 2) := by decide +kernel
theorem dX12_other_139 : decode cX12_other 139 = .ok (.ladd, 1) := by decide +kernel
theorem dX12_other_140 : decode cX12_other 140 = .ok (.iload 9, 2) := by decide +kernel
theorem dX12_other_142 : decode cX12_other 142 = .ok (.i2l, 1) := by decide +kernel
theorem dX12_other_143 : decode cX12_other 143 = .ok (.invokestatic 169, 3) := by decide +kernel
theorem dX12_other_146 : decode cX12_other 146 = .ok (.lreturn, 1) := by decide +kernel
theorem dX12_other_147 : decode cX12_other 147 = .ok (.ldc2_w 99, 3) := by decide +kernel
theorem dX12_other_150 : decode cX12_other 150 = .ok (.lload_n 2, 1) := by decide +kernel
theorem dX12_other_151 : decode cX12_other 151 = .ok (.ldc2_w 99, 3) := by decide +kernel
theorem dX12_other_154 : decode cX12_other 154 = .ok (.ldiv, 1) := by decide +kernel
theorem dX12_other_155 : decode cX12_other 155 = .ok (.lload 10, 2) := by decide +kernel
theorem dX12_other_157 : decode cX12_other 157 = .ok (.iload 4, 2) := by decide +kernel
theorem dX12_other_159 : decode cX12_other 159 = .ok (.iload 5, 2) := by decide +kernel
theorem dX12_other_161 : decode cX12_other 161 = .ok (.isub, 1) := by decide +kernel
theorem dX12_other_162 : decode cX12_other 162 = .ok (.i2l, 1) := by decide +kernel
theorem dX12_other_163 : decode cX12_other 163 = .ok (.lmul, 1) := by decide +kernel
theorem dX12_other_164 : decode cX12_other 164 = .ok (.ladd, 1) := by decide +kernel
theorem dX12_other_165 : decode cX12_other 165 = .ok (.iload 9, 2) := by decide +kernel
theorem dX12_other_167 : decode cX12_other 167 = .ok (.i2l, 1) := by decide +kernel
theorem dX12_other_168 : decode cX12_other 168 = .ok (.invokestatic 169, 3) := by decide +kernel
theorem dX12_other_171 : decode cX12_other 171 = .ok (.lmul, 1) := by decide +kernel
theorem dX12_other_172 : decode cX12_other 172 = .ok (.lload_n 2, 1) := by decide +kernel
theorem dX12_other_173 : decode cX12_other 173 = .ok (.ldc2_w 99, 3) := by decide +kernel
theorem dX12_other_176 : decode cX12_other 176 = .ok (.lrem, 1) := by decide +kernel
theorem dX12_other_177 : decode cX12_other 177 = .ok (.lload 10, 2) := by decide +kernel
theorem dX12_other_179 : decode cX12_other 179 = .ok (.ladd, 1) := by decide +kernel
theorem dX12_other_180 : decode cX12_other 180 = .ok (.iload 9, 2) := by decide +kernel
theorem dX12_other_182 : decode cX12_other 182 = .ok (.i2l, 1) := by decide +kernel
theorem dX12_other_183 : decode cX12_other 183 = .ok (.invokestatic 169, 3) := by decide +kernel
theorem dX12_other_186 : decode cX12_other 186 = .ok (.ladd, 1) := by decide +kernel
theorem dX12_other_187 : decode cX12_other 187 = .ok (.lreturn, 1) := by decide +kernel
theorem dX12_other_188 : decode cX12_other 188 = .ok (.lload_n 2, 1) := by decide +kernel
theorem dX12_other_189 : decode cX12_other 189 = .ok (.lload 10, 2) := by decide +kernel
theorem dX12_other_191 : decode cX12_other 191 = .ok (.aload_n 0, 1) := by decide +kernel
theorem dX12_other_192 : decode cX12_other 192 = .ok (.getfield 42, 3) := by decide +kernel
theorem dX12_other_195 : decode cX12_other 195 = .ok (.bipush 12, 2) := by decide +kernel
theorem dX12_other_197 : decode cX12_other 197 = .ok (.iload_n 1, 1) := by decide +kernel
theorem dX12_other_198 : decode cX12_other 198 = .ok (.imul, 1) := by decide +kernel
theorem dX12_other_199 : decode cX12_other 199 = .ok (.iload 5, 2) := by decide +kernel
theorem dX12_other_201 : decode cX12_other 201 = .ok (.aload_n 0, 1) := by decide +kernel
theorem dX12_other_202 : decode cX12_other 202 = .ok (.getfield 39, 3) := by decide +kernel
theorem dX12_other_205 : decode cX12_other 205 = .ok (.iload_n 1, 1) := by decide +kernel
theorem dX12_other_206 : decode cX12_other 206 = .ok (.iaload, 1) := by decide +kernel
theorem dX12_other_207 : decode cX12_other 207 = .ok (.irem, 1) := by decide +kernel
theorem dX12_other_208 : decode cX12_other 208 = .ok (.iadd, 1) := by decide +kernel
theorem dX12_other_209 : decode cX12_other 209 = .ok (.iaload, 1) := by decide +kernel
theorem dX12_other_210 : decode cX12_other 210 = .ok (.i2l, 1) := by decide +kernel
theorem dX12_other_211 : decode cX12_other 211 = .ok (.lmul, 1) := by decide +kernel
theorem dX12_other_212 : decode cX12_other 212 = .ok (.ladd, 1) := by decide +kernel
theorem dX12_other_213 : decode cX12_other 213 = .ok (.iload 9, 2) := by decide +kernel
theorem dX12_other_215 : decode cX12_other 215 = .ok (.i2l, 1) := by decide +kernel
theorem dX12_other_216 : decode cX12_other 216 = .ok (.invokestatic 169, 3) := by decide +kernel
theorem dX12_other_219 : decode cX12_other 219 = .ok (.lreturn, 1) := by decide +kernel
theorem dX12_other_220 : decode cX12_other 220 = .ok (.lload_n 2, 1) := by decide +kernel
theorem dX12_other_221 : decode cX12_other 221 = .ok (.iload 6, 2) := by decide +kernel
theorem dX12_other_223 : decode cX12_other 223 = .ok (.iload 7, 2) := by decide +kernel
theorem dX12_other_225 : decode cX12_other 225 = .ok (.ixor, 1) := by decide +kernel
theorem dX12_other_226 : decode cX12_other 226 = .ok (.i2l, 1) := by decide +kernel
theorem dX12_other_227 : decode cX12_other 227 = .ok (.aload_n 0, 1) := by decide +kernel
theorem dX12_other_228 : decode cX12_other 228 = .ok (.getfield 22, 3) := by decide +kernel
theorem dX12_other_231 : decode cX12_other 231 = .ok (.iload_n 1, 1) := by decide +kernel
theorem dX12_other_232 : decode cX12_other 232 = .ok (.iaload, 1) := by decide +kernel
theorem dX12_other_233 : decode cX12_other 233 = .ok (.iload 4, 2) := by decide +kernel
theorem dX12_other_235 : decode cX12_other 235 = .ok (.iconst 1, 1) := by decide +kernel
theorem dX12_other_236 : decode cX12_other 236 = .ok (.isub, 1) := by decide +kernel
theorem dX12_other_237 : decode cX12_other 237 = .ok (.iload 5, 2) := by decide +kernel
theorem dX12_other_239 : decode cX12_other 239 = .ok (.isub, 1) := by decide +kernel
theorem dX12_other_240 : decode cX12_other 240 = .ok (.imul, 1) := by decide +kernel
theorem dX12_other_241 : decode cX12_other 241 = .ok (.aload_n 0, 1) := by decide +kernel
theorem dX12_other_242 : decode cX12_other 242 = .ok (.getfield 19, 3) := by decide +kernel
theorem dX12_other_245 : decode cX12_other 245 = .ok (.iload_n 1, 1) := by decide +kernel
theorem dX12_other_246 : decode cX12_other 246 = .ok (.iaload, 1) := by decide +kernel
theorem dX12_other_247 : decode cX12_other 247 = .ok (.invokestatic 132, 3) := by decide +kernel
theorem dX12_other_250 : decode cX12_other 250 = .ok (.lxor, 1) := by decide +kernel
theorem dX12_other_251 : decode cX12_other 251 = .ok (.lreturn, 1) := by decide +kernel
theorem dX12_other_252 : decode cX12_other 252 = .ok (.lload_n 2, 1) := by decide +kernel
theorem dX12_other_253 : decode cX12_other 253 = .ok (.aload_n 0, 1) := by decide +kernel
theorem dX12_other_254 : decode cX12_other 254 = .ok (.iload_n 1, 1) := by decide +kernel
theorem dX12_other_255 : decode cX12_other 255 = .ok (.lconst 0, 1) := by decide +kernel
theorem dX12_other_256 : decode cX12_other 256 = .ok (.iload 6, 2) := by decide +kernel
theorem dX12_other_258 : decode cX12_other 258 = .ok (.iload 7, 2) := by decide +kernel
theorem dX12_other_260 : decode cX12_other 260 = .ok (.ixor, 1) := by decide +kernel
theorem dX12_other_261 : decode cX12_other 261 = .ok (.aload_n 0, 1) := by decide +kernel
theorem dX12_other_262 : decode cX12_other 262 = .ok (.getfield 19, 3) := by decide +kernel
theorem dX12_other_265 : decode cX12_other 265 = .ok (.iload_n 1, 1) := by decide +kernel
theorem dX12_other_266 : decode cX12_other 266 = .ok (.iaload, 1) := by decide +kernel
theorem dX12_other_267 : decode cX12_other 267 = .ok (.aload_n 0, 1) := by decide +kernel
theorem dX12_other_268 : decode cX12_other 268 = .ok (.getfield 25, 3) := by decide +kernel
theorem dX12_other_271 : decode cX12_other 271 = .ok (.iload_n 1, 1) := by decide +kernel
theorem dX12_other_272 : decode cX12_other 272 = .ok (.laload, 1) := by decide +kernel
theorem dX12_other_273 : decode cX12_other 273 = .ok (.aload_n 0, 1) := by decide +kernel
theorem dX12_other_274 : decode cX12_other 274 = .ok (.getfield 35, 3) := by decide +kernel
theorem dX12_other_277 : decode cX12_other 277 = .ok (.iload_n 1, 1) := by decide +kernel
theorem dX12_other_278 : decode cX12_other 278 = .ok (.baload, 1) := by decide +kernel
theorem dX12_other_279 : decode cX12_other 279 = .ok (.invokestatic 138, 3) := by decide +kernel
theorem dX12_other_282 : decode cX12_other 282 = .ok (.iload 4, 2) := by decide +kernel
theorem dX12_other_284 : decode cX12_other 284 = .ok (.iconst 1, 1) := by decide +kernel
theorem dX12_other_285 : decode cX12_other 285 = .ok (.isub, 1) := by decide +kernel
theorem dX12_other_286 : decode cX12_other 286 = .ok (.iload 5, 2) := by decide +kernel
theorem dX12_other_288 : decode cX12_other 288 = .ok (.isub, 1) := by decide +kernel
theorem dX12_other_289 : decode cX12_other 289 = .ok (.invokevirtual 162, 3) := by decide +kernel
theorem dX12_other_292 : decode cX12_other 292 = .ok (.lxor, 1) := by decide +kernel
theorem dX12_other_293 : decode cX12_other 293 = .ok (.lreturn, 1) := by decide +kernel
set_option maxRecDepth 20000 in
theorem ggX12_less_X12_isSum : GoodIn wsX12_less wsX12_isSum := goodIn_r _ [20, 21, 22, 23, 19, 24, 53, 54, 55, 56, 57, 58, 59, 60, 61, 62, 63, 64, 65, 66, 67, 68, 69, 70, 71, 72, 73, 74, 75, 76, 77, 78, 79, 80, 81, 82, 83, 84, 85] (by decide +kernel) (by decide +kernel)
set_option maxRecDepth 20000 in
theorem gX12_less_X12_isSum : GoodIn wsX12_less (wsV RX12 119 RX12 yX12_isSum wsX12_isSum) := goodIn_app (goodIn_of _ (by decide +kernel)) ggX12_less_X12_isSum
set_option maxRecDepth 20000 in
theorem ggX12_less_X12_bears : GoodIn wsX12_less wsX12_bears := goodIn_r _ [28, 2, 6, 7, 22, 23, 19, 24, 29, 30, 31, 32, 12, 53, 54, 55, 56, 57, 58, 59, 60, 61, 62, 63, 64, 65, 66, 67, 68, 69, 70, 71, 72, 73, 74, 75, 76, 77, 78, 79, 80, 81, 82, 83, 84, 85] (by decide +kernel) (by decide +kernel)
set_option maxRecDepth 20000 in
theorem gX12_less_X12_bears : GoodIn wsX12_less (wsV RX12 154 RX12 yX12_bears wsX12_bears) := goodIn_app (goodIn_of _ (by decide +kernel)) ggX12_less_X12_bears
set_option maxRecDepth 20000 in
theorem ggX12_less_X12_in : GoodIn wsX12_less wsX12_in := goodIn_r _ [24] (by decide +kernel) (by decide +kernel)
set_option maxRecDepth 20000 in
theorem gX12_less_X12_in : GoodIn wsX12_less (va_wsS RX12 88 yX12_in wsX12_in) := goodIn_app (goodIn_of _ (by decide +kernel)) ggX12_less_X12_in
set_option maxRecDepth 20000 in
theorem ggX12_less_X12_isByte : GoodIn wsX12_less wsX12_isByte := goodIn_r _ [35, 36, 22, 23, 19, 24] (by decide +kernel) (by decide +kernel)
set_option maxRecDepth 20000 in
theorem gX12_less_X12_isByte : GoodIn wsX12_less (va_wsS RX12 166 yX12_isByte wsX12_isByte) := goodIn_app (goodIn_of _ (by decide +kernel)) ggX12_less_X12_isByte
set_option maxRecDepth 20000 in
theorem ggX12_less_X12_modulo : GoodIn wsX12_less wsX12_modulo := goodIn_r _ [39] (by decide +kernel) (by decide +kernel)
set_option maxRecDepth 20000 in
theorem gX12_less_X12_modulo : GoodIn wsX12_less (va_wsS RX12 169 yX12_modulo wsX12_modulo) := goodIn_app (goodIn_of _ (by decide +kernel)) ggX12_less_X12_modulo
set_option maxRecDepth 20000 in
theorem ggX12_less_X12_rolled : GoodIn wsX12_less wsX12_rolled := goodIn_r _ [42] (by decide +kernel) (by decide +kernel)
set_option maxRecDepth 20000 in
theorem gX12_less_X12_rolled : GoodIn wsX12_less (va_wsS RX12 132 yX12_rolled wsX12_rolled) := goodIn_app (goodIn_of _ (by decide +kernel)) ggX12_less_X12_rolled
set_option maxRecDepth 20000 in
theorem ggX12_less_X12_stepByte : GoodIn wsX12_less wsX12_stepByte := goodIn_r _ [45, 46, 47, 19, 48] (by decide +kernel) (by decide +kernel)
set_option maxRecDepth 20000 in
theorem gX12_less_X12_stepByte : GoodIn wsX12_less (va_wsS RX12 138 yX12_stepByte wsX12_stepByte) := goodIn_app (goodIn_of _ (by decide +kernel)) ggX12_less_X12_stepByte
set_option maxRecDepth 20000 in
theorem ggX12_less_X12_passed : GoodIn wsX12_less wsX12_passed := goodIn_r _ [52, 12, 14, 46, 47, 19, 48, 53, 54, 55, 56, 57, 58, 59, 60, 61, 62, 63, 64, 65, 66, 67, 68, 69, 70, 71, 72, 73, 74, 75, 76, 77, 78, 79, 80, 81, 82, 83, 84, 85] (by decide +kernel) (by decide +kernel)
set_option maxRecDepth 20000 in
theorem gX12_less_X12_passed : GoodIn wsX12_less (wsV RX12 162 RX12 yX12_passed wsX12_passed) := goodIn_app (goodIn_of _ (by decide +kernel)) ggX12_less_X12_passed
theorem dX12_less_0 : decode cX12_less 0 = .ok (.aload_n 0, 1) := by decide +kernel
theorem dX12_less_1 : decode cX12_less 1 = .ok (.iload_n 1, 1) := by decide +kernel
theorem dX12_less_2 : decode cX12_less 2 = .ok (.invokevirtual 119, 3) := by decide +kernel
theorem dX12_less_5 : decode cX12_less 5 = .ok (.ifCond .ne 7, 3) := by decide +kernel
theorem dX12_less_8 : decode cX12_less 8 = .ok (.ldc2_w 142, 3) := by decide +kernel
theorem dX12_less_11 : decode cX12_less 11 = .ok (.lreturn, 1) := by decide +kernel
theorem dX12_less_12 : decode cX12_less 12 = .ok (.aload_n 0, 1) := by decide +kernel
theorem dX12_less_13 : decode cX12_less 13 = .ok (.getfield 13, 3) := by decide +kernel
theorem dX12_less_16 : decode cX12_less 16 = .ok (.iload_n 1, 1) := by decide +kernel
theorem dX12_less_17 : decode cX12_less 17 = .ok (.iaload, 1) := by decide +kernel
theorem dX12_less_18 : decode cX12_less 18 = .ok (.istore 6, 2) := by decide +kernel
theorem dX12_less_20 : decode cX12_less 20 = .ok (.iload 6, 2) := by decide +kernel
theorem dX12_less_22 : decode cX12_less 22 = .ok (.bipush 6, 2) := by decide +kernel
theorem dX12_less_24 : decode cX12_less 24 = .ok (.if_icmp .ne 7, 3) := by decide +kernel
theorem dX12_less_27 : decode cX12_less 27 = .ok (.ldc2_w 152, 3) := by decide +kernel
theorem dX12_less_30 : decode cX12_less 30 = .ok (.lreturn, 1) := by decide +kernel
theorem dX12_less_31 : decode cX12_less 31 = .ok (.aload_n 0, 1) := by decide +kernel
theorem dX12_less_32 : decode cX12_less 32 = .ok (.iload_n 1, 1) := by decide +kernel
theorem dX12_less_33 : decode cX12_less 33 = .ok (.lload_n 2, 1) := by decide +kernel
theorem dX12_less_34 : decode cX12_less 34 = .ok (.invokevirtual 154, 3) := by decide +kernel
theorem dX12_less_37 : decode cX12_less 37 = .ok (.ifCond .eq 24, 3) := by decide +kernel
theorem dX12_less_40 : decode cX12_less 40 = .ok (.iload 4, 2) := by decide +kernel
theorem dX12_less_42 : decode cX12_less 42 = .ok (.i2l, 1) := by decide +kernel
theorem dX12_less_43 : decode cX12_less 43 = .ok (.lconst 1, 1) := by decide +kernel
theorem dX12_less_44 : decode cX12_less 44 = .ok (.ldc2_w 158, 3) := by decide +kernel
theorem dX12_less_47 : decode cX12_less 47 = .ok (.invokestatic 88, 3) := by decide +kernel
theorem dX12_less_50 : decode cX12_less 50 = .ok (.ifCond .eq 11, 3) := by decide +kernel
theorem dX12_less_53 : decode cX12_less 53 = .ok (.iload 5, 2) := by decide +kernel
theorem dX12_less_55 : decode cX12_less 55 = .ok (.invokestatic 166, 3) := by decide +kernel
theorem dX12_less_58 : decode cX12_less 58 = .ok (.ifCond .ne 7, 3) := by decide +kernel
theorem dX12_less_61 : decode cX12_less 61 = .ok (.ldc2_w 160, 3) := by decide +kernel
theorem dX12_less_64 : decode cX12_less 64 = .ok (.lreturn, 1) := by decide +kernel
theorem dX12_less_65 : decode cX12_less 65 = .ok (.aload_n 0, 1) := by decide +kernel
theorem dX12_less_66 : decode cX12_less 66 = .ok (.getfield 16, 3) := by decide +kernel
theorem dX12_less_69 : decode cX12_less 69 = .ok (.iload_n 1, 1) := by decide +kernel
theorem dX12_less_70 : decode cX12_less 70 = .ok (.iaload, 1) := by decide +kernel
theorem dX12_less_71 : decode cX12_less 71 = .ok (.istore 7, 2) := by decide +kernel
theorem dX12_less_73 : decode cX12_less 73 = .ok (.iload 6, 2) := by decide +kernel
theorem dX12_less_75 : decode cX12_less 75 = .ok (.tableswitch 146 0 3 #[29, 41, 81, 120], 29) := by decide +kernel
theorem dX12_less_104 : decode cX12_less 104 = .ok (.lload_n 2, 1) := by decide +kernel
theorem dX12_less_105 : decode cX12_less 105 = .ok (.iload 5, 2) := by decide +kernel
theorem dX12_less_107 : decode cX12_less 107 = .ok (.i2l, 1) := by decide +kernel
theorem dX12_less_108 : decode cX12_less 108 = .ok (.lsub, 1) := by decide +kernel
theorem dX12_less_109 : decode cX12_less 109 = .ok (.iload 7, 2) := by decide +kernel
theorem dX12_less_111 : decode cX12_less 111 = .ok (.i2l, 1) := by decide +kernel
theorem dX12_less_112 : decode cX12_less 112 = .ok (.invokestatic 169, 3) := by decide +kernel
theorem dX12_less_115 : decode cX12_less 115 = .ok (.lreturn, 1) := by decide +kernel
theorem dX12_less_116 : decode cX12_less 116 = .ok (.ldc2_w 99, 3) := by decide +kernel
theorem dX12_less_119 : decode cX12_less 119 = .ok (.lload_n 2, 1) := by decide +kernel
theorem dX12_less_120 : decode cX12_less 120 = .ok (.ldc2_w 99, 3) := by decide +kernel
theorem dX12_less_123 : decode cX12_less 123 = .ok (.ldiv, 1) := by decide +kernel
theorem dX12_less_124 : decode cX12_less 124 = .ok (.iload 4, 2) := by decide +kernel
theorem dX12_less_126 : decode cX12_less 126 = .ok (.i2l, 1) := by decide +kernel
theorem dX12_less_127 : decode cX12_less 127 = .ok (.iload 5, 2) := by decide +kernel
theorem dX12_less_129 : decode cX12_less 129 = .ok (.i2l, 1) := by decide +kernel
theorem dX12_less_130 : decode cX12_less 130 = .ok (.lmul, 1) := by decide +kernel
theorem dX12_less_131 : decode cX12_less 131 = .ok (.lsub, 1) := by decide +kernel
theorem dX12_less_132 : decode cX12_less 132 = .ok (.iload 7, 2) := by decide +kernel
theorem dX12_less_134 : decode cX12_less 134 = .ok (.i2l, 1) := by decide +kernel
theorem dX12_less_135 : decode cX12_less 135 = .ok (.invokestatic 169, 3) := by decide +kernel
theorem dX12_less_138 : decode cX12_less 138 = .ok (.lmul, 1) := by decide +kernel
theorem dX12_less_139 : decode cX12_less 139 = .ok (.lload_n 2, 1) := by decide +kernel
theorem dX12_less_140 : decode cX12_less 140 = .ok (.ldc2_w 99, 3) := by decide +kernel
theorem dX12_less_143 : decode cX12_less 143 = .ok (.lrem, 1) := by decide +kernel
theorem dX12_less_144 : decode cX12_less 144 = .ok (.iload 5, 2) := by decide +kernel
theorem dX12_less_146 : decode cX12_less 146 = .ok (.i2l, 1) := by decide +kernel
theorem dX12_less_147 : decode cX12_less 147 = .ok (.lsub, 1) := by decide +kernel
theorem dX12_less_148 : decode cX12_less 148 = .ok (.iload 7, 2) := by decide +kernel
theorem dX12_less_150 : decode cX12_less 150 = .ok (.i2l, 1) := by decide +kernel
theorem dX12_less_151 : decode cX12_less 151 = .ok (.invokestatic 169, 3) := by decide +kernel
theorem dX12_less_154 : decode cX12_less 154 = .ok (.ladd, 1) := by decide +kernel
theorem dX12_less_155 : decode cX12_less 155 = .ok (.lreturn, 1) := by decide +kernel
theorem dX12_less_156 : decode cX12_less 156 = .ok (.aload_n 0, 1) := by decide +kernel
theorem dX12_less_157 : decode cX12_less 157 = .ok (.getfield 39, 3) := by decide +kernel
theorem dX12_less_160 : decode cX12_less 160 = .ok (.iload_n 1, 1) := by decide +kernel
theorem dX12_less_161 : decode cX12_less 161 = .ok (.iaload, 1) := by decide +kernel
theorem dX12_less_162 : decode cX12_less 162 = .ok (.iconst 1, 1) := by decide +kernel
theorem dX12_less_163 : decode cX12_less 163 = .ok (.if_icmp .eq 9, 3) := by decide +kernel
theorem dX12_less_166 : decode cX12_less 166 = .ok (.ldc2_w 136, 3) := by decide +kernel
theorem dX12_less_169 : decode cX12_less 169 = .ok (.goto 25, 3) := by decide +kernel
theorem dX12_less_172 : decode cX12_less 172 = .ok (.lload_n 2, 1) := by decide +kernel
theorem dX12_less_173 : decode cX12_less 173 = .ok (.aload_n 0, 1) := by decide +kernel
theorem dX12_less_174 : decode cX12_less 174 = .ok (.getfield 42, 3) := by decide +kernel
theorem dX12_less_177 : decode cX12_less 177 = .ok (.bipush 12, 2) := by decide +kernel
theorem dX12_less_179 : decode cX12_less 179 = .ok (.iload_n 1, 1) := by decide +kernel
theorem dX12_less_180 : decode cX12_less 180 = .ok (.imul, 1) := by decide +kernel
theorem dX12_less_181 : decode cX12_less 181 = .ok (.iaload, 1) := by decide +kernel
theorem dX12_less_182 : decode cX12_less 182 = .ok (.i2l, 1) := by decide +kernel
theorem dX12_less_183 : decode cX12_less 183 = .ok (.iload 5, 2) := by decide +kernel
theorem dX12_less_185 : decode cX12_less 185 = .ok (.i2l, 1) := by decide +kernel
theorem dX12_less_186 : decode cX12_less 186 = .ok (.lmul, 1) := by decide +kernel
theorem dX12_less_187 : decode cX12_less 187 = .ok (.lsub, 1) := by decide +kernel
theorem dX12_less_188 : decode cX12_less 188 = .ok (.iload 7, 2) := by decide +kernel
theorem dX12_less_190 : decode cX12_less 190 = .ok (.i2l, 1) := by decide +kernel
theorem dX12_less_191 : decode cX12_less 191 = .ok (.invokestatic 169, 3) := by decide +kernel
theorem dX12_less_194 : decode cX12_less 194 = .ok (.lreturn, 1) := by decide +kernel
theorem dX12_less_195 : decode cX12_less 195 = .ok (.lload_n 2, 1) := by decide +kernel
theorem dX12_less_196 : decode cX12_less 196 = .ok (.iload 5, 2) := by decide +kernel
theorem dX12_less_198 : decode cX12_less 198 = .ok (.i2l, 1) := by decide +kernel
theorem dX12_less_199 : decode cX12_less 199 = .ok (.aload_n 0, 1) := by decide +kernel
theorem dX12_less_200 : decode cX12_less 200 = .ok (.getfield 22, 3) := by decide +kernel
theorem dX12_less_203 : decode cX12_less 203 = .ok (.iload_n 1, 1) := by decide +kernel
theorem dX12_less_204 : decode cX12_less 204 = .ok (.iaload, 1) := by decide +kernel
theorem dX12_less_205 : decode cX12_less 205 = .ok (.iload 4, 2) := by decide +kernel
theorem dX12_less_207 : decode cX12_less 207 = .ok (.iconst 1, 1) := by decide +kernel
theorem dX12_less_208 : decode cX12_less 208 = .ok (.isub, 1) := by decide +kernel
theorem dX12_less_209 : decode cX12_less 209 = .ok (.imul, 1) := by decide +kernel
theorem dX12_less_210 : decode cX12_less 210 = .ok (.aload_n 0, 1) := by decide +kernel
theorem dX12_less_211 : decode cX12_less 211 = .ok (.getfield 19, 3) := by decide +kernel
theorem dX12_less_214 : decode cX12_less 214 = .ok (.iload_n 1, 1) := by decide +kernel
theorem dX12_less_215 : decode cX12_less 215 = .ok (.iaload, 1) := by decide +kernel
theorem dX12_less_216 : decode cX12_less 216 = .ok (.invokestatic 132, 3) := by decide +kernel
theorem dX12_less_219 : decode cX12_less 219 = .ok (.lxor, 1) := by decide +kernel
theorem dX12_less_220 : decode cX12_less 220 = .ok (.lreturn, 1) := by decide +kernel
theorem dX12_less_221 : decode cX12_less 221 = .ok (.lload_n 2, 1) := by decide +kernel
theorem dX12_less_222 : decode cX12_less 222 = .ok (.aload_n 0, 1) := by decide +kernel
theorem dX12_less_223 : decode cX12_less 223 = .ok (.iload_n 1, 1) := by decide +kernel
theorem dX12_less_224 : decode cX12_less 224 = .ok (.aload_n 0, 1) := by decide +kernel
theorem dX12_less_225 : decode cX12_less 225 = .ok (.getfield 29, 3) := by decide +kernel
theorem dX12_less_228 : decode cX12_less 228 = .ok (.iload_n 1, 1) := by decide +kernel
theorem dX12_less_229 : decode cX12_less 229 = .ok (.laload, 1) := by decide +kernel
theorem dX12_less_230 : decode cX12_less 230 = .ok (.iload 5, 2) := by decide +kernel
theorem dX12_less_232 : decode cX12_less 232 = .ok (.aload_n 0, 1) := by decide +kernel
theorem dX12_less_233 : decode cX12_less 233 = .ok (.getfield 19, 3) := by decide +kernel
theorem dX12_less_236 : decode cX12_less 236 = .ok (.iload_n 1, 1) := by decide +kernel
theorem dX12_less_237 : decode cX12_less 237 = .ok (.iaload, 1) := by decide +kernel
theorem dX12_less_238 : decode cX12_less 238 = .ok (.aload_n 0, 1) := by decide +kernel
theorem dX12_less_239 : decode cX12_less 239 = .ok (.getfield 25, 3) := by decide +kernel
theorem dX12_less_242 : decode cX12_less 242 = .ok (.iload_n 1, 1) := by decide +kernel
theorem dX12_less_243 : decode cX12_less 243 = .ok (.laload, 1) := by decide +kernel
theorem dX12_less_244 : decode cX12_less 244 = .ok (.aload_n 0, 1) := by decide +kernel
theorem dX12_less_245 : decode cX12_less 245 = .ok (.getfield 35, 3) := by decide +kernel
theorem dX12_less_248 : decode cX12_less 248 = .ok (.iload_n 1, 1) := by decide +kernel
theorem dX12_less_249 : decode cX12_less 249 = .ok (.baload, 1) := by decide +kernel
theorem dX12_less_250 : decode cX12_less 250 = .ok (.invokestatic 138, 3) := by decide +kernel
theorem dX12_less_253 : decode cX12_less 253 = .ok (.aload_n 0, 1) := by decide +kernel
theorem dX12_less_254 : decode cX12_less 254 = .ok (.getfield 29, 3) := by decide +kernel
theorem dX12_less_257 : decode cX12_less 257 = .ok (.iload_n 1, 1) := by decide +kernel
theorem dX12_less_258 : decode cX12_less 258 = .ok (.laload, 1) := by decide +kernel
theorem dX12_less_259 : decode cX12_less 259 = .ok (.lxor, 1) := by decide +kernel
theorem dX12_less_260 : decode cX12_less 260 = .ok (.iload 4, 2) := by decide +kernel
theorem dX12_less_262 : decode cX12_less 262 = .ok (.iconst 1, 1) := by decide +kernel
theorem dX12_less_263 : decode cX12_less 263 = .ok (.isub, 1) := by decide +kernel
theorem dX12_less_264 : decode cX12_less 264 = .ok (.invokevirtual 162, 3) := by decide +kernel
theorem dX12_less_267 : decode cX12_less 267 = .ok (.lxor, 1) := by decide +kernel
theorem dX12_less_268 : decode cX12_less 268 = .ok (.lreturn, 1) := by decide +kernel
theorem dX12_isXor_0 : decode cX12_isXor 0 = .ok (.aload_n 0, 1) := by decide +kernel
theorem dX12_isXor_1 : decode cX12_isXor 1 = .ok (.getfield 13, 3) := by decide +kernel
theorem dX12_isXor_4 : decode cX12_isXor 4 = .ok (.iload_n 1, 1) := by decide +kernel
theorem dX12_isXor_5 : decode cX12_isXor 5 = .ok (.iaload, 1) := by decide +kernel
theorem dX12_isXor_6 : decode cX12_isXor 6 = .ok (.iconst 3, 1) := by decide +kernel
theorem dX12_isXor_7 : decode cX12_isXor 7 = .ok (.if_icmp .eq 23, 3) := by decide +kernel
theorem dX12_isXor_10 : decode cX12_isXor 10 = .ok (.aload_n 0, 1) := by decide +kernel
theorem dX12_isXor_11 : decode cX12_isXor 11 = .ok (.getfield 13, 3) := by decide +kernel
theorem dX12_isXor_14 : decode cX12_isXor 14 = .ok (.iload_n 1, 1) := by decide +kernel
theorem dX12_isXor_15 : decode cX12_isXor 15 = .ok (.iaload, 1) := by decide +kernel
theorem dX12_isXor_16 : decode cX12_isXor 16 = .ok (.iconst 4, 1) := by decide +kernel
theorem dX12_isXor_17 : decode cX12_isXor 17 = .ok (.if_icmp .eq 13, 3) := by decide +kernel
theorem dX12_isXor_20 : decode cX12_isXor 20 = .ok (.aload_n 0, 1) := by decide +kernel
theorem dX12_isXor_21 : decode cX12_isXor 21 = .ok (.getfield 13, 3) := by decide +kernel
theorem dX12_isXor_24 : decode cX12_isXor 24 = .ok (.iload_n 1, 1) := by decide +kernel
theorem dX12_isXor_25 : decode cX12_isXor 25 = .ok (.iaload, 1) := by decide +kernel
theorem dX12_isXor_26 : decode cX12_isXor 26 = .ok (.iconst 5, 1) := by decide +kernel
theorem dX12_isXor_27 : decode cX12_isXor 27 = .ok (.if_icmp .ne 7, 3) := by decide +kernel
theorem dX12_isXor_30 : decode cX12_isXor 30 = .ok (.iconst 1, 1) := by decide +kernel
theorem dX12_isXor_31 : decode cX12_isXor 31 = .ok (.goto 4, 3) := by decide +kernel
theorem dX12_isXor_34 : decode cX12_isXor 34 = .ok (.iconst 0, 1) := by decide +kernel
theorem dX12_isXor_35 : decode cX12_isXor 35 = .ok (.ireturn, 1) := by decide +kernel
set_option maxRecDepth 20000 in
theorem ggX12_byteA_X12_rolled : GoodIn wsX12_byteA wsX12_rolled := goodIn_r _ [11] (by decide +kernel) (by decide +kernel)
set_option maxRecDepth 20000 in
theorem gX12_byteA_X12_rolled : GoodIn wsX12_byteA (va_wsS RX12 132 yX12_rolled wsX12_rolled) := goodIn_app (goodIn_of _ (by decide +kernel)) ggX12_byteA_X12_rolled
set_option maxRecDepth 20000 in
theorem ggX12_byteA_X12_stepByte : GoodIn wsX12_byteA wsX12_stepByte := goodIn_r _ [14, 15, 16, 10, 17] (by decide +kernel) (by decide +kernel)
set_option maxRecDepth 20000 in
theorem gX12_byteA_X12_stepByte : GoodIn wsX12_byteA (va_wsS RX12 138 yX12_stepByte wsX12_stepByte) := goodIn_app (goodIn_of _ (by decide +kernel)) ggX12_byteA_X12_stepByte
set_option maxRecDepth 20000 in
theorem ggX12_byteA_X12_passed : GoodIn wsX12_byteA wsX12_passed := goodIn_r _ [21, 5, 6, 15, 16, 10, 17, 22, 23, 24, 25, 26, 27, 28, 29, 30, 31, 32, 33, 34, 35, 36, 37, 38, 39, 40, 41, 42, 43, 44, 45, 46, 47, 48, 49, 50, 51, 52, 53, 54] (by decide +kernel) (by decide +kernel)
set_option maxRecDepth 20000 in
theorem gX12_byteA_X12_passed : GoodIn wsX12_byteA (wsV RX12 162 RX12 yX12_passed wsX12_passed) := goodIn_app (goodIn_of _ (by decide +kernel)) ggX12_byteA_X12_passed
theorem dX12_byteA_0 : decode cX12_byteA 0 = .ok (.aload_n 0, 1) := by decide +kernel
theorem dX12_byteA_1 : decode cX12_byteA 1 = .ok (.getfield 13, 3) := by decide +kernel
theorem dX12_byteA_4 : decode cX12_byteA 4 = .ok (.iload_n 1, 1) := by decide +kernel
theorem dX12_byteA_5 : decode cX12_byteA 5 = .ok (.iaload, 1) := by decide +kernel
theorem dX12_byteA_6 : decode cX12_byteA 6 = .ok (.tableswitch 114 2 5 #[30, 54, 79, 79], 30) := by decide +kernel
theorem dX12_byteA_36 : decode cX12_byteA 36 = .ok (.aload_n 0, 1) := by decide +kernel
theorem dX12_byteA_37 : decode cX12_byteA 37 = .ok (.getfield 42, 3) := by decide +kernel
theorem dX12_byteA_40 : decode cX12_byteA 40 = .ok (.bipush 12, 2) := by decide +kernel
theorem dX12_byteA_42 : decode cX12_byteA 42 = .ok (.iload_n 1, 1) := by decide +kernel
theorem dX12_byteA_43 : decode cX12_byteA 43 = .ok (.imul, 1) := by decide +kernel
theorem dX12_byteA_44 : decode cX12_byteA 44 = .ok (.iload_n 3, 1) := by decide +kernel
theorem dX12_byteA_45 : decode cX12_byteA 45 = .ok (.aload_n 0, 1) := by decide +kernel
theorem dX12_byteA_46 : decode cX12_byteA 46 = .ok (.getfield 39, 3) := by decide +kernel
theorem dX12_byteA_49 : decode cX12_byteA 49 = .ok (.iload_n 1, 1) := by decide +kernel
theorem dX12_byteA_50 : decode cX12_byteA 50 = .ok (.iaload, 1) := by decide +kernel
theorem dX12_byteA_51 : decode cX12_byteA 51 = .ok (.irem, 1) := by decide +kernel
theorem dX12_byteA_52 : decode cX12_byteA 52 = .ok (.iadd, 1) := by decide +kernel
theorem dX12_byteA_53 : decode cX12_byteA 53 = .ok (.iaload, 1) := by decide +kernel
theorem dX12_byteA_54 : decode cX12_byteA 54 = .ok (.i2l, 1) := by decide +kernel
theorem dX12_byteA_55 : decode cX12_byteA 55 = .ok (.iload 4, 2) := by decide +kernel
theorem dX12_byteA_57 : decode cX12_byteA 57 = .ok (.i2l, 1) := by decide +kernel
theorem dX12_byteA_58 : decode cX12_byteA 58 = .ok (.lmul, 1) := by decide +kernel
theorem dX12_byteA_59 : decode cX12_byteA 59 = .ok (.lreturn, 1) := by decide +kernel
theorem dX12_byteA_60 : decode cX12_byteA 60 = .ok (.iload 4, 2) := by decide +kernel
theorem dX12_byteA_62 : decode cX12_byteA 62 = .ok (.i2l, 1) := by decide +kernel
theorem dX12_byteA_63 : decode cX12_byteA 63 = .ok (.aload_n 0, 1) := by decide +kernel
theorem dX12_byteA_64 : decode cX12_byteA 64 = .ok (.getfield 22, 3) := by decide +kernel
theorem dX12_byteA_67 : decode cX12_byteA 67 = .ok (.iload_n 1, 1) := by decide +kernel
theorem dX12_byteA_68 : decode cX12_byteA 68 = .ok (.iaload, 1) := by decide +kernel
theorem dX12_byteA_69 : decode cX12_byteA 69 = .ok (.iload_n 2, 1) := by decide +kernel
theorem dX12_byteA_70 : decode cX12_byteA 70 = .ok (.iconst 1, 1) := by decide +kernel
theorem dX12_byteA_71 : decode cX12_byteA 71 = .ok (.isub, 1) := by decide +kernel
theorem dX12_byteA_72 : decode cX12_byteA 72 = .ok (.iload_n 3, 1) := by decide +kernel
theorem dX12_byteA_73 : decode cX12_byteA 73 = .ok (.isub, 1) := by decide +kernel
theorem dX12_byteA_74 : decode cX12_byteA 74 = .ok (.imul, 1) := by decide +kernel
theorem dX12_byteA_75 : decode cX12_byteA 75 = .ok (.aload_n 0, 1) := by decide +kernel
theorem dX12_byteA_76 : decode cX12_byteA 76 = .ok (.getfield 19, 3) := by decide +kernel
theorem dX12_byteA_79 : decode cX12_byteA 79 = .ok (.iload_n 1, 1) := by decide +kernel
theorem dX12_byteA_80 : decode cX12_byteA 80 = .ok (.iaload, 1) := by decide +kernel
theorem dX12_byteA_81 : decode cX12_byteA 81 = .ok (.invokestatic 132, 3) := by decide +kernel
theorem dX12_byteA_84 : decode cX12_byteA 84 = .ok (.lreturn, 1) := by decide +kernel
theorem dX12_byteA_85 : decode cX12_byteA 85 = .ok (.aload_n 0, 1) := by decide +kernel
theorem dX12_byteA_86 : decode cX12_byteA 86 = .ok (.iload_n 1, 1) := by decide +kernel
theorem dX12_byteA_87 : decode cX12_byteA 87 = .ok (.lconst 0, 1) := by decide +kernel
theorem dX12_byteA_88 : decode cX12_byteA 88 = .ok (.iload 4, 2) := by decide +kernel
theorem dX12_byteA_90 : decode cX12_byteA 90 = .ok (.aload_n 0, 1) := by decide +kernel
theorem dX12_byteA_91 : decode cX12_byteA 91 = .ok (.getfield 19, 3) := by decide +kernel
theorem dX12_byteA_94 : decode cX12_byteA 94 = .ok (.iload_n 1, 1) := by decide +kernel
theorem dX12_byteA_95 : decode cX12_byteA 95 = .ok (.iaload, 1) := by decide +kernel
theorem dX12_byteA_96 : decode cX12_byteA 96 = .ok (.aload_n 0, 1) := by decide +kernel
theorem dX12_byteA_97 : decode cX12_byteA 97 = .ok (.getfield 25, 3) := by decide +kernel
theorem dX12_byteA_100 : decode cX12_byteA 100 = .ok (.iload_n 1, 1) := by decide +kernel
theorem dX12_byteA_101 : decode cX12_byteA 101 = .ok (.laload, 1) := by decide +kernel
theorem dX12_byteA_102 : decode cX12_byteA 102 = .ok (.aload_n 0, 1) := by decide +kernel
theorem dX12_byteA_103 : decode cX12_byteA 103 = .ok (.getfield 35, 3) := by decide +kernel
theorem dX12_byteA_106 : decode cX12_byteA 106 = .ok (.iload_n 1, 1) := by decide +kernel
theorem dX12_byteA_107 : decode cX12_byteA 107 = .ok (.baload, 1) := by decide +kernel
theorem dX12_byteA_108 : decode cX12_byteA 108 = .ok (.invokestatic 138, 3) := by decide +kernel
theorem dX12_byteA_111 : decode cX12_byteA 111 = .ok (.iload_n 2, 1) := by decide +kernel
theorem dX12_byteA_112 : decode cX12_byteA 112 = .ok (.iconst 1, 1) := by decide +kernel
theorem dX12_byteA_113 : decode cX12_byteA 113 = .ok (.isub, 1) := by decide +kernel
theorem dX12_byteA_114 : decode cX12_byteA 114 = .ok (.iload_n 3, 1) := by decide +kernel
theorem dX12_byteA_115 : decode cX12_byteA 115 = .ok (.isub, 1) := by decide +kernel
theorem dX12_byteA_116 : decode cX12_byteA 116 = .ok (.invokevirtual 162, 3) := by decide +kernel
theorem dX12_byteA_119 : decode cX12_byteA 119 = .ok (.lreturn, 1) := by decide +kernel
theorem dX12_byteA_120 : decode cX12_byteA 120 = .ok (.iload 4, 2) := by decide +kernel
theorem dX12_byteA_122 : decode cX12_byteA 122 = .ok (.i2l, 1) := by decide +kernel
theorem dX12_byteA_123 : decode cX12_byteA 123 = .ok (.lreturn, 1) := by decide +kernel
theorem dX12_byteB_0 : decode cX12_byteB 0 = .ok (.aload_n 0, 1) := by decide +kernel
theorem dX12_byteB_1 : decode cX12_byteB 1 = .ok (.getfield 13, 3) := by decide +kernel
theorem dX12_byteB_4 : decode cX12_byteB 4 = .ok (.iload_n 1, 1) := by decide +kernel
theorem dX12_byteB_5 : decode cX12_byteB 5 = .ok (.iaload, 1) := by decide +kernel
theorem dX12_byteB_6 : decode cX12_byteB 6 = .ok (.iconst 1, 1) := by decide +kernel
theorem dX12_byteB_7 : decode cX12_byteB 7 = .ok (.if_icmp .ne 14, 3) := by decide +kernel
theorem dX12_byteB_10 : decode cX12_byteB 10 = .ok (.iload_n 2, 1) := by decide +kernel
theorem dX12_byteB_11 : decode cX12_byteB 11 = .ok (.iload_n 3, 1) := by decide +kernel
theorem dX12_byteB_12 : decode cX12_byteB 12 = .ok (.isub, 1) := by decide +kernel
theorem dX12_byteB_13 : decode cX12_byteB 13 = .ok (.i2l, 1) := by decide +kernel
theorem dX12_byteB_14 : decode cX12_byteB 14 = .ok (.iload 4, 2) := by decide +kernel
theorem dX12_byteB_16 : decode cX12_byteB 16 = .ok (.i2l, 1) := by decide +kernel
theorem dX12_byteB_17 : decode cX12_byteB 17 = .ok (.lmul, 1) := by decide +kernel
theorem dX12_byteB_18 : decode cX12_byteB 18 = .ok (.goto 4, 3) := by decide +kernel
theorem dX12_byteB_21 : decode cX12_byteB 21 = .ok (.lconst 0, 1) := by decide +kernel
theorem dX12_byteB_22 : decode cX12_byteB 22 = .ok (.lreturn, 1) := by decide +kernel
set_option maxRecDepth 20000 in
theorem ggX12_findPlaces_X12_byteA : GoodIn wsX12_findPlaces wsX12_byteA := goodIn_r _ [7, 8, 9, 10, 11, 12, 13, 14, 15, 16, 6, 17, 18, 19, 20, 21, 22, 23, 24, 25, 26, 27, 32, 33, 34, 35, 36, 37, 38, 39, 40, 41, 42, 43, 44, 45, 46, 47, 48, 49, 50, 51, 52, 53, 54, 55, 56, 57, 58, 59, 60, 61, 62, 63, 64] (by decide +kernel) (by decide +kernel)
set_option maxRecDepth 20000 in
theorem gX12_findPlaces_X12_byteA : GoodIn wsX12_findPlaces (wsV RX12 173 RX12 yX12_byteA wsX12_byteA) := goodIn_app (goodIn_of _ (by decide +kernel)) ggX12_findPlaces_X12_byteA
set_option maxRecDepth 20000 in
theorem ggX12_findPlaces_X12_byteB : GoodIn wsX12_findPlaces wsX12_byteB := goodIn_r _ [31, 8, 32, 33, 34, 35, 36, 37, 38, 39, 40, 41, 42, 43, 44, 45, 46, 47, 48, 49, 50, 51, 52, 53, 54, 55, 56, 57, 58, 59, 60, 61, 62, 63, 64] (by decide +kernel) (by decide +kernel)
set_option maxRecDepth 20000 in
theorem gX12_findPlaces_X12_byteB : GoodIn wsX12_findPlaces (wsV RX12 177 RX12 yX12_byteB wsX12_byteB) := goodIn_app (goodIn_of _ (by decide +kernel)) ggX12_findPlaces_X12_byteB
theorem dX12_findPlaces_0 : decode cX12_findPlaces 0 = .ok (.iconst 0, 1) := by decide +kernel
theorem dX12_findPlaces_1 : decode cX12_findPlaces 1 = .ok (.istore_n 3, 1) := by decide +kernel
theorem dX12_findPlaces_2 : decode cX12_findPlaces 2 = .ok (.iload_n 3, 1) := by decide +kernel
theorem dX12_findPlaces_3 : decode cX12_findPlaces 3 = .ok (.bipush 8, 2) := by decide +kernel
theorem dX12_findPlaces_5 : decode cX12_findPlaces 5 = .ok (.iload_n 2, 1) := by decide +kernel
theorem dX12_findPlaces_6 : decode cX12_findPlaces 6 = .ok (.imul, 1) := by decide +kernel
theorem dX12_findPlaces_7 : decode cX12_findPlaces 7 = .ok (.if_icmp .ge 57, 3) := by decide +kernel
theorem dX12_findPlaces_10 : decode cX12_findPlaces 10 = .ok (.aload_n 0, 1) := by decide +kernel
theorem dX12_findPlaces_11 : decode cX12_findPlaces 11 = .ok (.getfield 57, 3) := by decide +kernel
theorem dX12_findPlaces_14 : decode cX12_findPlaces 14 = .ok (.iload_n 3, 1) := by decide +kernel
theorem dX12_findPlaces_15 : decode cX12_findPlaces 15 = .ok (.aload_n 0, 1) := by decide +kernel
theorem dX12_findPlaces_16 : decode cX12_findPlaces 16 = .ok (.iload_n 1, 1) := by decide +kernel
theorem dX12_findPlaces_17 : decode cX12_findPlaces 17 = .ok (.iload_n 2, 1) := by decide +kernel
theorem dX12_findPlaces_18 : decode cX12_findPlaces 18 = .ok (.iload_n 3, 1) := by decide +kernel
theorem dX12_findPlaces_19 : decode cX12_findPlaces 19 = .ok (.bipush 8, 2) := by decide +kernel
theorem dX12_findPlaces_21 : decode cX12_findPlaces 21 = .ok (.idiv, 1) := by decide +kernel
theorem dX12_findPlaces_22 : decode cX12_findPlaces 22 = .ok (.sipush 128, 3) := by decide +kernel
theorem dX12_findPlaces_25 : decode cX12_findPlaces 25 = .ok (.iload_n 3, 1) := by decide +kernel
theorem dX12_findPlaces_26 : decode cX12_findPlaces 26 = .ok (.bipush 8, 2) := by decide +kernel
theorem dX12_findPlaces_28 : decode cX12_findPlaces 28 = .ok (.irem, 1) := by decide +kernel
theorem dX12_findPlaces_29 : decode cX12_findPlaces 29 = .ok (.ishr, 1) := by decide +kernel
theorem dX12_findPlaces_30 : decode cX12_findPlaces 30 = .ok (.invokevirtual 173, 3) := by decide +kernel
theorem dX12_findPlaces_33 : decode cX12_findPlaces 33 = .ok (.lastore, 1) := by decide +kernel
theorem dX12_findPlaces_34 : decode cX12_findPlaces 34 = .ok (.aload_n 0, 1) := by decide +kernel
theorem dX12_findPlaces_35 : decode cX12_findPlaces 35 = .ok (.getfield 60, 3) := by decide +kernel
theorem dX12_findPlaces_38 : decode cX12_findPlaces 38 = .ok (.iload_n 3, 1) := by decide +kernel
theorem dX12_findPlaces_39 : decode cX12_findPlaces 39 = .ok (.aload_n 0, 1) := by decide +kernel
theorem dX12_findPlaces_40 : decode cX12_findPlaces 40 = .ok (.iload_n 1, 1) := by decide +kernel
theorem dX12_findPlaces_41 : decode cX12_findPlaces 41 = .ok (.iload_n 2, 1) := by decide +kernel
theorem dX12_findPlaces_42 : decode cX12_findPlaces 42 = .ok (.iload_n 3, 1) := by decide +kernel
theorem dX12_findPlaces_43 : decode cX12_findPlaces 43 = .ok (.bipush 8, 2) := by decide +kernel
theorem dX12_findPlaces_45 : decode cX12_findPlaces 45 = .ok (.idiv, 1) := by decide +kernel
theorem dX12_findPlaces_46 : decode cX12_findPlaces 46 = .ok (.sipush 128, 3) := by decide +kernel
theorem dX12_findPlaces_49 : decode cX12_findPlaces 49 = .ok (.iload_n 3, 1) := by decide +kernel
theorem dX12_findPlaces_50 : decode cX12_findPlaces 50 = .ok (.bipush 8, 2) := by decide +kernel
theorem dX12_findPlaces_52 : decode cX12_findPlaces 52 = .ok (.irem, 1) := by decide +kernel
theorem dX12_findPlaces_53 : decode cX12_findPlaces 53 = .ok (.ishr, 1) := by decide +kernel
theorem dX12_findPlaces_54 : decode cX12_findPlaces 54 = .ok (.invokevirtual 177, 3) := by decide +kernel
theorem dX12_findPlaces_57 : decode cX12_findPlaces 57 = .ok (.lastore, 1) := by decide +kernel
theorem dX12_findPlaces_58 : decode cX12_findPlaces 58 = .ok (.iinc 3 1, 3) := by decide +kernel
theorem dX12_findPlaces_61 : decode cX12_findPlaces 61 = .ok (.goto (-59), 3) := by decide +kernel
theorem dX12_findPlaces_64 : decode cX12_findPlaces 64 = .ok (.return_, 1) := by decide +kernel
set_option maxRecDepth 20000 in
theorem ggX12_turn_X12_isXor : GoodIn wsX12_turn wsX12_isXor := goodIn_r _ [9, 10, 11, 12, 13, 14, 15, 16, 17, 18, 19, 20, 21, 22, 23, 24, 25, 26, 27, 28, 29, 30, 31, 32, 33, 34, 35, 36, 37, 38, 39, 40, 41, 42, 43] (by decide +kernel) (by decide +kernel)
set_option maxRecDepth 20000 in
theorem gX12_turn_X12_isXor : GoodIn wsX12_turn (wsV RX12 180 RX12 yX12_isXor wsX12_isXor) := goodIn_app (goodIn_of _ (by decide +kernel)) ggX12_turn_X12_isXor
theorem dX12_turn_0 : decode cX12_turn 0 = .ok (.aload_n 0, 1) := by decide +kernel
theorem dX12_turn_1 : decode cX12_turn 1 = .ok (.iload_n 1, 1) := by decide +kernel
theorem dX12_turn_2 : decode cX12_turn 2 = .ok (.invokevirtual 180, 3) := by decide +kernel
theorem dX12_turn_5 : decode cX12_turn 5 = .ok (.ifCond .eq 21, 3) := by decide +kernel
theorem dX12_turn_8 : decode cX12_turn 8 = .ok (.aload_n 0, 1) := by decide +kernel
theorem dX12_turn_9 : decode cX12_turn 9 = .ok (.aload_n 0, 1) := by decide +kernel
theorem dX12_turn_10 : decode cX12_turn 10 = .ok (.getfield 183, 3) := by decide +kernel
theorem dX12_turn_13 : decode cX12_turn 13 = .ok (.aload_n 0, 1) := by decide +kernel
theorem dX12_turn_14 : decode cX12_turn 14 = .ok (.getfield 57, 3) := by decide +kernel
theorem dX12_turn_17 : decode cX12_turn 17 = .ok (.iload_n 2, 1) := by decide +kernel
theorem dX12_turn_18 : decode cX12_turn 18 = .ok (.laload, 1) := by decide +kernel
theorem dX12_turn_19 : decode cX12_turn 19 = .ok (.lxor, 1) := by decide +kernel
theorem dX12_turn_20 : decode cX12_turn 20 = .ok (.putfield 183, 3) := by decide +kernel
theorem dX12_turn_23 : decode cX12_turn 23 = .ok (.goto 69, 3) := by decide +kernel
theorem dX12_turn_26 : decode cX12_turn 26 = .ok (.aload_n 0, 1) := by decide +kernel
theorem dX12_turn_27 : decode cX12_turn 27 = .ok (.iload_n 3, 1) := by decide +kernel
theorem dX12_turn_28 : decode cX12_turn 28 = .ok (.ifCond .eq 17, 3) := by decide +kernel
theorem dX12_turn_31 : decode cX12_turn 31 = .ok (.aload_n 0, 1) := by decide +kernel
theorem dX12_turn_32 : decode cX12_turn 32 = .ok (.getfield 183, 3) := by decide +kernel
theorem dX12_turn_35 : decode cX12_turn 35 = .ok (.aload_n 0, 1) := by decide +kernel
theorem dX12_turn_36 : decode cX12_turn 36 = .ok (.getfield 57, 3) := by decide +kernel
theorem dX12_turn_39 : decode cX12_turn 39 = .ok (.iload_n 2, 1) := by decide +kernel
theorem dX12_turn_40 : decode cX12_turn 40 = .ok (.laload, 1) := by decide +kernel
theorem dX12_turn_41 : decode cX12_turn 41 = .ok (.lsub, 1) := by decide +kernel
theorem dX12_turn_42 : decode cX12_turn 42 = .ok (.goto 14, 3) := by decide +kernel
theorem dX12_turn_45 : decode cX12_turn 45 = .ok (.aload_n 0, 1) := by decide +kernel
theorem dX12_turn_46 : decode cX12_turn 46 = .ok (.getfield 183, 3) := by decide +kernel
theorem dX12_turn_49 : decode cX12_turn 49 = .ok (.aload_n 0, 1) := by decide +kernel
theorem dX12_turn_50 : decode cX12_turn 50 = .ok (.getfield 57, 3) := by decide +kernel
theorem dX12_turn_53 : decode cX12_turn 53 = .ok (.iload_n 2, 1) := by decide +kernel
theorem dX12_turn_54 : decode cX12_turn 54 = .ok (.laload, 1) := by decide +kernel
theorem dX12_turn_55 : decode cX12_turn 55 = .ok (.ladd, 1) := by decide +kernel
theorem dX12_turn_56 : decode cX12_turn 56 = .ok (.putfield 183, 3) := by decide +kernel
theorem dX12_turn_59 : decode cX12_turn 59 = .ok (.aload_n 0, 1) := by decide +kernel
theorem dX12_turn_60 : decode cX12_turn 60 = .ok (.iload_n 3, 1) := by decide +kernel
theorem dX12_turn_61 : decode cX12_turn 61 = .ok (.ifCond .eq 17, 3) := by decide +kernel
theorem dX12_turn_64 : decode cX12_turn 64 = .ok (.aload_n 0, 1) := by decide +kernel
theorem dX12_turn_65 : decode cX12_turn 65 = .ok (.getfield 187, 3) := by decide +kernel
theorem dX12_turn_68 : decode cX12_turn 68 = .ok (.aload_n 0, 1) := by decide +kernel
theorem dX12_turn_69 : decode cX12_turn 69 = .ok (.getfield 60, 3) := by decide +kernel
theorem dX12_turn_72 : decode cX12_turn 72 = .ok (.iload_n 2, 1) := by decide +kernel
theorem dX12_turn_73 : decode cX12_turn 73 = .ok (.laload, 1) := by decide +kernel
theorem dX12_turn_74 : decode cX12_turn 74 = .ok (.lsub, 1) := by decide +kernel
theorem dX12_turn_75 : decode cX12_turn 75 = .ok (.goto 14, 3) := by decide +kernel
theorem dX12_turn_78 : decode cX12_turn 78 = .ok (.aload_n 0, 1) := by decide +kernel
theorem dX12_turn_79 : decode cX12_turn 79 = .ok (.getfield 187, 3) := by decide +kernel
theorem dX12_turn_82 : decode cX12_turn 82 = .ok (.aload_n 0, 1) := by decide +kernel
theorem dX12_turn_83 : decode cX12_turn 83 = .ok (.getfield 60, 3) := by decide +kernel
theorem dX12_turn_86 : decode cX12_turn 86 = .ok (.iload_n 2, 1) := by decide +kernel
theorem dX12_turn_87 : decode cX12_turn 87 = .ok (.laload, 1) := by decide +kernel
theorem dX12_turn_88 : decode cX12_turn 88 = .ok (.ladd, 1) := by decide +kernel
theorem dX12_turn_89 : decode cX12_turn 89 = .ok (.putfield 187, 3) := by decide +kernel
theorem dX12_turn_92 : decode cX12_turn 92 = .ok (.return_, 1) := by decide +kernel
set_option maxRecDepth 20000 in
theorem ggX12_isNothing_X12_isXor : GoodIn wsX12_isNothing wsX12_isXor := goodIn_r _ [8, 9, 10, 11, 12, 13, 14, 15, 16, 17, 18, 19, 20, 21, 22, 23, 24, 25, 26, 27, 28, 29, 30, 31, 32, 33, 34, 35, 36, 37, 38, 39, 40, 41, 42] (by decide +kernel) (by decide +kernel)
set_option maxRecDepth 20000 in
theorem gX12_isNothing_X12_isXor : GoodIn wsX12_isNothing (wsV RX12 180 RX12 yX12_isXor wsX12_isXor) := goodIn_app (goodIn_of _ (by decide +kernel)) ggX12_isNothing_X12_isXor
theorem dX12_isNothing_0 : decode cX12_isNothing 0 = .ok (.aload_n 0, 1) := by decide +kernel
theorem dX12_isNothing_1 : decode cX12_isNothing 1 = .ok (.iload_n 1, 1) := by decide +kernel
theorem dX12_isNothing_2 : decode cX12_isNothing 2 = .ok (.invokevirtual 180, 3) := by decide +kernel
theorem dX12_isNothing_5 : decode cX12_isNothing 5 = .ok (.ifCond .eq 20, 3) := by decide +kernel
theorem dX12_isNothing_8 : decode cX12_isNothing 8 = .ok (.aload_n 0, 1) := by decide +kernel
theorem dX12_isNothing_9 : decode cX12_isNothing 9 = .ok (.getfield 183, 3) := by decide +kernel
theorem dX12_isNothing_12 : decode cX12_isNothing 12 = .ok (.lconst 0, 1) := by decide +kernel
theorem dX12_isNothing_13 : decode cX12_isNothing 13 = .ok (.lcmp, 1) := by decide +kernel
theorem dX12_isNothing_14 : decode cX12_isNothing 14 = .ok (.ifCond .ne 7, 3) := by decide +kernel
theorem dX12_isNothing_17 : decode cX12_isNothing 17 = .ok (.iconst 1, 1) := by decide +kernel
theorem dX12_isNothing_18 : decode cX12_isNothing 18 = .ok (.goto 46, 3) := by decide +kernel
theorem dX12_isNothing_21 : decode cX12_isNothing 21 = .ok (.iconst 0, 1) := by decide +kernel
theorem dX12_isNothing_22 : decode cX12_isNothing 22 = .ok (.goto 42, 3) := by decide +kernel
theorem dX12_isNothing_25 : decode cX12_isNothing 25 = .ok (.aload_n 0, 1) := by decide +kernel
theorem dX12_isNothing_26 : decode cX12_isNothing 26 = .ok (.getfield 183, 3) := by decide +kernel
theorem dX12_isNothing_29 : decode cX12_isNothing 29 = .ok (.aload_n 0, 1) := by decide +kernel
theorem dX12_isNothing_30 : decode cX12_isNothing 30 = .ok (.getfield 16, 3) := by decide +kernel
theorem dX12_isNothing_33 : decode cX12_isNothing 33 = .ok (.iload_n 1, 1) := by decide +kernel
theorem dX12_isNothing_34 : decode cX12_isNothing 34 = .ok (.iaload, 1) := by decide +kernel
theorem dX12_isNothing_35 : decode cX12_isNothing 35 = .ok (.i2l, 1) := by decide +kernel
theorem dX12_isNothing_36 : decode cX12_isNothing 36 = .ok (.lrem, 1) := by decide +kernel
theorem dX12_isNothing_37 : decode cX12_isNothing 37 = .ok (.lconst 0, 1) := by decide +kernel
theorem dX12_isNothing_38 : decode cX12_isNothing 38 = .ok (.lcmp, 1) := by decide +kernel
theorem dX12_isNothing_39 : decode cX12_isNothing 39 = .ok (.ifCond .ne 24, 3) := by decide +kernel
theorem dX12_isNothing_42 : decode cX12_isNothing 42 = .ok (.aload_n 0, 1) := by decide +kernel
theorem dX12_isNothing_43 : decode cX12_isNothing 43 = .ok (.getfield 187, 3) := by decide +kernel
theorem dX12_isNothing_46 : decode cX12_isNothing 46 = .ok (.aload_n 0, 1) := by decide +kernel
theorem dX12_isNothing_47 : decode cX12_isNothing 47 = .ok (.getfield 16, 3) := by decide +kernel
theorem dX12_isNothing_50 : decode cX12_isNothing 50 = .ok (.iload_n 1, 1) := by decide +kernel
theorem dX12_isNothing_51 : decode cX12_isNothing 51 = .ok (.iaload, 1) := by decide +kernel
theorem dX12_isNothing_52 : decode cX12_isNothing 52 = .ok (.i2l, 1) := by decide +kernel
theorem dX12_isNothing_53 : decode cX12_isNothing 53 = .ok (.lrem, 1) := by decide +kernel
theorem dX12_isNothing_54 : decode cX12_isNothing 54 = .ok (.lconst 0, 1) := by decide +kernel
theorem dX12_isNothing_55 : decode cX12_isNothing 55 = .ok (.lcmp, 1) := by decide +kernel
theorem dX12_isNothing_56 : decode cX12_isNothing 56 = .ok (.ifCond .ne 7, 3) := by decide +kernel
theorem dX12_isNothing_59 : decode cX12_isNothing 59 = .ok (.iconst 1, 1) := by decide +kernel
theorem dX12_isNothing_60 : decode cX12_isNothing 60 = .ok (.goto 4, 3) := by decide +kernel
theorem dX12_isNothing_63 : decode cX12_isNothing 63 = .ok (.iconst 0, 1) := by decide +kernel
theorem dX12_isNothing_64 : decode cX12_isNothing 64 = .ok (.ireturn, 1) := by decide +kernel
theorem dX12_beginKept_0 : decode cX12_beginKept 0 = .ok (.aload_n 0, 1) := by decide +kernel
theorem dX12_beginKept_1 : decode cX12_beginKept 1 = .ok (.iload_n 1, 1) := by decide +kernel
theorem dX12_beginKept_2 : decode cX12_beginKept 2 = .ok (.putfield 190, 3) := by decide +kernel
theorem dX12_beginKept_5 : decode cX12_beginKept 5 = .ok (.iconst 0, 1) := by decide +kernel
theorem dX12_beginKept_6 : decode cX12_beginKept 6 = .ok (.istore_n 2, 1) := by decide +kernel
theorem dX12_beginKept_7 : decode cX12_beginKept 7 = .ok (.iload_n 2, 1) := by decide +kernel
theorem dX12_beginKept_8 : decode cX12_beginKept 8 = .ok (.bipush 8, 2) := by decide +kernel
theorem dX12_beginKept_10 : decode cX12_beginKept 10 = .ok (.if_icmp .ge 23, 3) := by decide +kernel
theorem dX12_beginKept_13 : decode cX12_beginKept 13 = .ok (.aload_n 0, 1) := by decide +kernel
theorem dX12_beginKept_14 : decode cX12_beginKept 14 = .ok (.getfield 51, 3) := by decide +kernel
theorem dX12_beginKept_17 : decode cX12_beginKept 17 = .ok (.iload_n 2, 1) := by decide +kernel
theorem dX12_beginKept_18 : decode cX12_beginKept 18 = .ok (.iconst 0, 1) := by decide +kernel
theorem dX12_beginKept_19 : decode cX12_beginKept 19 = .ok (.iastore, 1) := by decide +kernel
theorem dX12_beginKept_20 : decode cX12_beginKept 20 = .ok (.aload_n 0, 1) := by decide +kernel
theorem dX12_beginKept_21 : decode cX12_beginKept 21 = .ok (.getfield 54, 3) := by decide +kernel
theorem dX12_beginKept_24 : decode cX12_beginKept 24 = .ok (.iload_n 2, 1) := by decide +kernel
theorem dX12_beginKept_25 : decode cX12_beginKept 25 = .ok (.iconst 0, 1) := by decide +kernel
theorem dX12_beginKept_26 : decode cX12_beginKept 26 = .ok (.iastore, 1) := by decide +kernel
theorem dX12_beginKept_27 : decode cX12_beginKept 27 = .ok (.iinc 2 1, 3) := by decide +kernel
theorem dX12_beginKept_30 : decode cX12_beginKept 30 = .ok (.goto (-23), 3) := by decide +kernel
theorem dX12_beginKept_33 : decode cX12_beginKept 33 = .ok (.return_, 1) := by decide +kernel
set_option maxRecDepth 20000 in
theorem ggX12_passesTurned_X12_turn : GoodIn wsX12_passesTurned wsX12_turn := goodIn_r _ [11, 2, 12, 3, 13, 14, 15, 16, 10, 17, 18, 29, 30, 31, 32, 33, 34, 35, 36, 37, 38, 39, 40, 41, 42, 43, 44, 45, 46, 47, 48, 49, 50, 51, 52, 53, 54, 55, 56, 57, 58, 59, 60, 61] (by decide +kernel) (by decide +kernel)
set_option maxRecDepth 20000 in
theorem gX12_passesTurned_X12_turn : GoodIn wsX12_passesTurned (wsV RX12 196 RX12 yX12_turn wsX12_turn) := goodIn_app (goodIn_of _ (by decide +kernel)) ggX12_passesTurned_X12_turn
set_option maxRecDepth 20000 in
theorem ggX12_passesTurned_X12_isNothing : GoodIn wsX12_passesTurned wsX12_isNothing := goodIn_r _ [22, 2, 23, 3, 14, 15, 16, 10, 17, 18, 29, 30, 31, 32, 33, 34, 35, 36, 37, 38, 39, 40, 41, 42, 43, 44, 45, 46, 47, 48, 49, 50, 51, 52, 53, 54, 55, 56, 57, 58, 59, 60, 61] (by decide +kernel) (by decide +kernel)
set_option maxRecDepth 20000 in
theorem gX12_passesTurned_X12_isNothing : GoodIn wsX12_passesTurned (wsV RX12 200 RX12 yX12_isNothing wsX12_isNothing) := goodIn_app (goodIn_of _ (by decide +kernel)) ggX12_passesTurned_X12_isNothing
set_option maxRecDepth 20000 in
theorem ggX12_passesTurned_X12_beginKept : GoodIn wsX12_passesTurned wsX12_beginKept := goodIn_r _ [27, 28, 5, 6, 29, 30, 31, 32, 33, 34, 35, 36, 37, 38, 39, 40, 41, 42, 43, 44, 45, 46, 47, 48, 49, 50, 51, 52, 53, 54, 55, 56, 57, 58, 59, 60, 61] (by decide +kernel) (by decide +kernel)
set_option maxRecDepth 20000 in
theorem gX12_passesTurned_X12_beginKept : GoodIn wsX12_passesTurned (wsV RX12 203 RX12 yX12_beginKept wsX12_beginKept) := goodIn_app (goodIn_of _ (by decide +kernel)) ggX12_passesTurned_X12_beginKept
set_option maxRecDepth 20000 in
theorem ggX12_passesTurned_X12_isXor : GoodIn wsX12_passesTurned wsX12_isXor := goodIn_r _ [17, 18, 29, 30, 31, 32, 33, 34, 35, 36, 37, 38, 39, 40, 41, 42, 43, 44, 45, 46, 47, 48, 49, 50, 51, 52, 53, 54, 55, 56, 57, 58, 59, 60, 61] (by decide +kernel) (by decide +kernel)
set_option maxRecDepth 20000 in
theorem gX12_passesTurned_X12_isXor : GoodIn wsX12_passesTurned (wsV RX12 180 RX12 yX12_isXor wsX12_isXor) := goodIn_app (goodIn_of _ (by decide +kernel)) ggX12_passesTurned_X12_isXor
theorem dX12_passesTurned_0 : decode cX12_passesTurned 0 = .ok (.iconst 0, 1) := by decide +kernel
theorem dX12_passesTurned_1 : decode cX12_passesTurned 1 = .ok (.istore_n 3, 1) := by decide +kernel
theorem dX12_passesTurned_2 : decode cX12_passesTurned 2 = .ok (.iload_n 3, 1) := by decide +kernel
theorem dX12_passesTurned_3 : decode cX12_passesTurned 3 = .ok (.iconst 1, 1) := by decide +kernel
theorem dX12_passesTurned_4 : decode cX12_passesTurned 4 = .ok (.aload_n 0, 1) := by decide +kernel
theorem dX12_passesTurned_5 : decode cX12_passesTurned 5 = .ok (.getfield 193, 3) := by decide +kernel
theorem dX12_passesTurned_8 : decode cX12_passesTurned 8 = .ok (.ishl, 1) := by decide +kernel
theorem dX12_passesTurned_9 : decode cX12_passesTurned 9 = .ok (.if_icmp .ge 212, 3) := by decide +kernel
theorem dX12_passesTurned_12 : decode cX12_passesTurned 12 = .ok (.aload_n 0, 1) := by decide +kernel
theorem dX12_passesTurned_13 : decode cX12_passesTurned 13 = .ok (.lconst 0, 1) := by decide +kernel
theorem dX12_passesTurned_14 : decode cX12_passesTurned 14 = .ok (.putfield 183, 3) := by decide +kernel
theorem dX12_passesTurned_17 : decode cX12_passesTurned 17 = .ok (.aload_n 0, 1) := by decide +kernel
theorem dX12_passesTurned_18 : decode cX12_passesTurned 18 = .ok (.lconst 0, 1) := by decide +kernel
theorem dX12_passesTurned_19 : decode cX12_passesTurned 19 = .ok (.putfield 187, 3) := by decide +kernel
theorem dX12_passesTurned_22 : decode cX12_passesTurned 22 = .ok (.iconst 0, 1) := by decide +kernel
theorem dX12_passesTurned_23 : decode cX12_passesTurned 23 = .ok (.istore 4, 2) := by decide +kernel
theorem dX12_passesTurned_25 : decode cX12_passesTurned 25 = .ok (.iload 4, 2) := by decide +kernel
theorem dX12_passesTurned_27 : decode cX12_passesTurned 27 = .ok (.aload_n 0, 1) := by decide +kernel
theorem dX12_passesTurned_28 : decode cX12_passesTurned 28 = .ok (.getfield 193, 3) := by decide +kernel
theorem dX12_passesTurned_31 : decode cX12_passesTurned 31 = .ok (.if_icmp .ge 43, 3) := by decide +kernel
theorem dX12_passesTurned_34 : decode cX12_passesTurned 34 = .ok (.aload_n 0, 1) := by decide +kernel
theorem dX12_passesTurned_35 : decode cX12_passesTurned 35 = .ok (.iload_n 1, 1) := by decide +kernel
theorem dX12_passesTurned_36 : decode cX12_passesTurned 36 = .ok (.aload_n 0, 1) := by decide +kernel
theorem dX12_passesTurned_37 : decode cX12_passesTurned 37 = .ok (.getfield 63, 3) := by decide +kernel
theorem dX12_passesTurned_40 : decode cX12_passesTurned 40 = .ok (.iload 4, 2) := by decide +kernel
theorem dX12_passesTurned_42 : decode cX12_passesTurned 42 = .ok (.iaload, 1) := by decide +kernel
theorem dX12_passesTurned_43 : decode cX12_passesTurned 43 = .ok (.iload_n 3, 1) := by decide +kernel
theorem dX12_passesTurned_44 : decode cX12_passesTurned 44 = .ok (.aload_n 0, 1) := by decide +kernel
theorem dX12_passesTurned_45 : decode cX12_passesTurned 45 = .ok (.getfield 193, 3) := by decide +kernel
theorem dX12_passesTurned_48 : decode cX12_passesTurned 48 = .ok (.iconst 1, 1) := by decide +kernel
theorem dX12_passesTurned_49 : decode cX12_passesTurned 49 = .ok (.isub, 1) := by decide +kernel
theorem dX12_passesTurned_50 : decode cX12_passesTurned 50 = .ok (.iload 4, 2) := by decide +kernel
theorem dX12_passesTurned_52 : decode cX12_passesTurned 52 = .ok (.isub, 1) := by decide +kernel
theorem dX12_passesTurned_53 : decode cX12_passesTurned 53 = .ok (.ishr, 1) := by decide +kernel
theorem dX12_passesTurned_54 : decode cX12_passesTurned 54 = .ok (.iconst 1, 1) := by decide +kernel
theorem dX12_passesTurned_55 : decode cX12_passesTurned 55 = .ok (.iand, 1) := by decide +kernel
theorem dX12_passesTurned_56 : decode cX12_passesTurned 56 = .ok (.iconst 1, 1) := by decide +kernel
theorem dX12_passesTurned_57 : decode cX12_passesTurned 57 = .ok (.if_icmp .ne 7, 3) := by decide +kernel
theorem dX12_passesTurned_60 : decode cX12_passesTurned 60 = .ok (.iconst 1, 1) := by decide +kernel
theorem dX12_passesTurned_61 : decode cX12_passesTurned 61 = .ok (.goto 4, 3) := by decide +kernel
theorem dX12_passesTurned_64 : decode cX12_passesTurned 64 = .ok (.iconst 0, 1) := by decide +kernel
theorem dX12_passesTurned_65 : decode cX12_passesTurned 65 = .ok (.invokevirtual 196, 3) := by decide +kernel
theorem dX12_passesTurned_68 : decode cX12_passesTurned 68 = .ok (.iinc 4 1, 3) := by decide +kernel
theorem dX12_passesTurned_71 : decode cX12_passesTurned 71 = .ok (.goto (-46), 3) := by decide +kernel
theorem dX12_passesTurned_74 : decode cX12_passesTurned 74 = .ok (.aload_n 0, 1) := by decide +kernel
theorem dX12_passesTurned_75 : decode cX12_passesTurned 75 = .ok (.iload_n 1, 1) := by decide +kernel
theorem dX12_passesTurned_76 : decode cX12_passesTurned 76 = .ok (.invokevirtual 200, 3) := by decide +kernel
theorem dX12_passesTurned_79 : decode cX12_passesTurned 79 = .ok (.ifCond .eq 126, 3) := by decide +kernel
theorem dX12_passesTurned_82 : decode cX12_passesTurned 82 = .ok (.aload_n 0, 1) := by decide +kernel
theorem dX12_passesTurned_83 : decode cX12_passesTurned 83 = .ok (.iload_n 2, 1) := by decide +kernel
theorem dX12_passesTurned_84 : decode cX12_passesTurned 84 = .ok (.invokevirtual 203, 3) := by decide +kernel
theorem dX12_passesTurned_87 : decode cX12_passesTurned 87 = .ok (.iconst 0, 1) := by decide +kernel
theorem dX12_passesTurned_88 : decode cX12_passesTurned 88 = .ok (.istore 4, 2) := by decide +kernel
theorem dX12_passesTurned_90 : decode cX12_passesTurned 90 = .ok (.iload 4, 2) := by decide +kernel
theorem dX12_passesTurned_92 : decode cX12_passesTurned 92 = .ok (.aload_n 0, 1) := by decide +kernel
theorem dX12_passesTurned_93 : decode cX12_passesTurned 93 = .ok (.getfield 193, 3) := by decide +kernel
theorem dX12_passesTurned_96 : decode cX12_passesTurned 96 = .ok (.if_icmp .ge 107, 3) := by decide +kernel
theorem dX12_passesTurned_99 : decode cX12_passesTurned 99 = .ok (.sipush 128, 3) := by decide +kernel
theorem dX12_passesTurned_102 : decode cX12_passesTurned 102 = .ok (.aload_n 0, 1) := by decide +kernel
theorem dX12_passesTurned_103 : decode cX12_passesTurned 103 = .ok (.getfield 63, 3) := by decide +kernel
theorem dX12_passesTurned_106 : decode cX12_passesTurned 106 = .ok (.iload 4, 2) := by decide +kernel
theorem dX12_passesTurned_108 : decode cX12_passesTurned 108 = .ok (.iaload, 1) := by decide +kernel
theorem dX12_passesTurned_109 : decode cX12_passesTurned 109 = .ok (.bipush 8, 2) := by decide +kernel
theorem dX12_passesTurned_111 : decode cX12_passesTurned 111 = .ok (.irem, 1) := by decide +kernel
theorem dX12_passesTurned_112 : decode cX12_passesTurned 112 = .ok (.ishr, 1) := by decide +kernel
theorem dX12_passesTurned_113 : decode cX12_passesTurned 113 = .ok (.istore 5, 2) := by decide +kernel
theorem dX12_passesTurned_115 : decode cX12_passesTurned 115 = .ok (.iload_n 3, 1) := by decide +kernel
theorem dX12_passesTurned_116 : decode cX12_passesTurned 116 = .ok (.aload_n 0, 1) := by decide +kernel
theorem dX12_passesTurned_117 : decode cX12_passesTurned 117 = .ok (.getfield 193, 3) := by decide +kernel
theorem dX12_passesTurned_120 : decode cX12_passesTurned 120 = .ok (.iconst 1, 1) := by decide +kernel
theorem dX12_passesTurned_121 : decode cX12_passesTurned 121 = .ok (.isub, 1) := by decide +kernel
theorem dX12_passesTurned_122 : decode cX12_passesTurned 122 = .ok (.iload 4, 2) := by decide +kernel
theorem dX12_passesTurned_124 : decode cX12_passesTurned 124 = .ok (.isub, 1) := by decide +kernel
theorem dX12_passesTurned_125 : decode cX12_passesTurned 125 = .ok (.ishr, 1) := by decide +kernel
theorem dX12_passesTurned_126 : decode cX12_passesTurned 126 = .ok (.iconst 1, 1) := by decide +kernel
theorem dX12_passesTurned_127 : decode cX12_passesTurned 127 = .ok (.iand, 1) := by decide +kernel
theorem dX12_passesTurned_128 : decode cX12_passesTurned 128 = .ok (.iconst 1, 1) := by decide +kernel
theorem dX12_passesTurned_129 : decode cX12_passesTurned 129 = .ok (.if_icmp .ne 7, 3) := by decide +kernel
theorem dX12_passesTurned_132 : decode cX12_passesTurned 132 = .ok (.iconst 1, 1) := by decide +kernel
theorem dX12_passesTurned_133 : decode cX12_passesTurned 133 = .ok (.goto 4, 3) := by decide +kernel
theorem dX12_passesTurned_136 : decode cX12_passesTurned 136 = .ok (.iconst 0, 1) := by decide +kernel
theorem dX12_passesTurned_137 : decode cX12_passesTurned 137 = .ok (.istore 6, 2) := by decide +kernel
theorem dX12_passesTurned_139 : decode cX12_passesTurned 139 = .ok (.aload_n 0, 1) := by decide +kernel
theorem dX12_passesTurned_140 : decode cX12_passesTurned 140 = .ok (.getfield 51, 3) := by decide +kernel
theorem dX12_passesTurned_143 : decode cX12_passesTurned 143 = .ok (.aload_n 0, 1) := by decide +kernel
theorem dX12_passesTurned_144 : decode cX12_passesTurned 144 = .ok (.getfield 63, 3) := by decide +kernel
theorem dX12_passesTurned_147 : decode cX12_passesTurned 147 = .ok (.iload 4, 2) := by decide +kernel
theorem dX12_passesTurned_149 : decode cX12_passesTurned 149 = .ok (.iaload, 1) := by decide +kernel
theorem dX12_passesTurned_150 : decode cX12_passesTurned 150 = .ok (.bipush 8, 2) := by decide +kernel
theorem dX12_passesTurned_152 : decode cX12_passesTurned 152 = .ok (.idiv, 1) := by decide +kernel
theorem dX12_passesTurned_153 : decode cX12_passesTurned 153 = .ok (.dup2, 1) := by decide +kernel
theorem dX12_passesTurned_154 : decode cX12_passesTurned 154 = .ok (.iaload, 1) := by decide +kernel
theorem dX12_passesTurned_155 : decode cX12_passesTurned 155 = .ok (.iload 6, 2) := by decide +kernel
theorem dX12_passesTurned_157 : decode cX12_passesTurned 157 = .ok (.ifCond .eq 8, 3) := by decide +kernel
theorem dX12_passesTurned_160 : decode cX12_passesTurned 160 = .ok (.iload 5, 2) := by decide +kernel
theorem dX12_passesTurned_162 : decode cX12_passesTurned 162 = .ok (.goto 4, 3) := by decide +kernel
theorem dX12_passesTurned_165 : decode cX12_passesTurned 165 = .ok (.iconst 0, 1) := by decide +kernel
theorem dX12_passesTurned_166 : decode cX12_passesTurned 166 = .ok (.ior, 1) := by decide +kernel
theorem dX12_passesTurned_167 : decode cX12_passesTurned 167 = .ok (.iastore, 1) := by decide +kernel
theorem dX12_passesTurned_168 : decode cX12_passesTurned 168 = .ok (.aload_n 0, 1) := by decide +kernel
theorem dX12_passesTurned_169 : decode cX12_passesTurned 169 = .ok (.getfield 54, 3) := by decide +kernel
theorem dX12_passesTurned_172 : decode cX12_passesTurned 172 = .ok (.aload_n 0, 1) := by decide +kernel
