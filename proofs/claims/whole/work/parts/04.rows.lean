theorem dX10_canDropFirst_10 : decode cX10_canDropFirst 10 = .ok (.goto 4, 3) := by decide +kernel
theorem dX10_canDropFirst_13 : decode cX10_canDropFirst 13 = .ok (.iconst 0, 1) := by decide +kernel
theorem dX10_canDropFirst_14 : decode cX10_canDropFirst 14 = .ok (.ireturn, 1) := by decide +kernel
set_option maxRecDepth 20000 in
theorem ggX11_init_X4_init : GoodIn wsX11_init wsX4_init := goodIn_r _ [28, 29, 2, 3, 30, 31, 32, 7, 33, 34, 35, 36, 37, 76, 77, 78, 79, 80, 81, 82] (by decide +kernel) (by decide +kernel)
set_option maxRecDepth 20000 in
theorem gX11_init_X4_init_n37 : GoodIn wsX11_init (wsX4_init) := ggX11_init_X4_init
set_option maxRecDepth 20000 in
theorem ggX11_init_X3_init : GoodIn wsX11_init wsX3_init := goodIn_r _ [39, 40, 2, 3, 30, 41, 42, 43, 44, 45, 46, 47, 48, 49, 7, 50, 51, 52, 53, 54, 83, 84, 85, 92, 93, 94, 95, 96] (by decide +kernel) (by decide +kernel)
set_option maxRecDepth 20000 in
theorem gX11_init_X3_init_n44 : GoodIn wsX11_init (wsX3_init) := ggX11_init_X3_init
set_option maxRecDepth 20000 in
theorem ggX11_init_X0_init : GoodIn wsX11_init wsX0_init := goodIn_r _ [56, 57, 2, 3, 7, 58, 59, 60, 61, 62, 30, 63, 86, 87, 88, 89, 90, 91] (by decide +kernel) (by decide +kernel)
set_option maxRecDepth 20000 in
theorem gX11_init_X0_init_n57 : GoodIn wsX11_init (wsX0_init) := ggX11_init_X0_init
theorem dX11_init_0 : decode cX11_init 0 = .ok (.aload_n 0, 1) := by decide +kernel
theorem dX11_init_1 : decode cX11_init 1 = .ok (.invokespecial 3, 3) := by decide +kernel
theorem dX11_init_4 : decode cX11_init 4 = .ok (.aload_n 0, 1) := by decide +kernel
theorem dX11_init_5 : decode cX11_init 5 = .ok (.bipush 16, 2) := by decide +kernel
theorem dX11_init_7 : decode cX11_init 7 = .ok (.anewarray 9, 3) := by decide +kernel
theorem dX11_init_10 : decode cX11_init 10 = .ok (.putfield 11, 3) := by decide +kernel
theorem dX11_init_13 : decode cX11_init 13 = .ok (.aload_n 0, 1) := by decide +kernel
theorem dX11_init_14 : decode cX11_init 14 = .ok (.iconst 0, 1) := by decide +kernel
theorem dX11_init_15 : decode cX11_init 15 = .ok (.putfield 15, 3) := by decide +kernel
theorem dX11_init_18 : decode cX11_init 18 = .ok (.aload_n 0, 1) := by decide +kernel
theorem dX11_init_19 : decode cX11_init 19 = .ok (.bipush 100, 2) := by decide +kernel
theorem dX11_init_21 : decode cX11_init 21 = .ok (.newarray .int, 2) := by decide +kernel
theorem dX11_init_23 : decode cX11_init 23 = .ok (.putfield 19, 3) := by decide +kernel
theorem dX11_init_26 : decode cX11_init 26 = .ok (.aload_n 0, 1) := by decide +kernel
theorem dX11_init_27 : decode cX11_init 27 = .ok (.iconst 0, 1) := by decide +kernel
theorem dX11_init_28 : decode cX11_init 28 = .ok (.putfield 23, 3) := by decide +kernel
theorem dX11_init_31 : decode cX11_init 31 = .ok (.aload_n 0, 1) := by decide +kernel
theorem dX11_init_32 : decode cX11_init 32 = .ok (.bipush 64, 2) := by decide +kernel
theorem dX11_init_34 : decode cX11_init 34 = .ok (.newarray .int, 2) := by decide +kernel
theorem dX11_init_36 : decode cX11_init 36 = .ok (.putfield 26, 3) := by decide +kernel
theorem dX11_init_39 : decode cX11_init 39 = .ok (.aload_n 0, 1) := by decide +kernel
theorem dX11_init_40 : decode cX11_init 40 = .ok (.iconst 0, 1) := by decide +kernel
theorem dX11_init_41 : decode cX11_init 41 = .ok (.putfield 29, 3) := by decide +kernel
theorem dX11_init_44 : decode cX11_init 44 = .ok (.aload_n 0, 1) := by decide +kernel
theorem dX11_init_45 : decode cX11_init 45 = .ok (.bipush 7, 2) := by decide +kernel
theorem dX11_init_47 : decode cX11_init 47 = .ok (.newarray .int, 2) := by decide +kernel
theorem dX11_init_49 : decode cX11_init 49 = .ok (.putfield 32, 3) := by decide +kernel
theorem dX11_init_52 : decode cX11_init 52 = .ok (.aload_n 0, 1) := by decide +kernel
theorem dX11_init_53 : decode cX11_init 53 = .ok (.new 35, 3) := by decide +kernel
theorem dX11_init_56 : decode cX11_init 56 = .ok (.dup, 1) := by decide +kernel
theorem dX11_init_57 : decode cX11_init 57 = .ok (.invokespecial 37, 3) := by decide +kernel
theorem dX11_init_60 : decode cX11_init 60 = .ok (.putfield 38, 3) := by decide +kernel
theorem dX11_init_63 : decode cX11_init 63 = .ok (.aload_n 0, 1) := by decide +kernel
theorem dX11_init_64 : decode cX11_init 64 = .ok (.new 42, 3) := by decide +kernel
theorem dX11_init_67 : decode cX11_init 67 = .ok (.dup, 1) := by decide +kernel
theorem dX11_init_68 : decode cX11_init 68 = .ok (.invokespecial 44, 3) := by decide +kernel
theorem dX11_init_71 : decode cX11_init 71 = .ok (.putfield 45, 3) := by decide +kernel
theorem dX11_init_74 : decode cX11_init 74 = .ok (.aload_n 0, 1) := by decide +kernel
theorem dX11_init_75 : decode cX11_init 75 = .ok (.iconst 4, 1) := by decide +kernel
theorem dX11_init_76 : decode cX11_init 76 = .ok (.newarray .int, 2) := by decide +kernel
theorem dX11_init_78 : decode cX11_init 78 = .ok (.putfield 49, 3) := by decide +kernel
theorem dX11_init_81 : decode cX11_init 81 = .ok (.aload_n 0, 1) := by decide +kernel
theorem dX11_init_82 : decode cX11_init 82 = .ok (.iconst 0, 1) := by decide +kernel
theorem dX11_init_83 : decode cX11_init 83 = .ok (.putfield 52, 3) := by decide +kernel
theorem dX11_init_86 : decode cX11_init 86 = .ok (.aload_n 0, 1) := by decide +kernel
theorem dX11_init_87 : decode cX11_init 87 = .ok (.new 55, 3) := by decide +kernel
theorem dX11_init_90 : decode cX11_init 90 = .ok (.dup, 1) := by decide +kernel
theorem dX11_init_91 : decode cX11_init 91 = .ok (.invokespecial 57, 3) := by decide +kernel
theorem dX11_init_94 : decode cX11_init 94 = .ok (.putfield 58, 3) := by decide +kernel
theorem dX11_init_97 : decode cX11_init 97 = .ok (.return_, 1) := by decide +kernel
set_option maxRecDepth 20000 in
theorem ggX11_tell_X11_within : GoodIn wsX11_tell wsX11_within := goodIn_r _ [7] (by decide +kernel) (by decide +kernel)
set_option maxRecDepth 20000 in
theorem gX11_tell_X11_within : GoodIn wsX11_tell (va_wsS RX11 63 yX11_within wsX11_within) := goodIn_app (goodIn_of _ (by decide +kernel)) ggX11_tell_X11_within
theorem dX11_tell_0 : decode cX11_tell 0 = .ok (.iload_n 1, 1) := by decide +kernel
theorem dX11_tell_1 : decode cX11_tell 1 = .ok (.iconst 0, 1) := by decide +kernel
theorem dX11_tell_2 : decode cX11_tell 2 = .ok (.ldc 62, 2) := by decide +kernel
theorem dX11_tell_4 : decode cX11_tell 4 = .ok (.invokestatic 63, 3) := by decide +kernel
theorem dX11_tell_7 : decode cX11_tell 7 = .ok (.ifCond .ne 6, 3) := by decide +kernel
theorem dX11_tell_10 : decode cX11_tell 10 = .ok (.bipush (-3), 2) := by decide +kernel
theorem dX11_tell_12 : decode cX11_tell 12 = .ok (.ireturn, 1) := by decide +kernel
theorem dX11_tell_13 : decode cX11_tell 13 = .ok (.aload_n 0, 1) := by decide +kernel
theorem dX11_tell_14 : decode cX11_tell 14 = .ok (.getfield 23, 3) := by decide +kernel
theorem dX11_tell_17 : decode cX11_tell 17 = .ok (.bipush 100, 2) := by decide +kernel
theorem dX11_tell_19 : decode cX11_tell 19 = .ok (.if_icmp .lt 6, 3) := by decide +kernel
theorem dX11_tell_22 : decode cX11_tell 22 = .ok (.bipush (-6), 2) := by decide +kernel
theorem dX11_tell_24 : decode cX11_tell 24 = .ok (.ireturn, 1) := by decide +kernel
theorem dX11_tell_25 : decode cX11_tell 25 = .ok (.aload_n 0, 1) := by decide +kernel
theorem dX11_tell_26 : decode cX11_tell 26 = .ok (.getfield 19, 3) := by decide +kernel
theorem dX11_tell_29 : decode cX11_tell 29 = .ok (.aload_n 0, 1) := by decide +kernel
theorem dX11_tell_30 : decode cX11_tell 30 = .ok (.getfield 23, 3) := by decide +kernel
theorem dX11_tell_33 : decode cX11_tell 33 = .ok (.iload_n 1, 1) := by decide +kernel
theorem dX11_tell_34 : decode cX11_tell 34 = .ok (.iastore, 1) := by decide +kernel
theorem dX11_tell_35 : decode cX11_tell 35 = .ok (.aload_n 0, 1) := by decide +kernel
theorem dX11_tell_36 : decode cX11_tell 36 = .ok (.dup, 1) := by decide +kernel
theorem dX11_tell_37 : decode cX11_tell 37 = .ok (.getfield 23, 3) := by decide +kernel
theorem dX11_tell_40 : decode cX11_tell 40 = .ok (.iconst 1, 1) := by decide +kernel
theorem dX11_tell_41 : decode cX11_tell 41 = .ok (.iadd, 1) := by decide +kernel
theorem dX11_tell_42 : decode cX11_tell 42 = .ok (.putfield 23, 3) := by decide +kernel
theorem dX11_tell_45 : decode cX11_tell 45 = .ok (.aload_n 0, 1) := by decide +kernel
theorem dX11_tell_46 : decode cX11_tell 46 = .ok (.getfield 23, 3) := by decide +kernel
theorem dX11_tell_49 : decode cX11_tell 49 = .ok (.ireturn, 1) := by decide +kernel
theorem dX11_untell_0 : decode cX11_untell 0 = .ok (.aload_n 0, 1) := by decide +kernel
theorem dX11_untell_1 : decode cX11_untell 1 = .ok (.getfield 23, 3) := by decide +kernel
theorem dX11_untell_4 : decode cX11_untell 4 = .ok (.istore_n 1, 1) := by decide +kernel
theorem dX11_untell_5 : decode cX11_untell 5 = .ok (.aload_n 0, 1) := by decide +kernel
theorem dX11_untell_6 : decode cX11_untell 6 = .ok (.iconst 0, 1) := by decide +kernel
theorem dX11_untell_7 : decode cX11_untell 7 = .ok (.putfield 23, 3) := by decide +kernel
theorem dX11_untell_10 : decode cX11_untell 10 = .ok (.iload_n 1, 1) := by decide +kernel
theorem dX11_untell_11 : decode cX11_untell 11 = .ok (.ireturn, 1) := by decide +kernel
set_option maxRecDepth 20000 in
theorem ggX11_plain_X11_isModulus : GoodIn wsX11_plain wsX11_isModulus := goodIn_r _ [8, 9, 10, 11, 7, 12] (by decide +kernel) (by decide +kernel)
set_option maxRecDepth 20000 in
theorem gX11_plain_X11_isModulus : GoodIn wsX11_plain (va_wsS RX11 67 yX11_isModulus wsX11_isModulus) := goodIn_app (goodIn_of _ (by decide +kernel)) ggX11_plain_X11_isModulus
set_option maxRecDepth 20000 in
theorem ggX11_plain_X11_isFull : GoodIn wsX11_plain wsX11_isFull := goodIn_r _ [16, 17, 43, 44, 45, 46, 47, 48, 49, 50, 51, 52, 53, 54] (by decide +kernel) (by decide +kernel)
set_option maxRecDepth 20000 in
theorem gX11_plain_X11_isFull : GoodIn wsX11_plain (wsV RX11 71 RX11 yX11_isFull wsX11_isFull) := goodIn_app (goodIn_of _ (by decide +kernel)) ggX11_plain_X11_isFull
set_option maxRecDepth 20000 in
theorem ggX11_plain_X10_init : GoodIn wsX11_plain wsX10_init := goodIn_r _ [20, 21, 22, 23, 24, 25, 26, 27, 28, 29, 30, 31, 32, 33, 34, 40, 41, 42, 55, 56, 57, 58, 59, 60, 61, 62, 63, 64, 65, 66, 67, 68] (by decide +kernel) (by decide +kernel)
set_option maxRecDepth 20000 in
theorem gX11_plain_X10_init : GoodIn wsX11_plain (wsX10_init) := ggX11_plain_X10_init
set_option maxRecDepth 20000 in
theorem ggX11_plain_X11_keepSum : GoodIn wsX11_plain wsX11_keepSum := goodIn_r _ [38, 17, 39, 43, 44, 45, 46, 47, 48, 49, 50, 51, 52, 53, 54] (by decide +kernel) (by decide +kernel)
set_option maxRecDepth 20000 in
theorem gX11_plain_X11_keepSum : GoodIn wsX11_plain (wsV RX11 83 RX11 yX11_keepSum wsX11_keepSum) := goodIn_app (goodIn_of _ (by decide +kernel)) ggX11_plain_X11_keepSum
theorem dX11_plain_0 : decode cX11_plain 0 = .ok (.iload_n 1, 1) := by decide +kernel
theorem dX11_plain_1 : decode cX11_plain 1 = .ok (.invokestatic 67, 3) := by decide +kernel
theorem dX11_plain_4 : decode cX11_plain 4 = .ok (.ifCond .ne 6, 3) := by decide +kernel
theorem dX11_plain_7 : decode cX11_plain 7 = .ok (.bipush (-3), 2) := by decide +kernel
theorem dX11_plain_9 : decode cX11_plain 9 = .ok (.ireturn, 1) := by decide +kernel
theorem dX11_plain_10 : decode cX11_plain 10 = .ok (.aload_n 0, 1) := by decide +kernel
theorem dX11_plain_11 : decode cX11_plain 11 = .ok (.invokevirtual 71, 3) := by decide +kernel
theorem dX11_plain_14 : decode cX11_plain 14 = .ok (.ifCond .eq 8, 3) := by decide +kernel
theorem dX11_plain_17 : decode cX11_plain 17 = .ok (.bipush (-6), 2) := by decide +kernel
theorem dX11_plain_19 : decode cX11_plain 19 = .ok (.goto 19, 3) := by decide +kernel
theorem dX11_plain_22 : decode cX11_plain 22 = .ok (.aload_n 0, 1) := by decide +kernel
theorem dX11_plain_23 : decode cX11_plain 23 = .ok (.new 75, 3) := by decide +kernel
theorem dX11_plain_26 : decode cX11_plain 26 = .ok (.dup, 1) := by decide +kernel
theorem dX11_plain_27 : decode cX11_plain 27 = .ok (.iconst 0, 1) := by decide +kernel
theorem dX11_plain_28 : decode cX11_plain 28 = .ok (.iload_n 1, 1) := by decide +kernel
theorem dX11_plain_29 : decode cX11_plain 29 = .ok (.getstatic 77, 3) := by decide +kernel
theorem dX11_plain_32 : decode cX11_plain 32 = .ok (.invokespecial 80, 3) := by decide +kernel
theorem dX11_plain_35 : decode cX11_plain 35 = .ok (.invokevirtual 83, 3) := by decide +kernel
theorem dX11_plain_38 : decode cX11_plain 38 = .ok (.ireturn, 1) := by decide +kernel
set_option maxRecDepth 20000 in
theorem ggX11_twofold_X11_isModulus : GoodIn wsX11_twofold wsX11_isModulus := goodIn_r _ [7, 8, 9, 10, 6, 11] (by decide +kernel) (by decide +kernel)
set_option maxRecDepth 20000 in
theorem gX11_twofold_X11_isModulus : GoodIn wsX11_twofold (va_wsS RX11 67 yX11_isModulus wsX11_isModulus) := goodIn_app (goodIn_of _ (by decide +kernel)) ggX11_twofold_X11_isModulus
set_option maxRecDepth 20000 in
theorem ggX11_twofold_X11_isFull : GoodIn wsX11_twofold wsX11_isFull := goodIn_r _ [15, 16, 40, 41, 42, 43, 44, 45, 46, 47, 48, 49, 50, 51] (by decide +kernel) (by decide +kernel)
set_option maxRecDepth 20000 in
theorem gX11_twofold_X11_isFull : GoodIn wsX11_twofold (wsV RX11 71 RX11 yX11_isFull wsX11_isFull) := goodIn_app (goodIn_of _ (by decide +kernel)) ggX11_twofold_X11_isFull
set_option maxRecDepth 20000 in
theorem ggX11_twofold_X9_init : GoodIn wsX11_twofold wsX9_init := goodIn_r _ [19, 20, 21, 22, 23, 24, 25, 26, 27, 28, 29, 30, 31, 32, 38, 39, 52, 53, 54, 55, 56, 57, 58, 59, 60, 61, 62, 63, 64, 65, 66] (by decide +kernel) (by decide +kernel)
set_option maxRecDepth 20000 in
theorem gX11_twofold_X9_init : GoodIn wsX11_twofold (wsX9_init) := ggX11_twofold_X9_init
set_option maxRecDepth 20000 in
theorem ggX11_twofold_X11_keepSum : GoodIn wsX11_twofold wsX11_keepSum := goodIn_r _ [36, 16, 37, 40, 41, 42, 43, 44, 45, 46, 47, 48, 49, 50, 51] (by decide +kernel) (by decide +kernel)
set_option maxRecDepth 20000 in
theorem gX11_twofold_X11_keepSum : GoodIn wsX11_twofold (wsV RX11 83 RX11 yX11_keepSum wsX11_keepSum) := goodIn_app (goodIn_of _ (by decide +kernel)) ggX11_twofold_X11_keepSum
theorem dX11_twofold_0 : decode cX11_twofold 0 = .ok (.iload_n 1, 1) := by decide +kernel
theorem dX11_twofold_1 : decode cX11_twofold 1 = .ok (.invokestatic 67, 3) := by decide +kernel
theorem dX11_twofold_4 : decode cX11_twofold 4 = .ok (.ifCond .ne 6, 3) := by decide +kernel
theorem dX11_twofold_7 : decode cX11_twofold 7 = .ok (.bipush (-3), 2) := by decide +kernel
theorem dX11_twofold_9 : decode cX11_twofold 9 = .ok (.ireturn, 1) := by decide +kernel
theorem dX11_twofold_10 : decode cX11_twofold 10 = .ok (.aload_n 0, 1) := by decide +kernel
theorem dX11_twofold_11 : decode cX11_twofold 11 = .ok (.invokevirtual 71, 3) := by decide +kernel
theorem dX11_twofold_14 : decode cX11_twofold 14 = .ok (.ifCond .eq 8, 3) := by decide +kernel
theorem dX11_twofold_17 : decode cX11_twofold 17 = .ok (.bipush (-6), 2) := by decide +kernel
theorem dX11_twofold_19 : decode cX11_twofold 19 = .ok (.goto 15, 3) := by decide +kernel
theorem dX11_twofold_22 : decode cX11_twofold 22 = .ok (.aload_n 0, 1) := by decide +kernel
theorem dX11_twofold_23 : decode cX11_twofold 23 = .ok (.new 87, 3) := by decide +kernel
theorem dX11_twofold_26 : decode cX11_twofold 26 = .ok (.dup, 1) := by decide +kernel
theorem dX11_twofold_27 : decode cX11_twofold 27 = .ok (.iload_n 1, 1) := by decide +kernel
theorem dX11_twofold_28 : decode cX11_twofold 28 = .ok (.invokespecial 89, 3) := by decide +kernel
theorem dX11_twofold_31 : decode cX11_twofold 31 = .ok (.invokevirtual 83, 3) := by decide +kernel
theorem dX11_twofold_34 : decode cX11_twofold 34 = .ok (.ireturn, 1) := by decide +kernel
set_option maxRecDepth 20000 in
theorem ggX11_weighted_X11_isModulus : GoodIn wsX11_weighted wsX11_isModulus := goodIn_r _ [9, 10, 11, 12, 8, 13] (by decide +kernel) (by decide +kernel)
set_option maxRecDepth 20000 in
theorem gX11_weighted_X11_isModulus : GoodIn wsX11_weighted (va_wsS RX11 67 yX11_isModulus wsX11_isModulus) := goodIn_app (goodIn_of _ (by decide +kernel)) ggX11_weighted_X11_isModulus
set_option maxRecDepth 20000 in
theorem ggX11_weighted_X11_within : GoodIn wsX11_weighted wsX11_within := goodIn_r _ [13] (by decide +kernel) (by decide +kernel)
set_option maxRecDepth 20000 in
theorem gX11_weighted_X11_within : GoodIn wsX11_weighted (va_wsS RX11 63 yX11_within wsX11_within) := goodIn_app (goodIn_of _ (by decide +kernel)) ggX11_weighted_X11_within
set_option maxRecDepth 20000 in
theorem ggX11_weighted_X11_isFull : GoodIn wsX11_weighted wsX11_isFull := goodIn_r _ [17, 18, 60, 61, 62, 63, 64, 65, 66, 67, 68, 69, 70, 71] (by decide +kernel) (by decide +kernel)
set_option maxRecDepth 20000 in
theorem gX11_weighted_X11_isFull : GoodIn wsX11_weighted (wsV RX11 71 RX11 yX11_isFull wsX11_isFull) := goodIn_app (goodIn_of _ (by decide +kernel)) ggX11_weighted_X11_isFull
set_option maxRecDepth 20000 in
theorem ggX11_weighted_J7_copyOf_59c91 : GoodIn wsX11_weighted wsJ7_copyOf_59c91 := goodIn_r _ [22, 23, 24, 25, 26, 27, 28, 29, 30, 31, 32, 33, 34, 35, 36, 37] (by decide +kernel) (by decide +kernel)
set_option maxRecDepth 20000 in
theorem gX11_weighted_J7_copyOf_59c91 : GoodIn wsX11_weighted (va_wsS RX11 92 yJ7_copyOf_59c91 wsJ7_copyOf_59c91) := goodIn_app (goodIn_of _ (by decide +kernel)) ggX11_weighted_J7_copyOf_59c91
set_option maxRecDepth 20000 in
theorem ggX11_weighted_X10_init : GoodIn wsX11_weighted wsX10_init := goodIn_r _ [40, 41, 42, 43, 44, 45, 46, 47, 48, 49, 50, 51, 52, 53, 54, 72, 73, 74, 75, 76, 77, 78, 79, 80, 81, 82, 83, 84, 85, 86, 87, 88] (by decide +kernel) (by decide +kernel)
set_option maxRecDepth 20000 in
theorem gX11_weighted_X10_init : GoodIn wsX11_weighted (wsX10_init) := ggX11_weighted_X10_init
set_option maxRecDepth 20000 in
theorem ggX11_weighted_X11_keepSum : GoodIn wsX11_weighted wsX11_keepSum := goodIn_r _ [58, 18, 59, 60, 61, 62, 63, 64, 65, 66, 67, 68, 69, 70, 71] (by decide +kernel) (by decide +kernel)
set_option maxRecDepth 20000 in
theorem gX11_weighted_X11_keepSum : GoodIn wsX11_weighted (wsV RX11 83 RX11 yX11_keepSum wsX11_keepSum) := goodIn_app (goodIn_of _ (by decide +kernel)) ggX11_weighted_X11_keepSum
theorem dX11_weighted_0 : decode cX11_weighted 0 = .ok (.iload_n 1, 1) := by decide +kernel
theorem dX11_weighted_1 : decode cX11_weighted 1 = .ok (.invokestatic 67, 3) := by decide +kernel
theorem dX11_weighted_4 : decode cX11_weighted 4 = .ok (.ifCond .ne 6, 3) := by decide +kernel
theorem dX11_weighted_7 : decode cX11_weighted 7 = .ok (.bipush (-3), 2) := by decide +kernel
theorem dX11_weighted_9 : decode cX11_weighted 9 = .ok (.ireturn, 1) := by decide +kernel
theorem dX11_weighted_10 : decode cX11_weighted 10 = .ok (.aload_n 0, 1) := by decide +kernel
theorem dX11_weighted_11 : decode cX11_weighted 11 = .ok (.getfield 23, 3) := by decide +kernel
theorem dX11_weighted_14 : decode cX11_weighted 14 = .ok (.iconst 1, 1) := by decide +kernel
theorem dX11_weighted_15 : decode cX11_weighted 15 = .ok (.bipush 12, 2) := by decide +kernel
theorem dX11_weighted_17 : decode cX11_weighted 17 = .ok (.invokestatic 63, 3) := by decide +kernel
theorem dX11_weighted_20 : decode cX11_weighted 20 = .ok (.ifCond .ne 6, 3) := by decide +kernel
theorem dX11_weighted_23 : decode cX11_weighted 23 = .ok (.bipush (-5), 2) := by decide +kernel
theorem dX11_weighted_25 : decode cX11_weighted 25 = .ok (.ireturn, 1) := by decide +kernel
theorem dX11_weighted_26 : decode cX11_weighted 26 = .ok (.aload_n 0, 1) := by decide +kernel
theorem dX11_weighted_27 : decode cX11_weighted 27 = .ok (.invokevirtual 71, 3) := by decide +kernel
theorem dX11_weighted_30 : decode cX11_weighted 30 = .ok (.ifCond .eq 6, 3) := by decide +kernel
theorem dX11_weighted_33 : decode cX11_weighted 33 = .ok (.bipush (-6), 2) := by decide +kernel
theorem dX11_weighted_35 : decode cX11_weighted 35 = .ok (.ireturn, 1) := by decide +kernel
theorem dX11_weighted_36 : decode cX11_weighted 36 = .ok (.aload_n 0, 1) := by decide +kernel
theorem dX11_weighted_37 : decode cX11_weighted 37 = .ok (.getfield 19, 3) := by decide +kernel
theorem dX11_weighted_40 : decode cX11_weighted 40 = .ok (.aload_n 0, 1) := by decide +kernel
theorem dX11_weighted_41 : decode cX11_weighted 41 = .ok (.getfield 23, 3) := by decide +kernel
theorem dX11_weighted_44 : decode cX11_weighted 44 = .ok (.invokestatic 92, 3) := by decide +kernel
theorem dX11_weighted_47 : decode cX11_weighted 47 = .ok (.astore_n 2, 1) := by decide +kernel
theorem dX11_weighted_48 : decode cX11_weighted 48 = .ok (.aload_n 0, 1) := by decide +kernel
theorem dX11_weighted_49 : decode cX11_weighted 49 = .ok (.iconst 0, 1) := by decide +kernel
theorem dX11_weighted_50 : decode cX11_weighted 50 = .ok (.putfield 23, 3) := by decide +kernel
theorem dX11_weighted_53 : decode cX11_weighted 53 = .ok (.aload_n 0, 1) := by decide +kernel
theorem dX11_weighted_54 : decode cX11_weighted 54 = .ok (.new 75, 3) := by decide +kernel
theorem dX11_weighted_57 : decode cX11_weighted 57 = .ok (.dup, 1) := by decide +kernel
theorem dX11_weighted_58 : decode cX11_weighted 58 = .ok (.iconst 2, 1) := by decide +kernel
theorem dX11_weighted_59 : decode cX11_weighted 59 = .ok (.iload_n 1, 1) := by decide +kernel
theorem dX11_weighted_60 : decode cX11_weighted 60 = .ok (.aload_n 2, 1) := by decide +kernel
theorem dX11_weighted_61 : decode cX11_weighted 61 = .ok (.invokespecial 80, 3) := by decide +kernel
theorem dX11_weighted_64 : decode cX11_weighted 64 = .ok (.invokevirtual 83, 3) := by decide +kernel
theorem dX11_weighted_67 : decode cX11_weighted 67 = .ok (.ireturn, 1) := by decide +kernel
set_option maxRecDepth 20000 in
theorem ggX11_turning_X11_within : GoodIn wsX11_turning wsX11_within := goodIn_r _ [7] (by decide +kernel) (by decide +kernel)
set_option maxRecDepth 20000 in
theorem gX11_turning_X11_within : GoodIn wsX11_turning (va_wsS RX11 63 yX11_within wsX11_within) := goodIn_app (goodIn_of _ (by decide +kernel)) ggX11_turning_X11_within
set_option maxRecDepth 20000 in
theorem ggX11_turning_X11_isFull : GoodIn wsX11_turning wsX11_isFull := goodIn_r _ [11, 12, 38, 39, 40, 41, 42, 43, 44, 45, 46, 47, 48, 49] (by decide +kernel) (by decide +kernel)
set_option maxRecDepth 20000 in
theorem gX11_turning_X11_isFull : GoodIn wsX11_turning (wsV RX11 71 RX11 yX11_isFull wsX11_isFull) := goodIn_app (goodIn_of _ (by decide +kernel)) ggX11_turning_X11_isFull
set_option maxRecDepth 20000 in
theorem ggX11_turning_X8_init : GoodIn wsX11_turning wsX8_init := goodIn_r _ [15, 16, 17, 18, 19, 20, 21, 22, 23, 24, 25, 26, 27, 28, 29, 35, 36, 37, 50, 51, 52, 53, 54, 55, 56, 57, 58, 59, 60, 61, 62, 63] (by decide +kernel) (by decide +kernel)
set_option maxRecDepth 20000 in
theorem gX11_turning_X8_init : GoodIn wsX11_turning (wsX8_init) := ggX11_turning_X8_init
set_option maxRecDepth 20000 in
theorem ggX11_turning_X11_keepSum : GoodIn wsX11_turning wsX11_keepSum := goodIn_r _ [33, 12, 34, 38, 39, 40, 41, 42, 43, 44, 45, 46, 47, 48, 49] (by decide +kernel) (by decide +kernel)
set_option maxRecDepth 20000 in
theorem gX11_turning_X11_keepSum : GoodIn wsX11_turning (wsV RX11 83 RX11 yX11_keepSum wsX11_keepSum) := goodIn_app (goodIn_of _ (by decide +kernel)) ggX11_turning_X11_keepSum
theorem dX11_turning_0 : decode cX11_turning 0 = .ok (.iload_n 1, 1) := by decide +kernel
theorem dX11_turning_1 : decode cX11_turning 1 = .ok (.bipush 8, 2) := by decide +kernel
theorem dX11_turning_3 : decode cX11_turning 3 = .ok (.bipush 32, 2) := by decide +kernel
theorem dX11_turning_5 : decode cX11_turning 5 = .ok (.invokestatic 63, 3) := by decide +kernel
theorem dX11_turning_8 : decode cX11_turning 8 = .ok (.ifCond .eq 14, 3) := by decide +kernel
theorem dX11_turning_11 : decode cX11_turning 11 = .ok (.iload_n 2, 1) := by decide +kernel
theorem dX11_turning_12 : decode cX11_turning 12 = .ok (.iconst 0, 1) := by decide +kernel
theorem dX11_turning_13 : decode cX11_turning 13 = .ok (.iload_n 1, 1) := by decide +kernel
theorem dX11_turning_14 : decode cX11_turning 14 = .ok (.iconst 1, 1) := by decide +kernel
theorem dX11_turning_15 : decode cX11_turning 15 = .ok (.isub, 1) := by decide +kernel
theorem dX11_turning_16 : decode cX11_turning 16 = .ok (.invokestatic 63, 3) := by decide +kernel
theorem dX11_turning_19 : decode cX11_turning 19 = .ok (.ifCond .ne 6, 3) := by decide +kernel
theorem dX11_turning_22 : decode cX11_turning 22 = .ok (.bipush (-3), 2) := by decide +kernel
theorem dX11_turning_24 : decode cX11_turning 24 = .ok (.ireturn, 1) := by decide +kernel
theorem dX11_turning_25 : decode cX11_turning 25 = .ok (.aload_n 0, 1) := by decide +kernel
theorem dX11_turning_26 : decode cX11_turning 26 = .ok (.invokevirtual 71, 3) := by decide +kernel
theorem dX11_turning_29 : decode cX11_turning 29 = .ok (.ifCond .eq 8, 3) := by decide +kernel
theorem dX11_turning_32 : decode cX11_turning 32 = .ok (.bipush (-6), 2) := by decide +kernel
theorem dX11_turning_34 : decode cX11_turning 34 = .ok (.goto 16, 3) := by decide +kernel
theorem dX11_turning_37 : decode cX11_turning 37 = .ok (.aload_n 0, 1) := by decide +kernel
theorem dX11_turning_38 : decode cX11_turning 38 = .ok (.new 98, 3) := by decide +kernel
theorem dX11_turning_41 : decode cX11_turning 41 = .ok (.dup, 1) := by decide +kernel
theorem dX11_turning_42 : decode cX11_turning 42 = .ok (.iload_n 1, 1) := by decide +kernel
theorem dX11_turning_43 : decode cX11_turning 43 = .ok (.iload_n 2, 1) := by decide +kernel
theorem dX11_turning_44 : decode cX11_turning 44 = .ok (.invokespecial 100, 3) := by decide +kernel
theorem dX11_turning_47 : decode cX11_turning 47 = .ok (.invokevirtual 83, 3) := by decide +kernel
theorem dX11_turning_50 : decode cX11_turning 50 = .ok (.ireturn, 1) := by decide +kernel
set_option maxRecDepth 20000 in
theorem ggX11_divided_X11_within : GoodIn wsX11_divided wsX11_within := goodIn_r _ [7] (by decide +kernel) (by decide +kernel)
set_option maxRecDepth 20000 in
theorem gX11_divided_X11_within : GoodIn wsX11_divided (va_wsS RX11 63 yX11_within wsX11_within) := goodIn_app (goodIn_of _ (by decide +kernel)) ggX11_divided_X11_within
set_option maxRecDepth 20000 in
theorem ggX11_divided_X11_fits : GoodIn wsX11_divided wsX11_fits := goodIn_r _ [10, 11, 12, 6, 13] (by decide +kernel) (by decide +kernel)
set_option maxRecDepth 20000 in
theorem gX11_divided_X11_fits : GoodIn wsX11_divided (va_wsS RX11 103 yX11_fits wsX11_fits) := goodIn_app (goodIn_of _ (by decide +kernel)) ggX11_divided_X11_fits
set_option maxRecDepth 20000 in
theorem ggX11_divided_X11_isFull : GoodIn wsX11_divided wsX11_isFull := goodIn_r _ [17, 18, 50, 51, 52, 53, 54, 55, 56, 57, 58, 59, 60, 61] (by decide +kernel) (by decide +kernel)
set_option maxRecDepth 20000 in
theorem gX11_divided_X11_isFull : GoodIn wsX11_divided (wsV RX11 71 RX11 yX11_isFull wsX11_isFull) := goodIn_app (goodIn_of _ (by decide +kernel)) ggX11_divided_X11_isFull
set_option maxRecDepth 20000 in
theorem ggX11_divided_X1_init : GoodIn wsX11_divided wsX1_init := goodIn_r _ [21, 22, 23, 24, 25, 26, 27, 28, 29, 30, 31, 32, 33, 34, 35, 36, 37, 38, 44, 45, 46, 47, 48, 49, 62, 63, 64, 65, 66, 67, 68, 69, 70, 71, 72] (by decide +kernel) (by decide +kernel)
set_option maxRecDepth 20000 in
theorem gX11_divided_X1_init : GoodIn wsX11_divided (wsX1_init) := ggX11_divided_X1_init
set_option maxRecDepth 20000 in
theorem ggX11_divided_X11_keepSum : GoodIn wsX11_divided wsX11_keepSum := goodIn_r _ [42, 18, 43, 50, 51, 52, 53, 54, 55, 56, 57, 58, 59, 60, 61] (by decide +kernel) (by decide +kernel)
set_option maxRecDepth 20000 in
theorem gX11_divided_X11_keepSum : GoodIn wsX11_divided (wsV RX11 83 RX11 yX11_keepSum wsX11_keepSum) := goodIn_app (goodIn_of _ (by decide +kernel)) ggX11_divided_X11_keepSum
theorem dX11_divided_0 : decode cX11_divided 0 = .ok (.iload_n 1, 1) := by decide +kernel
theorem dX11_divided_1 : decode cX11_divided 1 = .ok (.iconst 3, 1) := by decide +kernel
theorem dX11_divided_2 : decode cX11_divided 2 = .ok (.bipush 32, 2) := by decide +kernel
theorem dX11_divided_4 : decode cX11_divided 4 = .ok (.invokestatic 63, 3) := by decide +kernel
theorem dX11_divided_7 : decode cX11_divided 7 = .ok (.ifCond .eq 29, 3) := by decide +kernel
theorem dX11_divided_10 : decode cX11_divided 10 = .ok (.lload_n 2, 1) := by decide +kernel
theorem dX11_divided_11 : decode cX11_divided 11 = .ok (.iload_n 1, 1) := by decide +kernel
theorem dX11_divided_12 : decode cX11_divided 12 = .ok (.invokestatic 103, 3) := by decide +kernel
theorem dX11_divided_15 : decode cX11_divided 15 = .ok (.ifCond .eq 21, 3) := by decide +kernel
theorem dX11_divided_18 : decode cX11_divided 18 = .ok (.lload 4, 2) := by decide +kernel
theorem dX11_divided_20 : decode cX11_divided 20 = .ok (.iload_n 1, 1) := by decide +kernel
theorem dX11_divided_21 : decode cX11_divided 21 = .ok (.invokestatic 103, 3) := by decide +kernel
theorem dX11_divided_24 : decode cX11_divided 24 = .ok (.ifCond .eq 12, 3) := by decide +kernel
theorem dX11_divided_27 : decode cX11_divided 27 = .ok (.lload 6, 2) := by decide +kernel
theorem dX11_divided_29 : decode cX11_divided 29 = .ok (.iload_n 1, 1) := by decide +kernel
theorem dX11_divided_30 : decode cX11_divided 30 = .ok (.invokestatic 103, 3) := by decide +kernel
theorem dX11_divided_33 : decode cX11_divided 33 = .ok (.ifCond .ne 6, 3) := by decide +kernel
theorem dX11_divided_36 : decode cX11_divided 36 = .ok (.bipush (-3), 2) := by decide +kernel
theorem dX11_divided_38 : decode cX11_divided 38 = .ok (.ireturn, 1) := by decide +kernel
theorem dX11_divided_39 : decode cX11_divided 39 = .ok (.aload_n 0, 1) := by decide +kernel
theorem dX11_divided_40 : decode cX11_divided 40 = .ok (.invokevirtual 71, 3) := by decide +kernel
theorem dX11_divided_43 : decode cX11_divided 43 = .ok (.ifCond .eq 8, 3) := by decide +kernel
theorem dX11_divided_46 : decode cX11_divided 46 = .ok (.bipush (-6), 2) := by decide +kernel
theorem dX11_divided_48 : decode cX11_divided 48 = .ok (.goto 32, 3) := by decide +kernel
theorem dX11_divided_51 : decode cX11_divided 51 = .ok (.aload_n 0, 1) := by decide +kernel
theorem dX11_divided_52 : decode cX11_divided 52 = .ok (.new 107, 3) := by decide +kernel
theorem dX11_divided_55 : decode cX11_divided 55 = .ok (.dup, 1) := by decide +kernel
theorem dX11_divided_56 : decode cX11_divided 56 = .ok (.iload 9, 2) := by decide +kernel
theorem dX11_divided_58 : decode cX11_divided 58 = .ok (.ifCond .eq 7, 3) := by decide +kernel
theorem dX11_divided_61 : decode cX11_divided 61 = .ok (.iconst 5, 1) := by decide +kernel
theorem dX11_divided_62 : decode cX11_divided 62 = .ok (.goto 4, 3) := by decide +kernel
theorem dX11_divided_65 : decode cX11_divided 65 = .ok (.iconst 4, 1) := by decide +kernel
theorem dX11_divided_66 : decode cX11_divided 66 = .ok (.iload_n 1, 1) := by decide +kernel
theorem dX11_divided_67 : decode cX11_divided 67 = .ok (.lload_n 2, 1) := by decide +kernel
theorem dX11_divided_68 : decode cX11_divided 68 = .ok (.lload 4, 2) := by decide +kernel
theorem dX11_divided_70 : decode cX11_divided 70 = .ok (.lload 6, 2) := by decide +kernel
theorem dX11_divided_72 : decode cX11_divided 72 = .ok (.iload 8, 2) := by decide +kernel
theorem dX11_divided_74 : decode cX11_divided 74 = .ok (.invokespecial 109, 3) := by decide +kernel
theorem dX11_divided_77 : decode cX11_divided 77 = .ok (.invokevirtual 83, 3) := by decide +kernel
theorem dX11_divided_80 : decode cX11_divided 80 = .ok (.ireturn, 1) := by decide +kernel
set_option maxRecDepth 20000 in
theorem ggX11_square_X11_within : GoodIn wsX11_square wsX11_within := goodIn_r _ [9] (by decide +kernel) (by decide +kernel)
set_option maxRecDepth 20000 in
theorem gX11_square_X11_within : GoodIn wsX11_square (va_wsS RX11 63 yX11_within wsX11_within) := goodIn_app (goodIn_of _ (by decide +kernel)) ggX11_square_X11_within
set_option maxRecDepth 20000 in
theorem ggX11_square_X11_toldIsSquare : GoodIn wsX11_square wsX11_toldIsSquare := goodIn_r _ [13, 2, 1, 56, 57, 58, 59, 60, 61, 62, 63, 64, 65, 66, 67] (by decide +kernel) (by decide +kernel)
set_option maxRecDepth 20000 in
theorem gX11_square_X11_toldIsSquare : GoodIn wsX11_square (wsV RX11 112 RX11 yX11_toldIsSquare wsX11_toldIsSquare) := goodIn_app (goodIn_of _ (by decide +kernel)) ggX11_square_X11_toldIsSquare
set_option maxRecDepth 20000 in
theorem ggX11_square_X11_isFull : GoodIn wsX11_square wsX11_isFull := goodIn_r _ [17, 18, 56, 57, 58, 59, 60, 61, 62, 63, 64, 65, 66, 67] (by decide +kernel) (by decide +kernel)
set_option maxRecDepth 20000 in
theorem gX11_square_X11_isFull : GoodIn wsX11_square (wsV RX11 71 RX11 yX11_isFull wsX11_isFull) := goodIn_app (goodIn_of _ (by decide +kernel)) ggX11_square_X11_isFull
set_option maxRecDepth 20000 in
theorem ggX11_square_J7_copyOf_59c91 : GoodIn wsX11_square wsJ7_copyOf_59c91 := goodIn_r _ [22, 23, 24, 25, 26, 27, 28, 29, 30, 31, 32, 33, 34, 35, 36, 37] (by decide +kernel) (by decide +kernel)
set_option maxRecDepth 20000 in
theorem gX11_square_J7_copyOf_59c91 : GoodIn wsX11_square (va_wsS RX11 92 yJ7_copyOf_59c91 wsJ7_copyOf_59c91) := goodIn_app (goodIn_of _ (by decide +kernel)) ggX11_square_J7_copyOf_59c91
set_option maxRecDepth 20000 in
theorem ggX11_square_X5_init : GoodIn wsX11_square wsX5_init := goodIn_r _ [40, 41, 42, 43, 44, 45, 46, 47, 48, 49, 50, 68, 69, 70, 71, 72, 73, 74, 75, 76, 77, 78, 79, 80, 81, 82, 83, 84] (by decide +kernel) (by decide +kernel)
set_option maxRecDepth 20000 in
theorem gX11_square_X5_init : GoodIn wsX11_square (wsX5_init) := ggX11_square_X5_init
set_option maxRecDepth 20000 in
theorem ggX11_square_X11_keepSum : GoodIn wsX11_square wsX11_keepSum := goodIn_r _ [54, 18, 55, 56, 57, 58, 59, 60, 61, 62, 63, 64, 65, 66, 67] (by decide +kernel) (by decide +kernel)
set_option maxRecDepth 20000 in
theorem gX11_square_X11_keepSum : GoodIn wsX11_square (wsV RX11 83 RX11 yX11_keepSum wsX11_keepSum) := goodIn_app (goodIn_of _ (by decide +kernel)) ggX11_square_X11_keepSum
theorem dX11_square_0 : decode cX11_square 0 = .ok (.iload_n 1, 1) := by decide +kernel
theorem dX11_square_1 : decode cX11_square 1 = .ok (.iconst 2, 1) := by decide +kernel
theorem dX11_square_2 : decode cX11_square 2 = .ok (.bipush 10, 2) := by decide +kernel
theorem dX11_square_4 : decode cX11_square 4 = .ok (.invokestatic 63, 3) := by decide +kernel
theorem dX11_square_7 : decode cX11_square 7 = .ok (.ifCond .ne 6, 3) := by decide +kernel
theorem dX11_square_10 : decode cX11_square 10 = .ok (.bipush (-3), 2) := by decide +kernel
theorem dX11_square_12 : decode cX11_square 12 = .ok (.ireturn, 1) := by decide +kernel
theorem dX11_square_13 : decode cX11_square 13 = .ok (.aload_n 0, 1) := by decide +kernel
theorem dX11_square_14 : decode cX11_square 14 = .ok (.iload_n 1, 1) := by decide +kernel
theorem dX11_square_15 : decode cX11_square 15 = .ok (.invokevirtual 112, 3) := by decide +kernel
theorem dX11_square_18 : decode cX11_square 18 = .ok (.ifCond .ne 6, 3) := by decide +kernel
theorem dX11_square_21 : decode cX11_square 21 = .ok (.bipush (-5), 2) := by decide +kernel
theorem dX11_square_23 : decode cX11_square 23 = .ok (.ireturn, 1) := by decide +kernel
theorem dX11_square_24 : decode cX11_square 24 = .ok (.aload_n 0, 1) := by decide +kernel
theorem dX11_square_25 : decode cX11_square 25 = .ok (.invokevirtual 71, 3) := by decide +kernel
theorem dX11_square_28 : decode cX11_square 28 = .ok (.ifCond .eq 6, 3) := by decide +kernel
theorem dX11_square_31 : decode cX11_square 31 = .ok (.bipush (-6), 2) := by decide +kernel
theorem dX11_square_33 : decode cX11_square 33 = .ok (.ireturn, 1) := by decide +kernel
theorem dX11_square_34 : decode cX11_square 34 = .ok (.aload_n 0, 1) := by decide +kernel
theorem dX11_square_35 : decode cX11_square 35 = .ok (.getfield 19, 3) := by decide +kernel
theorem dX11_square_38 : decode cX11_square 38 = .ok (.aload_n 0, 1) := by decide +kernel
theorem dX11_square_39 : decode cX11_square 39 = .ok (.getfield 23, 3) := by decide +kernel
theorem dX11_square_42 : decode cX11_square 42 = .ok (.invokestatic 92, 3) := by decide +kernel
theorem dX11_square_45 : decode cX11_square 45 = .ok (.astore_n 2, 1) := by decide +kernel
theorem dX11_square_46 : decode cX11_square 46 = .ok (.aload_n 0, 1) := by decide +kernel
theorem dX11_square_47 : decode cX11_square 47 = .ok (.iconst 0, 1) := by decide +kernel
theorem dX11_square_48 : decode cX11_square 48 = .ok (.putfield 23, 3) := by decide +kernel
theorem dX11_square_51 : decode cX11_square 51 = .ok (.aload_n 0, 1) := by decide +kernel
theorem dX11_square_52 : decode cX11_square 52 = .ok (.new 115, 3) := by decide +kernel
theorem dX11_square_55 : decode cX11_square 55 = .ok (.dup, 1) := by decide +kernel
theorem dX11_square_56 : decode cX11_square 56 = .ok (.iload_n 1, 1) := by decide +kernel
theorem dX11_square_57 : decode cX11_square 57 = .ok (.aload_n 2, 1) := by decide +kernel
theorem dX11_square_58 : decode cX11_square 58 = .ok (.invokespecial 117, 3) := by decide +kernel
theorem dX11_square_61 : decode cX11_square 61 = .ok (.invokevirtual 83, 3) := by decide +kernel
theorem dX11_square_64 : decode cX11_square 64 = .ok (.ireturn, 1) := by decide +kernel
set_option maxRecDepth 20000 in
theorem ggX11_kind_X11_sumAt : GoodIn wsX11_kind wsX11_sumAt := goodIn_r _ [6, 7, 8, 9, 10, 5, 11, 29, 30, 31, 32, 33, 34, 35, 36, 37, 38, 39, 40] (by decide +kernel) (by decide +kernel)
set_option maxRecDepth 20000 in
theorem gX11_kind_X11_sumAt : GoodIn wsX11_kind (wsV RX11 120 RX11 yX11_sumAt wsX11_sumAt) := goodIn_app (goodIn_of _ (by decide +kernel)) ggX11_kind_X11_sumAt
theorem dX11_kind_0 : decode cX11_kind 0 = .ok (.aload_n 0, 1) := by decide +kernel
theorem dX11_kind_1 : decode cX11_kind 1 = .ok (.iload_n 1, 1) := by decide +kernel
theorem dX11_kind_2 : decode cX11_kind 2 = .ok (.invokevirtual 120, 3) := by decide +kernel
theorem dX11_kind_5 : decode cX11_kind 5 = .ok (.astore_n 2, 1) := by decide +kernel
theorem dX11_kind_6 : decode cX11_kind 6 = .ok (.aload_n 2, 1) := by decide +kernel
theorem dX11_kind_7 : decode cX11_kind 7 = .ok (.ifnonnull 8, 3) := by decide +kernel
theorem dX11_kind_10 : decode cX11_kind 10 = .ok (.bipush (-2), 2) := by decide +kernel
theorem dX11_kind_12 : decode cX11_kind 12 = .ok (.goto 7, 3) := by decide +kernel
theorem dX11_kind_15 : decode cX11_kind 15 = .ok (.aload_n 2, 1) := by decide +kernel
theorem dX11_kind_16 : decode cX11_kind 16 = .ok (.getfield 124, 3) := by decide +kernel
theorem dX11_kind_19 : decode cX11_kind 19 = .ok (.ireturn, 1) := by decide +kernel
set_option maxRecDepth 20000 in
theorem ggX11_put_X11_isByte : GoodIn wsX11_put wsX11_isByte := goodIn_r _ [6, 7, 8, 5, 9] (by decide +kernel) (by decide +kernel)
set_option maxRecDepth 20000 in
theorem gX11_put_X11_isByte : GoodIn wsX11_put (va_wsS RX11 127 yX11_isByte wsX11_isByte) := goodIn_app (goodIn_of _ (by decide +kernel)) ggX11_put_X11_isByte
theorem dX11_put_0 : decode cX11_put 0 = .ok (.iload_n 1, 1) := by decide +kernel
theorem dX11_put_1 : decode cX11_put 1 = .ok (.invokestatic 127, 3) := by decide +kernel
theorem dX11_put_4 : decode cX11_put 4 = .ok (.ifCond .ne 6, 3) := by decide +kernel
theorem dX11_put_7 : decode cX11_put 7 = .ok (.bipush (-3), 2) := by decide +kernel
theorem dX11_put_9 : decode cX11_put 9 = .ok (.ireturn, 1) := by decide +kernel
theorem dX11_put_10 : decode cX11_put 10 = .ok (.aload_n 0, 1) := by decide +kernel
theorem dX11_put_11 : decode cX11_put 11 = .ok (.getfield 29, 3) := by decide +kernel
theorem dX11_put_14 : decode cX11_put 14 = .ok (.bipush 64, 2) := by decide +kernel
theorem dX11_put_16 : decode cX11_put 16 = .ok (.if_icmp .lt 6, 3) := by decide +kernel
theorem dX11_put_19 : decode cX11_put 19 = .ok (.bipush (-6), 2) := by decide +kernel
theorem dX11_put_21 : decode cX11_put 21 = .ok (.ireturn, 1) := by decide +kernel
theorem dX11_put_22 : decode cX11_put 22 = .ok (.aload_n 0, 1) := by decide +kernel
theorem dX11_put_23 : decode cX11_put 23 = .ok (.getfield 26, 3) := by decide +kernel
theorem dX11_put_26 : decode cX11_put 26 = .ok (.aload_n 0, 1) := by decide +kernel
theorem dX11_put_27 : decode cX11_put 27 = .ok (.getfield 29, 3) := by decide +kernel
theorem dX11_put_30 : decode cX11_put 30 = .ok (.iload_n 1, 1) := by decide +kernel
theorem dX11_put_31 : decode cX11_put 31 = .ok (.iastore, 1) := by decide +kernel
theorem dX11_put_32 : decode cX11_put 32 = .ok (.aload_n 0, 1) := by decide +kernel
theorem dX11_put_33 : decode cX11_put 33 = .ok (.dup, 1) := by decide +kernel
theorem dX11_put_34 : decode cX11_put 34 = .ok (.getfield 29, 3) := by decide +kernel
theorem dX11_put_37 : decode cX11_put 37 = .ok (.iconst 1, 1) := by decide +kernel
theorem dX11_put_38 : decode cX11_put 38 = .ok (.iadd, 1) := by decide +kernel
theorem dX11_put_39 : decode cX11_put 39 = .ok (.putfield 29, 3) := by decide +kernel
theorem dX11_put_42 : decode cX11_put 42 = .ok (.aload_n 0, 1) := by decide +kernel
theorem dX11_put_43 : decode cX11_put 43 = .ok (.getfield 29, 3) := by decide +kernel
theorem dX11_put_46 : decode cX11_put 46 = .ok (.ireturn, 1) := by decide +kernel
set_option maxRecDepth 20000 in
theorem ggX11_set_X11_within : GoodIn wsX11_set wsX11_within := goodIn_r _ [6] (by decide +kernel) (by decide +kernel)
set_option maxRecDepth 20000 in
theorem gX11_set_X11_within : GoodIn wsX11_set (va_wsS RX11 63 yX11_within wsX11_within) := goodIn_app (goodIn_of _ (by decide +kernel)) ggX11_set_X11_within
set_option maxRecDepth 20000 in
theorem ggX11_set_X11_isByte : GoodIn wsX11_set wsX11_isByte := goodIn_r _ [9, 3, 4, 5, 6] (by decide +kernel) (by decide +kernel)
set_option maxRecDepth 20000 in
theorem gX11_set_X11_isByte : GoodIn wsX11_set (va_wsS RX11 127 yX11_isByte wsX11_isByte) := goodIn_app (goodIn_of _ (by decide +kernel)) ggX11_set_X11_isByte
theorem dX11_set_0 : decode cX11_set 0 = .ok (.iload_n 1, 1) := by decide +kernel
theorem dX11_set_1 : decode cX11_set 1 = .ok (.iconst 0, 1) := by decide +kernel
theorem dX11_set_2 : decode cX11_set 2 = .ok (.aload_n 0, 1) := by decide +kernel
theorem dX11_set_3 : decode cX11_set 3 = .ok (.getfield 29, 3) := by decide +kernel
theorem dX11_set_6 : decode cX11_set 6 = .ok (.iconst 1, 1) := by decide +kernel
theorem dX11_set_7 : decode cX11_set 7 = .ok (.isub, 1) := by decide +kernel
theorem dX11_set_8 : decode cX11_set 8 = .ok (.invokestatic 63, 3) := by decide +kernel
theorem dX11_set_11 : decode cX11_set 11 = .ok (.ifCond .ne 6, 3) := by decide +kernel
theorem dX11_set_14 : decode cX11_set 14 = .ok (.bipush (-2), 2) := by decide +kernel
theorem dX11_set_16 : decode cX11_set 16 = .ok (.ireturn, 1) := by decide +kernel
theorem dX11_set_17 : decode cX11_set 17 = .ok (.iload_n 2, 1) := by decide +kernel
theorem dX11_set_18 : decode cX11_set 18 = .ok (.invokestatic 127, 3) := by decide +kernel
theorem dX11_set_21 : decode cX11_set 21 = .ok (.ifCond .ne 6, 3) := by decide +kernel
theorem dX11_set_24 : decode cX11_set 24 = .ok (.bipush (-3), 2) := by decide +kernel
theorem dX11_set_26 : decode cX11_set 26 = .ok (.ireturn, 1) := by decide +kernel
theorem dX11_set_27 : decode cX11_set 27 = .ok (.aload_n 0, 1) := by decide +kernel
theorem dX11_set_28 : decode cX11_set 28 = .ok (.getfield 26, 3) := by decide +kernel
theorem dX11_set_31 : decode cX11_set 31 = .ok (.iload_n 1, 1) := by decide +kernel
theorem dX11_set_32 : decode cX11_set 32 = .ok (.iaload, 1) := by decide +kernel
theorem dX11_set_33 : decode cX11_set 33 = .ok (.istore_n 3, 1) := by decide +kernel
theorem dX11_set_34 : decode cX11_set 34 = .ok (.aload_n 0, 1) := by decide +kernel
theorem dX11_set_35 : decode cX11_set 35 = .ok (.getfield 26, 3) := by decide +kernel
theorem dX11_set_38 : decode cX11_set 38 = .ok (.iload_n 1, 1) := by decide +kernel
theorem dX11_set_39 : decode cX11_set 39 = .ok (.iload_n 2, 1) := by decide +kernel
theorem dX11_set_40 : decode cX11_set 40 = .ok (.iastore, 1) := by decide +kernel
theorem dX11_set_41 : decode cX11_set 41 = .ok (.iload_n 3, 1) := by decide +kernel
theorem dX11_set_42 : decode cX11_set 42 = .ok (.ireturn, 1) := by decide +kernel
set_option maxRecDepth 20000 in
theorem ggX11_at_X11_within : GoodIn wsX11_at wsX11_within := goodIn_r _ [6] (by decide +kernel) (by decide +kernel)
set_option maxRecDepth 20000 in
theorem gX11_at_X11_within : GoodIn wsX11_at (va_wsS RX11 63 yX11_within wsX11_within) := goodIn_app (goodIn_of _ (by decide +kernel)) ggX11_at_X11_within
theorem dX11_at_0 : decode cX11_at 0 = .ok (.iload_n 1, 1) := by decide +kernel
theorem dX11_at_1 : decode cX11_at 1 = .ok (.iconst 0, 1) := by decide +kernel
theorem dX11_at_2 : decode cX11_at 2 = .ok (.aload_n 0, 1) := by decide +kernel
theorem dX11_at_3 : decode cX11_at 3 = .ok (.getfield 29, 3) := by decide +kernel
theorem dX11_at_6 : decode cX11_at 6 = .ok (.iconst 1, 1) := by decide +kernel
theorem dX11_at_7 : decode cX11_at 7 = .ok (.isub, 1) := by decide +kernel
theorem dX11_at_8 : decode cX11_at 8 = .ok (.invokestatic 63, 3) := by decide +kernel
theorem dX11_at_11 : decode cX11_at 11 = .ok (.ifCond .eq 12, 3) := by decide +kernel
theorem dX11_at_14 : decode cX11_at 14 = .ok (.aload_n 0, 1) := by decide +kernel
theorem dX11_at_15 : decode cX11_at 15 = .ok (.getfield 26, 3) := by decide +kernel
theorem dX11_at_18 : decode cX11_at 18 = .ok (.iload_n 1, 1) := by decide +kernel
theorem dX11_at_19 : decode cX11_at 19 = .ok (.iaload, 1) := by decide +kernel
theorem dX11_at_20 : decode cX11_at 20 = .ok (.goto 5, 3) := by decide +kernel
theorem dX11_at_23 : decode cX11_at 23 = .ok (.bipush (-2), 2) := by decide +kernel
theorem dX11_at_25 : decode cX11_at 25 = .ok (.ireturn, 1) := by decide +kernel
set_option maxRecDepth 20000 in
theorem ggX11_cut_X11_within : GoodIn wsX11_cut wsX11_within := goodIn_r _ [5] (by decide +kernel) (by decide +kernel)
set_option maxRecDepth 20000 in
theorem gX11_cut_X11_within : GoodIn wsX11_cut (va_wsS RX11 63 yX11_within wsX11_within) := goodIn_app (goodIn_of _ (by decide +kernel)) ggX11_cut_X11_within
theorem dX11_cut_0 : decode cX11_cut 0 = .ok (.iload_n 1, 1) := by decide +kernel
theorem dX11_cut_1 : decode cX11_cut 1 = .ok (.iconst 0, 1) := by decide +kernel
theorem dX11_cut_2 : decode cX11_cut 2 = .ok (.aload_n 0, 1) := by decide +kernel
theorem dX11_cut_3 : decode cX11_cut 3 = .ok (.getfield 29, 3) := by decide +kernel
theorem dX11_cut_6 : decode cX11_cut 6 = .ok (.invokestatic 63, 3) := by decide +kernel
theorem dX11_cut_9 : decode cX11_cut 9 = .ok (.ifCond .ne 6, 3) := by decide +kernel
theorem dX11_cut_12 : decode cX11_cut 12 = .ok (.bipush (-3), 2) := by decide +kernel
theorem dX11_cut_14 : decode cX11_cut 14 = .ok (.ireturn, 1) := by decide +kernel
theorem dX11_cut_15 : decode cX11_cut 15 = .ok (.aload_n 0, 1) := by decide +kernel
theorem dX11_cut_16 : decode cX11_cut 16 = .ok (.getfield 29, 3) := by decide +kernel
theorem dX11_cut_19 : decode cX11_cut 19 = .ok (.iload_n 1, 1) := by decide +kernel
theorem dX11_cut_20 : decode cX11_cut 20 = .ok (.isub, 1) := by decide +kernel
theorem dX11_cut_21 : decode cX11_cut 21 = .ok (.istore_n 2, 1) := by decide +kernel
theorem dX11_cut_22 : decode cX11_cut 22 = .ok (.aload_n 0, 1) := by decide +kernel
theorem dX11_cut_23 : decode cX11_cut 23 = .ok (.iload_n 1, 1) := by decide +kernel
theorem dX11_cut_24 : decode cX11_cut 24 = .ok (.putfield 29, 3) := by decide +kernel
theorem dX11_cut_27 : decode cX11_cut 27 = .ok (.iload_n 2, 1) := by decide +kernel
theorem dX11_cut_28 : decode cX11_cut 28 = .ok (.ireturn, 1) := by decide +kernel
set_option maxRecDepth 20000 in
theorem ggX11_sum_X11_sumAt : GoodIn wsX11_sum wsX11_sumAt := goodIn_r _ [10, 11, 12, 13, 14, 9, 15, 76, 77, 78, 79, 80, 81, 82, 83, 84, 85, 86, 87] (by decide +kernel) (by decide +kernel)
set_option maxRecDepth 20000 in
theorem gX11_sum_X11_sumAt : GoodIn wsX11_sum (wsV RX11 120 RX11 yX11_sumAt wsX11_sumAt) := goodIn_app (goodIn_of _ (by decide +kernel)) ggX11_sum_X11_sumAt
set_option maxRecDepth 20000 in
theorem ggX11_sum_X1_ofRow : GoodIn wsX11_sum wsX1_ofRow := goodIn_r _ [21, 22, 23, 24, 25, 26, 20, 27, 28, 29, 30, 31, 32, 33, 34, 9, 35, 88, 89, 90, 91, 92, 93] (by decide +kernel) (by decide +kernel)
set_option maxRecDepth 20000 in
theorem gX11_sum_X1_ofRow_u132X1 : GoodIn wsX11_sum (va_wsU RX11 132 RX1 "SumSmith$Sum" ⟨"SumSmith$Sum", "ofRow", "([II)J"⟩ yX1_ofRow wsX1_ofRow) := goodIn_app (goodIn_of _ (by decide +kernel)) ggX11_sum_X1_ofRow
set_option maxRecDepth 20000 in
theorem ggX11_sum_X5_ofRow : GoodIn wsX11_sum wsX5_ofRow := goodIn_r _ [39, 40, 41, 42, 43, 44, 38, 45, 46, 94, 95, 96] (by decide +kernel) (by decide +kernel)
set_option maxRecDepth 20000 in
theorem gX11_sum_X5_ofRow_u132X5 : GoodIn wsX11_sum (va_wsU RX11 132 RX5 "SumSmith$Sum" ⟨"SumSmith$Sum", "ofRow", "([II)J"⟩ yX5_ofRow wsX5_ofRow) := goodIn_app (goodIn_of _ (by decide +kernel)) ggX11_sum_X5_ofRow
set_option maxRecDepth 20000 in
theorem ggX11_sum_X8_ofRow : GoodIn wsX11_sum wsX8_ofRow := goodIn_r _ [50, 51, 52, 53, 49, 54, 55, 56, 34, 9, 35, 97, 98, 99] (by decide +kernel) (by decide +kernel)
set_option maxRecDepth 20000 in
theorem gX11_sum_X8_ofRow_u132X8 : GoodIn wsX11_sum (va_wsU RX11 132 RX8 "SumSmith$Sum" ⟨"SumSmith$Sum", "ofRow", "([II)J"⟩ yX8_ofRow wsX8_ofRow) := goodIn_app (goodIn_of _ (by decide +kernel)) ggX11_sum_X8_ofRow
set_option maxRecDepth 20000 in
theorem ggX11_sum_X9_ofRow : GoodIn wsX11_sum wsX9_ofRow := goodIn_r _ [60, 61, 62, 63, 59, 64, 65, 100, 101] (by decide +kernel) (by decide +kernel)
set_option maxRecDepth 20000 in
theorem gX11_sum_X9_ofRow_u132X9 : GoodIn wsX11_sum (va_wsU RX11 132 RX9 "SumSmith$Sum" ⟨"SumSmith$Sum", "ofRow", "([II)J"⟩ yX9_ofRow wsX9_ofRow) := goodIn_app (goodIn_of _ (by decide +kernel)) ggX11_sum_X9_ofRow
set_option maxRecDepth 20000 in
theorem ggX11_sum_X10_ofRow : GoodIn wsX11_sum wsX10_ofRow := goodIn_r _ [69, 70, 71, 72, 73, 68, 74, 75, 102, 103, 104] (by decide +kernel) (by decide +kernel)
set_option maxRecDepth 20000 in
theorem gX11_sum_X10_ofRow_u132X10 : GoodIn wsX11_sum (va_wsU RX11 132 RX10 "SumSmith$Sum" ⟨"SumSmith$Sum", "ofRow", "([II)J"⟩ yX10_ofRow wsX10_ofRow) := goodIn_app (goodIn_of _ (by decide +kernel)) ggX11_sum_X10_ofRow
theorem dX11_sum_0 : decode cX11_sum 0 = .ok (.aload_n 0, 1) := by decide +kernel
theorem dX11_sum_1 : decode cX11_sum 1 = .ok (.iload_n 1, 1) := by decide +kernel
theorem dX11_sum_2 : decode cX11_sum 2 = .ok (.invokevirtual 120, 3) := by decide +kernel
theorem dX11_sum_5 : decode cX11_sum 5 = .ok (.astore_n 2, 1) := by decide +kernel
theorem dX11_sum_6 : decode cX11_sum 6 = .ok (.aload_n 2, 1) := by decide +kernel
theorem dX11_sum_7 : decode cX11_sum 7 = .ok (.ifnonnull 7, 3) := by decide +kernel
theorem dX11_sum_10 : decode cX11_sum 10 = .ok (.ldc2_w 130, 3) := by decide +kernel
theorem dX11_sum_13 : decode cX11_sum 13 = .ok (.lreturn, 1) := by decide +kernel
theorem dX11_sum_14 : decode cX11_sum 14 = .ok (.aload_n 0, 1) := by decide +kernel
theorem dX11_sum_15 : decode cX11_sum 15 = .ok (.getfield 32, 3) := by decide +kernel
theorem dX11_sum_18 : decode cX11_sum 18 = .ok (.aload_n 2, 1) := by decide +kernel
theorem dX11_sum_19 : decode cX11_sum 19 = .ok (.getfield 124, 3) := by decide +kernel
theorem dX11_sum_22 : decode cX11_sum 22 = .ok (.dup2, 1) := by decide +kernel
theorem dX11_sum_23 : decode cX11_sum 23 = .ok (.iaload, 1) := by decide +kernel
theorem dX11_sum_24 : decode cX11_sum 24 = .ok (.iconst 1, 1) := by decide +kernel
theorem dX11_sum_25 : decode cX11_sum 25 = .ok (.iadd, 1) := by decide +kernel
theorem dX11_sum_26 : decode cX11_sum 26 = .ok (.iastore, 1) := by decide +kernel
theorem dX11_sum_27 : decode cX11_sum 27 = .ok (.aload_n 2, 1) := by decide +kernel
theorem dX11_sum_28 : decode cX11_sum 28 = .ok (.getfield 124, 3) := by decide +kernel
theorem dX11_sum_31 : decode cX11_sum 31 = .ok (.iconst 5, 1) := by decide +kernel
theorem dX11_sum_32 : decode cX11_sum 32 = .ok (.if_icmp .ne 13, 3) := by decide +kernel
theorem dX11_sum_35 : decode cX11_sum 35 = .ok (.aload_n 0, 1) := by decide +kernel
theorem dX11_sum_36 : decode cX11_sum 36 = .ok (.getfield 32, 3) := by decide +kernel
theorem dX11_sum_39 : decode cX11_sum 39 = .ok (.iconst 4, 1) := by decide +kernel
theorem dX11_sum_40 : decode cX11_sum 40 = .ok (.dup2, 1) := by decide +kernel
theorem dX11_sum_41 : decode cX11_sum 41 = .ok (.iaload, 1) := by decide +kernel
theorem dX11_sum_42 : decode cX11_sum 42 = .ok (.iconst 1, 1) := by decide +kernel
theorem dX11_sum_43 : decode cX11_sum 43 = .ok (.iadd, 1) := by decide +kernel
theorem dX11_sum_44 : decode cX11_sum 44 = .ok (.iastore, 1) := by decide +kernel
theorem dX11_sum_45 : decode cX11_sum 45 = .ok (.aload_n 2, 1) := by decide +kernel
theorem dX11_sum_46 : decode cX11_sum 46 = .ok (.aload_n 0, 1) := by decide +kernel
theorem dX11_sum_47 : decode cX11_sum 47 = .ok (.getfield 26, 3) := by decide +kernel
theorem dX11_sum_50 : decode cX11_sum 50 = .ok (.aload_n 0, 1) := by decide +kernel
theorem dX11_sum_51 : decode cX11_sum 51 = .ok (.getfield 29, 3) := by decide +kernel
theorem dX11_sum_54 : decode cX11_sum 54 = .ok (.invokevirtual 132, 3) := by decide +kernel
theorem dX11_sum_57 : decode cX11_sum 57 = .ok (.lreturn, 1) := by decide +kernel
set_option maxRecDepth 20000 in
theorem ggX11_joined_X11_sumAt : GoodIn wsX11_joined wsX11_sumAt := goodIn_r _ [10, 11, 12, 13, 14, 9, 15, 106, 107, 108, 109, 110, 111, 112, 113, 114, 115, 116, 117] (by decide +kernel) (by decide +kernel)
set_option maxRecDepth 20000 in
theorem gX11_joined_X11_sumAt : GoodIn wsX11_joined (wsV RX11 120 RX11 yX11_sumAt wsX11_sumAt) := goodIn_app (goodIn_of _ (by decide +kernel)) ggX11_joined_X11_sumAt
set_option maxRecDepth 20000 in
theorem ggX11_joined_X1_holds : GoodIn wsX11_joined wsX1_holds := goodIn_r _ [21, 22, 23, 9, 24, 25, 26, 27, 118, 119, 120, 121, 122, 123] (by decide +kernel) (by decide +kernel)
set_option maxRecDepth 20000 in
theorem gX11_joined_X1_holds_u140X1 : GoodIn wsX11_joined (va_wsU RX11 140 RX1 "SumSmith$Linear" ⟨"SumSmith$Linear", "holds", "(J)Z"⟩ yX1_holds wsX1_holds) := goodIn_app (goodIn_of _ (by decide +kernel)) ggX11_joined_X1_holds
set_option maxRecDepth 20000 in
theorem ggX11_joined_X8_holds : GoodIn wsX11_joined wsX8_holds := goodIn_r _ [31, 32, 23, 9, 24, 25, 26, 27, 124, 125, 126] (by decide +kernel) (by decide +kernel)
set_option maxRecDepth 20000 in
theorem gX11_joined_X8_holds_u140X8 : GoodIn wsX11_joined (va_wsU RX11 140 RX8 "SumSmith$Linear" ⟨"SumSmith$Linear", "holds", "(J)Z"⟩ yX8_holds wsX8_holds) := goodIn_app (goodIn_of _ (by decide +kernel)) ggX11_joined_X8_holds
set_option maxRecDepth 20000 in
theorem ggX11_joined_X9_holds : GoodIn wsX11_joined wsX9_holds := goodIn_r _ [36, 37, 38, 39, 35, 40, 41, 42, 43, 44, 127, 128] (by decide +kernel) (by decide +kernel)
set_option maxRecDepth 20000 in
theorem gX11_joined_X9_holds_u140X9 : GoodIn wsX11_joined (va_wsU RX11 140 RX9 "SumSmith$Linear" ⟨"SumSmith$Linear", "holds", "(J)Z"⟩ yX9_holds wsX9_holds) := goodIn_app (goodIn_of _ (by decide +kernel)) ggX11_joined_X9_holds
set_option maxRecDepth 20000 in
theorem ggX11_joined_X10_holds : GoodIn wsX11_joined wsX10_holds := goodIn_r _ [48, 49, 129, 130, 131] (by decide +kernel) (by decide +kernel)
set_option maxRecDepth 20000 in
theorem gX11_joined_X10_holds_u140X10 : GoodIn wsX11_joined (va_wsU RX11 140 RX10 "SumSmith$Linear" ⟨"SumSmith$Linear", "holds", "(J)Z"⟩ yX10_holds wsX10_holds) := goodIn_app (goodIn_of _ (by decide +kernel)) ggX11_joined_X10_holds
set_option maxRecDepth 20000 in
theorem ggX11_joined_X11_within : GoodIn wsX11_joined wsX11_within := goodIn_r _ [15] (by decide +kernel) (by decide +kernel)
set_option maxRecDepth 20000 in
theorem gX11_joined_X11_within : GoodIn wsX11_joined (va_wsS RX11 63 yX11_within wsX11_within) := goodIn_app (goodIn_of _ (by decide +kernel)) ggX11_joined_X11_within
set_option maxRecDepth 20000 in
theorem ggX11_joined_X2_canJoinBehind : GoodIn wsX11_joined wsX2_canJoinBehind := goodIn_r _ [55] (by decide +kernel) (by decide +kernel)
set_option maxRecDepth 20000 in
theorem gX11_joined_X2_canJoinBehind_u146X1 : GoodIn wsX11_joined (va_wsU RX11 146 RX1 "SumSmith$Linear" ⟨"SumSmith$Linear", "canJoinBehind", "(I)Z"⟩ yX2_canJoinBehind wsX2_canJoinBehind) := goodIn_app (goodIn_of _ (by decide +kernel)) ggX11_joined_X2_canJoinBehind
set_option maxRecDepth 20000 in
theorem gX11_joined_X2_canJoinBehind_u146X8 : GoodIn wsX11_joined (va_wsU RX11 146 RX8 "SumSmith$Linear" ⟨"SumSmith$Linear", "canJoinBehind", "(I)Z"⟩ yX2_canJoinBehind wsX2_canJoinBehind) := goodIn_app (goodIn_of _ (by decide +kernel)) ggX11_joined_X2_canJoinBehind
set_option maxRecDepth 20000 in
theorem gX11_joined_X2_canJoinBehind_u146X9 : GoodIn wsX11_joined (va_wsU RX11 146 RX9 "SumSmith$Linear" ⟨"SumSmith$Linear", "canJoinBehind", "(I)Z"⟩ yX2_canJoinBehind wsX2_canJoinBehind) := goodIn_app (goodIn_of _ (by decide +kernel)) ggX11_joined_X2_canJoinBehind
set_option maxRecDepth 20000 in
theorem ggX11_joined_X10_canJoinBehind : GoodIn wsX11_joined wsX10_canJoinBehind := goodIn_r _ [61, 62, 129, 130, 131] (by decide +kernel) (by decide +kernel)
set_option maxRecDepth 20000 in
theorem gX11_joined_X10_canJoinBehind_u146X10 : GoodIn wsX11_joined (va_wsO RX11 146 RX10 "SumSmith$Linear" ⟨"SumSmith$Linear", "canJoinBehind", "(I)Z"⟩ yX10_canJoinBehind wsX10_canJoinBehind) := goodIn_app (goodIn_of _ (by decide +kernel)) ggX11_joined_X10_canJoinBehind
set_option maxRecDepth 20000 in
theorem ggX11_joined_X1_carried : GoodIn wsX11_joined wsX1_carried := goodIn_r _ [67, 68, 69, 70, 71, 72, 20, 73, 22, 74, 75, 76, 77, 26, 9, 27, 118, 119, 120, 121, 122, 123] (by decide +kernel) (by decide +kernel)
set_option maxRecDepth 20000 in
theorem gX11_joined_X1_carried_u149X1 : GoodIn wsX11_joined (va_wsU RX11 149 RX1 "SumSmith$Linear" ⟨"SumSmith$Linear", "carried", "(JI)J"⟩ yX1_carried wsX1_carried) := goodIn_app (goodIn_of _ (by decide +kernel)) ggX11_joined_X1_carried
set_option maxRecDepth 20000 in
theorem ggX11_joined_X8_carried : GoodIn wsX11_joined wsX8_carried := goodIn_r _ [80, 81, 32, 26, 9, 27, 124, 125, 126] (by decide +kernel) (by decide +kernel)
set_option maxRecDepth 20000 in
theorem gX11_joined_X8_carried_u149X8 : GoodIn wsX11_joined (va_wsU RX11 149 RX8 "SumSmith$Linear" ⟨"SumSmith$Linear", "carried", "(JI)J"⟩ yX8_carried wsX8_carried) := goodIn_app (goodIn_of _ (by decide +kernel)) ggX11_joined_X8_carried
set_option maxRecDepth 20000 in
theorem ggX11_joined_X9_carried : GoodIn wsX11_joined wsX9_carried := goodIn_r _ [84, 37, 38, 39, 35, 40, 41, 42, 43, 44, 85, 86, 87, 88, 127, 128] (by decide +kernel) (by decide +kernel)
set_option maxRecDepth 20000 in
theorem gX11_joined_X9_carried_u149X9 : GoodIn wsX11_joined (va_wsU RX11 149 RX9 "SumSmith$Linear" ⟨"SumSmith$Linear", "carried", "(JI)J"⟩ yX9_carried wsX9_carried) := goodIn_app (goodIn_of _ (by decide +kernel)) ggX11_joined_X9_carried
set_option maxRecDepth 20000 in
theorem ggX11_joined_X10_carried : GoodIn wsX11_joined wsX10_carried := goodIn_r _ [91] (by decide +kernel) (by decide +kernel)
set_option maxRecDepth 20000 in
theorem gX11_joined_X10_carried_u149X10 : GoodIn wsX11_joined (va_wsU RX11 149 RX10 "SumSmith$Linear" ⟨"SumSmith$Linear", "carried", "(JI)J"⟩ yX10_carried wsX10_carried) := goodIn_app (goodIn_of _ (by decide +kernel)) ggX11_joined_X10_carried
set_option maxRecDepth 20000 in
theorem ggX11_joined_X1_merged : GoodIn wsX11_joined wsX1_merged := goodIn_r _ [96] (by decide +kernel) (by decide +kernel)
set_option maxRecDepth 20000 in
theorem gX11_joined_X1_merged_u153X1 : GoodIn wsX11_joined (va_wsU RX11 153 RX1 "SumSmith$Linear" ⟨"SumSmith$Linear", "merged", "(JJ)J"⟩ yX1_merged wsX1_merged) := goodIn_app (goodIn_of _ (by decide +kernel)) ggX11_joined_X1_merged
set_option maxRecDepth 20000 in
theorem ggX11_joined_X8_merged : GoodIn wsX11_joined wsX8_merged := goodIn_r _ [99] (by decide +kernel) (by decide +kernel)
set_option maxRecDepth 20000 in
theorem gX11_joined_X8_merged_u153X8 : GoodIn wsX11_joined (va_wsU RX11 153 RX8 "SumSmith$Linear" ⟨"SumSmith$Linear", "merged", "(JJ)J"⟩ yX8_merged wsX8_merged) := goodIn_app (goodIn_of _ (by decide +kernel)) ggX11_joined_X8_merged
set_option maxRecDepth 20000 in
theorem ggX11_joined_X9_merged : GoodIn wsX11_joined wsX9_merged := goodIn_r _ [102, 37, 38, 39, 35, 40, 41, 42, 43, 44, 85, 86, 87, 88, 127, 128] (by decide +kernel) (by decide +kernel)
set_option maxRecDepth 20000 in
theorem gX11_joined_X9_merged_u153X9 : GoodIn wsX11_joined (va_wsU RX11 153 RX9 "SumSmith$Linear" ⟨"SumSmith$Linear", "merged", "(JJ)J"⟩ yX9_merged wsX9_merged) := goodIn_app (goodIn_of _ (by decide +kernel)) ggX11_joined_X9_merged
set_option maxRecDepth 20000 in
theorem ggX11_joined_X10_merged : GoodIn wsX11_joined wsX10_merged := goodIn_r _ [105, 49, 129, 130, 131] (by decide +kernel) (by decide +kernel)
set_option maxRecDepth 20000 in
theorem gX11_joined_X10_merged_u153X10 : GoodIn wsX11_joined (va_wsU RX11 153 RX10 "SumSmith$Linear" ⟨"SumSmith$Linear", "merged", "(JJ)J"⟩ yX10_merged wsX10_merged) := goodIn_app (goodIn_of _ (by decide +kernel)) ggX11_joined_X10_merged
theorem dX11_joined_0 : decode cX11_joined 0 = .ok (.aload_n 0, 1) := by decide +kernel
theorem dX11_joined_1 : decode cX11_joined 1 = .ok (.iload_n 1, 1) := by decide +kernel
theorem dX11_joined_2 : decode cX11_joined 2 = .ok (.invokevirtual 120, 3) := by decide +kernel
theorem dX11_joined_5 : decode cX11_joined 5 = .ok (.astore 8, 2) := by decide +kernel
theorem dX11_joined_7 : decode cX11_joined 7 = .ok (.aload 8, 2) := by decide +kernel
theorem dX11_joined_9 : decode cX11_joined 9 = .ok (.ifnonnull 7, 3) := by decide +kernel
theorem dX11_joined_12 : decode cX11_joined 12 = .ok (.ldc2_w 130, 3) := by decide +kernel
theorem dX11_joined_15 : decode cX11_joined 15 = .ok (.lreturn, 1) := by decide +kernel
theorem dX11_joined_16 : decode cX11_joined 16 = .ok (.aload 8, 2) := by decide +kernel
theorem dX11_joined_18 : decode cX11_joined 18 = .ok (.instanceof 136, 3) := by decide +kernel
theorem dX11_joined_21 : decode cX11_joined 21 = .ok (.ifCond .eq 13, 3) := by decide +kernel
theorem dX11_joined_24 : decode cX11_joined 24 = .ok (.aload 8, 2) := by decide +kernel
theorem dX11_joined_26 : decode cX11_joined 26 = .ok (.checkcast 136, 3) := by decide +kernel
theorem dX11_joined_29 : decode cX11_joined 29 = .ok (.astore 9, 2) := by decide +kernel
theorem dX11_joined_31 : decode cX11_joined 31 = .ok (.goto 7, 3) := by decide +kernel
theorem dX11_joined_34 : decode cX11_joined 34 = .ok (.ldc2_w 138, 3) := by decide +kernel
theorem dX11_joined_37 : decode cX11_joined 37 = .ok (.lreturn, 1) := by decide +kernel
theorem dX11_joined_38 : decode cX11_joined 38 = .ok (.aload 9, 2) := by decide +kernel
theorem dX11_joined_40 : decode cX11_joined 40 = .ok (.lload_n 2, 1) := by decide +kernel
theorem dX11_joined_41 : decode cX11_joined 41 = .ok (.invokevirtual 140, 3) := by decide +kernel
theorem dX11_joined_44 : decode cX11_joined 44 = .ok (.ifCond .eq 37, 3) := by decide +kernel
theorem dX11_joined_47 : decode cX11_joined 47 = .ok (.aload 9, 2) := by decide +kernel
theorem dX11_joined_49 : decode cX11_joined 49 = .ok (.lload 5, 2) := by decide +kernel
theorem dX11_joined_51 : decode cX11_joined 51 = .ok (.invokevirtual 140, 3) := by decide +kernel
theorem dX11_joined_54 : decode cX11_joined 54 = .ok (.ifCond .eq 27, 3) := by decide +kernel
theorem dX11_joined_57 : decode cX11_joined 57 = .ok (.iload 4, 2) := by decide +kernel
theorem dX11_joined_59 : decode cX11_joined 59 = .ok (.iconst 0, 1) := by decide +kernel
theorem dX11_joined_60 : decode cX11_joined 60 = .ok (.sipush 1000, 3) := by decide +kernel
theorem dX11_joined_63 : decode cX11_joined 63 = .ok (.invokestatic 63, 3) := by decide +kernel
theorem dX11_joined_66 : decode cX11_joined 66 = .ok (.ifCond .eq 15, 3) := by decide +kernel
theorem dX11_joined_69 : decode cX11_joined 69 = .ok (.iload 7, 2) := by decide +kernel
theorem dX11_joined_71 : decode cX11_joined 71 = .ok (.iconst 0, 1) := by decide +kernel
theorem dX11_joined_72 : decode cX11_joined 72 = .ok (.sipush 1000, 3) := by decide +kernel
theorem dX11_joined_75 : decode cX11_joined 75 = .ok (.invokestatic 63, 3) := by decide +kernel
theorem dX11_joined_78 : decode cX11_joined 78 = .ok (.ifCond .ne 7, 3) := by decide +kernel
theorem dX11_joined_81 : decode cX11_joined 81 = .ok (.ldc2_w 144, 3) := by decide +kernel
theorem dX11_joined_84 : decode cX11_joined 84 = .ok (.lreturn, 1) := by decide +kernel
theorem dX11_joined_85 : decode cX11_joined 85 = .ok (.aload 9, 2) := by decide +kernel
theorem dX11_joined_87 : decode cX11_joined 87 = .ok (.iload 4, 2) := by decide +kernel
theorem dX11_joined_89 : decode cX11_joined 89 = .ok (.invokevirtual 146, 3) := by decide +kernel
theorem dX11_joined_92 : decode cX11_joined 92 = .ok (.ifCond .eq 21, 3) := by decide +kernel
theorem dX11_joined_95 : decode cX11_joined 95 = .ok (.aload 9, 2) := by decide +kernel
theorem dX11_joined_97 : decode cX11_joined 97 = .ok (.lload 5, 2) := by decide +kernel
theorem dX11_joined_99 : decode cX11_joined 99 = .ok (.aload 9, 2) := by decide +kernel
theorem dX11_joined_101 : decode cX11_joined 101 = .ok (.lload_n 2, 1) := by decide +kernel
theorem dX11_joined_102 : decode cX11_joined 102 = .ok (.iload 7, 2) := by decide +kernel
theorem dX11_joined_104 : decode cX11_joined 104 = .ok (.invokevirtual 149, 3) := by decide +kernel
theorem dX11_joined_107 : decode cX11_joined 107 = .ok (.invokevirtual 153, 3) := by decide +kernel
theorem dX11_joined_110 : decode cX11_joined 110 = .ok (.goto 6, 3) := by decide +kernel
theorem dX11_joined_113 : decode cX11_joined 113 = .ok (.ldc2_w 157, 3) := by decide +kernel
theorem dX11_joined_116 : decode cX11_joined 116 = .ok (.lreturn, 1) := by decide +kernel
set_option maxRecDepth 20000 in
theorem ggX11_other_X11_sumAt : GoodIn wsX11_other wsX11_sumAt := goodIn_r _ [9, 10, 11, 12, 13, 8, 14, 112, 113, 114, 115, 116, 117, 118, 119, 120, 121, 122, 123] (by decide +kernel) (by decide +kernel)
set_option maxRecDepth 20000 in
theorem gX11_other_X11_sumAt : GoodIn wsX11_other (wsV RX11 120 RX11 yX11_sumAt wsX11_sumAt) := goodIn_app (goodIn_of _ (by decide +kernel)) ggX11_other_X11_sumAt
set_option maxRecDepth 20000 in
theorem ggX11_other_X1_holds : GoodIn wsX11_other wsX1_holds := goodIn_r _ [20, 21, 22, 8, 23, 24, 25, 26, 124, 125, 126, 127, 128, 129] (by decide +kernel) (by decide +kernel)
set_option maxRecDepth 20000 in
theorem gX11_other_X1_holds_u140X1 : GoodIn wsX11_other (va_wsU RX11 140 RX1 "SumSmith$Linear" ⟨"SumSmith$Linear", "holds", "(J)Z"⟩ yX1_holds wsX1_holds) := goodIn_app (goodIn_of _ (by decide +kernel)) ggX11_other_X1_holds
set_option maxRecDepth 20000 in
theorem ggX11_other_X8_holds : GoodIn wsX11_other wsX8_holds := goodIn_r _ [30, 31, 22, 8, 23, 24, 25, 26, 130, 131, 132] (by decide +kernel) (by decide +kernel)
set_option maxRecDepth 20000 in
theorem gX11_other_X8_holds_u140X8 : GoodIn wsX11_other (va_wsU RX11 140 RX8 "SumSmith$Linear" ⟨"SumSmith$Linear", "holds", "(J)Z"⟩ yX8_holds wsX8_holds) := goodIn_app (goodIn_of _ (by decide +kernel)) ggX11_other_X8_holds
set_option maxRecDepth 20000 in
theorem ggX11_other_X9_holds : GoodIn wsX11_other wsX9_holds := goodIn_r _ [35, 36, 37, 38, 34, 39, 40, 41, 42, 43, 133, 134] (by decide +kernel) (by decide +kernel)
set_option maxRecDepth 20000 in
theorem gX11_other_X9_holds_u140X9 : GoodIn wsX11_other (va_wsU RX11 140 RX9 "SumSmith$Linear" ⟨"SumSmith$Linear", "holds", "(J)Z"⟩ yX9_holds wsX9_holds) := goodIn_app (goodIn_of _ (by decide +kernel)) ggX11_other_X9_holds
set_option maxRecDepth 20000 in
theorem ggX11_other_X10_holds : GoodIn wsX11_other wsX10_holds := goodIn_r _ [47, 48, 135, 136, 137] (by decide +kernel) (by decide +kernel)
set_option maxRecDepth 20000 in
theorem gX11_other_X10_holds_u140X10 : GoodIn wsX11_other (va_wsU RX11 140 RX10 "SumSmith$Linear" ⟨"SumSmith$Linear", "holds", "(J)Z"⟩ yX10_holds wsX10_holds) := goodIn_app (goodIn_of _ (by decide +kernel)) ggX11_other_X10_holds
set_option maxRecDepth 20000 in
theorem ggX11_other_X11_within : GoodIn wsX11_other wsX11_within := goodIn_r _ [14] (by decide +kernel) (by decide +kernel)
set_option maxRecDepth 20000 in
theorem gX11_other_X11_within : GoodIn wsX11_other (va_wsS RX11 63 yX11_within wsX11_within) := goodIn_app (goodIn_of _ (by decide +kernel)) ggX11_other_X11_within
set_option maxRecDepth 20000 in
theorem ggX11_other_X11_isByte : GoodIn wsX11_other wsX11_isByte := goodIn_r _ [51, 12, 13, 8, 14] (by decide +kernel) (by decide +kernel)
set_option maxRecDepth 20000 in
theorem gX11_other_X11_isByte : GoodIn wsX11_other (va_wsS RX11 127 yX11_isByte wsX11_isByte) := goodIn_app (goodIn_of _ (by decide +kernel)) ggX11_other_X11_isByte
set_option maxRecDepth 20000 in
theorem ggX11_other_X1_changed : GoodIn wsX11_other wsX1_changed := goodIn_r _ [56, 57, 58, 59, 19, 60, 61, 21, 62, 63, 64, 65, 25, 8, 26, 66, 67, 68, 69, 124, 125, 126, 127, 128, 129] (by decide +kernel) (by decide +kernel)
set_option maxRecDepth 20000 in
theorem gX11_other_X1_changed_u159X1 : GoodIn wsX11_other (va_wsU RX11 159 RX1 "SumSmith$Linear" ⟨"SumSmith$Linear", "changed", "(IIII)J"⟩ yX1_changed wsX1_changed) := goodIn_app (goodIn_of _ (by decide +kernel)) ggX11_other_X1_changed
set_option maxRecDepth 20000 in
theorem ggX11_other_X8_changed : GoodIn wsX11_other wsX8_changed := goodIn_r _ [72, 73, 74, 75, 29, 76, 77, 31, 25, 8, 26, 130, 131, 132] (by decide +kernel) (by decide +kernel)
set_option maxRecDepth 20000 in
theorem gX11_other_X8_changed_u159X8 : GoodIn wsX11_other (va_wsU RX11 159 RX8 "SumSmith$Linear" ⟨"SumSmith$Linear", "changed", "(IIII)J"⟩ yX8_changed wsX8_changed) := goodIn_app (goodIn_of _ (by decide +kernel)) ggX11_other_X8_changed
set_option maxRecDepth 20000 in
theorem ggX11_other_X9_changed : GoodIn wsX11_other wsX9_changed := goodIn_r _ [80, 36, 81, 82, 83, 84, 85, 86, 34, 87, 88, 133, 134] (by decide +kernel) (by decide +kernel)
set_option maxRecDepth 20000 in
theorem gX11_other_X9_changed_u159X9 : GoodIn wsX11_other (va_wsU RX11 159 RX9 "SumSmith$Linear" ⟨"SumSmith$Linear", "changed", "(IIII)J"⟩ yX9_changed wsX9_changed) := goodIn_app (goodIn_of _ (by decide +kernel)) ggX11_other_X9_changed
set_option maxRecDepth 20000 in
theorem ggX11_other_X10_changed : GoodIn wsX11_other wsX10_changed := goodIn_r _ [91, 48, 92, 93, 94, 46, 95, 96, 97, 82, 83, 84, 135, 136, 137] (by decide +kernel) (by decide +kernel)
set_option maxRecDepth 20000 in
theorem gX11_other_X10_changed_u159X10 : GoodIn wsX11_other (va_wsU RX11 159 RX10 "SumSmith$Linear" ⟨"SumSmith$Linear", "changed", "(IIII)J"⟩ yX10_changed wsX10_changed) := goodIn_app (goodIn_of _ (by decide +kernel)) ggX11_other_X10_changed
set_option maxRecDepth 20000 in
theorem ggX11_other_X1_merged : GoodIn wsX11_other wsX1_merged := goodIn_r _ [102] (by decide +kernel) (by decide +kernel)
set_option maxRecDepth 20000 in
theorem gX11_other_X1_merged_u153X1 : GoodIn wsX11_other (va_wsU RX11 153 RX1 "SumSmith$Linear" ⟨"SumSmith$Linear", "merged", "(JJ)J"⟩ yX1_merged wsX1_merged) := goodIn_app (goodIn_of _ (by decide +kernel)) ggX11_other_X1_merged
set_option maxRecDepth 20000 in
theorem ggX11_other_X8_merged : GoodIn wsX11_other wsX8_merged := goodIn_r _ [105] (by decide +kernel) (by decide +kernel)
set_option maxRecDepth 20000 in
theorem gX11_other_X8_merged_u153X8 : GoodIn wsX11_other (va_wsU RX11 153 RX8 "SumSmith$Linear" ⟨"SumSmith$Linear", "merged", "(JJ)J"⟩ yX8_merged wsX8_merged) := goodIn_app (goodIn_of _ (by decide +kernel)) ggX11_other_X8_merged
set_option maxRecDepth 20000 in
theorem ggX11_other_X9_merged : GoodIn wsX11_other wsX9_merged := goodIn_r _ [108, 36, 37, 38, 34, 39, 40, 41, 42, 43, 85, 86, 87, 88, 133, 134] (by decide +kernel) (by decide +kernel)
set_option maxRecDepth 20000 in
theorem gX11_other_X9_merged_u153X9 : GoodIn wsX11_other (va_wsU RX11 153 RX9 "SumSmith$Linear" ⟨"SumSmith$Linear", "merged", "(JJ)J"⟩ yX9_merged wsX9_merged) := goodIn_app (goodIn_of _ (by decide +kernel)) ggX11_other_X9_merged
set_option maxRecDepth 20000 in
theorem ggX11_other_X10_merged : GoodIn wsX11_other wsX10_merged := goodIn_r _ [111, 48, 135, 136, 137] (by decide +kernel) (by decide +kernel)
set_option maxRecDepth 20000 in
theorem gX11_other_X10_merged_u153X10 : GoodIn wsX11_other (va_wsU RX11 153 RX10 "SumSmith$Linear" ⟨"SumSmith$Linear", "merged", "(JJ)J"⟩ yX10_merged wsX10_merged) := goodIn_app (goodIn_of _ (by decide +kernel)) ggX11_other_X10_merged
theorem dX11_other_0 : decode cX11_other 0 = .ok (.aload_n 0, 1) := by decide +kernel
theorem dX11_other_1 : decode cX11_other 1 = .ok (.iload_n 1, 1) := by decide +kernel
theorem dX11_other_2 : decode cX11_other 2 = .ok (.invokevirtual 120, 3) := by decide +kernel
theorem dX11_other_5 : decode cX11_other 5 = .ok (.astore 8, 2) := by decide +kernel
theorem dX11_other_7 : decode cX11_other 7 = .ok (.aload 8, 2) := by decide +kernel
theorem dX11_other_9 : decode cX11_other 9 = .ok (.ifnonnull 7, 3) := by decide +kernel
theorem dX11_other_12 : decode cX11_other 12 = .ok (.ldc2_w 130, 3) := by decide +kernel
theorem dX11_other_15 : decode cX11_other 15 = .ok (.lreturn, 1) := by decide +kernel
theorem dX11_other_16 : decode cX11_other 16 = .ok (.aload 8, 2) := by decide +kernel
theorem dX11_other_18 : decode cX11_other 18 = .ok (.instanceof 136, 3) := by decide +kernel
theorem dX11_other_21 : decode cX11_other 21 = .ok (.ifCond .eq 13, 3) := by decide +kernel
theorem dX11_other_24 : decode cX11_other 24 = .ok (.aload 8, 2) := by decide +kernel
theorem dX11_other_26 : decode cX11_other 26 = .ok (.checkcast 136, 3) := by decide +kernel
theorem dX11_other_29 : decode cX11_other 29 = .ok (.astore 9, 2) := by decide +kernel
theorem dX11_other_31 : decode cX11_other 31 = .ok (.goto 7, 3) := by decide +kernel
theorem dX11_other_34 : decode cX11_other 34 = .ok (.ldc2_w 138, 3) := by decide +kernel
theorem dX11_other_37 : decode cX11_other 37 = .ok (.lreturn, 1) := by decide +kernel
theorem dX11_other_38 : decode cX11_other 38 = .ok (.aload 9, 2) := by decide +kernel
theorem dX11_other_40 : decode cX11_other 40 = .ok (.lload_n 2, 1) := by decide +kernel
theorem dX11_other_41 : decode cX11_other 41 = .ok (.invokevirtual 140, 3) := by decide +kernel
theorem dX11_other_44 : decode cX11_other 44 = .ok (.ifCond .eq 44, 3) := by decide +kernel
theorem dX11_other_47 : decode cX11_other 47 = .ok (.iload 4, 2) := by decide +kernel
theorem dX11_other_49 : decode cX11_other 49 = .ok (.iconst 1, 1) := by decide +kernel
theorem dX11_other_50 : decode cX11_other 50 = .ok (.sipush 1000, 3) := by decide +kernel
theorem dX11_other_53 : decode cX11_other 53 = .ok (.invokestatic 63, 3) := by decide +kernel
theorem dX11_other_56 : decode cX11_other 56 = .ok (.ifCond .eq 32, 3) := by decide +kernel
theorem dX11_other_59 : decode cX11_other 59 = .ok (.iload 5, 2) := by decide +kernel
theorem dX11_other_61 : decode cX11_other 61 = .ok (.iconst 0, 1) := by decide +kernel
theorem dX11_other_62 : decode cX11_other 62 = .ok (.iload 4, 2) := by decide +kernel
theorem dX11_other_64 : decode cX11_other 64 = .ok (.iconst 1, 1) := by decide +kernel
theorem dX11_other_65 : decode cX11_other 65 = .ok (.isub, 1) := by decide +kernel
theorem dX11_other_66 : decode cX11_other 66 = .ok (.invokestatic 63, 3) := by decide +kernel
theorem dX11_other_69 : decode cX11_other 69 = .ok (.ifCond .eq 19, 3) := by decide +kernel
theorem dX11_other_72 : decode cX11_other 72 = .ok (.iload 6, 2) := by decide +kernel
theorem dX11_other_74 : decode cX11_other 74 = .ok (.invokestatic 127, 3) := by decide +kernel
theorem dX11_other_77 : decode cX11_other 77 = .ok (.ifCond .eq 11, 3) := by decide +kernel
theorem dX11_other_80 : decode cX11_other 80 = .ok (.iload 7, 2) := by decide +kernel
theorem dX11_other_82 : decode cX11_other 82 = .ok (.invokestatic 127, 3) := by decide +kernel
theorem dX11_other_85 : decode cX11_other 85 = .ok (.ifCond .ne 7, 3) := by decide +kernel
theorem dX11_other_88 : decode cX11_other 88 = .ok (.ldc2_w 144, 3) := by decide +kernel
theorem dX11_other_91 : decode cX11_other 91 = .ok (.lreturn, 1) := by decide +kernel
theorem dX11_other_92 : decode cX11_other 92 = .ok (.aload 9, 2) := by decide +kernel
theorem dX11_other_94 : decode cX11_other 94 = .ok (.lload_n 2, 1) := by decide +kernel
theorem dX11_other_95 : decode cX11_other 95 = .ok (.aload 9, 2) := by decide +kernel
theorem dX11_other_97 : decode cX11_other 97 = .ok (.iload 4, 2) := by decide +kernel
theorem dX11_other_99 : decode cX11_other 99 = .ok (.iload 5, 2) := by decide +kernel
theorem dX11_other_101 : decode cX11_other 101 = .ok (.iload 6, 2) := by decide +kernel
theorem dX11_other_103 : decode cX11_other 103 = .ok (.iload 7, 2) := by decide +kernel
theorem dX11_other_105 : decode cX11_other 105 = .ok (.invokevirtual 159, 3) := by decide +kernel
theorem dX11_other_108 : decode cX11_other 108 = .ok (.invokevirtual 153, 3) := by decide +kernel
theorem dX11_other_111 : decode cX11_other 111 = .ok (.lreturn, 1) := by decide +kernel
set_option maxRecDepth 20000 in
theorem ggX11_less_X11_sumAt : GoodIn wsX11_less wsX11_sumAt := goodIn_r _ [10, 11, 12, 13, 14, 9, 15, 137, 138, 139, 140, 141, 142, 143, 144, 145, 146, 147, 148] (by decide +kernel) (by decide +kernel)
set_option maxRecDepth 20000 in
theorem gX11_less_X11_sumAt : GoodIn wsX11_less (wsV RX11 120 RX11 yX11_sumAt wsX11_sumAt) := goodIn_app (goodIn_of _ (by decide +kernel)) ggX11_less_X11_sumAt
set_option maxRecDepth 20000 in
theorem ggX11_less_X1_holds : GoodIn wsX11_less wsX1_holds := goodIn_r _ [21, 22, 23, 9, 24, 25, 26, 27, 149, 150, 151, 152, 153, 154] (by decide +kernel) (by decide +kernel)
set_option maxRecDepth 20000 in
theorem gX11_less_X1_holds_u140X1 : GoodIn wsX11_less (va_wsU RX11 140 RX1 "SumSmith$Linear" ⟨"SumSmith$Linear", "holds", "(J)Z"⟩ yX1_holds wsX1_holds) := goodIn_app (goodIn_of _ (by decide +kernel)) ggX11_less_X1_holds
set_option maxRecDepth 20000 in
theorem ggX11_less_X8_holds : GoodIn wsX11_less wsX8_holds := goodIn_r _ [31, 32, 23, 9, 24, 25, 26, 27, 155, 156, 157] (by decide +kernel) (by decide +kernel)
set_option maxRecDepth 20000 in
theorem gX11_less_X8_holds_u140X8 : GoodIn wsX11_less (va_wsU RX11 140 RX8 "SumSmith$Linear" ⟨"SumSmith$Linear", "holds", "(J)Z"⟩ yX8_holds wsX8_holds) := goodIn_app (goodIn_of _ (by decide +kernel)) ggX11_less_X8_holds
set_option maxRecDepth 20000 in
theorem ggX11_less_X9_holds : GoodIn wsX11_less wsX9_holds := goodIn_r _ [36, 37, 38, 39, 35, 40, 41, 42, 43, 44, 158, 159] (by decide +kernel) (by decide +kernel)
set_option maxRecDepth 20000 in
theorem gX11_less_X9_holds_u140X9 : GoodIn wsX11_less (va_wsU RX11 140 RX9 "SumSmith$Linear" ⟨"SumSmith$Linear", "holds", "(J)Z"⟩ yX9_holds wsX9_holds) := goodIn_app (goodIn_of _ (by decide +kernel)) ggX11_less_X9_holds
set_option maxRecDepth 20000 in
theorem ggX11_less_X10_holds : GoodIn wsX11_less wsX10_holds := goodIn_r _ [48, 49, 160, 161, 162] (by decide +kernel) (by decide +kernel)
set_option maxRecDepth 20000 in
theorem gX11_less_X10_holds_u140X10 : GoodIn wsX11_less (va_wsU RX11 140 RX10 "SumSmith$Linear" ⟨"SumSmith$Linear", "holds", "(J)Z"⟩ yX10_holds wsX10_holds) := goodIn_app (goodIn_of _ (by decide +kernel)) ggX11_less_X10_holds
set_option maxRecDepth 20000 in
theorem ggX11_less_X11_within : GoodIn wsX11_less wsX11_within := goodIn_r _ [15] (by decide +kernel) (by decide +kernel)
set_option maxRecDepth 20000 in
theorem gX11_less_X11_within : GoodIn wsX11_less (va_wsS RX11 63 yX11_within wsX11_within) := goodIn_app (goodIn_of _ (by decide +kernel)) ggX11_less_X11_within
set_option maxRecDepth 20000 in
theorem ggX11_less_X11_isByte : GoodIn wsX11_less wsX11_isByte := goodIn_r _ [52, 13, 14, 9, 15] (by decide +kernel) (by decide +kernel)
set_option maxRecDepth 20000 in
theorem gX11_less_X11_isByte : GoodIn wsX11_less (va_wsS RX11 127 yX11_isByte wsX11_isByte) := goodIn_app (goodIn_of _ (by decide +kernel)) ggX11_less_X11_isByte
set_option maxRecDepth 20000 in
theorem ggX11_less_X2_canDropFirst : GoodIn wsX11_less wsX2_canDropFirst := goodIn_r _ [58] (by decide +kernel) (by decide +kernel)
set_option maxRecDepth 20000 in
theorem gX11_less_X2_canDropFirst_u163X1 : GoodIn wsX11_less (va_wsU RX11 163 RX1 "SumSmith$Linear" ⟨"SumSmith$Linear", "canDropFirst", "()Z"⟩ yX2_canDropFirst wsX2_canDropFirst) := goodIn_app (goodIn_of _ (by decide +kernel)) ggX11_less_X2_canDropFirst
set_option maxRecDepth 20000 in
theorem gX11_less_X2_canDropFirst_u163X8 : GoodIn wsX11_less (va_wsU RX11 163 RX8 "SumSmith$Linear" ⟨"SumSmith$Linear", "canDropFirst", "()Z"⟩ yX2_canDropFirst wsX2_canDropFirst) := goodIn_app (goodIn_of _ (by decide +kernel)) ggX11_less_X2_canDropFirst
set_option maxRecDepth 20000 in
theorem gX11_less_X2_canDropFirst_u163X9 : GoodIn wsX11_less (va_wsU RX11 163 RX9 "SumSmith$Linear" ⟨"SumSmith$Linear", "canDropFirst", "()Z"⟩ yX2_canDropFirst wsX2_canDropFirst) := goodIn_app (goodIn_of _ (by decide +kernel)) ggX11_less_X2_canDropFirst
set_option maxRecDepth 20000 in
theorem ggX11_less_X10_canDropFirst : GoodIn wsX11_less wsX10_canDropFirst := goodIn_r _ [64, 65, 160, 161, 162] (by decide +kernel) (by decide +kernel)
set_option maxRecDepth 20000 in
theorem gX11_less_X10_canDropFirst_u163X10 : GoodIn wsX11_less (va_wsO RX11 163 RX10 "SumSmith$Linear" ⟨"SumSmith$Linear", "canDropFirst", "()Z"⟩ yX10_canDropFirst wsX10_canDropFirst) := goodIn_app (goodIn_of _ (by decide +kernel)) ggX11_less_X10_canDropFirst
set_option maxRecDepth 20000 in
theorem ggX11_less_X1_changed : GoodIn wsX11_less wsX1_changed := goodIn_r _ [70, 71, 72, 73, 20, 74, 75, 22, 76, 77, 78, 79, 26, 9, 27, 80, 81, 82, 83, 149, 150, 151, 152, 153, 154] (by decide +kernel) (by decide +kernel)
set_option maxRecDepth 20000 in
theorem gX11_less_X1_changed_u159X1 : GoodIn wsX11_less (va_wsU RX11 159 RX1 "SumSmith$Linear" ⟨"SumSmith$Linear", "changed", "(IIII)J"⟩ yX1_changed wsX1_changed) := goodIn_app (goodIn_of _ (by decide +kernel)) ggX11_less_X1_changed
set_option maxRecDepth 20000 in
theorem ggX11_less_X8_changed : GoodIn wsX11_less wsX8_changed := goodIn_r _ [86, 87, 88, 89, 30, 90, 91, 32, 26, 9, 27, 155, 156, 157] (by decide +kernel) (by decide +kernel)
set_option maxRecDepth 20000 in
theorem gX11_less_X8_changed_u159X8 : GoodIn wsX11_less (va_wsU RX11 159 RX8 "SumSmith$Linear" ⟨"SumSmith$Linear", "changed", "(IIII)J"⟩ yX8_changed wsX8_changed) := goodIn_app (goodIn_of _ (by decide +kernel)) ggX11_less_X8_changed
set_option maxRecDepth 20000 in
theorem ggX11_less_X9_changed : GoodIn wsX11_less wsX9_changed := goodIn_r _ [94, 37, 95, 96, 97, 98, 99, 100, 35, 101, 102, 158, 159] (by decide +kernel) (by decide +kernel)
set_option maxRecDepth 20000 in
theorem gX11_less_X9_changed_u159X9 : GoodIn wsX11_less (va_wsU RX11 159 RX9 "SumSmith$Linear" ⟨"SumSmith$Linear", "changed", "(IIII)J"⟩ yX9_changed wsX9_changed) := goodIn_app (goodIn_of _ (by decide +kernel)) ggX11_less_X9_changed
set_option maxRecDepth 20000 in
theorem ggX11_less_X10_changed : GoodIn wsX11_less wsX10_changed := goodIn_r _ [105, 49, 106, 107, 108, 47, 109, 65, 110, 96, 97, 98, 160, 161, 162] (by decide +kernel) (by decide +kernel)
set_option maxRecDepth 20000 in
theorem gX11_less_X10_changed_u159X10 : GoodIn wsX11_less (va_wsU RX11 159 RX10 "SumSmith$Linear" ⟨"SumSmith$Linear", "changed", "(IIII)J"⟩ yX10_changed wsX10_changed) := goodIn_app (goodIn_of _ (by decide +kernel)) ggX11_less_X10_changed
set_option maxRecDepth 20000 in
theorem ggX11_less_X1_merged : GoodIn wsX11_less wsX1_merged := goodIn_r _ [115] (by decide +kernel) (by decide +kernel)
set_option maxRecDepth 20000 in
theorem gX11_less_X1_merged_u153X1 : GoodIn wsX11_less (va_wsU RX11 153 RX1 "SumSmith$Linear" ⟨"SumSmith$Linear", "merged", "(JJ)J"⟩ yX1_merged wsX1_merged) := goodIn_app (goodIn_of _ (by decide +kernel)) ggX11_less_X1_merged
set_option maxRecDepth 20000 in
theorem ggX11_less_X8_merged : GoodIn wsX11_less wsX8_merged := goodIn_r _ [118] (by decide +kernel) (by decide +kernel)
set_option maxRecDepth 20000 in
theorem gX11_less_X8_merged_u153X8 : GoodIn wsX11_less (va_wsU RX11 153 RX8 "SumSmith$Linear" ⟨"SumSmith$Linear", "merged", "(JJ)J"⟩ yX8_merged wsX8_merged) := goodIn_app (goodIn_of _ (by decide +kernel)) ggX11_less_X8_merged
set_option maxRecDepth 20000 in
theorem ggX11_less_X9_merged : GoodIn wsX11_less wsX9_merged := goodIn_r _ [121, 37, 38, 39, 35, 40, 41, 42, 43, 44, 99, 100, 101, 102, 158, 159] (by decide +kernel) (by decide +kernel)
set_option maxRecDepth 20000 in
theorem gX11_less_X9_merged_u153X9 : GoodIn wsX11_less (va_wsU RX11 153 RX9 "SumSmith$Linear" ⟨"SumSmith$Linear", "merged", "(JJ)J"⟩ yX9_merged wsX9_merged) := goodIn_app (goodIn_of _ (by decide +kernel)) ggX11_less_X9_merged
set_option maxRecDepth 20000 in
theorem ggX11_less_X10_merged : GoodIn wsX11_less wsX10_merged := goodIn_r _ [124, 49, 160, 161, 162] (by decide +kernel) (by decide +kernel)
set_option maxRecDepth 20000 in
theorem gX11_less_X10_merged_u153X10 : GoodIn wsX11_less (va_wsU RX11 153 RX10 "SumSmith$Linear" ⟨"SumSmith$Linear", "merged", "(JJ)J"⟩ yX10_merged wsX10_merged) := goodIn_app (goodIn_of _ (by decide +kernel)) ggX11_less_X10_merged
set_option maxRecDepth 20000 in
theorem ggX11_less_X1_withoutLeadingZero : GoodIn wsX11_less wsX1_withoutLeadingZero := goodIn_r _ [130, 131, 71, 72, 73, 20, 74, 75, 22, 76, 77, 78, 79, 26, 9, 27, 80, 81, 82, 83, 149, 150, 151, 152, 153, 154] (by decide +kernel) (by decide +kernel)
set_option maxRecDepth 20000 in
theorem gX11_less_X1_withoutLeadingZero_u166X1 : GoodIn wsX11_less (va_wsO RX11 166 RX1 "SumSmith$Linear" ⟨"SumSmith$Linear", "withoutLeadingZero", "(JI)J"⟩ yX1_withoutLeadingZero wsX1_withoutLeadingZero) := goodIn_app (goodIn_of _ (by decide +kernel)) ggX11_less_X1_withoutLeadingZero
set_option maxRecDepth 20000 in
theorem ggX11_less_X2_withoutLeadingZero : GoodIn wsX11_less wsX2_withoutLeadingZero := goodIn_r _ [132] (by decide +kernel) (by decide +kernel)
set_option maxRecDepth 20000 in
theorem gX11_less_X2_withoutLeadingZero_u166X8 : GoodIn wsX11_less (va_wsU RX11 166 RX8 "SumSmith$Linear" ⟨"SumSmith$Linear", "withoutLeadingZero", "(JI)J"⟩ yX2_withoutLeadingZero wsX2_withoutLeadingZero) := goodIn_app (goodIn_of _ (by decide +kernel)) ggX11_less_X2_withoutLeadingZero
set_option maxRecDepth 20000 in
theorem gX11_less_X2_withoutLeadingZero_u166X9 : GoodIn wsX11_less (va_wsU RX11 166 RX9 "SumSmith$Linear" ⟨"SumSmith$Linear", "withoutLeadingZero", "(JI)J"⟩ yX2_withoutLeadingZero wsX2_withoutLeadingZero) := goodIn_app (goodIn_of _ (by decide +kernel)) ggX11_less_X2_withoutLeadingZero
set_option maxRecDepth 20000 in
theorem gX11_less_X2_withoutLeadingZero_u166X10 : GoodIn wsX11_less (va_wsU RX11 166 RX10 "SumSmith$Linear" ⟨"SumSmith$Linear", "withoutLeadingZero", "(JI)J"⟩ yX2_withoutLeadingZero wsX2_withoutLeadingZero) := goodIn_app (goodIn_of _ (by decide +kernel)) ggX11_less_X2_withoutLeadingZero
theorem dX11_less_0 : decode cX11_less 0 = .ok (.aload_n 0, 1) := by decide +kernel
theorem dX11_less_1 : decode cX11_less 1 = .ok (.iload_n 1, 1) := by decide +kernel
theorem dX11_less_2 : decode cX11_less 2 = .ok (.invokevirtual 120, 3) := by decide +kernel
theorem dX11_less_5 : decode cX11_less 5 = .ok (.astore 6, 2) := by decide +kernel
theorem dX11_less_7 : decode cX11_less 7 = .ok (.aload 6, 2) := by decide +kernel
theorem dX11_less_9 : decode cX11_less 9 = .ok (.ifnonnull 7, 3) := by decide +kernel
theorem dX11_less_12 : decode cX11_less 12 = .ok (.ldc2_w 130, 3) := by decide +kernel
theorem dX11_less_15 : decode cX11_less 15 = .ok (.lreturn, 1) := by decide +kernel
theorem dX11_less_16 : decode cX11_less 16 = .ok (.aload 6, 2) := by decide +kernel
theorem dX11_less_18 : decode cX11_less 18 = .ok (.instanceof 136, 3) := by decide +kernel
theorem dX11_less_21 : decode cX11_less 21 = .ok (.ifCond .eq 13, 3) := by decide +kernel
theorem dX11_less_24 : decode cX11_less 24 = .ok (.aload 6, 2) := by decide +kernel
theorem dX11_less_26 : decode cX11_less 26 = .ok (.checkcast 136, 3) := by decide +kernel
theorem dX11_less_29 : decode cX11_less 29 = .ok (.astore 7, 2) := by decide +kernel
theorem dX11_less_31 : decode cX11_less 31 = .ok (.goto 7, 3) := by decide +kernel
theorem dX11_less_34 : decode cX11_less 34 = .ok (.ldc2_w 138, 3) := by decide +kernel
theorem dX11_less_37 : decode cX11_less 37 = .ok (.lreturn, 1) := by decide +kernel
theorem dX11_less_38 : decode cX11_less 38 = .ok (.aload 7, 2) := by decide +kernel
theorem dX11_less_40 : decode cX11_less 40 = .ok (.lload_n 2, 1) := by decide +kernel
theorem dX11_less_41 : decode cX11_less 41 = .ok (.invokevirtual 140, 3) := by decide +kernel
theorem dX11_less_44 : decode cX11_less 44 = .ok (.ifCond .eq 23, 3) := by decide +kernel
theorem dX11_less_47 : decode cX11_less 47 = .ok (.iload 4, 2) := by decide +kernel
theorem dX11_less_49 : decode cX11_less 49 = .ok (.iconst 1, 1) := by decide +kernel
theorem dX11_less_50 : decode cX11_less 50 = .ok (.sipush 1000, 3) := by decide +kernel
theorem dX11_less_53 : decode cX11_less 53 = .ok (.invokestatic 63, 3) := by decide +kernel
theorem dX11_less_56 : decode cX11_less 56 = .ok (.ifCond .eq 11, 3) := by decide +kernel
theorem dX11_less_59 : decode cX11_less 59 = .ok (.iload 5, 2) := by decide +kernel
theorem dX11_less_61 : decode cX11_less 61 = .ok (.invokestatic 127, 3) := by decide +kernel
theorem dX11_less_64 : decode cX11_less 64 = .ok (.ifCond .ne 7, 3) := by decide +kernel
theorem dX11_less_67 : decode cX11_less 67 = .ok (.ldc2_w 144, 3) := by decide +kernel
theorem dX11_less_70 : decode cX11_less 70 = .ok (.lreturn, 1) := by decide +kernel
theorem dX11_less_71 : decode cX11_less 71 = .ok (.aload 7, 2) := by decide +kernel
theorem dX11_less_73 : decode cX11_less 73 = .ok (.invokevirtual 163, 3) := by decide +kernel
theorem dX11_less_76 : decode cX11_less 76 = .ok (.ifCond .ne 7, 3) := by decide +kernel
theorem dX11_less_79 : decode cX11_less 79 = .ok (.ldc2_w 157, 3) := by decide +kernel
theorem dX11_less_82 : decode cX11_less 82 = .ok (.lreturn, 1) := by decide +kernel
theorem dX11_less_83 : decode cX11_less 83 = .ok (.aload 7, 2) := by decide +kernel
theorem dX11_less_85 : decode cX11_less 85 = .ok (.aload 7, 2) := by decide +kernel
theorem dX11_less_87 : decode cX11_less 87 = .ok (.lload_n 2, 1) := by decide +kernel
theorem dX11_less_88 : decode cX11_less 88 = .ok (.aload 7, 2) := by decide +kernel
theorem dX11_less_90 : decode cX11_less 90 = .ok (.iload 4, 2) := by decide +kernel
theorem dX11_less_92 : decode cX11_less 92 = .ok (.iconst 0, 1) := by decide +kernel
theorem dX11_less_93 : decode cX11_less 93 = .ok (.iload 5, 2) := by decide +kernel
theorem dX11_less_95 : decode cX11_less 95 = .ok (.iconst 0, 1) := by decide +kernel
theorem dX11_less_96 : decode cX11_less 96 = .ok (.invokevirtual 159, 3) := by decide +kernel
theorem dX11_less_99 : decode cX11_less 99 = .ok (.invokevirtual 153, 3) := by decide +kernel
theorem dX11_less_102 : decode cX11_less 102 = .ok (.iload 4, 2) := by decide +kernel
theorem dX11_less_104 : decode cX11_less 104 = .ok (.invokevirtual 166, 3) := by decide +kernel
theorem dX11_less_107 : decode cX11_less 107 = .ok (.lreturn, 1) := by decide +kernel
set_option maxRecDepth 20000 in
theorem ggX11_sees_X11_sumAt : GoodIn wsX11_sees wsX11_sumAt := goodIn_r _ [7, 8, 9, 10, 11, 6, 12, 178, 179, 180, 181, 182, 183, 184, 185, 186, 187, 188, 189] (by decide +kernel) (by decide +kernel)
set_option maxRecDepth 20000 in
theorem gX11_sees_X11_sumAt : GoodIn wsX11_sees (wsV RX11 120 RX11 yX11_sumAt wsX11_sumAt) := goodIn_app (goodIn_of _ (by decide +kernel)) ggX11_sees_X11_sumAt
set_option maxRecDepth 20000 in
theorem ggX11_sees_X11_isSlip : GoodIn wsX11_sees wsX11_isSlip := goodIn_r _ [15, 10, 11, 6, 12] (by decide +kernel) (by decide +kernel)
set_option maxRecDepth 20000 in
theorem gX11_sees_X11_isSlip : GoodIn wsX11_sees (va_wsS RX11 169 yX11_isSlip wsX11_isSlip) := goodIn_app (goodIn_of _ (by decide +kernel)) ggX11_sees_X11_isSlip
set_option maxRecDepth 20000 in
theorem ggX11_sees_X11_within : GoodIn wsX11_sees wsX11_within := goodIn_r _ [12] (by decide +kernel) (by decide +kernel)
set_option maxRecDepth 20000 in
theorem gX11_sees_X11_within : GoodIn wsX11_sees (va_wsS RX11 63 yX11_within wsX11_within) := goodIn_app (goodIn_of _ (by decide +kernel)) ggX11_sees_X11_within
set_option maxRecDepth 20000 in
theorem ggX11_sees_X4_findFirst : GoodIn wsX11_sees wsX4_findFirst := goodIn_r _ [20, 21, 22, 23, 19, 24, 25, 26, 27, 6, 28, 29, 30, 31, 32, 33, 34, 35, 36, 37, 38, 39, 40, 41, 42, 43, 44, 45, 46, 47, 48, 49, 50, 51, 52, 53, 54, 55, 56, 57, 58, 59, 60, 61, 62, 63, 64, 65, 66, 67, 68, 69, 70, 71, 72, 73, 74, 75, 76, 77, 78, 79, 80, 81, 82, 83, 84, 85, 86, 87, 88, 89, 90, 91, 92, 93, 94, 95, 96, 97, 98, 99, 100, 101, 102, 103, 104, 105, 106, 107, 108, 109, 110, 111, 112, 113, 114, 115, 116, 117, 118, 119, 120, 121, 122, 123, 124, 125, 126, 127, 128, 129, 130, 131, 132, 133, 134, 135, 136, 137, 138, 139, 140, 141, 142, 143, 144, 145, 146, 147, 148, 149, 150, 151, 152, 153, 154, 155, 156, 157, 158, 159, 160, 161, 162, 163, 164, 165, 166, 167, 168, 169, 170, 171, 172, 173, 174, 175, 176, 177, 190, 191, 192, 193, 194, 195, 196, 197, 198, 199, 200, 201, 202, 203, 204, 205, 206, 207, 208, 209, 210] (by decide +kernel) (by decide +kernel)
set_option maxRecDepth 20000 in
theorem gX11_sees_X4_findFirst : GoodIn wsX11_sees (wsV RX11 173 RX4 yX4_findFirst wsX4_findFirst) := goodIn_app (goodIn_of _ (by decide +kernel)) ggX11_sees_X4_findFirst
theorem dX11_sees_0 : decode cX11_sees 0 = .ok (.aload_n 0, 1) := by decide +kernel
theorem dX11_sees_1 : decode cX11_sees 1 = .ok (.iload_n 1, 1) := by decide +kernel
theorem dX11_sees_2 : decode cX11_sees 2 = .ok (.invokevirtual 120, 3) := by decide +kernel
theorem dX11_sees_5 : decode cX11_sees 5 = .ok (.astore 5, 2) := by decide +kernel
theorem dX11_sees_7 : decode cX11_sees 7 = .ok (.aload 5, 2) := by decide +kernel
theorem dX11_sees_9 : decode cX11_sees 9 = .ok (.ifnonnull 6, 3) := by decide +kernel
theorem dX11_sees_12 : decode cX11_sees 12 = .ok (.bipush (-2), 2) := by decide +kernel
theorem dX11_sees_14 : decode cX11_sees 14 = .ok (.ireturn, 1) := by decide +kernel
theorem dX11_sees_15 : decode cX11_sees 15 = .ok (.aload 5, 2) := by decide +kernel
theorem dX11_sees_17 : decode cX11_sees 17 = .ok (.instanceof 136, 3) := by decide +kernel
theorem dX11_sees_20 : decode cX11_sees 20 = .ok (.ifCond .eq 13, 3) := by decide +kernel
theorem dX11_sees_23 : decode cX11_sees 23 = .ok (.aload 5, 2) := by decide +kernel
theorem dX11_sees_25 : decode cX11_sees 25 = .ok (.checkcast 136, 3) := by decide +kernel
theorem dX11_sees_28 : decode cX11_sees 28 = .ok (.astore 6, 2) := by decide +kernel
theorem dX11_sees_30 : decode cX11_sees 30 = .ok (.goto 6, 3) := by decide +kernel
theorem dX11_sees_33 : decode cX11_sees 33 = .ok (.bipush (-4), 2) := by decide +kernel
theorem dX11_sees_35 : decode cX11_sees 35 = .ok (.ireturn, 1) := by decide +kernel
theorem dX11_sees_36 : decode cX11_sees 36 = .ok (.iload_n 2, 1) := by decide +kernel
theorem dX11_sees_37 : decode cX11_sees 37 = .ok (.iload_n 3, 1) := by decide +kernel
theorem dX11_sees_38 : decode cX11_sees 38 = .ok (.invokestatic 169, 3) := by decide +kernel
theorem dX11_sees_41 : decode cX11_sees 41 = .ok (.ifCond .eq 14, 3) := by decide +kernel
theorem dX11_sees_44 : decode cX11_sees 44 = .ok (.iload 4, 2) := by decide +kernel
theorem dX11_sees_46 : decode cX11_sees 46 = .ok (.iconst 1, 1) := by decide +kernel
theorem dX11_sees_47 : decode cX11_sees 47 = .ok (.bipush 8, 2) := by decide +kernel
theorem dX11_sees_49 : decode cX11_sees 49 = .ok (.invokestatic 63, 3) := by decide +kernel
theorem dX11_sees_52 : decode cX11_sees 52 = .ok (.ifCond .ne 6, 3) := by decide +kernel
theorem dX11_sees_55 : decode cX11_sees 55 = .ok (.bipush (-3), 2) := by decide +kernel
theorem dX11_sees_57 : decode cX11_sees 57 = .ok (.ireturn, 1) := by decide +kernel
theorem dX11_sees_58 : decode cX11_sees 58 = .ok (.aload_n 0, 1) := by decide +kernel
theorem dX11_sees_59 : decode cX11_sees 59 = .ok (.getfield 38, 3) := by decide +kernel
theorem dX11_sees_62 : decode cX11_sees 62 = .ok (.aload 6, 2) := by decide +kernel
theorem dX11_sees_64 : decode cX11_sees 64 = .ok (.iload_n 2, 1) := by decide +kernel
theorem dX11_sees_65 : decode cX11_sees 65 = .ok (.iload_n 3, 1) := by decide +kernel
theorem dX11_sees_66 : decode cX11_sees 66 = .ok (.iload 4, 2) := by decide +kernel
theorem dX11_sees_68 : decode cX11_sees 68 = .ok (.invokevirtual 173, 3) := by decide +kernel
theorem dX11_sees_71 : decode cX11_sees 71 = .ok (.ifCond .eq 7, 3) := by decide +kernel
theorem dX11_sees_74 : decode cX11_sees 74 = .ok (.iconst 0, 1) := by decide +kernel
theorem dX11_sees_75 : decode cX11_sees 75 = .ok (.goto 4, 3) := by decide +kernel
theorem dX11_sees_78 : decode cX11_sees 78 = .ok (.iconst 1, 1) := by decide +kernel
theorem dX11_sees_79 : decode cX11_sees 79 = .ok (.ireturn, 1) := by decide +kernel
set_option maxRecDepth 20000 in
theorem ggX11_passes_X11_within : GoodIn wsX11_passes wsX11_within := goodIn_r _ [8] (by decide +kernel) (by decide +kernel)
set_option maxRecDepth 20000 in
theorem gX11_passes_X11_within : GoodIn wsX11_passes (va_wsS RX11 63 yX11_within wsX11_within) := goodIn_app (goodIn_of _ (by decide +kernel)) ggX11_passes_X11_within
theorem dX11_passes_0 : decode cX11_passes 0 = .ok (.iload_n 1, 1) := by decide +kernel
theorem dX11_passes_1 : decode cX11_passes 1 = .ok (.iconst 0, 1) := by decide +kernel
theorem dX11_passes_2 : decode cX11_passes 2 = .ok (.aload_n 0, 1) := by decide +kernel
theorem dX11_passes_3 : decode cX11_passes 3 = .ok (.getfield 38, 3) := by decide +kernel
theorem dX11_passes_6 : decode cX11_passes 6 = .ok (.getfield 177, 3) := by decide +kernel
theorem dX11_passes_9 : decode cX11_passes 9 = .ok (.iconst 1, 1) := by decide +kernel
theorem dX11_passes_10 : decode cX11_passes 10 = .ok (.isub, 1) := by decide +kernel
theorem dX11_passes_11 : decode cX11_passes 11 = .ok (.invokestatic 63, 3) := by decide +kernel
theorem dX11_passes_14 : decode cX11_passes 14 = .ok (.ifCond .ne 6, 3) := by decide +kernel
theorem dX11_passes_17 : decode cX11_passes 17 = .ok (.bipush (-2), 2) := by decide +kernel
theorem dX11_passes_19 : decode cX11_passes 19 = .ok (.ireturn, 1) := by decide +kernel
theorem dX11_passes_20 : decode cX11_passes 20 = .ok (.iload_n 2, 1) := by decide +kernel
theorem dX11_passes_21 : decode cX11_passes 21 = .ok (.ifCond .eq 15, 3) := by decide +kernel
theorem dX11_passes_24 : decode cX11_passes 24 = .ok (.aload_n 0, 1) := by decide +kernel
theorem dX11_passes_25 : decode cX11_passes 25 = .ok (.getfield 38, 3) := by decide +kernel
theorem dX11_passes_28 : decode cX11_passes 28 = .ok (.getfield 180, 3) := by decide +kernel
theorem dX11_passes_31 : decode cX11_passes 31 = .ok (.iload_n 1, 1) := by decide +kernel
theorem dX11_passes_32 : decode cX11_passes 32 = .ok (.iaload, 1) := by decide +kernel
theorem dX11_passes_33 : decode cX11_passes 33 = .ok (.goto 12, 3) := by decide +kernel
theorem dX11_passes_36 : decode cX11_passes 36 = .ok (.aload_n 0, 1) := by decide +kernel
theorem dX11_passes_37 : decode cX11_passes 37 = .ok (.getfield 38, 3) := by decide +kernel
theorem dX11_passes_40 : decode cX11_passes 40 = .ok (.getfield 183, 3) := by decide +kernel
theorem dX11_passes_43 : decode cX11_passes 43 = .ok (.iload_n 1, 1) := by decide +kernel
theorem dX11_passes_44 : decode cX11_passes 44 = .ok (.iaload, 1) := by decide +kernel
theorem dX11_passes_45 : decode cX11_passes 45 = .ok (.ireturn, 1) := by decide +kernel
set_option maxRecDepth 20000 in
theorem ggX11_signs_X11_sumAt : GoodIn wsX11_signs wsX11_sumAt := goodIn_r _ [6, 7, 8, 9, 10, 5, 11, 31, 32, 33, 34, 35, 36, 37, 38, 39, 40, 41, 42] (by decide +kernel) (by decide +kernel)
set_option maxRecDepth 20000 in
theorem gX11_signs_X11_sumAt : GoodIn wsX11_signs (wsV RX11 120 RX11 yX11_sumAt wsX11_sumAt) := goodIn_app (goodIn_of _ (by decide +kernel)) ggX11_signs_X11_sumAt
set_option maxRecDepth 20000 in
theorem ggX11_signs_X5_seesSingles : GoodIn wsX11_signs wsX5_seesSingles := goodIn_r _ [16, 17, 18, 19, 20, 15, 21, 22, 43, 44, 45] (by decide +kernel) (by decide +kernel)
set_option maxRecDepth 20000 in
theorem gX11_signs_X5_seesSingles : GoodIn wsX11_signs (wsV RX11 186 RX5 yX5_seesSingles wsX5_seesSingles) := goodIn_app (goodIn_of _ (by decide +kernel)) ggX11_signs_X5_seesSingles
set_option maxRecDepth 20000 in
theorem ggX11_signs_X5_seesSwaps : GoodIn wsX11_signs wsX5_seesSwaps := goodIn_r _ [26, 17, 18, 19, 20, 15, 21, 22, 43, 44, 45] (by decide +kernel) (by decide +kernel)
set_option maxRecDepth 20000 in
theorem gX11_signs_X5_seesSwaps : GoodIn wsX11_signs (wsV RX11 189 RX5 yX5_seesSwaps wsX5_seesSwaps) := goodIn_app (goodIn_of _ (by decide +kernel)) ggX11_signs_X5_seesSwaps
set_option maxRecDepth 20000 in
theorem ggX11_signs_X5_seesTwins : GoodIn wsX11_signs wsX5_seesTwins := goodIn_r _ [30, 17, 18, 19, 20, 15, 21, 22, 43, 44, 45] (by decide +kernel) (by decide +kernel)
set_option maxRecDepth 20000 in
theorem gX11_signs_X5_seesTwins : GoodIn wsX11_signs (wsV RX11 192 RX5 yX5_seesTwins wsX5_seesTwins) := goodIn_app (goodIn_of _ (by decide +kernel)) ggX11_signs_X5_seesTwins
theorem dX11_signs_0 : decode cX11_signs 0 = .ok (.aload_n 0, 1) := by decide +kernel
theorem dX11_signs_1 : decode cX11_signs 1 = .ok (.iload_n 1, 1) := by decide +kernel
theorem dX11_signs_2 : decode cX11_signs 2 = .ok (.invokevirtual 120, 3) := by decide +kernel
theorem dX11_signs_5 : decode cX11_signs 5 = .ok (.astore_n 3, 1) := by decide +kernel
theorem dX11_signs_6 : decode cX11_signs 6 = .ok (.aload_n 3, 1) := by decide +kernel
theorem dX11_signs_7 : decode cX11_signs 7 = .ok (.ifnonnull 6, 3) := by decide +kernel
theorem dX11_signs_10 : decode cX11_signs 10 = .ok (.bipush (-2), 2) := by decide +kernel
theorem dX11_signs_12 : decode cX11_signs 12 = .ok (.ireturn, 1) := by decide +kernel
theorem dX11_signs_13 : decode cX11_signs 13 = .ok (.aload_n 3, 1) := by decide +kernel
theorem dX11_signs_14 : decode cX11_signs 14 = .ok (.instanceof 115, 3) := by decide +kernel
theorem dX11_signs_17 : decode cX11_signs 17 = .ok (.ifCond .eq 12, 3) := by decide +kernel
theorem dX11_signs_20 : decode cX11_signs 20 = .ok (.aload_n 3, 1) := by decide +kernel
theorem dX11_signs_21 : decode cX11_signs 21 = .ok (.checkcast 115, 3) := by decide +kernel
theorem dX11_signs_24 : decode cX11_signs 24 = .ok (.astore 4, 2) := by decide +kernel
theorem dX11_signs_26 : decode cX11_signs 26 = .ok (.goto 6, 3) := by decide +kernel
theorem dX11_signs_29 : decode cX11_signs 29 = .ok (.bipush (-4), 2) := by decide +kernel
theorem dX11_signs_31 : decode cX11_signs 31 = .ok (.ireturn, 1) := by decide +kernel
theorem dX11_signs_32 : decode cX11_signs 32 = .ok (.iload_n 2, 1) := by decide +kernel
theorem dX11_signs_33 : decode cX11_signs 33 = .ok (.tableswitch 69 0 2 #[27, 41, 55], 27) := by decide +kernel
theorem dX11_signs_60 : decode cX11_signs 60 = .ok (.aload 4, 2) := by decide +kernel
theorem dX11_signs_62 : decode cX11_signs 62 = .ok (.invokevirtual 186, 3) := by decide +kernel
theorem dX11_signs_65 : decode cX11_signs 65 = .ok (.ifCond .eq 7, 3) := by decide +kernel
theorem dX11_signs_68 : decode cX11_signs 68 = .ok (.iconst 1, 1) := by decide +kernel
theorem dX11_signs_69 : decode cX11_signs 69 = .ok (.goto 4, 3) := by decide +kernel
theorem dX11_signs_72 : decode cX11_signs 72 = .ok (.iconst 0, 1) := by decide +kernel
theorem dX11_signs_73 : decode cX11_signs 73 = .ok (.ireturn, 1) := by decide +kernel
theorem dX11_signs_74 : decode cX11_signs 74 = .ok (.aload 4, 2) := by decide +kernel
theorem dX11_signs_76 : decode cX11_signs 76 = .ok (.invokevirtual 189, 3) := by decide +kernel
theorem dX11_signs_79 : decode cX11_signs 79 = .ok (.ifCond .eq 7, 3) := by decide +kernel
theorem dX11_signs_82 : decode cX11_signs 82 = .ok (.iconst 1, 1) := by decide +kernel
theorem dX11_signs_83 : decode cX11_signs 83 = .ok (.goto 4, 3) := by decide +kernel
theorem dX11_signs_86 : decode cX11_signs 86 = .ok (.iconst 0, 1) := by decide +kernel
theorem dX11_signs_87 : decode cX11_signs 87 = .ok (.ireturn, 1) := by decide +kernel
theorem dX11_signs_88 : decode cX11_signs 88 = .ok (.aload 4, 2) := by decide +kernel
theorem dX11_signs_90 : decode cX11_signs 90 = .ok (.invokevirtual 192, 3) := by decide +kernel
theorem dX11_signs_93 : decode cX11_signs 93 = .ok (.ifCond .eq 7, 3) := by decide +kernel
theorem dX11_signs_96 : decode cX11_signs 96 = .ok (.iconst 1, 1) := by decide +kernel
theorem dX11_signs_97 : decode cX11_signs 97 = .ok (.goto 4, 3) := by decide +kernel
theorem dX11_signs_100 : decode cX11_signs 100 = .ok (.iconst 0, 1) := by decide +kernel
theorem dX11_signs_101 : decode cX11_signs 101 = .ok (.ireturn, 1) := by decide +kernel
theorem dX11_signs_102 : decode cX11_signs 102 = .ok (.bipush (-3), 2) := by decide +kernel
theorem dX11_signs_104 : decode cX11_signs 104 = .ok (.ireturn, 1) := by decide +kernel
set_option maxRecDepth 20000 in
theorem ggX11_syndrome_X11_sumAt : GoodIn wsX11_syndrome wsX11_sumAt := goodIn_r _ [9, 10, 11, 12, 13, 8, 14, 42, 43, 44, 45, 46, 47, 48, 49, 50, 51, 52, 53] (by decide +kernel) (by decide +kernel)
set_option maxRecDepth 20000 in
theorem gX11_syndrome_X11_sumAt : GoodIn wsX11_syndrome (wsV RX11 120 RX11 yX11_sumAt wsX11_sumAt) := goodIn_app (goodIn_of _ (by decide +kernel)) ggX11_syndrome_X11_sumAt
set_option maxRecDepth 20000 in
theorem ggX11_syndrome_X11_within : GoodIn wsX11_syndrome wsX11_within := goodIn_r _ [14] (by decide +kernel) (by decide +kernel)
set_option maxRecDepth 20000 in
theorem gX11_syndrome_X11_within : GoodIn wsX11_syndrome (va_wsS RX11 63 yX11_within wsX11_within) := goodIn_app (goodIn_of _ (by decide +kernel)) ggX11_syndrome_X11_within
set_option maxRecDepth 20000 in
theorem ggX11_syndrome_X11_bitOfPlace : GoodIn wsX11_syndrome wsX11_bitOfPlace := goodIn_r _ [17] (by decide +kernel) (by decide +kernel)
set_option maxRecDepth 20000 in
theorem gX11_syndrome_X11_bitOfPlace : GoodIn wsX11_syndrome (va_wsS RX11 195 yX11_bitOfPlace wsX11_bitOfPlace) := goodIn_app (goodIn_of _ (by decide +kernel)) ggX11_syndrome_X11_bitOfPlace
set_option maxRecDepth 20000 in
theorem ggX11_syndrome_X11_byteOfPlace : GoodIn wsX11_syndrome wsX11_byteOfPlace := goodIn_r _ [20] (by decide +kernel) (by decide +kernel)
set_option maxRecDepth 20000 in
theorem gX11_syndrome_X11_byteOfPlace : GoodIn wsX11_syndrome (va_wsS RX11 199 yX11_byteOfPlace wsX11_byteOfPlace) := goodIn_app (goodIn_of _ (by decide +kernel)) ggX11_syndrome_X11_byteOfPlace
set_option maxRecDepth 20000 in
theorem ggX11_syndrome_X1_changed : GoodIn wsX11_syndrome wsX1_changed := goodIn_r _ [25, 26, 27, 28, 24, 29, 30, 31, 32, 33, 34, 35, 36, 8, 37, 38, 39, 40, 41, 54, 55, 56, 57, 58, 59] (by decide +kernel) (by decide +kernel)
set_option maxRecDepth 20000 in
theorem gX11_syndrome_X1_changed : GoodIn wsX11_syndrome (wsV RX11 202 RX1 yX1_changed wsX1_changed) := goodIn_app (goodIn_of _ (by decide +kernel)) ggX11_syndrome_X1_changed
theorem dX11_syndrome_0 : decode cX11_syndrome 0 = .ok (.aload_n 0, 1) := by decide +kernel
theorem dX11_syndrome_1 : decode cX11_syndrome 1 = .ok (.iload_n 1, 1) := by decide +kernel
theorem dX11_syndrome_2 : decode cX11_syndrome 2 = .ok (.invokevirtual 120, 3) := by decide +kernel
theorem dX11_syndrome_5 : decode cX11_syndrome 5 = .ok (.astore 4, 2) := by decide +kernel
theorem dX11_syndrome_7 : decode cX11_syndrome 7 = .ok (.aload 4, 2) := by decide +kernel
theorem dX11_syndrome_9 : decode cX11_syndrome 9 = .ok (.ifnonnull 7, 3) := by decide +kernel
theorem dX11_syndrome_12 : decode cX11_syndrome 12 = .ok (.ldc2_w 130, 3) := by decide +kernel
theorem dX11_syndrome_15 : decode cX11_syndrome 15 = .ok (.lreturn, 1) := by decide +kernel
theorem dX11_syndrome_16 : decode cX11_syndrome 16 = .ok (.aload 4, 2) := by decide +kernel
theorem dX11_syndrome_18 : decode cX11_syndrome 18 = .ok (.instanceof 107, 3) := by decide +kernel
theorem dX11_syndrome_21 : decode cX11_syndrome 21 = .ok (.ifCond .eq 13, 3) := by decide +kernel
theorem dX11_syndrome_24 : decode cX11_syndrome 24 = .ok (.aload 4, 2) := by decide +kernel
theorem dX11_syndrome_26 : decode cX11_syndrome 26 = .ok (.checkcast 107, 3) := by decide +kernel
theorem dX11_syndrome_29 : decode cX11_syndrome 29 = .ok (.astore 5, 2) := by decide +kernel
theorem dX11_syndrome_31 : decode cX11_syndrome 31 = .ok (.goto 7, 3) := by decide +kernel
theorem dX11_syndrome_34 : decode cX11_syndrome 34 = .ok (.ldc2_w 138, 3) := by decide +kernel
theorem dX11_syndrome_37 : decode cX11_syndrome 37 = .ok (.lreturn, 1) := by decide +kernel
theorem dX11_syndrome_38 : decode cX11_syndrome 38 = .ok (.iload_n 3, 1) := by decide +kernel
theorem dX11_syndrome_39 : decode cX11_syndrome 39 = .ok (.iconst 1, 1) := by decide +kernel
theorem dX11_syndrome_40 : decode cX11_syndrome 40 = .ok (.bipush 64, 2) := by decide +kernel
theorem dX11_syndrome_42 : decode cX11_syndrome 42 = .ok (.invokestatic 63, 3) := by decide +kernel
theorem dX11_syndrome_45 : decode cX11_syndrome 45 = .ok (.ifCond .eq 17, 3) := by decide +kernel
theorem dX11_syndrome_48 : decode cX11_syndrome 48 = .ok (.iload_n 2, 1) := by decide +kernel
theorem dX11_syndrome_49 : decode cX11_syndrome 49 = .ok (.iconst 0, 1) := by decide +kernel
theorem dX11_syndrome_50 : decode cX11_syndrome 50 = .ok (.bipush 8, 2) := by decide +kernel
theorem dX11_syndrome_52 : decode cX11_syndrome 52 = .ok (.iload_n 3, 1) := by decide +kernel
theorem dX11_syndrome_53 : decode cX11_syndrome 53 = .ok (.imul, 1) := by decide +kernel
theorem dX11_syndrome_54 : decode cX11_syndrome 54 = .ok (.iconst 1, 1) := by decide +kernel
theorem dX11_syndrome_55 : decode cX11_syndrome 55 = .ok (.isub, 1) := by decide +kernel
theorem dX11_syndrome_56 : decode cX11_syndrome 56 = .ok (.invokestatic 63, 3) := by decide +kernel
theorem dX11_syndrome_59 : decode cX11_syndrome 59 = .ok (.ifCond .ne 7, 3) := by decide +kernel
theorem dX11_syndrome_62 : decode cX11_syndrome 62 = .ok (.ldc2_w 144, 3) := by decide +kernel
theorem dX11_syndrome_65 : decode cX11_syndrome 65 = .ok (.lreturn, 1) := by decide +kernel
theorem dX11_syndrome_66 : decode cX11_syndrome 66 = .ok (.iload_n 2, 1) := by decide +kernel
theorem dX11_syndrome_67 : decode cX11_syndrome 67 = .ok (.invokestatic 195, 3) := by decide +kernel
theorem dX11_syndrome_70 : decode cX11_syndrome 70 = .ok (.istore 6, 2) := by decide +kernel
theorem dX11_syndrome_72 : decode cX11_syndrome 72 = .ok (.aload 5, 2) := by decide +kernel
theorem dX11_syndrome_74 : decode cX11_syndrome 74 = .ok (.iload_n 3, 1) := by decide +kernel
theorem dX11_syndrome_75 : decode cX11_syndrome 75 = .ok (.iload_n 2, 1) := by decide +kernel
theorem dX11_syndrome_76 : decode cX11_syndrome 76 = .ok (.invokestatic 199, 3) := by decide +kernel
theorem dX11_syndrome_79 : decode cX11_syndrome 79 = .ok (.iconst 0, 1) := by decide +kernel
theorem dX11_syndrome_80 : decode cX11_syndrome 80 = .ok (.iload 6, 2) := by decide +kernel
theorem dX11_syndrome_82 : decode cX11_syndrome 82 = .ok (.invokevirtual 202, 3) := by decide +kernel
theorem dX11_syndrome_85 : decode cX11_syndrome 85 = .ok (.lreturn, 1) := by decide +kernel
set_option maxRecDepth 20000 in
theorem ggX11_weight_X11_sumAt : GoodIn wsX11_weight wsX11_sumAt := goodIn_r _ [12, 13, 14, 15, 16, 11, 17, 94, 95, 96, 97, 98, 99, 100, 101, 102, 103, 104, 105] (by decide +kernel) (by decide +kernel)
set_option maxRecDepth 20000 in
theorem gX11_weight_X11_sumAt : GoodIn wsX11_weight (wsV RX11 120 RX11 yX11_sumAt wsX11_sumAt) := goodIn_app (goodIn_of _ (by decide +kernel)) ggX11_weight_X11_sumAt
set_option maxRecDepth 20000 in
theorem ggX11_weight_X11_within : GoodIn wsX11_weight wsX11_within := goodIn_r _ [17] (by decide +kernel) (by decide +kernel)
set_option maxRecDepth 20000 in
theorem gX11_weight_X11_within : GoodIn wsX11_weight (va_wsS RX11 63 yX11_within wsX11_within) := goodIn_app (goodIn_of _ (by decide +kernel)) ggX11_weight_X11_within
set_option maxRecDepth 20000 in
theorem ggX11_weight_X3_load : GoodIn wsX11_weight wsX3_load := goodIn_r _ [22, 23, 24, 25, 26, 27, 28, 29, 11, 30, 112, 113, 114] (by decide +kernel) (by decide +kernel)
set_option maxRecDepth 20000 in
theorem gX11_weight_X3_load : GoodIn wsX11_weight (wsV RX11 214 RX3 yX3_load wsX3_load) := goodIn_app (goodIn_of _ (by decide +kernel)) ggX11_weight_X3_load
set_option maxRecDepth 20000 in
theorem ggX11_weight_X3_leastSize : GoodIn wsX11_weight wsX3_leastSize := goodIn_r _ [34, 35, 36, 37, 21, 38, 39, 40, 41, 42, 23, 24, 43, 44, 45, 46, 47, 48, 49, 50, 51, 52, 53, 54, 55, 56, 57, 58, 59, 60, 61, 62, 63, 64, 65, 66, 67, 68, 69, 70, 71, 72, 73, 74, 75, 76, 77, 78, 79, 80, 81, 82, 83, 84, 85, 112, 113, 114, 115, 116, 117, 118, 119] (by decide +kernel) (by decide +kernel)
set_option maxRecDepth 20000 in
theorem gX11_weight_X3_leastSize : GoodIn wsX11_weight (wsV RX11 218 RX3 yX3_leastSize wsX3_leastSize) := goodIn_app (goodIn_of _ (by decide +kernel)) ggX11_weight_X3_leastSize
set_option maxRecDepth 20000 in
theorem ggX11_weight_X3_findFirst : GoodIn wsX11_weight wsX3_findFirst := goodIn_r _ [89, 90, 91, 92, 21, 93, 23, 24, 112, 113, 114] (by decide +kernel) (by decide +kernel)
set_option maxRecDepth 20000 in
theorem gX11_weight_X3_findFirst : GoodIn wsX11_weight (wsV RX11 222 RX3 yX3_findFirst wsX3_findFirst) := goodIn_app (goodIn_of _ (by decide +kernel)) ggX11_weight_X3_findFirst
theorem dX11_weight_0 : decode cX11_weight 0 = .ok (.aload_n 0, 1) := by decide +kernel
theorem dX11_weight_1 : decode cX11_weight 1 = .ok (.iload_n 1, 1) := by decide +kernel
theorem dX11_weight_2 : decode cX11_weight 2 = .ok (.invokevirtual 120, 3) := by decide +kernel
theorem dX11_weight_5 : decode cX11_weight 5 = .ok (.astore_n 3, 1) := by decide +kernel
theorem dX11_weight_6 : decode cX11_weight 6 = .ok (.aload_n 3, 1) := by decide +kernel
theorem dX11_weight_7 : decode cX11_weight 7 = .ok (.ifnonnull 6, 3) := by decide +kernel
theorem dX11_weight_10 : decode cX11_weight 10 = .ok (.bipush (-2), 2) := by decide +kernel
theorem dX11_weight_12 : decode cX11_weight 12 = .ok (.ireturn, 1) := by decide +kernel
theorem dX11_weight_13 : decode cX11_weight 13 = .ok (.aload_n 3, 1) := by decide +kernel
theorem dX11_weight_14 : decode cX11_weight 14 = .ok (.instanceof 107, 3) := by decide +kernel
theorem dX11_weight_17 : decode cX11_weight 17 = .ok (.ifCond .eq 12, 3) := by decide +kernel
theorem dX11_weight_20 : decode cX11_weight 20 = .ok (.aload_n 3, 1) := by decide +kernel
theorem dX11_weight_21 : decode cX11_weight 21 = .ok (.checkcast 107, 3) := by decide +kernel
theorem dX11_weight_24 : decode cX11_weight 24 = .ok (.astore 4, 2) := by decide +kernel
theorem dX11_weight_26 : decode cX11_weight 26 = .ok (.goto 6, 3) := by decide +kernel
theorem dX11_weight_29 : decode cX11_weight 29 = .ok (.bipush (-4), 2) := by decide +kernel
theorem dX11_weight_31 : decode cX11_weight 31 = .ok (.ireturn, 1) := by decide +kernel
theorem dX11_weight_32 : decode cX11_weight 32 = .ok (.iload_n 2, 1) := by decide +kernel
theorem dX11_weight_33 : decode cX11_weight 33 = .ok (.iconst 1, 1) := by decide +kernel
theorem dX11_weight_34 : decode cX11_weight 34 = .ok (.bipush 6, 2) := by decide +kernel
theorem dX11_weight_36 : decode cX11_weight 36 = .ok (.invokestatic 63, 3) := by decide +kernel
theorem dX11_weight_39 : decode cX11_weight 39 = .ok (.ifCond .ne 6, 3) := by decide +kernel
theorem dX11_weight_42 : decode cX11_weight 42 = .ok (.bipush (-3), 2) := by decide +kernel
theorem dX11_weight_44 : decode cX11_weight 44 = .ok (.ireturn, 1) := by decide +kernel
theorem dX11_weight_45 : decode cX11_weight 45 = .ok (.aload_n 0, 1) := by decide +kernel
theorem dX11_weight_46 : decode cX11_weight 46 = .ok (.getfield 45, 3) := by decide +kernel
theorem dX11_weight_49 : decode cX11_weight 49 = .ok (.iload_n 2, 1) := by decide +kernel
theorem dX11_weight_50 : decode cX11_weight 50 = .ok (.aload 4, 2) := by decide +kernel
theorem dX11_weight_52 : decode cX11_weight 52 = .ok (.getfield 203, 3) := by decide +kernel
theorem dX11_weight_55 : decode cX11_weight 55 = .ok (.aload 4, 2) := by decide +kernel
theorem dX11_weight_57 : decode cX11_weight 57 = .ok (.getfield 206, 3) := by decide +kernel
theorem dX11_weight_60 : decode cX11_weight 60 = .ok (.aload 4, 2) := by decide +kernel
theorem dX11_weight_62 : decode cX11_weight 62 = .ok (.getfield 210, 3) := by decide +kernel
theorem dX11_weight_65 : decode cX11_weight 65 = .ok (.invokevirtual 214, 3) := by decide +kernel
theorem dX11_weight_68 : decode cX11_weight 68 = .ok (.aload_n 0, 1) := by decide +kernel
theorem dX11_weight_69 : decode cX11_weight 69 = .ok (.getfield 45, 3) := by decide +kernel
theorem dX11_weight_72 : decode cX11_weight 72 = .ok (.invokevirtual 218, 3) := by decide +kernel
theorem dX11_weight_75 : decode cX11_weight 75 = .ok (.istore 5, 2) := by decide +kernel
theorem dX11_weight_77 : decode cX11_weight 77 = .ok (.iload 5, 2) := by decide +kernel
theorem dX11_weight_79 : decode cX11_weight 79 = .ok (.iconst 4, 1) := by decide +kernel
theorem dX11_weight_80 : decode cX11_weight 80 = .ok (.if_icmp .le 5, 3) := by decide +kernel
theorem dX11_weight_83 : decode cX11_weight 83 = .ok (.iconst (-1), 1) := by decide +kernel
theorem dX11_weight_84 : decode cX11_weight 84 = .ok (.ireturn, 1) := by decide +kernel
theorem dX11_weight_85 : decode cX11_weight 85 = .ok (.aload_n 0, 1) := by decide +kernel
theorem dX11_weight_86 : decode cX11_weight 86 = .ok (.getfield 45, 3) := by decide +kernel
theorem dX11_weight_89 : decode cX11_weight 89 = .ok (.iload 5, 2) := by decide +kernel
theorem dX11_weight_91 : decode cX11_weight 91 = .ok (.aload_n 0, 1) := by decide +kernel
theorem dX11_weight_92 : decode cX11_weight 92 = .ok (.getfield 49, 3) := by decide +kernel
theorem dX11_weight_95 : decode cX11_weight 95 = .ok (.invokevirtual 222, 3) := by decide +kernel
theorem dX11_weight_98 : decode cX11_weight 98 = .ok (.aload_n 0, 1) := by decide +kernel
theorem dX11_weight_99 : decode cX11_weight 99 = .ok (.iload 5, 2) := by decide +kernel
theorem dX11_weight_101 : decode cX11_weight 101 = .ok (.putfield 52, 3) := by decide +kernel
theorem dX11_weight_104 : decode cX11_weight 104 = .ok (.iload 5, 2) := by decide +kernel
theorem dX11_weight_106 : decode cX11_weight 106 = .ok (.ireturn, 1) := by decide +kernel
set_option maxRecDepth 20000 in
theorem ggX11_lightest_X11_within : GoodIn wsX11_lightest wsX11_within := goodIn_r _ [6] (by decide +kernel) (by decide +kernel)
set_option maxRecDepth 20000 in
theorem gX11_lightest_X11_within : GoodIn wsX11_lightest (va_wsS RX11 63 yX11_within wsX11_within) := goodIn_app (goodIn_of _ (by decide +kernel)) ggX11_lightest_X11_within
theorem dX11_lightest_0 : decode cX11_lightest 0 = .ok (.iload_n 1, 1) := by decide +kernel
theorem dX11_lightest_1 : decode cX11_lightest 1 = .ok (.iconst 0, 1) := by decide +kernel
theorem dX11_lightest_2 : decode cX11_lightest 2 = .ok (.iconst 3, 1) := by decide +kernel
theorem dX11_lightest_3 : decode cX11_lightest 3 = .ok (.invokestatic 63, 3) := by decide +kernel
theorem dX11_lightest_6 : decode cX11_lightest 6 = .ok (.ifCond .ne 6, 3) := by decide +kernel
theorem dX11_lightest_9 : decode cX11_lightest 9 = .ok (.bipush (-3), 2) := by decide +kernel
theorem dX11_lightest_11 : decode cX11_lightest 11 = .ok (.ireturn, 1) := by decide +kernel
theorem dX11_lightest_12 : decode cX11_lightest 12 = .ok (.iload_n 1, 1) := by decide +kernel
theorem dX11_lightest_13 : decode cX11_lightest 13 = .ok (.aload_n 0, 1) := by decide +kernel
theorem dX11_lightest_14 : decode cX11_lightest 14 = .ok (.getfield 52, 3) := by decide +kernel
theorem dX11_lightest_17 : decode cX11_lightest 17 = .ok (.if_icmp .ge 12, 3) := by decide +kernel
theorem dX11_lightest_20 : decode cX11_lightest 20 = .ok (.aload_n 0, 1) := by decide +kernel
theorem dX11_lightest_21 : decode cX11_lightest 21 = .ok (.getfield 49, 3) := by decide +kernel
theorem dX11_lightest_24 : decode cX11_lightest 24 = .ok (.iload_n 1, 1) := by decide +kernel
theorem dX11_lightest_25 : decode cX11_lightest 25 = .ok (.iaload, 1) := by decide +kernel
theorem dX11_lightest_26 : decode cX11_lightest 26 = .ok (.goto 4, 3) := by decide +kernel
theorem dX11_lightest_29 : decode cX11_lightest 29 = .ok (.iconst (-1), 1) := by decide +kernel
theorem dX11_lightest_30 : decode cX11_lightest 30 = .ok (.ireturn, 1) := by decide +kernel
set_option maxRecDepth 20000 in
theorem ggX11_count_X11_sumAt : GoodIn wsX11_count wsX11_sumAt := goodIn_r _ [10, 11, 12, 13, 14, 9, 15, 80, 81, 82, 83, 84, 85, 86, 87, 88, 89, 90, 91] (by decide +kernel) (by decide +kernel)
set_option maxRecDepth 20000 in
theorem gX11_count_X11_sumAt : GoodIn wsX11_count (wsV RX11 120 RX11 yX11_sumAt wsX11_sumAt) := goodIn_app (goodIn_of _ (by decide +kernel)) ggX11_count_X11_sumAt
set_option maxRecDepth 20000 in
theorem ggX11_count_X11_within : GoodIn wsX11_count wsX11_within := goodIn_r _ [15] (by decide +kernel) (by decide +kernel)
set_option maxRecDepth 20000 in
theorem gX11_count_X11_within : GoodIn wsX11_count (va_wsS RX11 63 yX11_within wsX11_within) := goodIn_app (goodIn_of _ (by decide +kernel)) ggX11_count_X11_within
set_option maxRecDepth 20000 in
theorem ggX11_count_X3_load : GoodIn wsX11_count wsX3_load := goodIn_r _ [20, 21, 22, 23, 24, 25, 26, 27, 9, 28, 98, 99, 100] (by decide +kernel) (by decide +kernel)
set_option maxRecDepth 20000 in
theorem gX11_count_X3_load : GoodIn wsX11_count (wsV RX11 214 RX3 yX3_load wsX3_load) := goodIn_app (goodIn_of _ (by decide +kernel)) ggX11_count_X3_load
set_option maxRecDepth 20000 in
theorem ggX11_count_X3_howMany : GoodIn wsX11_count wsX3_howMany := goodIn_r _ [32, 33, 34, 35, 19, 36, 21, 22, 37, 38, 39, 40, 41, 42, 43, 44, 45, 46, 47, 48, 49, 50, 51, 52, 53, 54, 55, 56, 57, 58, 59, 60, 61, 62, 63, 64, 65, 66, 67, 68, 69, 70, 71, 72, 73, 74, 75, 76, 77, 78, 79, 98, 99, 100, 101, 102, 103, 104, 105] (by decide +kernel) (by decide +kernel)
set_option maxRecDepth 20000 in
theorem gX11_count_X3_howMany : GoodIn wsX11_count (wsV RX11 224 RX3 yX3_howMany wsX3_howMany) := goodIn_app (goodIn_of _ (by decide +kernel)) ggX11_count_X3_howMany
theorem dX11_count_0 : decode cX11_count 0 = .ok (.aload_n 0, 1) := by decide +kernel
theorem dX11_count_1 : decode cX11_count 1 = .ok (.iload_n 1, 1) := by decide +kernel
theorem dX11_count_2 : decode cX11_count 2 = .ok (.invokevirtual 120, 3) := by decide +kernel
theorem dX11_count_5 : decode cX11_count 5 = .ok (.astore 4, 2) := by decide +kernel
theorem dX11_count_7 : decode cX11_count 7 = .ok (.aload 4, 2) := by decide +kernel
theorem dX11_count_9 : decode cX11_count 9 = .ok (.ifnonnull 6, 3) := by decide +kernel
theorem dX11_count_12 : decode cX11_count 12 = .ok (.bipush (-2), 2) := by decide +kernel
theorem dX11_count_14 : decode cX11_count 14 = .ok (.ireturn, 1) := by decide +kernel
theorem dX11_count_15 : decode cX11_count 15 = .ok (.aload 4, 2) := by decide +kernel
theorem dX11_count_17 : decode cX11_count 17 = .ok (.instanceof 107, 3) := by decide +kernel
theorem dX11_count_20 : decode cX11_count 20 = .ok (.ifCond .eq 13, 3) := by decide +kernel
theorem dX11_count_23 : decode cX11_count 23 = .ok (.aload 4, 2) := by decide +kernel
theorem dX11_count_25 : decode cX11_count 25 = .ok (.checkcast 107, 3) := by decide +kernel
theorem dX11_count_28 : decode cX11_count 28 = .ok (.astore 5, 2) := by decide +kernel
theorem dX11_count_30 : decode cX11_count 30 = .ok (.goto 6, 3) := by decide +kernel
theorem dX11_count_33 : decode cX11_count 33 = .ok (.bipush (-4), 2) := by decide +kernel
theorem dX11_count_35 : decode cX11_count 35 = .ok (.ireturn, 1) := by decide +kernel
theorem dX11_count_36 : decode cX11_count 36 = .ok (.iload_n 2, 1) := by decide +kernel
theorem dX11_count_37 : decode cX11_count 37 = .ok (.iconst 1, 1) := by decide +kernel
theorem dX11_count_38 : decode cX11_count 38 = .ok (.iconst 4, 1) := by decide +kernel
theorem dX11_count_39 : decode cX11_count 39 = .ok (.invokestatic 63, 3) := by decide +kernel
theorem dX11_count_42 : decode cX11_count 42 = .ok (.ifCond .eq 13, 3) := by decide +kernel
theorem dX11_count_45 : decode cX11_count 45 = .ok (.iload_n 3, 1) := by decide +kernel
theorem dX11_count_46 : decode cX11_count 46 = .ok (.iconst 1, 1) := by decide +kernel
theorem dX11_count_47 : decode cX11_count 47 = .ok (.bipush 6, 2) := by decide +kernel
theorem dX11_count_49 : decode cX11_count 49 = .ok (.invokestatic 63, 3) := by decide +kernel
theorem dX11_count_52 : decode cX11_count 52 = .ok (.ifCond .ne 6, 3) := by decide +kernel
theorem dX11_count_55 : decode cX11_count 55 = .ok (.bipush (-3), 2) := by decide +kernel
theorem dX11_count_57 : decode cX11_count 57 = .ok (.ireturn, 1) := by decide +kernel
theorem dX11_count_58 : decode cX11_count 58 = .ok (.aload_n 0, 1) := by decide +kernel
theorem dX11_count_59 : decode cX11_count 59 = .ok (.getfield 45, 3) := by decide +kernel
theorem dX11_count_62 : decode cX11_count 62 = .ok (.iload_n 3, 1) := by decide +kernel
theorem dX11_count_63 : decode cX11_count 63 = .ok (.aload 5, 2) := by decide +kernel
theorem dX11_count_65 : decode cX11_count 65 = .ok (.getfield 203, 3) := by decide +kernel
theorem dX11_count_68 : decode cX11_count 68 = .ok (.aload 5, 2) := by decide +kernel
theorem dX11_count_70 : decode cX11_count 70 = .ok (.getfield 206, 3) := by decide +kernel
theorem dX11_count_73 : decode cX11_count 73 = .ok (.aload 5, 2) := by decide +kernel
theorem dX11_count_75 : decode cX11_count 75 = .ok (.getfield 210, 3) := by decide +kernel
theorem dX11_count_78 : decode cX11_count 78 = .ok (.invokevirtual 214, 3) := by decide +kernel
theorem dX11_count_81 : decode cX11_count 81 = .ok (.aload_n 0, 1) := by decide +kernel
theorem dX11_count_82 : decode cX11_count 82 = .ok (.getfield 45, 3) := by decide +kernel
theorem dX11_count_85 : decode cX11_count 85 = .ok (.iload_n 2, 1) := by decide +kernel
theorem dX11_count_86 : decode cX11_count 86 = .ok (.invokevirtual 224, 3) := by decide +kernel
theorem dX11_count_89 : decode cX11_count 89 = .ok (.ireturn, 1) := by decide +kernel
set_option maxRecDepth 20000 in
theorem ggX11_period_X11_sumAt : GoodIn wsX11_period wsX11_sumAt := goodIn_r _ [6, 7, 8, 9, 10, 5, 11, 25, 26, 27, 28, 29, 30, 31, 32, 33, 34, 35, 36] (by decide +kernel) (by decide +kernel)
set_option maxRecDepth 20000 in
theorem gX11_period_X11_sumAt : GoodIn wsX11_period (wsV RX11 120 RX11 yX11_sumAt wsX11_sumAt) := goodIn_app (goodIn_of _ (by decide +kernel)) ggX11_period_X11_sumAt
set_option maxRecDepth 20000 in
theorem ggX11_period_X1_findPeriod : GoodIn wsX11_period wsX1_findPeriod := goodIn_r _ [16, 17, 18, 19, 20, 21, 15, 22, 23, 5, 24, 37, 38, 39, 40, 41, 42] (by decide +kernel) (by decide +kernel)
set_option maxRecDepth 20000 in
theorem gX11_period_X1_findPeriod : GoodIn wsX11_period (wsV RX11 227 RX1 yX1_findPeriod wsX1_findPeriod) := goodIn_app (goodIn_of _ (by decide +kernel)) ggX11_period_X1_findPeriod
theorem dX11_period_0 : decode cX11_period 0 = .ok (.aload_n 0, 1) := by decide +kernel
theorem dX11_period_1 : decode cX11_period 1 = .ok (.iload_n 1, 1) := by decide +kernel
theorem dX11_period_2 : decode cX11_period 2 = .ok (.invokevirtual 120, 3) := by decide +kernel
theorem dX11_period_5 : decode cX11_period 5 = .ok (.astore_n 2, 1) := by decide +kernel
theorem dX11_period_6 : decode cX11_period 6 = .ok (.aload_n 2, 1) := by decide +kernel
theorem dX11_period_7 : decode cX11_period 7 = .ok (.ifnonnull 6, 3) := by decide +kernel
theorem dX11_period_10 : decode cX11_period 10 = .ok (.bipush (-2), 2) := by decide +kernel
theorem dX11_period_12 : decode cX11_period 12 = .ok (.ireturn, 1) := by decide +kernel
theorem dX11_period_13 : decode cX11_period 13 = .ok (.aload_n 2, 1) := by decide +kernel
theorem dX11_period_14 : decode cX11_period 14 = .ok (.instanceof 107, 3) := by decide +kernel
theorem dX11_period_17 : decode cX11_period 17 = .ok (.ifCond .eq 15, 3) := by decide +kernel
theorem dX11_period_20 : decode cX11_period 20 = .ok (.aload_n 2, 1) := by decide +kernel
theorem dX11_period_21 : decode cX11_period 21 = .ok (.checkcast 107, 3) := by decide +kernel
theorem dX11_period_24 : decode cX11_period 24 = .ok (.astore_n 3, 1) := by decide +kernel
theorem dX11_period_25 : decode cX11_period 25 = .ok (.aload_n 3, 1) := by decide +kernel
theorem dX11_period_26 : decode cX11_period 26 = .ok (.invokevirtual 227, 3) := by decide +kernel
theorem dX11_period_29 : decode cX11_period 29 = .ok (.goto 5, 3) := by decide +kernel
theorem dX11_period_32 : decode cX11_period 32 = .ok (.bipush (-4), 2) := by decide +kernel
theorem dX11_period_34 : decode cX11_period 34 = .ok (.ireturn, 1) := by decide +kernel
set_option maxRecDepth 20000 in
theorem ggX11_free_X11_within : GoodIn wsX11_free wsX11_within := goodIn_r _ [6] (by decide +kernel) (by decide +kernel)
set_option maxRecDepth 20000 in
theorem gX11_free_X11_within : GoodIn wsX11_free (va_wsS RX11 63 yX11_within wsX11_within) := goodIn_app (goodIn_of _ (by decide +kernel)) ggX11_free_X11_within
set_option maxRecDepth 20000 in
theorem ggX11_free_X0_isTold : GoodIn wsX11_free wsX0_isTold := goodIn_r _ [11, 12, 13, 34, 35, 36, 37, 38, 39] (by decide +kernel) (by decide +kernel)
set_option maxRecDepth 20000 in
theorem gX11_free_X0_isTold : GoodIn wsX11_free (wsV RX11 230 RX0 yX0_isTold wsX0_isTold) := goodIn_app (goodIn_of _ (by decide +kernel)) ggX11_free_X0_isTold
set_option maxRecDepth 20000 in
theorem ggX11_free_X0_isFull : GoodIn wsX11_free wsX0_isFull := goodIn_r _ [17, 12, 34, 35, 36, 37, 38, 39] (by decide +kernel) (by decide +kernel)
set_option maxRecDepth 20000 in
theorem gX11_free_X0_isFull : GoodIn wsX11_free (wsV RX11 233 RX0 yX0_isFull wsX0_isFull) := goodIn_app (goodIn_of _ (by decide +kernel)) ggX11_free_X0_isFull
set_option maxRecDepth 20000 in
theorem ggX11_free_X0_addPlace : GoodIn wsX11_free wsX0_addPlace := goodIn_r _ [21, 13, 12, 34, 35, 36, 37, 38, 39] (by decide +kernel) (by decide +kernel)
set_option maxRecDepth 20000 in
theorem gX11_free_X0_addPlace : GoodIn wsX11_free (wsV RX11 234 RX0 yX0_addPlace wsX0_addPlace) := goodIn_app (goodIn_of _ (by decide +kernel)) ggX11_free_X0_addPlace
theorem dX11_free_0 : decode cX11_free 0 = .ok (.iload_n 1, 1) := by decide +kernel
theorem dX11_free_1 : decode cX11_free 1 = .ok (.iconst 0, 1) := by decide +kernel
theorem dX11_free_2 : decode cX11_free 2 = .ok (.bipush 8, 2) := by decide +kernel
theorem dX11_free_4 : decode cX11_free 4 = .ok (.aload_n 0, 1) := by decide +kernel
theorem dX11_free_5 : decode cX11_free 5 = .ok (.getfield 29, 3) := by decide +kernel
theorem dX11_free_8 : decode cX11_free 8 = .ok (.imul, 1) := by decide +kernel
theorem dX11_free_9 : decode cX11_free 9 = .ok (.iconst 1, 1) := by decide +kernel
theorem dX11_free_10 : decode cX11_free 10 = .ok (.isub, 1) := by decide +kernel
theorem dX11_free_11 : decode cX11_free 11 = .ok (.invokestatic 63, 3) := by decide +kernel
theorem dX11_free_14 : decode cX11_free 14 = .ok (.ifCond .eq 14, 3) := by decide +kernel
theorem dX11_free_17 : decode cX11_free 17 = .ok (.aload_n 0, 1) := by decide +kernel
theorem dX11_free_18 : decode cX11_free 18 = .ok (.getfield 58, 3) := by decide +kernel
theorem dX11_free_21 : decode cX11_free 21 = .ok (.iload_n 1, 1) := by decide +kernel
theorem dX11_free_22 : decode cX11_free 22 = .ok (.invokevirtual 230, 3) := by decide +kernel
theorem dX11_free_25 : decode cX11_free 25 = .ok (.ifCond .eq 6, 3) := by decide +kernel
theorem dX11_free_28 : decode cX11_free 28 = .ok (.bipush (-3), 2) := by decide +kernel
theorem dX11_free_30 : decode cX11_free 30 = .ok (.ireturn, 1) := by decide +kernel
theorem dX11_free_31 : decode cX11_free 31 = .ok (.aload_n 0, 1) := by decide +kernel
theorem dX11_free_32 : decode cX11_free 32 = .ok (.getfield 58, 3) := by decide +kernel
theorem dX11_free_35 : decode cX11_free 35 = .ok (.invokevirtual 233, 3) := by decide +kernel
theorem dX11_free_38 : decode cX11_free 38 = .ok (.ifCond .eq 8, 3) := by decide +kernel
theorem dX11_free_41 : decode cX11_free 41 = .ok (.bipush (-6), 2) := by decide +kernel
theorem dX11_free_43 : decode cX11_free 43 = .ok (.goto 11, 3) := by decide +kernel
theorem dX11_free_46 : decode cX11_free 46 = .ok (.aload_n 0, 1) := by decide +kernel
theorem dX11_free_47 : decode cX11_free 47 = .ok (.getfield 58, 3) := by decide +kernel
theorem dX11_free_50 : decode cX11_free 50 = .ok (.iload_n 1, 1) := by decide +kernel
theorem dX11_free_51 : decode cX11_free 51 = .ok (.invokevirtual 234, 3) := by decide +kernel
theorem dX11_free_54 : decode cX11_free 54 = .ok (.ireturn, 1) := by decide +kernel
theorem dX11_bind_0 : decode cX11_bind 0 = .ok (.aload_n 0, 1) := by decide +kernel
theorem dX11_bind_1 : decode cX11_bind 1 = .ok (.getfield 58, 3) := by decide +kernel
theorem dX11_bind_4 : decode cX11_bind 4 = .ok (.getfield 237, 3) := by decide +kernel
theorem dX11_bind_7 : decode cX11_bind 7 = .ok (.istore_n 1, 1) := by decide +kernel
theorem dX11_bind_8 : decode cX11_bind 8 = .ok (.aload_n 0, 1) := by decide +kernel
theorem dX11_bind_9 : decode cX11_bind 9 = .ok (.getfield 58, 3) := by decide +kernel
theorem dX11_bind_12 : decode cX11_bind 12 = .ok (.iconst 0, 1) := by decide +kernel
theorem dX11_bind_13 : decode cX11_bind 13 = .ok (.putfield 237, 3) := by decide +kernel
theorem dX11_bind_16 : decode cX11_bind 16 = .ok (.iload_n 1, 1) := by decide +kernel
theorem dX11_bind_17 : decode cX11_bind 17 = .ok (.ireturn, 1) := by decide +kernel
set_option maxRecDepth 20000 in
theorem ggX11_aim_X11_sumAt : GoodIn wsX11_aim wsX11_sumAt := goodIn_r _ [15, 16, 17, 18, 19, 14, 20, 83, 84, 85, 86, 87, 88, 89, 90, 91, 92, 93, 94] (by decide +kernel) (by decide +kernel)
set_option maxRecDepth 20000 in
theorem gX11_aim_X11_sumAt : GoodIn wsX11_aim (wsV RX11 120 RX11 yX11_sumAt wsX11_sumAt) := goodIn_app (goodIn_of _ (by decide +kernel)) ggX11_aim_X11_sumAt
set_option maxRecDepth 20000 in
theorem ggX11_aim_X1_holds : GoodIn wsX11_aim wsX1_holds := goodIn_r _ [25, 26, 27, 14, 28, 29, 30, 31, 95, 96, 97, 98, 99, 100] (by decide +kernel) (by decide +kernel)
set_option maxRecDepth 20000 in
theorem gX11_aim_X1_holds : GoodIn wsX11_aim (wsV RX11 240 RX1 yX1_holds wsX1_holds) := goodIn_app (goodIn_of _ (by decide +kernel)) ggX11_aim_X1_holds
set_option maxRecDepth 20000 in
theorem ggX11_aim_X3_load : GoodIn wsX11_aim wsX3_load := goodIn_r _ [36, 37, 38, 39, 40, 24, 41, 30, 14, 31, 101, 102, 103] (by decide +kernel) (by decide +kernel)
set_option maxRecDepth 20000 in
theorem gX11_aim_X3_load : GoodIn wsX11_aim (wsV RX11 214 RX3 yX3_load wsX3_load) := goodIn_app (goodIn_of _ (by decide +kernel)) ggX11_aim_X3_load
set_option maxRecDepth 20000 in
theorem ggX11_aim_X1_ofRow : GoodIn wsX11_aim wsX1_ofRow := goodIn_r _ [45, 46, 47, 48, 49, 50, 24, 51, 52, 26, 53, 54, 40, 41, 30, 14, 31, 95, 96, 97, 98, 99, 100] (by decide +kernel) (by decide +kernel)
set_option maxRecDepth 20000 in
theorem gX11_aim_X1_ofRow : GoodIn wsX11_aim (wsV RX11 248 RX1 yX1_ofRow wsX1_ofRow) := goodIn_app (goodIn_of _ (by decide +kernel)) ggX11_aim_X1_ofRow
set_option maxRecDepth 20000 in
theorem ggX11_aim_X0_findWays : GoodIn wsX11_aim wsX0_findWays := goodIn_r _ [59, 60, 61, 62, 63, 64, 65, 66, 67, 68, 69, 58, 70, 71, 72, 73, 74, 75, 76, 77, 78, 79, 80, 81, 82, 104, 105, 106, 107, 108, 109] (by decide +kernel) (by decide +kernel)
set_option maxRecDepth 20000 in
theorem gX11_aim_X0_findWays : GoodIn wsX11_aim (wsV RX11 249 RX0 yX0_findWays wsX0_findWays) := goodIn_app (goodIn_of _ (by decide +kernel)) ggX11_aim_X0_findWays
theorem dX11_aim_0 : decode cX11_aim 0 = .ok (.aload_n 0, 1) := by decide +kernel
theorem dX11_aim_1 : decode cX11_aim 1 = .ok (.iload_n 1, 1) := by decide +kernel
theorem dX11_aim_2 : decode cX11_aim 2 = .ok (.invokevirtual 120, 3) := by decide +kernel
theorem dX11_aim_5 : decode cX11_aim 5 = .ok (.astore 4, 2) := by decide +kernel
theorem dX11_aim_7 : decode cX11_aim 7 = .ok (.aload 4, 2) := by decide +kernel
theorem dX11_aim_9 : decode cX11_aim 9 = .ok (.ifnonnull 6, 3) := by decide +kernel
theorem dX11_aim_12 : decode cX11_aim 12 = .ok (.bipush (-2), 2) := by decide +kernel
theorem dX11_aim_14 : decode cX11_aim 14 = .ok (.ireturn, 1) := by decide +kernel
theorem dX11_aim_15 : decode cX11_aim 15 = .ok (.aload 4, 2) := by decide +kernel
theorem dX11_aim_17 : decode cX11_aim 17 = .ok (.instanceof 107, 3) := by decide +kernel
theorem dX11_aim_20 : decode cX11_aim 20 = .ok (.ifCond .eq 13, 3) := by decide +kernel
theorem dX11_aim_23 : decode cX11_aim 23 = .ok (.aload 4, 2) := by decide +kernel
theorem dX11_aim_25 : decode cX11_aim 25 = .ok (.checkcast 107, 3) := by decide +kernel
theorem dX11_aim_28 : decode cX11_aim 28 = .ok (.astore 5, 2) := by decide +kernel
theorem dX11_aim_30 : decode cX11_aim 30 = .ok (.goto 6, 3) := by decide +kernel
theorem dX11_aim_33 : decode cX11_aim 33 = .ok (.bipush (-4), 2) := by decide +kernel
theorem dX11_aim_35 : decode cX11_aim 35 = .ok (.ireturn, 1) := by decide +kernel
theorem dX11_aim_36 : decode cX11_aim 36 = .ok (.aload 5, 2) := by decide +kernel
theorem dX11_aim_38 : decode cX11_aim 38 = .ok (.lload_n 2, 1) := by decide +kernel
theorem dX11_aim_39 : decode cX11_aim 39 = .ok (.invokevirtual 240, 3) := by decide +kernel
theorem dX11_aim_42 : decode cX11_aim 42 = .ok (.ifCond .ne 6, 3) := by decide +kernel
theorem dX11_aim_45 : decode cX11_aim 45 = .ok (.bipush (-3), 2) := by decide +kernel
theorem dX11_aim_47 : decode cX11_aim 47 = .ok (.ireturn, 1) := by decide +kernel
theorem dX11_aim_48 : decode cX11_aim 48 = .ok (.aload_n 0, 1) := by decide +kernel
theorem dX11_aim_49 : decode cX11_aim 49 = .ok (.getfield 45, 3) := by decide +kernel
theorem dX11_aim_52 : decode cX11_aim 52 = .ok (.aload_n 0, 1) := by decide +kernel
theorem dX11_aim_53 : decode cX11_aim 53 = .ok (.getfield 29, 3) := by decide +kernel
theorem dX11_aim_56 : decode cX11_aim 56 = .ok (.aload 5, 2) := by decide +kernel
theorem dX11_aim_58 : decode cX11_aim 58 = .ok (.getfield 203, 3) := by decide +kernel
theorem dX11_aim_61 : decode cX11_aim 61 = .ok (.aload 5, 2) := by decide +kernel
theorem dX11_aim_63 : decode cX11_aim 63 = .ok (.getfield 206, 3) := by decide +kernel
theorem dX11_aim_66 : decode cX11_aim 66 = .ok (.aload 5, 2) := by decide +kernel
theorem dX11_aim_68 : decode cX11_aim 68 = .ok (.getfield 210, 3) := by decide +kernel
theorem dX11_aim_71 : decode cX11_aim 71 = .ok (.invokevirtual 214, 3) := by decide +kernel
theorem dX11_aim_74 : decode cX11_aim 74 = .ok (.aload_n 0, 1) := by decide +kernel
theorem dX11_aim_75 : decode cX11_aim 75 = .ok (.getfield 58, 3) := by decide +kernel
theorem dX11_aim_78 : decode cX11_aim 78 = .ok (.aload_n 0, 1) := by decide +kernel
theorem dX11_aim_79 : decode cX11_aim 79 = .ok (.getfield 45, 3) := by decide +kernel
theorem dX11_aim_82 : decode cX11_aim 82 = .ok (.getfield 241, 3) := by decide +kernel
theorem dX11_aim_85 : decode cX11_aim 85 = .ok (.aload_n 0, 1) := by decide +kernel
theorem dX11_aim_86 : decode cX11_aim 86 = .ok (.getfield 45, 3) := by decide +kernel
theorem dX11_aim_89 : decode cX11_aim 89 = .ok (.getfield 245, 3) := by decide +kernel
theorem dX11_aim_92 : decode cX11_aim 92 = .ok (.aload 5, 2) := by decide +kernel
theorem dX11_aim_94 : decode cX11_aim 94 = .ok (.aload_n 0, 1) := by decide +kernel
theorem dX11_aim_95 : decode cX11_aim 95 = .ok (.getfield 26, 3) := by decide +kernel
theorem dX11_aim_98 : decode cX11_aim 98 = .ok (.aload_n 0, 1) := by decide +kernel
theorem dX11_aim_99 : decode cX11_aim 99 = .ok (.getfield 29, 3) := by decide +kernel
theorem dX11_aim_102 : decode cX11_aim 102 = .ok (.invokevirtual 248, 3) := by decide +kernel
theorem dX11_aim_105 : decode cX11_aim 105 = .ok (.lload_n 2, 1) := by decide +kernel
theorem dX11_aim_106 : decode cX11_aim 106 = .ok (.lxor, 1) := by decide +kernel
theorem dX11_aim_107 : decode cX11_aim 107 = .ok (.invokevirtual 249, 3) := by decide +kernel
theorem dX11_aim_110 : decode cX11_aim 110 = .ok (.ireturn, 1) := by decide +kernel
set_option maxRecDepth 20000 in
theorem ggX11_way_X11_within : GoodIn wsX11_way wsX11_within := goodIn_r _ [7] (by decide +kernel) (by decide +kernel)
set_option maxRecDepth 20000 in
theorem gX11_way_X11_within : GoodIn wsX11_way (va_wsS RX11 63 yX11_within wsX11_within) := goodIn_app (goodIn_of _ (by decide +kernel)) ggX11_way_X11_within
theorem dX11_way_0 : decode cX11_way 0 = .ok (.iload_n 1, 1) := by decide +kernel
theorem dX11_way_1 : decode cX11_way 1 = .ok (.iconst 0, 1) := by decide +kernel
theorem dX11_way_2 : decode cX11_way 2 = .ok (.aload_n 0, 1) := by decide +kernel
theorem dX11_way_3 : decode cX11_way 3 = .ok (.getfield 58, 3) := by decide +kernel
theorem dX11_way_6 : decode cX11_way 6 = .ok (.getfield 253, 3) := by decide +kernel
theorem dX11_way_9 : decode cX11_way 9 = .ok (.iconst 1, 1) := by decide +kernel
theorem dX11_way_10 : decode cX11_way 10 = .ok (.isub, 1) := by decide +kernel
theorem dX11_way_11 : decode cX11_way 11 = .ok (.invokestatic 63, 3) := by decide +kernel
theorem dX11_way_14 : decode cX11_way 14 = .ok (.ifCond .eq 15, 3) := by decide +kernel
theorem dX11_way_17 : decode cX11_way 17 = .ok (.aload_n 0, 1) := by decide +kernel
theorem dX11_way_18 : decode cX11_way 18 = .ok (.getfield 58, 3) := by decide +kernel
theorem dX11_way_21 : decode cX11_way 21 = .ok (.getfield 256, 3) := by decide +kernel
theorem dX11_way_24 : decode cX11_way 24 = .ok (.iload_n 1, 1) := by decide +kernel
theorem dX11_way_25 : decode cX11_way 25 = .ok (.iaload, 1) := by decide +kernel
theorem dX11_way_26 : decode cX11_way 26 = .ok (.goto 4, 3) := by decide +kernel
theorem dX11_way_29 : decode cX11_way 29 = .ok (.iconst (-1), 1) := by decide +kernel
theorem dX11_way_30 : decode cX11_way 30 = .ok (.ireturn, 1) := by decide +kernel
set_option maxRecDepth 20000 in
theorem ggX11_best_X11_within : GoodIn wsX11_best wsX11_within := goodIn_r _ [5] (by decide +kernel) (by decide +kernel)
set_option maxRecDepth 20000 in
theorem gX11_best_X11_within : GoodIn wsX11_best (va_wsS RX11 63 yX11_within wsX11_within) := goodIn_app (goodIn_of _ (by decide +kernel)) ggX11_best_X11_within
set_option maxRecDepth 20000 in
theorem ggX11_best_X3_findBest : GoodIn wsX11_best wsX3_findBest := goodIn_r _ [10, 11, 12, 13, 9, 14, 15, 16, 17, 18, 19, 20, 21, 4, 22, 23, 24, 25, 26, 27, 28, 29, 30, 31, 32, 33, 34, 35, 36, 37, 38, 39, 40, 41, 42, 43, 44, 45, 46, 47, 48, 49, 50, 51, 52, 53, 54, 55, 56, 57, 58, 59, 60, 61, 62, 63, 64, 65, 66, 67, 68, 69, 70, 71, 72, 73, 74, 75, 76, 77, 90, 91, 92, 93, 94, 95, 96, 97] (by decide +kernel) (by decide +kernel)
set_option maxRecDepth 20000 in
theorem gX11_best_X3_findBest : GoodIn wsX11_best (wsV RX11 259 RX3 yX3_findBest wsX3_findBest) := goodIn_app (goodIn_of _ (by decide +kernel)) ggX11_best_X3_findBest
theorem dX11_best_0 : decode cX11_best 0 = .ok (.iload_n 1, 1) := by decide +kernel
theorem dX11_best_1 : decode cX11_best 1 = .ok (.iconst 3, 1) := by decide +kernel
theorem dX11_best_2 : decode cX11_best 2 = .ok (.bipush 8, 2) := by decide +kernel
theorem dX11_best_4 : decode cX11_best 4 = .ok (.invokestatic 63, 3) := by decide +kernel
theorem dX11_best_7 : decode cX11_best 7 = .ok (.ifCond .eq 24, 3) := by decide +kernel
theorem dX11_best_10 : decode cX11_best 10 = .ok (.iload_n 2, 1) := by decide +kernel
theorem dX11_best_11 : decode cX11_best 11 = .ok (.iconst 1, 1) := by decide +kernel
theorem dX11_best_12 : decode cX11_best 12 = .ok (.iconst 3, 1) := by decide +kernel
theorem dX11_best_13 : decode cX11_best 13 = .ok (.invokestatic 63, 3) := by decide +kernel
theorem dX11_best_16 : decode cX11_best 16 = .ok (.ifCond .eq 15, 3) := by decide +kernel
theorem dX11_best_19 : decode cX11_best 19 = .ok (.aload_n 0, 1) := by decide +kernel
theorem dX11_best_20 : decode cX11_best 20 = .ok (.getfield 45, 3) := by decide +kernel
theorem dX11_best_23 : decode cX11_best 23 = .ok (.iload_n 1, 1) := by decide +kernel
theorem dX11_best_24 : decode cX11_best 24 = .ok (.iload_n 2, 1) := by decide +kernel
theorem dX11_best_25 : decode cX11_best 25 = .ok (.invokevirtual 259, 3) := by decide +kernel
theorem dX11_best_28 : decode cX11_best 28 = .ok (.goto 5, 3) := by decide +kernel
theorem dX11_best_31 : decode cX11_best 31 = .ok (.bipush (-3), 2) := by decide +kernel
theorem dX11_best_33 : decode cX11_best 33 = .ok (.ireturn, 1) := by decide +kernel
set_option maxRecDepth 20000 in
theorem ggX11_mend_X11_sumAt : GoodIn wsX11_mend wsX11_sumAt := goodIn_r _ [13, 14, 15, 16, 17, 12, 18, 95, 96, 97, 98, 99, 100, 101, 102, 103, 104, 105, 106] (by decide +kernel) (by decide +kernel)
set_option maxRecDepth 20000 in
theorem gX11_mend_X11_sumAt : GoodIn wsX11_mend (wsV RX11 120 RX11 yX11_sumAt wsX11_sumAt) := goodIn_app (goodIn_of _ (by decide +kernel)) ggX11_mend_X11_sumAt
set_option maxRecDepth 20000 in
theorem ggX11_mend_X1_holds : GoodIn wsX11_mend wsX1_holds := goodIn_r _ [23, 24, 25, 12, 26, 27, 28, 29, 78, 79, 80, 81, 82, 83] (by decide +kernel) (by decide +kernel)
set_option maxRecDepth 20000 in
theorem gX11_mend_X1_holds : GoodIn wsX11_mend (wsV RX11 240 RX1 yX1_holds wsX1_holds) := goodIn_app (goodIn_of _ (by decide +kernel)) ggX11_mend_X1_holds
set_option maxRecDepth 20000 in
theorem ggX11_mend_X1_ofRow : GoodIn wsX11_mend wsX1_ofRow := goodIn_r _ [33, 34, 35, 36, 37, 38, 22, 39, 40, 24, 41, 42, 43, 44, 28, 12, 29, 78, 79, 80, 81, 82, 83] (by decide +kernel) (by decide +kernel)
set_option maxRecDepth 20000 in
theorem gX11_mend_X1_ofRow : GoodIn wsX11_mend (wsV RX11 248 RX1 yX1_ofRow wsX1_ofRow) := goodIn_app (goodIn_of _ (by decide +kernel)) ggX11_mend_X1_ofRow
set_option maxRecDepth 20000 in
theorem ggX11_mend_X3_load : GoodIn wsX11_mend wsX3_load := goodIn_r _ [49, 50, 51, 52, 43, 22, 44, 28, 12, 29, 107, 108, 109] (by decide +kernel) (by decide +kernel)
set_option maxRecDepth 20000 in
theorem gX11_mend_X3_load : GoodIn wsX11_mend (wsV RX11 214 RX3 yX3_load wsX3_load) := goodIn_app (goodIn_of _ (by decide +kernel)) ggX11_mend_X3_load
set_option maxRecDepth 20000 in
theorem ggX11_mend_X3_firstPlaceOf : GoodIn wsX11_mend wsX3_firstPlaceOf := goodIn_r _ [56, 50, 51, 107, 108, 109] (by decide +kernel) (by decide +kernel)
set_option maxRecDepth 20000 in
theorem gX11_mend_X3_firstPlaceOf : GoodIn wsX11_mend (wsV RX11 263 RX3 yX3_firstPlaceOf wsX3_firstPlaceOf) := goodIn_app (goodIn_of _ (by decide +kernel)) ggX11_mend_X3_firstPlaceOf
set_option maxRecDepth 20000 in
theorem ggX11_mend_X11_byteOfPlace : GoodIn wsX11_mend wsX11_byteOfPlace := goodIn_r _ [59] (by decide +kernel) (by decide +kernel)
set_option maxRecDepth 20000 in
theorem gX11_mend_X11_byteOfPlace : GoodIn wsX11_mend (va_wsS RX11 199 yX11_byteOfPlace wsX11_byteOfPlace) := goodIn_app (goodIn_of _ (by decide +kernel)) ggX11_mend_X11_byteOfPlace
set_option maxRecDepth 20000 in
theorem ggX11_mend_X11_bitOfPlace : GoodIn wsX11_mend wsX11_bitOfPlace := goodIn_r _ [62] (by decide +kernel) (by decide +kernel)
set_option maxRecDepth 20000 in
theorem gX11_mend_X11_bitOfPlace : GoodIn wsX11_mend (va_wsS RX11 195 yX11_bitOfPlace wsX11_bitOfPlace) := goodIn_app (goodIn_of _ (by decide +kernel)) ggX11_mend_X11_bitOfPlace
set_option maxRecDepth 20000 in
theorem ggX11_mend_J13_bitCount_95d88 : GoodIn wsX11_mend wsJ13_bitCount_95d88 := goodIn_r _ [66, 67, 68, 69] (by decide +kernel) (by decide +kernel)
set_option maxRecDepth 20000 in
theorem gX11_mend_J13_bitCount_95d88 : GoodIn wsX11_mend (va_wsS RX11 267 yJ13_bitCount_95d88 wsJ13_bitCount_95d88) := goodIn_app (goodIn_of _ (by decide +kernel)) ggX11_mend_J13_bitCount_95d88
set_option maxRecDepth 20000 in
theorem ggX11_mend_J13_numberOfTrailingZeros_95d88 : GoodIn wsX11_mend wsJ13_numberOfTrailingZeros_95d88 := goodIn_r _ [72, 73, 74, 75, 76, 77] (by decide +kernel) (by decide +kernel)
set_option maxRecDepth 20000 in
theorem gX11_mend_J13_numberOfTrailingZeros_95d88 : GoodIn wsX11_mend (va_wsS RX11 272 yJ13_numberOfTrailingZeros_95d88 wsJ13_numberOfTrailingZeros_95d88) := goodIn_app (goodIn_of _ (by decide +kernel)) ggX11_mend_J13_numberOfTrailingZeros_95d88
theorem dX11_mend_0 : decode cX11_mend 0 = .ok (.aload_n 0, 1) := by decide +kernel
theorem dX11_mend_1 : decode cX11_mend 1 = .ok (.iload_n 1, 1) := by decide +kernel
theorem dX11_mend_2 : decode cX11_mend 2 = .ok (.invokevirtual 120, 3) := by decide +kernel
theorem dX11_mend_5 : decode cX11_mend 5 = .ok (.astore 4, 2) := by decide +kernel
theorem dX11_mend_7 : decode cX11_mend 7 = .ok (.aload 4, 2) := by decide +kernel
theorem dX11_mend_9 : decode cX11_mend 9 = .ok (.ifnonnull 6, 3) := by decide +kernel
theorem dX11_mend_12 : decode cX11_mend 12 = .ok (.bipush (-2), 2) := by decide +kernel
theorem dX11_mend_14 : decode cX11_mend 14 = .ok (.ireturn, 1) := by decide +kernel
theorem dX11_mend_15 : decode cX11_mend 15 = .ok (.aload 4, 2) := by decide +kernel
theorem dX11_mend_17 : decode cX11_mend 17 = .ok (.instanceof 107, 3) := by decide +kernel
theorem dX11_mend_20 : decode cX11_mend 20 = .ok (.ifCond .eq 19, 3) := by decide +kernel
theorem dX11_mend_23 : decode cX11_mend 23 = .ok (.aload 4, 2) := by decide +kernel
theorem dX11_mend_25 : decode cX11_mend 25 = .ok (.checkcast 107, 3) := by decide +kernel
theorem dX11_mend_28 : decode cX11_mend 28 = .ok (.astore 5, 2) := by decide +kernel
theorem dX11_mend_30 : decode cX11_mend 30 = .ok (.aload 4, 2) := by decide +kernel
theorem dX11_mend_32 : decode cX11_mend 32 = .ok (.getfield 124, 3) := by decide +kernel
theorem dX11_mend_35 : decode cX11_mend 35 = .ok (.iconst 5, 1) := by decide +kernel
theorem dX11_mend_36 : decode cX11_mend 36 = .ok (.if_icmp .eq 6, 3) := by decide +kernel
theorem dX11_mend_39 : decode cX11_mend 39 = .ok (.bipush (-4), 2) := by decide +kernel
theorem dX11_mend_41 : decode cX11_mend 41 = .ok (.ireturn, 1) := by decide +kernel
theorem dX11_mend_42 : decode cX11_mend 42 = .ok (.aload 5, 2) := by decide +kernel
theorem dX11_mend_44 : decode cX11_mend 44 = .ok (.lload_n 2, 1) := by decide +kernel
theorem dX11_mend_45 : decode cX11_mend 45 = .ok (.invokevirtual 240, 3) := by decide +kernel
theorem dX11_mend_48 : decode cX11_mend 48 = .ok (.ifCond .ne 6, 3) := by decide +kernel
theorem dX11_mend_51 : decode cX11_mend 51 = .ok (.bipush (-3), 2) := by decide +kernel
theorem dX11_mend_53 : decode cX11_mend 53 = .ok (.ireturn, 1) := by decide +kernel
theorem dX11_mend_54 : decode cX11_mend 54 = .ok (.aload 5, 2) := by decide +kernel
theorem dX11_mend_56 : decode cX11_mend 56 = .ok (.aload_n 0, 1) := by decide +kernel
theorem dX11_mend_57 : decode cX11_mend 57 = .ok (.getfield 26, 3) := by decide +kernel
theorem dX11_mend_60 : decode cX11_mend 60 = .ok (.aload_n 0, 1) := by decide +kernel
theorem dX11_mend_61 : decode cX11_mend 61 = .ok (.getfield 29, 3) := by decide +kernel
theorem dX11_mend_64 : decode cX11_mend 64 = .ok (.invokevirtual 248, 3) := by decide +kernel
theorem dX11_mend_67 : decode cX11_mend 67 = .ok (.lload_n 2, 1) := by decide +kernel
theorem dX11_mend_68 : decode cX11_mend 68 = .ok (.lxor, 1) := by decide +kernel
theorem dX11_mend_69 : decode cX11_mend 69 = .ok (.lstore 6, 2) := by decide +kernel
theorem dX11_mend_71 : decode cX11_mend 71 = .ok (.lload 6, 2) := by decide +kernel
theorem dX11_mend_73 : decode cX11_mend 73 = .ok (.lconst 0, 1) := by decide +kernel
theorem dX11_mend_74 : decode cX11_mend 74 = .ok (.lcmp, 1) := by decide +kernel
theorem dX11_mend_75 : decode cX11_mend 75 = .ok (.ifCond .ne 5, 3) := by decide +kernel
theorem dX11_mend_78 : decode cX11_mend 78 = .ok (.iconst 0, 1) := by decide +kernel
theorem dX11_mend_79 : decode cX11_mend 79 = .ok (.ireturn, 1) := by decide +kernel
theorem dX11_mend_80 : decode cX11_mend 80 = .ok (.aload_n 0, 1) := by decide +kernel
theorem dX11_mend_81 : decode cX11_mend 81 = .ok (.getfield 45, 3) := by decide +kernel
theorem dX11_mend_84 : decode cX11_mend 84 = .ok (.aload_n 0, 1) := by decide +kernel
theorem dX11_mend_85 : decode cX11_mend 85 = .ok (.getfield 29, 3) := by decide +kernel
theorem dX11_mend_88 : decode cX11_mend 88 = .ok (.aload 5, 2) := by decide +kernel
theorem dX11_mend_90 : decode cX11_mend 90 = .ok (.getfield 203, 3) := by decide +kernel
theorem dX11_mend_93 : decode cX11_mend 93 = .ok (.aload 5, 2) := by decide +kernel
theorem dX11_mend_95 : decode cX11_mend 95 = .ok (.getfield 206, 3) := by decide +kernel
theorem dX11_mend_98 : decode cX11_mend 98 = .ok (.aload 5, 2) := by decide +kernel
theorem dX11_mend_100 : decode cX11_mend 100 = .ok (.getfield 210, 3) := by decide +kernel
theorem dX11_mend_103 : decode cX11_mend 103 = .ok (.invokevirtual 214, 3) := by decide +kernel
theorem dX11_mend_106 : decode cX11_mend 106 = .ok (.aload_n 0, 1) := by decide +kernel
theorem dX11_mend_107 : decode cX11_mend 107 = .ok (.getfield 45, 3) := by decide +kernel
theorem dX11_mend_110 : decode cX11_mend 110 = .ok (.lload 6, 2) := by decide +kernel
theorem dX11_mend_112 : decode cX11_mend 112 = .ok (.invokevirtual 263, 3) := by decide +kernel
theorem dX11_mend_115 : decode cX11_mend 115 = .ok (.istore 8, 2) := by decide +kernel
theorem dX11_mend_117 : decode cX11_mend 117 = .ok (.iload 8, 2) := by decide +kernel
theorem dX11_mend_119 : decode cX11_mend 119 = .ok (.iconst (-1), 1) := by decide +kernel
theorem dX11_mend_120 : decode cX11_mend 120 = .ok (.if_icmp .eq 26, 3) := by decide +kernel
theorem dX11_mend_123 : decode cX11_mend 123 = .ok (.aload_n 0, 1) := by decide +kernel
theorem dX11_mend_124 : decode cX11_mend 124 = .ok (.getfield 26, 3) := by decide +kernel
theorem dX11_mend_127 : decode cX11_mend 127 = .ok (.iload 8, 2) := by decide +kernel
theorem dX11_mend_129 : decode cX11_mend 129 = .ok (.invokestatic 199, 3) := by decide +kernel
theorem dX11_mend_132 : decode cX11_mend 132 = .ok (.dup2, 1) := by decide +kernel
theorem dX11_mend_133 : decode cX11_mend 133 = .ok (.iaload, 1) := by decide +kernel
theorem dX11_mend_134 : decode cX11_mend 134 = .ok (.iload 8, 2) := by decide +kernel
theorem dX11_mend_136 : decode cX11_mend 136 = .ok (.invokestatic 195, 3) := by decide +kernel
theorem dX11_mend_139 : decode cX11_mend 139 = .ok (.ixor, 1) := by decide +kernel
theorem dX11_mend_140 : decode cX11_mend 140 = .ok (.iastore, 1) := by decide +kernel
theorem dX11_mend_141 : decode cX11_mend 141 = .ok (.iconst 1, 1) := by decide +kernel
theorem dX11_mend_142 : decode cX11_mend 142 = .ok (.iload 8, 2) := by decide +kernel
theorem dX11_mend_144 : decode cX11_mend 144 = .ok (.iadd, 1) := by decide +kernel
theorem dX11_mend_145 : decode cX11_mend 145 = .ok (.ireturn, 1) := by decide +kernel
theorem dX11_mend_146 : decode cX11_mend 146 = .ok (.lload 6, 2) := by decide +kernel
theorem dX11_mend_148 : decode cX11_mend 148 = .ok (.invokestatic 267, 3) := by decide +kernel
theorem dX11_mend_151 : decode cX11_mend 151 = .ok (.iconst 1, 1) := by decide +kernel
theorem dX11_mend_152 : decode cX11_mend 152 = .ok (.if_icmp .ne 15, 3) := by decide +kernel
theorem dX11_mend_155 : decode cX11_mend 155 = .ok (.sipush 1000, 3) := by decide +kernel
theorem dX11_mend_158 : decode cX11_mend 158 = .ok (.lload 6, 2) := by decide +kernel
theorem dX11_mend_160 : decode cX11_mend 160 = .ok (.invokestatic 272, 3) := by decide +kernel
theorem dX11_mend_163 : decode cX11_mend 163 = .ok (.iadd, 1) := by decide +kernel
theorem dX11_mend_164 : decode cX11_mend 164 = .ok (.goto 4, 3) := by decide +kernel
theorem dX11_mend_167 : decode cX11_mend 167 = .ok (.iconst (-1), 1) := by decide +kernel
theorem dX11_mend_168 : decode cX11_mend 168 = .ok (.ireturn, 1) := by decide +kernel
set_option maxRecDepth 20000 in
theorem ggX11_reach_X11_sumAt : GoodIn wsX11_reach wsX11_sumAt := goodIn_r _ [10, 11, 12, 13, 14, 9, 15, 88, 89, 90, 91, 92, 93, 94, 95, 96, 97, 98, 99] (by decide +kernel) (by decide +kernel)
set_option maxRecDepth 20000 in
theorem gX11_reach_X11_sumAt : GoodIn wsX11_reach (wsV RX11 120 RX11 yX11_sumAt wsX11_sumAt) := goodIn_app (goodIn_of _ (by decide +kernel)) ggX11_reach_X11_sumAt
set_option maxRecDepth 20000 in
theorem ggX11_reach_X3_findReach : GoodIn wsX11_reach wsX3_findReach := goodIn_r _ [20, 21, 22, 23, 24, 25, 26, 19, 27, 28, 29, 30, 31, 32, 9, 33, 34, 35, 36, 37, 38, 39, 40, 41, 42, 43, 44, 45, 46, 47, 48, 49, 50, 51, 52, 53, 54, 55, 56, 57, 58, 59, 60, 61, 62, 63, 64, 65, 66, 67, 68, 69, 70, 100, 101, 102, 103, 104, 105, 106, 107] (by decide +kernel) (by decide +kernel)
set_option maxRecDepth 20000 in
theorem gX11_reach_X3_findReach : GoodIn wsX11_reach (wsV RX11 275 RX3 yX3_findReach wsX3_findReach) := goodIn_app (goodIn_of _ (by decide +kernel)) ggX11_reach_X3_findReach
theorem dX11_reach_0 : decode cX11_reach 0 = .ok (.aload_n 0, 1) := by decide +kernel
theorem dX11_reach_1 : decode cX11_reach 1 = .ok (.iload_n 1, 1) := by decide +kernel
theorem dX11_reach_2 : decode cX11_reach 2 = .ok (.invokevirtual 120, 3) := by decide +kernel
theorem dX11_reach_5 : decode cX11_reach 5 = .ok (.astore_n 2, 1) := by decide +kernel
theorem dX11_reach_6 : decode cX11_reach 6 = .ok (.aload_n 2, 1) := by decide +kernel
theorem dX11_reach_7 : decode cX11_reach 7 = .ok (.ifnonnull 6, 3) := by decide +kernel
theorem dX11_reach_10 : decode cX11_reach 10 = .ok (.bipush (-2), 2) := by decide +kernel
theorem dX11_reach_12 : decode cX11_reach 12 = .ok (.ireturn, 1) := by decide +kernel
theorem dX11_reach_13 : decode cX11_reach 13 = .ok (.aload_n 2, 1) := by decide +kernel
theorem dX11_reach_14 : decode cX11_reach 14 = .ok (.instanceof 107, 3) := by decide +kernel
theorem dX11_reach_17 : decode cX11_reach 17 = .ok (.ifCond .eq 16, 3) := by decide +kernel
theorem dX11_reach_20 : decode cX11_reach 20 = .ok (.aload_n 2, 1) := by decide +kernel
theorem dX11_reach_21 : decode cX11_reach 21 = .ok (.checkcast 107, 3) := by decide +kernel
theorem dX11_reach_24 : decode cX11_reach 24 = .ok (.astore_n 3, 1) := by decide +kernel
theorem dX11_reach_25 : decode cX11_reach 25 = .ok (.aload_n 2, 1) := by decide +kernel
theorem dX11_reach_26 : decode cX11_reach 26 = .ok (.getfield 124, 3) := by decide +kernel
theorem dX11_reach_29 : decode cX11_reach 29 = .ok (.iconst 5, 1) := by decide +kernel
theorem dX11_reach_30 : decode cX11_reach 30 = .ok (.if_icmp .eq 6, 3) := by decide +kernel
theorem dX11_reach_33 : decode cX11_reach 33 = .ok (.bipush (-4), 2) := by decide +kernel
theorem dX11_reach_35 : decode cX11_reach 35 = .ok (.ireturn, 1) := by decide +kernel
theorem dX11_reach_36 : decode cX11_reach 36 = .ok (.aload_n 0, 1) := by decide +kernel
theorem dX11_reach_37 : decode cX11_reach 37 = .ok (.getfield 45, 3) := by decide +kernel
theorem dX11_reach_40 : decode cX11_reach 40 = .ok (.aload_n 3, 1) := by decide +kernel
theorem dX11_reach_41 : decode cX11_reach 41 = .ok (.getfield 203, 3) := by decide +kernel
theorem dX11_reach_44 : decode cX11_reach 44 = .ok (.aload_n 3, 1) := by decide +kernel
theorem dX11_reach_45 : decode cX11_reach 45 = .ok (.getfield 206, 3) := by decide +kernel
theorem dX11_reach_48 : decode cX11_reach 48 = .ok (.invokevirtual 275, 3) := by decide +kernel
theorem dX11_reach_51 : decode cX11_reach 51 = .ok (.ireturn, 1) := by decide +kernel
set_option maxRecDepth 20000 in
theorem ggX11_trace_X11_within : GoodIn wsX11_trace wsX11_within := goodIn_r _ [5] (by decide +kernel) (by decide +kernel)
set_option maxRecDepth 20000 in
theorem gX11_trace_X11_within : GoodIn wsX11_trace (va_wsS RX11 63 yX11_within wsX11_within) := goodIn_app (goodIn_of _ (by decide +kernel)) ggX11_trace_X11_within
theorem dX11_trace_0 : decode cX11_trace 0 = .ok (.iload_n 1, 1) := by decide +kernel
theorem dX11_trace_1 : decode cX11_trace 1 = .ok (.iconst 0, 1) := by decide +kernel
theorem dX11_trace_2 : decode cX11_trace 2 = .ok (.bipush 6, 2) := by decide +kernel
theorem dX11_trace_4 : decode cX11_trace 4 = .ok (.invokestatic 63, 3) := by decide +kernel
theorem dX11_trace_7 : decode cX11_trace 7 = .ok (.ifCond .eq 12, 3) := by decide +kernel
theorem dX11_trace_10 : decode cX11_trace 10 = .ok (.aload_n 0, 1) := by decide +kernel
theorem dX11_trace_11 : decode cX11_trace 11 = .ok (.getfield 32, 3) := by decide +kernel
theorem dX11_trace_14 : decode cX11_trace 14 = .ok (.iload_n 1, 1) := by decide +kernel
theorem dX11_trace_15 : decode cX11_trace 15 = .ok (.iaload, 1) := by decide +kernel
theorem dX11_trace_16 : decode cX11_trace 16 = .ok (.goto 5, 3) := by decide +kernel
theorem dX11_trace_19 : decode cX11_trace 19 = .ok (.bipush (-3), 2) := by decide +kernel
theorem dX11_trace_21 : decode cX11_trace 21 = .ok (.ireturn, 1) := by decide +kernel
theorem dX11_about_0 : decode cX11_about 0 = .ok (.iload_n 1, 1) := by decide +kernel
theorem dX11_about_1 : decode cX11_about 1 = .ok (.tableswitch 66 0 4 #[35, 40, 45, 50, 58], 35) := by decide +kernel
theorem dX11_about_36 : decode cX11_about 36 = .ok (.aload_n 0, 1) := by decide +kernel
theorem dX11_about_37 : decode cX11_about 37 = .ok (.getfield 15, 3) := by decide +kernel
theorem dX11_about_40 : decode cX11_about 40 = .ok (.ireturn, 1) := by decide +kernel
theorem dX11_about_41 : decode cX11_about 41 = .ok (.aload_n 0, 1) := by decide +kernel
theorem dX11_about_42 : decode cX11_about 42 = .ok (.getfield 29, 3) := by decide +kernel
theorem dX11_about_45 : decode cX11_about 45 = .ok (.ireturn, 1) := by decide +kernel
theorem dX11_about_46 : decode cX11_about 46 = .ok (.aload_n 0, 1) := by decide +kernel
theorem dX11_about_47 : decode cX11_about 47 = .ok (.getfield 23, 3) := by decide +kernel
theorem dX11_about_50 : decode cX11_about 50 = .ok (.ireturn, 1) := by decide +kernel
theorem dX11_about_51 : decode cX11_about 51 = .ok (.aload_n 0, 1) := by decide +kernel
theorem dX11_about_52 : decode cX11_about 52 = .ok (.getfield 58, 3) := by decide +kernel
theorem dX11_about_55 : decode cX11_about 55 = .ok (.getfield 237, 3) := by decide +kernel
theorem dX11_about_58 : decode cX11_about 58 = .ok (.ireturn, 1) := by decide +kernel
theorem dX11_about_59 : decode cX11_about 59 = .ok (.aload_n 0, 1) := by decide +kernel
theorem dX11_about_60 : decode cX11_about 60 = .ok (.getfield 38, 3) := by decide +kernel
theorem dX11_about_63 : decode cX11_about 63 = .ok (.getfield 177, 3) := by decide +kernel
theorem dX11_about_66 : decode cX11_about 66 = .ok (.ireturn, 1) := by decide +kernel
theorem dX11_about_67 : decode cX11_about 67 = .ok (.bipush (-3), 2) := by decide +kernel
theorem dX11_about_69 : decode cX11_about 69 = .ok (.ireturn, 1) := by decide +kernel
set_option maxRecDepth 20000 in
theorem ggX11_sumAt_X11_within : GoodIn wsX11_sumAt wsX11_within := goodIn_r _ [6] (by decide +kernel) (by decide +kernel)
set_option maxRecDepth 20000 in
theorem gX11_sumAt_X11_within : GoodIn wsX11_sumAt (va_wsS RX11 63 yX11_within wsX11_within) := goodIn_app (goodIn_of _ (by decide +kernel)) ggX11_sumAt_X11_within
theorem dX11_sumAt_0 : decode cX11_sumAt 0 = .ok (.iload_n 1, 1) := by decide +kernel
theorem dX11_sumAt_1 : decode cX11_sumAt 1 = .ok (.iconst 0, 1) := by decide +kernel
theorem dX11_sumAt_2 : decode cX11_sumAt 2 = .ok (.aload_n 0, 1) := by decide +kernel
theorem dX11_sumAt_3 : decode cX11_sumAt 3 = .ok (.getfield 15, 3) := by decide +kernel
theorem dX11_sumAt_6 : decode cX11_sumAt 6 = .ok (.iconst 1, 1) := by decide +kernel
theorem dX11_sumAt_7 : decode cX11_sumAt 7 = .ok (.isub, 1) := by decide +kernel
theorem dX11_sumAt_8 : decode cX11_sumAt 8 = .ok (.invokestatic 63, 3) := by decide +kernel
theorem dX11_sumAt_11 : decode cX11_sumAt 11 = .ok (.ifCond .eq 12, 3) := by decide +kernel
theorem dX11_sumAt_14 : decode cX11_sumAt 14 = .ok (.aload_n 0, 1) := by decide +kernel
theorem dX11_sumAt_15 : decode cX11_sumAt 15 = .ok (.getfield 11, 3) := by decide +kernel
theorem dX11_sumAt_18 : decode cX11_sumAt 18 = .ok (.iload_n 1, 1) := by decide +kernel
theorem dX11_sumAt_19 : decode cX11_sumAt 19 = .ok (.aaload, 1) := by decide +kernel
theorem dX11_sumAt_20 : decode cX11_sumAt 20 = .ok (.goto 4, 3) := by decide +kernel
theorem dX11_sumAt_23 : decode cX11_sumAt 23 = .ok (.aconst_null, 1) := by decide +kernel
theorem dX11_sumAt_24 : decode cX11_sumAt 24 = .ok (.areturn, 1) := by decide +kernel
theorem dX11_isFull_0 : decode cX11_isFull 0 = .ok (.aload_n 0, 1) := by decide +kernel
theorem dX11_isFull_1 : decode cX11_isFull 1 = .ok (.getfield 15, 3) := by decide +kernel
theorem dX11_isFull_4 : decode cX11_isFull 4 = .ok (.bipush 16, 2) := by decide +kernel
theorem dX11_isFull_6 : decode cX11_isFull 6 = .ok (.if_icmp .lt 7, 3) := by decide +kernel
theorem dX11_isFull_9 : decode cX11_isFull 9 = .ok (.iconst 1, 1) := by decide +kernel
theorem dX11_isFull_10 : decode cX11_isFull 10 = .ok (.goto 4, 3) := by decide +kernel
theorem dX11_isFull_13 : decode cX11_isFull 13 = .ok (.iconst 0, 1) := by decide +kernel
theorem dX11_isFull_14 : decode cX11_isFull 14 = .ok (.ireturn, 1) := by decide +kernel
theorem dX11_keepSum_0 : decode cX11_keepSum 0 = .ok (.aload_n 0, 1) := by decide +kernel
theorem dX11_keepSum_1 : decode cX11_keepSum 1 = .ok (.getfield 15, 3) := by decide +kernel
theorem dX11_keepSum_4 : decode cX11_keepSum 4 = .ok (.istore_n 2, 1) := by decide +kernel
theorem dX11_keepSum_5 : decode cX11_keepSum 5 = .ok (.aload_n 0, 1) := by decide +kernel
theorem dX11_keepSum_6 : decode cX11_keepSum 6 = .ok (.getfield 11, 3) := by decide +kernel
theorem dX11_keepSum_9 : decode cX11_keepSum 9 = .ok (.iload_n 2, 1) := by decide +kernel
theorem dX11_keepSum_10 : decode cX11_keepSum 10 = .ok (.aload_n 1, 1) := by decide +kernel
theorem dX11_keepSum_11 : decode cX11_keepSum 11 = .ok (.aastore, 1) := by decide +kernel
theorem dX11_keepSum_12 : decode cX11_keepSum 12 = .ok (.aload_n 0, 1) := by decide +kernel
theorem dX11_keepSum_13 : decode cX11_keepSum 13 = .ok (.dup, 1) := by decide +kernel
theorem dX11_keepSum_14 : decode cX11_keepSum 14 = .ok (.getfield 15, 3) := by decide +kernel
theorem dX11_keepSum_17 : decode cX11_keepSum 17 = .ok (.iconst 1, 1) := by decide +kernel
theorem dX11_keepSum_18 : decode cX11_keepSum 18 = .ok (.iadd, 1) := by decide +kernel
theorem dX11_keepSum_19 : decode cX11_keepSum 19 = .ok (.putfield 15, 3) := by decide +kernel
theorem dX11_keepSum_22 : decode cX11_keepSum 22 = .ok (.iload_n 2, 1) := by decide +kernel
theorem dX11_keepSum_23 : decode cX11_keepSum 23 = .ok (.ireturn, 1) := by decide +kernel
theorem dX11_toldIsSquare_0 : decode cX11_toldIsSquare 0 = .ok (.aload_n 0, 1) := by decide +kernel
theorem dX11_toldIsSquare_1 : decode cX11_toldIsSquare 1 = .ok (.getfield 23, 3) := by decide +kernel
theorem dX11_toldIsSquare_4 : decode cX11_toldIsSquare 4 = .ok (.iload_n 1, 1) := by decide +kernel
theorem dX11_toldIsSquare_5 : decode cX11_toldIsSquare 5 = .ok (.iload_n 1, 1) := by decide +kernel
theorem dX11_toldIsSquare_6 : decode cX11_toldIsSquare 6 = .ok (.imul, 1) := by decide +kernel
theorem dX11_toldIsSquare_7 : decode cX11_toldIsSquare 7 = .ok (.if_icmp .eq 5, 3) := by decide +kernel
theorem dX11_toldIsSquare_10 : decode cX11_toldIsSquare 10 = .ok (.iconst 0, 1) := by decide +kernel
theorem dX11_toldIsSquare_11 : decode cX11_toldIsSquare 11 = .ok (.ireturn, 1) := by decide +kernel
theorem dX11_toldIsSquare_12 : decode cX11_toldIsSquare 12 = .ok (.iconst 0, 1) := by decide +kernel
theorem dX11_toldIsSquare_13 : decode cX11_toldIsSquare 13 = .ok (.istore_n 2, 1) := by decide +kernel
theorem dX11_toldIsSquare_14 : decode cX11_toldIsSquare 14 = .ok (.iload_n 2, 1) := by decide +kernel
theorem dX11_toldIsSquare_15 : decode cX11_toldIsSquare 15 = .ok (.aload_n 0, 1) := by decide +kernel
theorem dX11_toldIsSquare_16 : decode cX11_toldIsSquare 16 = .ok (.getfield 23, 3) := by decide +kernel
theorem dX11_toldIsSquare_19 : decode cX11_toldIsSquare 19 = .ok (.if_icmp .ge 21, 3) := by decide +kernel
theorem dX11_toldIsSquare_22 : decode cX11_toldIsSquare 22 = .ok (.aload_n 0, 1) := by decide +kernel
theorem dX11_toldIsSquare_23 : decode cX11_toldIsSquare 23 = .ok (.getfield 19, 3) := by decide +kernel
theorem dX11_toldIsSquare_26 : decode cX11_toldIsSquare 26 = .ok (.iload_n 2, 1) := by decide +kernel
theorem dX11_toldIsSquare_27 : decode cX11_toldIsSquare 27 = .ok (.iaload, 1) := by decide +kernel
theorem dX11_toldIsSquare_28 : decode cX11_toldIsSquare 28 = .ok (.iload_n 1, 1) := by decide +kernel
theorem dX11_toldIsSquare_29 : decode cX11_toldIsSquare 29 = .ok (.if_icmp .lt 5, 3) := by decide +kernel
theorem dX11_toldIsSquare_32 : decode cX11_toldIsSquare 32 = .ok (.iconst 0, 1) := by decide +kernel
theorem dX11_toldIsSquare_33 : decode cX11_toldIsSquare 33 = .ok (.ireturn, 1) := by decide +kernel
theorem dX11_toldIsSquare_34 : decode cX11_toldIsSquare 34 = .ok (.iinc 2 1, 3) := by decide +kernel
theorem dX11_toldIsSquare_37 : decode cX11_toldIsSquare 37 = .ok (.goto (-23), 3) := by decide +kernel
theorem dX11_toldIsSquare_40 : decode cX11_toldIsSquare 40 = .ok (.iconst 1, 1) := by decide +kernel
theorem dX11_toldIsSquare_41 : decode cX11_toldIsSquare 41 = .ok (.ireturn, 1) := by decide +kernel
theorem dX11_within_0 : decode cX11_within 0 = .ok (.iload_n 0, 1) := by decide +kernel
theorem dX11_within_1 : decode cX11_within 1 = .ok (.iload_n 1, 1) := by decide +kernel
theorem dX11_within_2 : decode cX11_within 2 = .ok (.if_icmp .lt 12, 3) := by decide +kernel
theorem dX11_within_5 : decode cX11_within 5 = .ok (.iload_n 0, 1) := by decide +kernel
theorem dX11_within_6 : decode cX11_within 6 = .ok (.iload_n 2, 1) := by decide +kernel
theorem dX11_within_7 : decode cX11_within 7 = .ok (.if_icmp .gt 7, 3) := by decide +kernel
theorem dX11_within_10 : decode cX11_within 10 = .ok (.iconst 1, 1) := by decide +kernel
theorem dX11_within_11 : decode cX11_within 11 = .ok (.goto 4, 3) := by decide +kernel
theorem dX11_within_14 : decode cX11_within 14 = .ok (.iconst 0, 1) := by decide +kernel
theorem dX11_within_15 : decode cX11_within 15 = .ok (.ireturn, 1) := by decide +kernel
set_option maxRecDepth 20000 in
theorem ggX11_isModulus_X11_within : GoodIn wsX11_isModulus wsX11_within := goodIn_r _ [5] (by decide +kernel) (by decide +kernel)
set_option maxRecDepth 20000 in
theorem gX11_isModulus_X11_within : GoodIn wsX11_isModulus (va_wsS RX11 63 yX11_within wsX11_within) := goodIn_app (goodIn_of _ (by decide +kernel)) ggX11_isModulus_X11_within
theorem dX11_isModulus_0 : decode cX11_isModulus 0 = .ok (.iload_n 0, 1) := by decide +kernel
theorem dX11_isModulus_1 : decode cX11_isModulus 1 = .ok (.iconst 2, 1) := by decide +kernel
theorem dX11_isModulus_2 : decode cX11_isModulus 2 = .ok (.ldc_w 279, 3) := by decide +kernel
theorem dX11_isModulus_5 : decode cX11_isModulus 5 = .ok (.invokestatic 63, 3) := by decide +kernel
theorem dX11_isModulus_8 : decode cX11_isModulus 8 = .ok (.ireturn, 1) := by decide +kernel
set_option maxRecDepth 20000 in
theorem ggX11_isByte_X11_within : GoodIn wsX11_isByte wsX11_within := goodIn_r _ [4] (by decide +kernel) (by decide +kernel)
set_option maxRecDepth 20000 in
theorem gX11_isByte_X11_within : GoodIn wsX11_isByte (va_wsS RX11 63 yX11_within wsX11_within) := goodIn_app (goodIn_of _ (by decide +kernel)) ggX11_isByte_X11_within
theorem dX11_isByte_0 : decode cX11_isByte 0 = .ok (.iload_n 0, 1) := by decide +kernel
theorem dX11_isByte_1 : decode cX11_isByte 1 = .ok (.iconst 0, 1) := by decide +kernel
theorem dX11_isByte_2 : decode cX11_isByte 2 = .ok (.sipush 255, 3) := by decide +kernel
theorem dX11_isByte_5 : decode cX11_isByte 5 = .ok (.invokestatic 63, 3) := by decide +kernel
theorem dX11_isByte_8 : decode cX11_isByte 8 = .ok (.ireturn, 1) := by decide +kernel
set_option maxRecDepth 20000 in
theorem ggX11_isSlip_X11_within : GoodIn wsX11_isSlip wsX11_within := goodIn_r _ [4] (by decide +kernel) (by decide +kernel)
set_option maxRecDepth 20000 in
theorem gX11_isSlip_X11_within : GoodIn wsX11_isSlip (va_wsS RX11 63 yX11_within wsX11_within) := goodIn_app (goodIn_of _ (by decide +kernel)) ggX11_isSlip_X11_within
theorem dX11_isSlip_0 : decode cX11_isSlip 0 = .ok (.iload_n 0, 1) := by decide +kernel
theorem dX11_isSlip_1 : decode cX11_isSlip 1 = .ok (.ifCond .ne 10, 3) := by decide +kernel
theorem dX11_isSlip_4 : decode cX11_isSlip 4 = .ok (.iload_n 1, 1) := by decide +kernel
theorem dX11_isSlip_5 : decode cX11_isSlip 5 = .ok (.iconst 1, 1) := by decide +kernel
theorem dX11_isSlip_6 : decode cX11_isSlip 6 = .ok (.iconst 3, 1) := by decide +kernel
theorem dX11_isSlip_7 : decode cX11_isSlip 7 = .ok (.invokestatic 63, 3) := by decide +kernel
theorem dX11_isSlip_10 : decode cX11_isSlip 10 = .ok (.ireturn, 1) := by decide +kernel
theorem dX11_isSlip_11 : decode cX11_isSlip 11 = .ok (.iload_n 0, 1) := by decide +kernel
theorem dX11_isSlip_12 : decode cX11_isSlip 12 = .ok (.iconst 1, 1) := by decide +kernel
theorem dX11_isSlip_13 : decode cX11_isSlip 13 = .ok (.if_icmp .ne 11, 3) := by decide +kernel
theorem dX11_isSlip_16 : decode cX11_isSlip 16 = .ok (.iload_n 1, 1) := by decide +kernel
theorem dX11_isSlip_17 : decode cX11_isSlip 17 = .ok (.iconst 1, 1) := by decide +kernel
theorem dX11_isSlip_18 : decode cX11_isSlip 18 = .ok (.bipush 8, 2) := by decide +kernel
theorem dX11_isSlip_20 : decode cX11_isSlip 20 = .ok (.invokestatic 63, 3) := by decide +kernel
theorem dX11_isSlip_23 : decode cX11_isSlip 23 = .ok (.ireturn, 1) := by decide +kernel
theorem dX11_isSlip_24 : decode cX11_isSlip 24 = .ok (.iload_n 0, 1) := by decide +kernel
theorem dX11_isSlip_25 : decode cX11_isSlip 25 = .ok (.iconst 2, 1) := by decide +kernel
theorem dX11_isSlip_26 : decode cX11_isSlip 26 = .ok (.iconst 5, 1) := by decide +kernel
theorem dX11_isSlip_27 : decode cX11_isSlip 27 = .ok (.invokestatic 63, 3) := by decide +kernel
theorem dX11_isSlip_30 : decode cX11_isSlip 30 = .ok (.ireturn, 1) := by decide +kernel
set_option maxRecDepth 20000 in
theorem ggX11_fits_X11_maskOf : GoodIn wsX11_fits wsX11_maskOf := goodIn_r _ [4] (by decide +kernel) (by decide +kernel)
set_option maxRecDepth 20000 in
theorem gX11_fits_X11_maskOf : GoodIn wsX11_fits (va_wsS RX11 280 yX11_maskOf wsX11_maskOf) := goodIn_app (goodIn_of _ (by decide +kernel)) ggX11_fits_X11_maskOf
theorem dX11_fits_0 : decode cX11_fits 0 = .ok (.lload_n 0, 1) := by decide +kernel
theorem dX11_fits_1 : decode cX11_fits 1 = .ok (.lconst 0, 1) := by decide +kernel
theorem dX11_fits_2 : decode cX11_fits 2 = .ok (.lcmp, 1) := by decide +kernel
theorem dX11_fits_3 : decode cX11_fits 3 = .ok (.ifCond .lt 16, 3) := by decide +kernel
theorem dX11_fits_6 : decode cX11_fits 6 = .ok (.lload_n 0, 1) := by decide +kernel
theorem dX11_fits_7 : decode cX11_fits 7 = .ok (.iload_n 2, 1) := by decide +kernel
theorem dX11_fits_8 : decode cX11_fits 8 = .ok (.invokestatic 280, 3) := by decide +kernel
theorem dX11_fits_11 : decode cX11_fits 11 = .ok (.lcmp, 1) := by decide +kernel
theorem dX11_fits_12 : decode cX11_fits 12 = .ok (.ifCond .gt 7, 3) := by decide +kernel
theorem dX11_fits_15 : decode cX11_fits 15 = .ok (.iconst 1, 1) := by decide +kernel
theorem dX11_fits_16 : decode cX11_fits 16 = .ok (.goto 4, 3) := by decide +kernel
theorem dX11_fits_19 : decode cX11_fits 19 = .ok (.iconst 0, 1) := by decide +kernel
theorem dX11_fits_20 : decode cX11_fits 20 = .ok (.ireturn, 1) := by decide +kernel
theorem dX11_maskOf_0 : decode cX11_maskOf 0 = .ok (.lconst 1, 1) := by decide +kernel
theorem dX11_maskOf_1 : decode cX11_maskOf 1 = .ok (.iload_n 0, 1) := by decide +kernel
theorem dX11_maskOf_2 : decode cX11_maskOf 2 = .ok (.lshl, 1) := by decide +kernel
theorem dX11_maskOf_3 : decode cX11_maskOf 3 = .ok (.lconst 1, 1) := by decide +kernel
theorem dX11_maskOf_4 : decode cX11_maskOf 4 = .ok (.lsub, 1) := by decide +kernel
theorem dX11_maskOf_5 : decode cX11_maskOf 5 = .ok (.lreturn, 1) := by decide +kernel
theorem dX11_byteOfPlace_0 : decode cX11_byteOfPlace 0 = .ok (.iload_n 0, 1) := by decide +kernel
theorem dX11_byteOfPlace_1 : decode cX11_byteOfPlace 1 = .ok (.iconst 3, 1) := by decide +kernel
theorem dX11_byteOfPlace_2 : decode cX11_byteOfPlace 2 = .ok (.ishr, 1) := by decide +kernel
theorem dX11_byteOfPlace_3 : decode cX11_byteOfPlace 3 = .ok (.ireturn, 1) := by decide +kernel
theorem dX11_bitOfPlace_0 : decode cX11_bitOfPlace 0 = .ok (.sipush 128, 3) := by decide +kernel
theorem dX11_bitOfPlace_3 : decode cX11_bitOfPlace 3 = .ok (.iload_n 0, 1) := by decide +kernel
theorem dX11_bitOfPlace_4 : decode cX11_bitOfPlace 4 = .ok (.bipush 7, 2) := by decide +kernel
theorem dX11_bitOfPlace_6 : decode cX11_bitOfPlace 6 = .ok (.iand, 1) := by decide +kernel
theorem dX11_bitOfPlace_7 : decode cX11_bitOfPlace 7 = .ok (.ishr, 1) := by decide +kernel
theorem dX11_bitOfPlace_8 : decode cX11_bitOfPlace 8 = .ok (.ireturn, 1) := by decide +kernel
theorem dX12_init_0 : decode cX12_init 0 = .ok (.aload_n 0, 1) := by decide +kernel
theorem dX12_init_1 : decode cX12_init 1 = .ok (.invokespecial 1, 3) := by decide +kernel
theorem dX12_init_4 : decode cX12_init 4 = .ok (.aload_n 0, 1) := by decide +kernel
theorem dX12_init_5 : decode cX12_init 5 = .ok (.bipush 100, 2) := by decide +kernel
theorem dX12_init_7 : decode cX12_init 7 = .ok (.newarray .int, 2) := by decide +kernel
theorem dX12_init_9 : decode cX12_init 9 = .ok (.putfield 7, 3) := by decide +kernel
theorem dX12_init_12 : decode cX12_init 12 = .ok (.aload_n 0, 1) := by decide +kernel
theorem dX12_init_13 : decode cX12_init 13 = .ok (.bipush 16, 2) := by decide +kernel
theorem dX12_init_15 : decode cX12_init 15 = .ok (.newarray .int, 2) := by decide +kernel
theorem dX12_init_17 : decode cX12_init 17 = .ok (.putfield 13, 3) := by decide +kernel
theorem dX12_init_20 : decode cX12_init 20 = .ok (.aload_n 0, 1) := by decide +kernel
theorem dX12_init_21 : decode cX12_init 21 = .ok (.bipush 16, 2) := by decide +kernel
theorem dX12_init_23 : decode cX12_init 23 = .ok (.newarray .int, 2) := by decide +kernel
theorem dX12_init_25 : decode cX12_init 25 = .ok (.putfield 16, 3) := by decide +kernel
theorem dX12_init_28 : decode cX12_init 28 = .ok (.aload_n 0, 1) := by decide +kernel
theorem dX12_init_29 : decode cX12_init 29 = .ok (.bipush 16, 2) := by decide +kernel
theorem dX12_init_31 : decode cX12_init 31 = .ok (.newarray .int, 2) := by decide +kernel
theorem dX12_init_33 : decode cX12_init 33 = .ok (.putfield 19, 3) := by decide +kernel
theorem dX12_init_36 : decode cX12_init 36 = .ok (.aload_n 0, 1) := by decide +kernel
theorem dX12_init_37 : decode cX12_init 37 = .ok (.bipush 16, 2) := by decide +kernel
theorem dX12_init_39 : decode cX12_init 39 = .ok (.newarray .int, 2) := by decide +kernel
theorem dX12_init_41 : decode cX12_init 41 = .ok (.putfield 22, 3) := by decide +kernel
theorem dX12_init_44 : decode cX12_init 44 = .ok (.aload_n 0, 1) := by decide +kernel
theorem dX12_init_45 : decode cX12_init 45 = .ok (.bipush 16, 2) := by decide +kernel
theorem dX12_init_47 : decode cX12_init 47 = .ok (.newarray .long, 2) := by decide +kernel
theorem dX12_init_49 : decode cX12_init 49 = .ok (.putfield 25, 3) := by decide +kernel
theorem dX12_init_52 : decode cX12_init 52 = .ok (.aload_n 0, 1) := by decide +kernel
theorem dX12_init_53 : decode cX12_init 53 = .ok (.bipush 16, 2) := by decide +kernel
theorem dX12_init_55 : decode cX12_init 55 = .ok (.newarray .long, 2) := by decide +kernel
theorem dX12_init_57 : decode cX12_init 57 = .ok (.putfield 29, 3) := by decide +kernel
theorem dX12_init_60 : decode cX12_init 60 = .ok (.aload_n 0, 1) := by decide +kernel
theorem dX12_init_61 : decode cX12_init 61 = .ok (.bipush 16, 2) := by decide +kernel
theorem dX12_init_63 : decode cX12_init 63 = .ok (.newarray .long, 2) := by decide +kernel
theorem dX12_init_65 : decode cX12_init 65 = .ok (.putfield 32, 3) := by decide +kernel
theorem dX12_init_68 : decode cX12_init 68 = .ok (.aload_n 0, 1) := by decide +kernel
theorem dX12_init_69 : decode cX12_init 69 = .ok (.bipush 16, 2) := by decide +kernel
theorem dX12_init_71 : decode cX12_init 71 = .ok (.newarray .boolean, 2) := by decide +kernel
theorem dX12_init_73 : decode cX12_init 73 = .ok (.putfield 35, 3) := by decide +kernel
theorem dX12_init_76 : decode cX12_init 76 = .ok (.aload_n 0, 1) := by decide +kernel
theorem dX12_init_77 : decode cX12_init 77 = .ok (.bipush 16, 2) := by decide +kernel
theorem dX12_init_79 : decode cX12_init 79 = .ok (.newarray .int, 2) := by decide +kernel
theorem dX12_init_81 : decode cX12_init 81 = .ok (.putfield 39, 3) := by decide +kernel
theorem dX12_init_84 : decode cX12_init 84 = .ok (.aload_n 0, 1) := by decide +kernel
theorem dX12_init_85 : decode cX12_init 85 = .ok (.sipush 192, 3) := by decide +kernel
theorem dX12_init_88 : decode cX12_init 88 = .ok (.newarray .int, 2) := by decide +kernel
theorem dX12_init_90 : decode cX12_init 90 = .ok (.putfield 42, 3) := by decide +kernel
theorem dX12_init_93 : decode cX12_init 93 = .ok (.aload_n 0, 1) := by decide +kernel
theorem dX12_init_94 : decode cX12_init 94 = .ok (.sipush 1600, 3) := by decide +kernel
theorem dX12_init_97 : decode cX12_init 97 = .ok (.newarray .int, 2) := by decide +kernel
theorem dX12_init_99 : decode cX12_init 99 = .ok (.putfield 45, 3) := by decide +kernel
