theorem dX0_init_0 : decode cX0_init 0 = .ok (.aload_n 0, 1) := by decide +kernel
theorem dX0_init_1 : decode cX0_init 1 = .ok (.invokespecial 3, 3) := by decide +kernel
theorem dX0_init_4 : decode cX0_init 4 = .ok (.aload_n 0, 1) := by decide +kernel
theorem dX0_init_5 : decode cX0_init 5 = .ok (.bipush 16, 2) := by decide +kernel
theorem dX0_init_7 : decode cX0_init 7 = .ok (.newarray .int, 2) := by decide +kernel
theorem dX0_init_9 : decode cX0_init 9 = .ok (.putfield 9, 3) := by decide +kernel
theorem dX0_init_12 : decode cX0_init 12 = .ok (.aload_n 0, 1) := by decide +kernel
theorem dX0_init_13 : decode cX0_init 13 = .ok (.iconst 0, 1) := by decide +kernel
theorem dX0_init_14 : decode cX0_init 14 = .ok (.putfield 15, 3) := by decide +kernel
theorem dX0_init_17 : decode cX0_init 17 = .ok (.aload_n 0, 1) := by decide +kernel
theorem dX0_init_18 : decode cX0_init 18 = .ok (.bipush 64, 2) := by decide +kernel
theorem dX0_init_20 : decode cX0_init 20 = .ok (.newarray .int, 2) := by decide +kernel
theorem dX0_init_22 : decode cX0_init 22 = .ok (.putfield 19, 3) := by decide +kernel
theorem dX0_init_25 : decode cX0_init 25 = .ok (.aload_n 0, 1) := by decide +kernel
theorem dX0_init_26 : decode cX0_init 26 = .ok (.iconst 0, 1) := by decide +kernel
theorem dX0_init_27 : decode cX0_init 27 = .ok (.putfield 22, 3) := by decide +kernel
theorem dX0_init_30 : decode cX0_init 30 = .ok (.aload_n 0, 1) := by decide +kernel
theorem dX0_init_31 : decode cX0_init 31 = .ok (.bipush 16, 2) := by decide +kernel
theorem dX0_init_33 : decode cX0_init 33 = .ok (.newarray .int, 2) := by decide +kernel
theorem dX0_init_35 : decode cX0_init 35 = .ok (.putfield 25, 3) := by decide +kernel
theorem dX0_init_38 : decode cX0_init 38 = .ok (.aload_n 0, 1) := by decide +kernel
theorem dX0_init_39 : decode cX0_init 39 = .ok (.bipush 16, 2) := by decide +kernel
theorem dX0_init_41 : decode cX0_init 41 = .ok (.newarray .long, 2) := by decide +kernel
theorem dX0_init_43 : decode cX0_init 43 = .ok (.putfield 28, 3) := by decide +kernel
theorem dX0_init_46 : decode cX0_init 46 = .ok (.return_, 1) := by decide +kernel
theorem dX0_isTold_0 : decode cX0_isTold 0 = .ok (.iconst 0, 1) := by decide +kernel
theorem dX0_isTold_1 : decode cX0_isTold 1 = .ok (.istore_n 2, 1) := by decide +kernel
theorem dX0_isTold_2 : decode cX0_isTold 2 = .ok (.iload_n 2, 1) := by decide +kernel
theorem dX0_isTold_3 : decode cX0_isTold 3 = .ok (.aload_n 0, 1) := by decide +kernel
theorem dX0_isTold_4 : decode cX0_isTold 4 = .ok (.getfield 15, 3) := by decide +kernel
theorem dX0_isTold_7 : decode cX0_isTold 7 = .ok (.if_icmp .ge 21, 3) := by decide +kernel
theorem dX0_isTold_10 : decode cX0_isTold 10 = .ok (.aload_n 0, 1) := by decide +kernel
theorem dX0_isTold_11 : decode cX0_isTold 11 = .ok (.getfield 9, 3) := by decide +kernel
theorem dX0_isTold_14 : decode cX0_isTold 14 = .ok (.iload_n 2, 1) := by decide +kernel
theorem dX0_isTold_15 : decode cX0_isTold 15 = .ok (.iaload, 1) := by decide +kernel
theorem dX0_isTold_16 : decode cX0_isTold 16 = .ok (.iload_n 1, 1) := by decide +kernel
theorem dX0_isTold_17 : decode cX0_isTold 17 = .ok (.if_icmp .ne 5, 3) := by decide +kernel
theorem dX0_isTold_20 : decode cX0_isTold 20 = .ok (.iconst 1, 1) := by decide +kernel
theorem dX0_isTold_21 : decode cX0_isTold 21 = .ok (.ireturn, 1) := by decide +kernel
theorem dX0_isTold_22 : decode cX0_isTold 22 = .ok (.iinc 2 1, 3) := by decide +kernel
theorem dX0_isTold_25 : decode cX0_isTold 25 = .ok (.goto (-23), 3) := by decide +kernel
theorem dX0_isTold_28 : decode cX0_isTold 28 = .ok (.iconst 0, 1) := by decide +kernel
theorem dX0_isTold_29 : decode cX0_isTold 29 = .ok (.ireturn, 1) := by decide +kernel
theorem dX0_isFull_0 : decode cX0_isFull 0 = .ok (.aload_n 0, 1) := by decide +kernel
theorem dX0_isFull_1 : decode cX0_isFull 1 = .ok (.getfield 15, 3) := by decide +kernel
theorem dX0_isFull_4 : decode cX0_isFull 4 = .ok (.bipush 16, 2) := by decide +kernel
theorem dX0_isFull_6 : decode cX0_isFull 6 = .ok (.if_icmp .lt 7, 3) := by decide +kernel
theorem dX0_isFull_9 : decode cX0_isFull 9 = .ok (.iconst 1, 1) := by decide +kernel
theorem dX0_isFull_10 : decode cX0_isFull 10 = .ok (.goto 4, 3) := by decide +kernel
theorem dX0_isFull_13 : decode cX0_isFull 13 = .ok (.iconst 0, 1) := by decide +kernel
theorem dX0_isFull_14 : decode cX0_isFull 14 = .ok (.ireturn, 1) := by decide +kernel
theorem dX0_addPlace_0 : decode cX0_addPlace 0 = .ok (.aload_n 0, 1) := by decide +kernel
theorem dX0_addPlace_1 : decode cX0_addPlace 1 = .ok (.getfield 9, 3) := by decide +kernel
theorem dX0_addPlace_4 : decode cX0_addPlace 4 = .ok (.aload_n 0, 1) := by decide +kernel
theorem dX0_addPlace_5 : decode cX0_addPlace 5 = .ok (.getfield 15, 3) := by decide +kernel
theorem dX0_addPlace_8 : decode cX0_addPlace 8 = .ok (.iload_n 1, 1) := by decide +kernel
theorem dX0_addPlace_9 : decode cX0_addPlace 9 = .ok (.iastore, 1) := by decide +kernel
theorem dX0_addPlace_10 : decode cX0_addPlace 10 = .ok (.aload_n 0, 1) := by decide +kernel
theorem dX0_addPlace_11 : decode cX0_addPlace 11 = .ok (.dup, 1) := by decide +kernel
theorem dX0_addPlace_12 : decode cX0_addPlace 12 = .ok (.getfield 15, 3) := by decide +kernel
theorem dX0_addPlace_15 : decode cX0_addPlace 15 = .ok (.iconst 1, 1) := by decide +kernel
theorem dX0_addPlace_16 : decode cX0_addPlace 16 = .ok (.iadd, 1) := by decide +kernel
theorem dX0_addPlace_17 : decode cX0_addPlace 17 = .ok (.putfield 15, 3) := by decide +kernel
theorem dX0_addPlace_20 : decode cX0_addPlace 20 = .ok (.aload_n 0, 1) := by decide +kernel
theorem dX0_addPlace_21 : decode cX0_addPlace 21 = .ok (.getfield 15, 3) := by decide +kernel
theorem dX0_addPlace_24 : decode cX0_addPlace 24 = .ok (.ireturn, 1) := by decide +kernel
set_option maxRecDepth 20000 in
theorem ggX0_findWays_X0_fillUsable : GoodIn wsX0_findWays wsX0_fillUsable := goodIn_r _ [12, 13, 14, 1, 15, 25, 26, 27, 28, 29, 30] (by decide +kernel) (by decide +kernel)
set_option maxRecDepth 20000 in
theorem gX0_findWays_X0_fillUsable : GoodIn wsX0_findWays (wsV RX0 32 RX0 yX0_fillUsable wsX0_fillUsable) := goodIn_app (goodIn_of _ (by decide +kernel)) ggX0_findWays_X0_fillUsable
set_option maxRecDepth 20000 in
theorem ggX0_findWays_J6_numberOfTrailingZeros_0f7a4 : GoodIn wsX0_findWays wsJ6_numberOfTrailingZeros_0f7a4 := goodIn_r _ [19, 20] (by decide +kernel) (by decide +kernel)
set_option maxRecDepth 20000 in
theorem gX0_findWays_J6_numberOfTrailingZeros_0f7a4 : GoodIn wsX0_findWays (va_wsS RX0 36 yJ6_numberOfTrailingZeros_0f7a4 wsJ6_numberOfTrailingZeros_0f7a4) := goodIn_app (goodIn_of _ (by decide +kernel)) ggX0_findWays_J6_numberOfTrailingZeros_0f7a4
set_option maxRecDepth 20000 in
theorem ggX0_findWays_X0_wayOf : GoodIn wsX0_findWays wsX0_wayOf := goodIn_r _ [24, 15, 25, 26, 27, 28, 29, 30] (by decide +kernel) (by decide +kernel)
set_option maxRecDepth 20000 in
theorem gX0_findWays_X0_wayOf : GoodIn wsX0_findWays (wsV RX0 42 RX0 yX0_wayOf wsX0_wayOf) := goodIn_app (goodIn_of _ (by decide +kernel)) ggX0_findWays_X0_wayOf
theorem dX0_findWays_0 : decode cX0_findWays 0 = .ok (.aload_n 0, 1) := by decide +kernel
theorem dX0_findWays_1 : decode cX0_findWays 1 = .ok (.aload_n 1, 1) := by decide +kernel
theorem dX0_findWays_2 : decode cX0_findWays 2 = .ok (.iload_n 2, 1) := by decide +kernel
theorem dX0_findWays_3 : decode cX0_findWays 3 = .ok (.invokevirtual 32, 3) := by decide +kernel
theorem dX0_findWays_6 : decode cX0_findWays 6 = .ok (.istore 5, 2) := by decide +kernel
theorem dX0_findWays_8 : decode cX0_findWays 8 = .ok (.iconst 0, 1) := by decide +kernel
theorem dX0_findWays_9 : decode cX0_findWays 9 = .ok (.istore 6, 2) := by decide +kernel
theorem dX0_findWays_11 : decode cX0_findWays 11 = .ok (.lconst 0, 1) := by decide +kernel
theorem dX0_findWays_12 : decode cX0_findWays 12 = .ok (.lstore 7, 2) := by decide +kernel
theorem dX0_findWays_14 : decode cX0_findWays 14 = .ok (.iconst 0, 1) := by decide +kernel
theorem dX0_findWays_15 : decode cX0_findWays 15 = .ok (.istore 9, 2) := by decide +kernel
theorem dX0_findWays_17 : decode cX0_findWays 17 = .ok (.iload 9, 2) := by decide +kernel
theorem dX0_findWays_19 : decode cX0_findWays 19 = .ok (.iconst 1, 1) := by decide +kernel
theorem dX0_findWays_20 : decode cX0_findWays 20 = .ok (.iload 5, 2) := by decide +kernel
theorem dX0_findWays_22 : decode cX0_findWays 22 = .ok (.ishl, 1) := by decide +kernel
theorem dX0_findWays_23 : decode cX0_findWays 23 = .ok (.if_icmp .ge 61, 3) := by decide +kernel
theorem dX0_findWays_26 : decode cX0_findWays 26 = .ok (.iload 9, 2) := by decide +kernel
theorem dX0_findWays_28 : decode cX0_findWays 28 = .ok (.ifCond .le 18, 3) := by decide +kernel
theorem dX0_findWays_31 : decode cX0_findWays 31 = .ok (.lload 7, 2) := by decide +kernel
theorem dX0_findWays_33 : decode cX0_findWays 33 = .ok (.aload_n 0, 1) := by decide +kernel
theorem dX0_findWays_34 : decode cX0_findWays 34 = .ok (.getfield 28, 3) := by decide +kernel
theorem dX0_findWays_37 : decode cX0_findWays 37 = .ok (.iload 9, 2) := by decide +kernel
theorem dX0_findWays_39 : decode cX0_findWays 39 = .ok (.invokestatic 36, 3) := by decide +kernel
theorem dX0_findWays_42 : decode cX0_findWays 42 = .ok (.laload, 1) := by decide +kernel
theorem dX0_findWays_43 : decode cX0_findWays 43 = .ok (.lxor, 1) := by decide +kernel
theorem dX0_findWays_44 : decode cX0_findWays 44 = .ok (.lstore 7, 2) := by decide +kernel
theorem dX0_findWays_46 : decode cX0_findWays 46 = .ok (.lload 7, 2) := by decide +kernel
theorem dX0_findWays_48 : decode cX0_findWays 48 = .ok (.lload_n 3, 1) := by decide +kernel
theorem dX0_findWays_49 : decode cX0_findWays 49 = .ok (.lcmp, 1) := by decide +kernel
theorem dX0_findWays_50 : decode cX0_findWays 50 = .ok (.ifCond .ne 28, 3) := by decide +kernel
theorem dX0_findWays_53 : decode cX0_findWays 53 = .ok (.iload 6, 2) := by decide +kernel
theorem dX0_findWays_55 : decode cX0_findWays 55 = .ok (.bipush 64, 2) := by decide +kernel
theorem dX0_findWays_57 : decode cX0_findWays 57 = .ok (.if_icmp .ge 18, 3) := by decide +kernel
theorem dX0_findWays_60 : decode cX0_findWays 60 = .ok (.aload_n 0, 1) := by decide +kernel
theorem dX0_findWays_61 : decode cX0_findWays 61 = .ok (.getfield 19, 3) := by decide +kernel
theorem dX0_findWays_64 : decode cX0_findWays 64 = .ok (.iload 6, 2) := by decide +kernel
theorem dX0_findWays_66 : decode cX0_findWays 66 = .ok (.aload_n 0, 1) := by decide +kernel
theorem dX0_findWays_67 : decode cX0_findWays 67 = .ok (.iload 9, 2) := by decide +kernel
theorem dX0_findWays_69 : decode cX0_findWays 69 = .ok (.iload 5, 2) := by decide +kernel
theorem dX0_findWays_71 : decode cX0_findWays 71 = .ok (.invokevirtual 42, 3) := by decide +kernel
theorem dX0_findWays_74 : decode cX0_findWays 74 = .ok (.iastore, 1) := by decide +kernel
theorem dX0_findWays_75 : decode cX0_findWays 75 = .ok (.iinc 6 1, 3) := by decide +kernel
theorem dX0_findWays_78 : decode cX0_findWays 78 = .ok (.iinc 9 1, 3) := by decide +kernel
theorem dX0_findWays_81 : decode cX0_findWays 81 = .ok (.goto (-64), 3) := by decide +kernel
theorem dX0_findWays_84 : decode cX0_findWays 84 = .ok (.aload_n 0, 1) := by decide +kernel
theorem dX0_findWays_85 : decode cX0_findWays 85 = .ok (.iload 6, 2) := by decide +kernel
theorem dX0_findWays_87 : decode cX0_findWays 87 = .ok (.bipush 64, 2) := by decide +kernel
theorem dX0_findWays_89 : decode cX0_findWays 89 = .ok (.invokestatic 46, 3) := by decide +kernel
theorem dX0_findWays_92 : decode cX0_findWays 92 = .ok (.putfield 22, 3) := by decide +kernel
theorem dX0_findWays_95 : decode cX0_findWays 95 = .ok (.iload 6, 2) := by decide +kernel
theorem dX0_findWays_97 : decode cX0_findWays 97 = .ok (.ireturn, 1) := by decide +kernel
theorem dX0_fillUsable_0 : decode cX0_fillUsable 0 = .ok (.iconst 0, 1) := by decide +kernel
theorem dX0_fillUsable_1 : decode cX0_fillUsable 1 = .ok (.istore_n 3, 1) := by decide +kernel
theorem dX0_fillUsable_2 : decode cX0_fillUsable 2 = .ok (.lconst 0, 1) := by decide +kernel
theorem dX0_fillUsable_3 : decode cX0_fillUsable 3 = .ok (.lstore 4, 2) := by decide +kernel
theorem dX0_fillUsable_5 : decode cX0_fillUsable 5 = .ok (.iconst 0, 1) := by decide +kernel
theorem dX0_fillUsable_6 : decode cX0_fillUsable 6 = .ok (.istore 6, 2) := by decide +kernel
theorem dX0_fillUsable_8 : decode cX0_fillUsable 8 = .ok (.iload 6, 2) := by decide +kernel
theorem dX0_fillUsable_10 : decode cX0_fillUsable 10 = .ok (.aload_n 0, 1) := by decide +kernel
theorem dX0_fillUsable_11 : decode cX0_fillUsable 11 = .ok (.getfield 15, 3) := by decide +kernel
theorem dX0_fillUsable_14 : decode cX0_fillUsable 14 = .ok (.if_icmp .ge 53, 3) := by decide +kernel
theorem dX0_fillUsable_17 : decode cX0_fillUsable 17 = .ok (.aload_n 0, 1) := by decide +kernel
theorem dX0_fillUsable_18 : decode cX0_fillUsable 18 = .ok (.getfield 9, 3) := by decide +kernel
theorem dX0_fillUsable_21 : decode cX0_fillUsable 21 = .ok (.iload 6, 2) := by decide +kernel
theorem dX0_fillUsable_23 : decode cX0_fillUsable 23 = .ok (.iaload, 1) := by decide +kernel
theorem dX0_fillUsable_24 : decode cX0_fillUsable 24 = .ok (.iload_n 2, 1) := by decide +kernel
theorem dX0_fillUsable_25 : decode cX0_fillUsable 25 = .ok (.if_icmp .ge 36, 3) := by decide +kernel
theorem dX0_fillUsable_28 : decode cX0_fillUsable 28 = .ok (.lload 4, 2) := by decide +kernel
theorem dX0_fillUsable_30 : decode cX0_fillUsable 30 = .ok (.aload_n 1, 1) := by decide +kernel
theorem dX0_fillUsable_31 : decode cX0_fillUsable 31 = .ok (.aload_n 0, 1) := by decide +kernel
theorem dX0_fillUsable_32 : decode cX0_fillUsable 32 = .ok (.getfield 9, 3) := by decide +kernel
theorem dX0_fillUsable_35 : decode cX0_fillUsable 35 = .ok (.iload 6, 2) := by decide +kernel
theorem dX0_fillUsable_37 : decode cX0_fillUsable 37 = .ok (.iaload, 1) := by decide +kernel
theorem dX0_fillUsable_38 : decode cX0_fillUsable 38 = .ok (.laload, 1) := by decide +kernel
theorem dX0_fillUsable_39 : decode cX0_fillUsable 39 = .ok (.lxor, 1) := by decide +kernel
theorem dX0_fillUsable_40 : decode cX0_fillUsable 40 = .ok (.lstore 4, 2) := by decide +kernel
theorem dX0_fillUsable_42 : decode cX0_fillUsable 42 = .ok (.aload_n 0, 1) := by decide +kernel
theorem dX0_fillUsable_43 : decode cX0_fillUsable 43 = .ok (.getfield 28, 3) := by decide +kernel
theorem dX0_fillUsable_46 : decode cX0_fillUsable 46 = .ok (.iload_n 3, 1) := by decide +kernel
theorem dX0_fillUsable_47 : decode cX0_fillUsable 47 = .ok (.lload 4, 2) := by decide +kernel
theorem dX0_fillUsable_49 : decode cX0_fillUsable 49 = .ok (.lastore, 1) := by decide +kernel
theorem dX0_fillUsable_50 : decode cX0_fillUsable 50 = .ok (.aload_n 0, 1) := by decide +kernel
theorem dX0_fillUsable_51 : decode cX0_fillUsable 51 = .ok (.getfield 25, 3) := by decide +kernel
theorem dX0_fillUsable_54 : decode cX0_fillUsable 54 = .ok (.iload_n 3, 1) := by decide +kernel
theorem dX0_fillUsable_55 : decode cX0_fillUsable 55 = .ok (.iload 6, 2) := by decide +kernel
theorem dX0_fillUsable_57 : decode cX0_fillUsable 57 = .ok (.iastore, 1) := by decide +kernel
theorem dX0_fillUsable_58 : decode cX0_fillUsable 58 = .ok (.iinc 3 1, 3) := by decide +kernel
theorem dX0_fillUsable_61 : decode cX0_fillUsable 61 = .ok (.iinc 6 1, 3) := by decide +kernel
theorem dX0_fillUsable_64 : decode cX0_fillUsable 64 = .ok (.goto (-56), 3) := by decide +kernel
theorem dX0_fillUsable_67 : decode cX0_fillUsable 67 = .ok (.iload_n 3, 1) := by decide +kernel
theorem dX0_fillUsable_68 : decode cX0_fillUsable 68 = .ok (.ireturn, 1) := by decide +kernel
theorem dX0_wayOf_0 : decode cX0_wayOf 0 = .ok (.iconst 0, 1) := by decide +kernel
theorem dX0_wayOf_1 : decode cX0_wayOf 1 = .ok (.istore_n 3, 1) := by decide +kernel
theorem dX0_wayOf_2 : decode cX0_wayOf 2 = .ok (.iconst 0, 1) := by decide +kernel
theorem dX0_wayOf_3 : decode cX0_wayOf 3 = .ok (.istore 4, 2) := by decide +kernel
theorem dX0_wayOf_5 : decode cX0_wayOf 5 = .ok (.iload 4, 2) := by decide +kernel
theorem dX0_wayOf_7 : decode cX0_wayOf 7 = .ok (.iload_n 2, 1) := by decide +kernel
theorem dX0_wayOf_8 : decode cX0_wayOf 8 = .ok (.if_icmp .ge 31, 3) := by decide +kernel
theorem dX0_wayOf_11 : decode cX0_wayOf 11 = .ok (.iload_n 1, 1) := by decide +kernel
theorem dX0_wayOf_12 : decode cX0_wayOf 12 = .ok (.iload 4, 2) := by decide +kernel
theorem dX0_wayOf_14 : decode cX0_wayOf 14 = .ok (.ishr, 1) := by decide +kernel
theorem dX0_wayOf_15 : decode cX0_wayOf 15 = .ok (.iconst 1, 1) := by decide +kernel
theorem dX0_wayOf_16 : decode cX0_wayOf 16 = .ok (.iand, 1) := by decide +kernel
theorem dX0_wayOf_17 : decode cX0_wayOf 17 = .ok (.iconst 1, 1) := by decide +kernel
theorem dX0_wayOf_18 : decode cX0_wayOf 18 = .ok (.if_icmp .ne 15, 3) := by decide +kernel
theorem dX0_wayOf_21 : decode cX0_wayOf 21 = .ok (.iload_n 3, 1) := by decide +kernel
theorem dX0_wayOf_22 : decode cX0_wayOf 22 = .ok (.iconst 1, 1) := by decide +kernel
theorem dX0_wayOf_23 : decode cX0_wayOf 23 = .ok (.aload_n 0, 1) := by decide +kernel
theorem dX0_wayOf_24 : decode cX0_wayOf 24 = .ok (.getfield 25, 3) := by decide +kernel
theorem dX0_wayOf_27 : decode cX0_wayOf 27 = .ok (.iload 4, 2) := by decide +kernel
theorem dX0_wayOf_29 : decode cX0_wayOf 29 = .ok (.iaload, 1) := by decide +kernel
theorem dX0_wayOf_30 : decode cX0_wayOf 30 = .ok (.ishl, 1) := by decide +kernel
theorem dX0_wayOf_31 : decode cX0_wayOf 31 = .ok (.ior, 1) := by decide +kernel
theorem dX0_wayOf_32 : decode cX0_wayOf 32 = .ok (.istore_n 3, 1) := by decide +kernel
theorem dX0_wayOf_33 : decode cX0_wayOf 33 = .ok (.iinc 4 1, 3) := by decide +kernel
theorem dX0_wayOf_36 : decode cX0_wayOf 36 = .ok (.goto (-31), 3) := by decide +kernel
theorem dX0_wayOf_39 : decode cX0_wayOf 39 = .ok (.iload_n 3, 1) := by decide +kernel
theorem dX0_wayOf_40 : decode cX0_wayOf 40 = .ok (.ireturn, 1) := by decide +kernel
set_option maxRecDepth 20000 in
theorem ggX1_init_X2_init : GoodIn wsX1_init wsX2_init := goodIn_r _ [9, 10, 11, 12, 13, 14, 15, 16, 17, 18, 19, 20, 21, 22, 23, 24, 25, 26, 27, 28, 29, 30, 31, 32, 33, 34] (by decide +kernel) (by decide +kernel)
set_option maxRecDepth 20000 in
theorem gX1_init_X2_init : GoodIn wsX1_init (wsX2_init) := ggX1_init_X2_init
theorem dX1_init_0 : decode cX1_init 0 = .ok (.aload_n 0, 1) := by decide +kernel
theorem dX1_init_1 : decode cX1_init 1 = .ok (.iload_n 1, 1) := by decide +kernel
theorem dX1_init_2 : decode cX1_init 2 = .ok (.invokespecial 3, 3) := by decide +kernel
theorem dX1_init_5 : decode cX1_init 5 = .ok (.aload_n 0, 1) := by decide +kernel
theorem dX1_init_6 : decode cX1_init 6 = .ok (.iload_n 2, 1) := by decide +kernel
theorem dX1_init_7 : decode cX1_init 7 = .ok (.putfield 9, 3) := by decide +kernel
theorem dX1_init_10 : decode cX1_init 10 = .ok (.aload_n 0, 1) := by decide +kernel
theorem dX1_init_11 : decode cX1_init 11 = .ok (.lload_n 3, 1) := by decide +kernel
theorem dX1_init_12 : decode cX1_init 12 = .ok (.putfield 15, 3) := by decide +kernel
theorem dX1_init_15 : decode cX1_init 15 = .ok (.aload_n 0, 1) := by decide +kernel
theorem dX1_init_16 : decode cX1_init 16 = .ok (.lload 5, 2) := by decide +kernel
theorem dX1_init_18 : decode cX1_init 18 = .ok (.putfield 19, 3) := by decide +kernel
theorem dX1_init_21 : decode cX1_init 21 = .ok (.aload_n 0, 1) := by decide +kernel
theorem dX1_init_22 : decode cX1_init 22 = .ok (.lload 7, 2) := by decide +kernel
theorem dX1_init_24 : decode cX1_init 24 = .ok (.putfield 22, 3) := by decide +kernel
theorem dX1_init_27 : decode cX1_init 27 = .ok (.aload_n 0, 1) := by decide +kernel
theorem dX1_init_28 : decode cX1_init 28 = .ok (.iload 9, 2) := by decide +kernel
theorem dX1_init_30 : decode cX1_init 30 = .ok (.putfield 25, 3) := by decide +kernel
theorem dX1_init_33 : decode cX1_init 33 = .ok (.return_, 1) := by decide +kernel
set_option maxRecDepth 20000 in
theorem ggX1_ofRow_X1_afterByte : GoodIn wsX1_ofRow wsX1_afterByte := goodIn_r _ [7, 8, 9, 10, 11, 12, 6, 13, 14, 15, 16, 17, 18, 19, 20, 21, 22] (by decide +kernel) (by decide +kernel)
set_option maxRecDepth 20000 in
theorem gX1_ofRow_X1_afterByte : GoodIn wsX1_ofRow (wsV RX1 29 RX1 yX1_afterByte wsX1_afterByte) := goodIn_app (goodIn_of _ (by decide +kernel)) ggX1_ofRow_X1_afterByte
theorem dX1_ofRow_0 : decode cX1_ofRow 0 = .ok (.aload_n 0, 1) := by decide +kernel
theorem dX1_ofRow_1 : decode cX1_ofRow 1 = .ok (.getfield 19, 3) := by decide +kernel
theorem dX1_ofRow_4 : decode cX1_ofRow 4 = .ok (.lstore_n 3, 1) := by decide +kernel
theorem dX1_ofRow_5 : decode cX1_ofRow 5 = .ok (.iconst 0, 1) := by decide +kernel
theorem dX1_ofRow_6 : decode cX1_ofRow 6 = .ok (.istore 5, 2) := by decide +kernel
theorem dX1_ofRow_8 : decode cX1_ofRow 8 = .ok (.iload 5, 2) := by decide +kernel
theorem dX1_ofRow_10 : decode cX1_ofRow 10 = .ok (.iload_n 2, 1) := by decide +kernel
theorem dX1_ofRow_11 : decode cX1_ofRow 11 = .ok (.if_icmp .ge 19, 3) := by decide +kernel
theorem dX1_ofRow_14 : decode cX1_ofRow 14 = .ok (.aload_n 0, 1) := by decide +kernel
theorem dX1_ofRow_15 : decode cX1_ofRow 15 = .ok (.lload_n 3, 1) := by decide +kernel
theorem dX1_ofRow_16 : decode cX1_ofRow 16 = .ok (.aload_n 1, 1) := by decide +kernel
theorem dX1_ofRow_17 : decode cX1_ofRow 17 = .ok (.iload 5, 2) := by decide +kernel
theorem dX1_ofRow_19 : decode cX1_ofRow 19 = .ok (.iaload, 1) := by decide +kernel
theorem dX1_ofRow_20 : decode cX1_ofRow 20 = .ok (.invokevirtual 29, 3) := by decide +kernel
theorem dX1_ofRow_23 : decode cX1_ofRow 23 = .ok (.lstore_n 3, 1) := by decide +kernel
theorem dX1_ofRow_24 : decode cX1_ofRow 24 = .ok (.iinc 5 1, 3) := by decide +kernel
theorem dX1_ofRow_27 : decode cX1_ofRow 27 = .ok (.goto (-19), 3) := by decide +kernel
theorem dX1_ofRow_30 : decode cX1_ofRow 30 = .ok (.lload_n 3, 1) := by decide +kernel
theorem dX1_ofRow_31 : decode cX1_ofRow 31 = .ok (.aload_n 0, 1) := by decide +kernel
theorem dX1_ofRow_32 : decode cX1_ofRow 32 = .ok (.getfield 22, 3) := by decide +kernel
theorem dX1_ofRow_35 : decode cX1_ofRow 35 = .ok (.lxor, 1) := by decide +kernel
theorem dX1_ofRow_36 : decode cX1_ofRow 36 = .ok (.lreturn, 1) := by decide +kernel
set_option maxRecDepth 20000 in
theorem ggX1_afterByte_X1_doubled : GoodIn wsX1_afterByte wsX1_doubled := goodIn_r _ [7, 8, 9, 10] (by decide +kernel) (by decide +kernel)
set_option maxRecDepth 20000 in
theorem gX1_afterByte_X1_doubled : GoodIn wsX1_afterByte (va_wsS RX1 33 yX1_doubled wsX1_doubled) := goodIn_app (goodIn_of _ (by decide +kernel)) ggX1_afterByte_X1_doubled
theorem dX1_afterByte_0 : decode cX1_afterByte 0 = .ok (.lload_n 1, 1) := by decide +kernel
theorem dX1_afterByte_1 : decode cX1_afterByte 1 = .ok (.lstore 4, 2) := by decide +kernel
theorem dX1_afterByte_3 : decode cX1_afterByte 3 = .ok (.iconst 0, 1) := by decide +kernel
theorem dX1_afterByte_4 : decode cX1_afterByte 4 = .ok (.istore 6, 2) := by decide +kernel
theorem dX1_afterByte_6 : decode cX1_afterByte 6 = .ok (.iload 6, 2) := by decide +kernel
theorem dX1_afterByte_8 : decode cX1_afterByte 8 = .ok (.bipush 8, 2) := by decide +kernel
theorem dX1_afterByte_10 : decode cX1_afterByte 10 = .ok (.if_icmp .ge 60, 3) := by decide +kernel
theorem dX1_afterByte_13 : decode cX1_afterByte 13 = .ok (.aload_n 0, 1) := by decide +kernel
theorem dX1_afterByte_14 : decode cX1_afterByte 14 = .ok (.getfield 25, 3) := by decide +kernel
theorem dX1_afterByte_17 : decode cX1_afterByte 17 = .ok (.ifCond .eq 10, 3) := by decide +kernel
theorem dX1_afterByte_20 : decode cX1_afterByte 20 = .ok (.iload_n 3, 1) := by decide +kernel
theorem dX1_afterByte_21 : decode cX1_afterByte 21 = .ok (.iload 6, 2) := by decide +kernel
theorem dX1_afterByte_23 : decode cX1_afterByte 23 = .ok (.ishr, 1) := by decide +kernel
theorem dX1_afterByte_24 : decode cX1_afterByte 24 = .ok (.goto 10, 3) := by decide +kernel
theorem dX1_afterByte_27 : decode cX1_afterByte 27 = .ok (.iload_n 3, 1) := by decide +kernel
theorem dX1_afterByte_28 : decode cX1_afterByte 28 = .ok (.bipush 7, 2) := by decide +kernel
theorem dX1_afterByte_30 : decode cX1_afterByte 30 = .ok (.iload 6, 2) := by decide +kernel
theorem dX1_afterByte_32 : decode cX1_afterByte 32 = .ok (.isub, 1) := by decide +kernel
theorem dX1_afterByte_33 : decode cX1_afterByte 33 = .ok (.ishr, 1) := by decide +kernel
theorem dX1_afterByte_34 : decode cX1_afterByte 34 = .ok (.iconst 1, 1) := by decide +kernel
theorem dX1_afterByte_35 : decode cX1_afterByte 35 = .ok (.iand, 1) := by decide +kernel
theorem dX1_afterByte_36 : decode cX1_afterByte 36 = .ok (.i2l, 1) := by decide +kernel
theorem dX1_afterByte_37 : decode cX1_afterByte 37 = .ok (.lstore 7, 2) := by decide +kernel
theorem dX1_afterByte_39 : decode cX1_afterByte 39 = .ok (.lload 4, 2) := by decide +kernel
theorem dX1_afterByte_41 : decode cX1_afterByte 41 = .ok (.lload 7, 2) := by decide +kernel
theorem dX1_afterByte_43 : decode cX1_afterByte 43 = .ok (.aload_n 0, 1) := by decide +kernel
theorem dX1_afterByte_44 : decode cX1_afterByte 44 = .ok (.getfield 9, 3) := by decide +kernel
theorem dX1_afterByte_47 : decode cX1_afterByte 47 = .ok (.iconst 1, 1) := by decide +kernel
theorem dX1_afterByte_48 : decode cX1_afterByte 48 = .ok (.isub, 1) := by decide +kernel
theorem dX1_afterByte_49 : decode cX1_afterByte 49 = .ok (.lshl, 1) := by decide +kernel
theorem dX1_afterByte_50 : decode cX1_afterByte 50 = .ok (.lxor, 1) := by decide +kernel
theorem dX1_afterByte_51 : decode cX1_afterByte 51 = .ok (.aload_n 0, 1) := by decide +kernel
theorem dX1_afterByte_52 : decode cX1_afterByte 52 = .ok (.getfield 9, 3) := by decide +kernel
theorem dX1_afterByte_55 : decode cX1_afterByte 55 = .ok (.aload_n 0, 1) := by decide +kernel
theorem dX1_afterByte_56 : decode cX1_afterByte 56 = .ok (.getfield 15, 3) := by decide +kernel
theorem dX1_afterByte_59 : decode cX1_afterByte 59 = .ok (.invokestatic 33, 3) := by decide +kernel
theorem dX1_afterByte_62 : decode cX1_afterByte 62 = .ok (.lstore 4, 2) := by decide +kernel
theorem dX1_afterByte_64 : decode cX1_afterByte 64 = .ok (.iinc 6 1, 3) := by decide +kernel
theorem dX1_afterByte_67 : decode cX1_afterByte 67 = .ok (.goto (-61), 3) := by decide +kernel
theorem dX1_afterByte_70 : decode cX1_afterByte 70 = .ok (.lload 4, 2) := by decide +kernel
theorem dX1_afterByte_72 : decode cX1_afterByte 72 = .ok (.lreturn, 1) := by decide +kernel
set_option maxRecDepth 20000 in
theorem ggX1_doubled_X11_maskOf : GoodIn wsX1_doubled wsX11_maskOf := goodIn_r _ [3] (by decide +kernel) (by decide +kernel)
set_option maxRecDepth 20000 in
theorem gX1_doubled_X11_maskOf_n37 : GoodIn wsX1_doubled (wsX11_maskOf) := ggX1_doubled_X11_maskOf
theorem dX1_doubled_0 : decode cX1_doubled 0 = .ok (.lload_n 0, 1) := by decide +kernel
theorem dX1_doubled_1 : decode cX1_doubled 1 = .ok (.iconst 1, 1) := by decide +kernel
theorem dX1_doubled_2 : decode cX1_doubled 2 = .ok (.lshl, 1) := by decide +kernel
theorem dX1_doubled_3 : decode cX1_doubled 3 = .ok (.iload_n 2, 1) := by decide +kernel
theorem dX1_doubled_4 : decode cX1_doubled 4 = .ok (.invokestatic 37, 3) := by decide +kernel
theorem dX1_doubled_7 : decode cX1_doubled 7 = .ok (.land, 1) := by decide +kernel
theorem dX1_doubled_8 : decode cX1_doubled 8 = .ok (.lstore 5, 2) := by decide +kernel
theorem dX1_doubled_10 : decode cX1_doubled 10 = .ok (.lload_n 0, 1) := by decide +kernel
theorem dX1_doubled_11 : decode cX1_doubled 11 = .ok (.iload_n 2, 1) := by decide +kernel
theorem dX1_doubled_12 : decode cX1_doubled 12 = .ok (.iconst 1, 1) := by decide +kernel
theorem dX1_doubled_13 : decode cX1_doubled 13 = .ok (.isub, 1) := by decide +kernel
theorem dX1_doubled_14 : decode cX1_doubled 14 = .ok (.lshr, 1) := by decide +kernel
theorem dX1_doubled_15 : decode cX1_doubled 15 = .ok (.lconst 1, 1) := by decide +kernel
theorem dX1_doubled_16 : decode cX1_doubled 16 = .ok (.land, 1) := by decide +kernel
theorem dX1_doubled_17 : decode cX1_doubled 17 = .ok (.lconst 1, 1) := by decide +kernel
theorem dX1_doubled_18 : decode cX1_doubled 18 = .ok (.lcmp, 1) := by decide +kernel
theorem dX1_doubled_19 : decode cX1_doubled 19 = .ok (.ifCond .ne 10, 3) := by decide +kernel
theorem dX1_doubled_22 : decode cX1_doubled 22 = .ok (.lload 5, 2) := by decide +kernel
theorem dX1_doubled_24 : decode cX1_doubled 24 = .ok (.lload_n 3, 1) := by decide +kernel
theorem dX1_doubled_25 : decode cX1_doubled 25 = .ok (.lxor, 1) := by decide +kernel
theorem dX1_doubled_26 : decode cX1_doubled 26 = .ok (.goto 5, 3) := by decide +kernel
theorem dX1_doubled_29 : decode cX1_doubled 29 = .ok (.lload 5, 2) := by decide +kernel
theorem dX1_doubled_31 : decode cX1_doubled 31 = .ok (.lreturn, 1) := by decide +kernel
set_option maxRecDepth 20000 in
theorem ggX1_holds_X11_fits : GoodIn wsX1_holds wsX11_fits := goodIn_r _ [4, 5, 6, 3, 7] (by decide +kernel) (by decide +kernel)
set_option maxRecDepth 20000 in
theorem gX1_holds_X11_fits_n41 : GoodIn wsX1_holds (wsX11_fits) := ggX1_holds_X11_fits
theorem dX1_holds_0 : decode cX1_holds 0 = .ok (.lload_n 1, 1) := by decide +kernel
theorem dX1_holds_1 : decode cX1_holds 1 = .ok (.aload_n 0, 1) := by decide +kernel
theorem dX1_holds_2 : decode cX1_holds 2 = .ok (.getfield 9, 3) := by decide +kernel
theorem dX1_holds_5 : decode cX1_holds 5 = .ok (.invokestatic 41, 3) := by decide +kernel
theorem dX1_holds_8 : decode cX1_holds 8 = .ok (.ireturn, 1) := by decide +kernel
theorem dX1_merged_0 : decode cX1_merged 0 = .ok (.lload_n 1, 1) := by decide +kernel
theorem dX1_merged_1 : decode cX1_merged 1 = .ok (.lload_n 3, 1) := by decide +kernel
theorem dX1_merged_2 : decode cX1_merged 2 = .ok (.lxor, 1) := by decide +kernel
theorem dX1_merged_3 : decode cX1_merged 3 = .ok (.lreturn, 1) := by decide +kernel
set_option maxRecDepth 20000 in
theorem ggX1_changed_X1_afterByte : GoodIn wsX1_changed wsX1_afterByte := goodIn_r _ [5, 6, 7, 8, 9, 10, 4, 11, 12, 13, 14, 19, 20, 21, 22, 23, 24] (by decide +kernel) (by decide +kernel)
set_option maxRecDepth 20000 in
theorem gX1_changed_X1_afterByte : GoodIn wsX1_changed (wsV RX1 29 RX1 yX1_afterByte wsX1_afterByte) := goodIn_app (goodIn_of _ (by decide +kernel)) ggX1_changed_X1_afterByte
set_option maxRecDepth 20000 in
theorem ggX1_changed_X1_afterZeros : GoodIn wsX1_changed wsX1_afterZeros := goodIn_r _ [18, 7, 8, 9, 10, 4, 11, 12, 13, 14, 19, 20, 21, 22, 23, 24] (by decide +kernel) (by decide +kernel)
set_option maxRecDepth 20000 in
theorem gX1_changed_X1_afterZeros : GoodIn wsX1_changed (wsV RX1 45 RX1 yX1_afterZeros wsX1_afterZeros) := goodIn_app (goodIn_of _ (by decide +kernel)) ggX1_changed_X1_afterZeros
theorem dX1_changed_0 : decode cX1_changed 0 = .ok (.aload_n 0, 1) := by decide +kernel
theorem dX1_changed_1 : decode cX1_changed 1 = .ok (.aload_n 0, 1) := by decide +kernel
theorem dX1_changed_2 : decode cX1_changed 2 = .ok (.lconst 0, 1) := by decide +kernel
theorem dX1_changed_3 : decode cX1_changed 3 = .ok (.iload_n 3, 1) := by decide +kernel
theorem dX1_changed_4 : decode cX1_changed 4 = .ok (.iload 4, 2) := by decide +kernel
theorem dX1_changed_6 : decode cX1_changed 6 = .ok (.ixor, 1) := by decide +kernel
theorem dX1_changed_7 : decode cX1_changed 7 = .ok (.invokevirtual 29, 3) := by decide +kernel
theorem dX1_changed_10 : decode cX1_changed 10 = .ok (.iload_n 1, 1) := by decide +kernel
theorem dX1_changed_11 : decode cX1_changed 11 = .ok (.iconst 1, 1) := by decide +kernel
theorem dX1_changed_12 : decode cX1_changed 12 = .ok (.isub, 1) := by decide +kernel
theorem dX1_changed_13 : decode cX1_changed 13 = .ok (.iload_n 2, 1) := by decide +kernel
theorem dX1_changed_14 : decode cX1_changed 14 = .ok (.isub, 1) := by decide +kernel
theorem dX1_changed_15 : decode cX1_changed 15 = .ok (.invokevirtual 45, 3) := by decide +kernel
theorem dX1_changed_18 : decode cX1_changed 18 = .ok (.lreturn, 1) := by decide +kernel
set_option maxRecDepth 20000 in
theorem ggX1_afterZeros_X1_doubled : GoodIn wsX1_afterZeros wsX1_doubled := goodIn_r _ [6, 7, 8, 9] (by decide +kernel) (by decide +kernel)
set_option maxRecDepth 20000 in
theorem gX1_afterZeros_X1_doubled : GoodIn wsX1_afterZeros (va_wsS RX1 33 yX1_doubled wsX1_doubled) := goodIn_app (goodIn_of _ (by decide +kernel)) ggX1_afterZeros_X1_doubled
theorem dX1_afterZeros_0 : decode cX1_afterZeros 0 = .ok (.lload_n 1, 1) := by decide +kernel
theorem dX1_afterZeros_1 : decode cX1_afterZeros 1 = .ok (.lstore 4, 2) := by decide +kernel
theorem dX1_afterZeros_3 : decode cX1_afterZeros 3 = .ok (.iconst 0, 1) := by decide +kernel
theorem dX1_afterZeros_4 : decode cX1_afterZeros 4 = .ok (.istore 6, 2) := by decide +kernel
theorem dX1_afterZeros_6 : decode cX1_afterZeros 6 = .ok (.iload 6, 2) := by decide +kernel
theorem dX1_afterZeros_8 : decode cX1_afterZeros 8 = .ok (.bipush 8, 2) := by decide +kernel
theorem dX1_afterZeros_10 : decode cX1_afterZeros 10 = .ok (.iload_n 3, 1) := by decide +kernel
theorem dX1_afterZeros_11 : decode cX1_afterZeros 11 = .ok (.imul, 1) := by decide +kernel
theorem dX1_afterZeros_12 : decode cX1_afterZeros 12 = .ok (.if_icmp .ge 24, 3) := by decide +kernel
theorem dX1_afterZeros_15 : decode cX1_afterZeros 15 = .ok (.lload 4, 2) := by decide +kernel
theorem dX1_afterZeros_17 : decode cX1_afterZeros 17 = .ok (.aload_n 0, 1) := by decide +kernel
theorem dX1_afterZeros_18 : decode cX1_afterZeros 18 = .ok (.getfield 9, 3) := by decide +kernel
theorem dX1_afterZeros_21 : decode cX1_afterZeros 21 = .ok (.aload_n 0, 1) := by decide +kernel
theorem dX1_afterZeros_22 : decode cX1_afterZeros 22 = .ok (.getfield 15, 3) := by decide +kernel
theorem dX1_afterZeros_25 : decode cX1_afterZeros 25 = .ok (.invokestatic 33, 3) := by decide +kernel
theorem dX1_afterZeros_28 : decode cX1_afterZeros 28 = .ok (.lstore 4, 2) := by decide +kernel
theorem dX1_afterZeros_30 : decode cX1_afterZeros 30 = .ok (.iinc 6 1, 3) := by decide +kernel
theorem dX1_afterZeros_33 : decode cX1_afterZeros 33 = .ok (.goto (-27), 3) := by decide +kernel
theorem dX1_afterZeros_36 : decode cX1_afterZeros 36 = .ok (.lload 4, 2) := by decide +kernel
theorem dX1_afterZeros_38 : decode cX1_afterZeros 38 = .ok (.lreturn, 1) := by decide +kernel
set_option maxRecDepth 20000 in
theorem ggX1_carried_X1_afterZeros : GoodIn wsX1_carried wsX1_afterZeros := goodIn_r _ [7, 8, 9, 10, 11, 6, 12, 13, 14, 15, 16, 17, 18, 19, 20, 21] (by decide +kernel) (by decide +kernel)
set_option maxRecDepth 20000 in
theorem gX1_carried_X1_afterZeros : GoodIn wsX1_carried (wsV RX1 45 RX1 yX1_afterZeros wsX1_afterZeros) := goodIn_app (goodIn_of _ (by decide +kernel)) ggX1_carried_X1_afterZeros
theorem dX1_carried_0 : decode cX1_carried 0 = .ok (.aload_n 0, 1) := by decide +kernel
theorem dX1_carried_1 : decode cX1_carried 1 = .ok (.lload_n 1, 1) := by decide +kernel
theorem dX1_carried_2 : decode cX1_carried 2 = .ok (.aload_n 0, 1) := by decide +kernel
theorem dX1_carried_3 : decode cX1_carried 3 = .ok (.getfield 22, 3) := by decide +kernel
theorem dX1_carried_6 : decode cX1_carried 6 = .ok (.lxor, 1) := by decide +kernel
theorem dX1_carried_7 : decode cX1_carried 7 = .ok (.aload_n 0, 1) := by decide +kernel
theorem dX1_carried_8 : decode cX1_carried 8 = .ok (.getfield 19, 3) := by decide +kernel
theorem dX1_carried_11 : decode cX1_carried 11 = .ok (.lxor, 1) := by decide +kernel
theorem dX1_carried_12 : decode cX1_carried 12 = .ok (.iload_n 3, 1) := by decide +kernel
theorem dX1_carried_13 : decode cX1_carried 13 = .ok (.invokevirtual 45, 3) := by decide +kernel
theorem dX1_carried_16 : decode cX1_carried 16 = .ok (.lreturn, 1) := by decide +kernel
set_option maxRecDepth 20000 in
theorem ggX1_withoutLeadingZero_X1_afterByte : GoodIn wsX1_withoutLeadingZero wsX1_afterByte := goodIn_r _ [6, 7, 8, 9, 10, 11, 5, 12, 13, 14, 15, 20, 21, 22, 23, 24, 25] (by decide +kernel) (by decide +kernel)
set_option maxRecDepth 20000 in
theorem gX1_withoutLeadingZero_X1_afterByte : GoodIn wsX1_withoutLeadingZero (wsV RX1 29 RX1 yX1_afterByte wsX1_afterByte) := goodIn_app (goodIn_of _ (by decide +kernel)) ggX1_withoutLeadingZero_X1_afterByte
set_option maxRecDepth 20000 in
theorem ggX1_withoutLeadingZero_X1_afterZeros : GoodIn wsX1_withoutLeadingZero wsX1_afterZeros := goodIn_r _ [19, 8, 9, 10, 11, 5, 12, 13, 14, 15, 20, 21, 22, 23, 24, 25] (by decide +kernel) (by decide +kernel)
set_option maxRecDepth 20000 in
theorem gX1_withoutLeadingZero_X1_afterZeros : GoodIn wsX1_withoutLeadingZero (wsV RX1 45 RX1 yX1_afterZeros wsX1_afterZeros) := goodIn_app (goodIn_of _ (by decide +kernel)) ggX1_withoutLeadingZero_X1_afterZeros
theorem dX1_withoutLeadingZero_0 : decode cX1_withoutLeadingZero 0 = .ok (.lload_n 1, 1) := by decide +kernel
theorem dX1_withoutLeadingZero_1 : decode cX1_withoutLeadingZero 1 = .ok (.aload_n 0, 1) := by decide +kernel
theorem dX1_withoutLeadingZero_2 : decode cX1_withoutLeadingZero 2 = .ok (.aload_n 0, 1) := by decide +kernel
theorem dX1_withoutLeadingZero_3 : decode cX1_withoutLeadingZero 3 = .ok (.aload_n 0, 1) := by decide +kernel
theorem dX1_withoutLeadingZero_4 : decode cX1_withoutLeadingZero 4 = .ok (.getfield 19, 3) := by decide +kernel
theorem dX1_withoutLeadingZero_7 : decode cX1_withoutLeadingZero 7 = .ok (.iconst 0, 1) := by decide +kernel
theorem dX1_withoutLeadingZero_8 : decode cX1_withoutLeadingZero 8 = .ok (.invokevirtual 29, 3) := by decide +kernel
theorem dX1_withoutLeadingZero_11 : decode cX1_withoutLeadingZero 11 = .ok (.aload_n 0, 1) := by decide +kernel
theorem dX1_withoutLeadingZero_12 : decode cX1_withoutLeadingZero 12 = .ok (.getfield 19, 3) := by decide +kernel
theorem dX1_withoutLeadingZero_15 : decode cX1_withoutLeadingZero 15 = .ok (.lxor, 1) := by decide +kernel
theorem dX1_withoutLeadingZero_16 : decode cX1_withoutLeadingZero 16 = .ok (.iload_n 3, 1) := by decide +kernel
theorem dX1_withoutLeadingZero_17 : decode cX1_withoutLeadingZero 17 = .ok (.iconst 1, 1) := by decide +kernel
theorem dX1_withoutLeadingZero_18 : decode cX1_withoutLeadingZero 18 = .ok (.isub, 1) := by decide +kernel
theorem dX1_withoutLeadingZero_19 : decode cX1_withoutLeadingZero 19 = .ok (.invokevirtual 45, 3) := by decide +kernel
theorem dX1_withoutLeadingZero_22 : decode cX1_withoutLeadingZero 22 = .ok (.lxor, 1) := by decide +kernel
theorem dX1_withoutLeadingZero_23 : decode cX1_withoutLeadingZero 23 = .ok (.lreturn, 1) := by decide +kernel
theorem dX1_isByExclusiveOr_0 : decode cX1_isByExclusiveOr 0 = .ok (.iconst 1, 1) := by decide +kernel
theorem dX1_isByExclusiveOr_1 : decode cX1_isByExclusiveOr 1 = .ok (.ireturn, 1) := by decide +kernel
set_option maxRecDepth 20000 in
theorem ggX1_findPeriod_X1_doubled : GoodIn wsX1_findPeriod wsX1_doubled := goodIn_r _ [7, 8, 9, 10] (by decide +kernel) (by decide +kernel)
set_option maxRecDepth 20000 in
theorem gX1_findPeriod_X1_doubled : GoodIn wsX1_findPeriod (va_wsS RX1 33 yX1_doubled wsX1_doubled) := goodIn_app (goodIn_of _ (by decide +kernel)) ggX1_findPeriod_X1_doubled
theorem dX1_findPeriod_0 : decode cX1_findPeriod 0 = .ok (.lconst 1, 1) := by decide +kernel
theorem dX1_findPeriod_1 : decode cX1_findPeriod 1 = .ok (.lstore_n 1, 1) := by decide +kernel
theorem dX1_findPeriod_2 : decode cX1_findPeriod 2 = .ok (.iconst 1, 1) := by decide +kernel
theorem dX1_findPeriod_3 : decode cX1_findPeriod 3 = .ok (.istore_n 3, 1) := by decide +kernel
theorem dX1_findPeriod_4 : decode cX1_findPeriod 4 = .ok (.iload_n 3, 1) := by decide +kernel
theorem dX1_findPeriod_5 : decode cX1_findPeriod 5 = .ok (.ldc 48, 2) := by decide +kernel
theorem dX1_findPeriod_7 : decode cX1_findPeriod 7 = .ok (.if_icmp .gt 36, 3) := by decide +kernel
theorem dX1_findPeriod_10 : decode cX1_findPeriod 10 = .ok (.lload_n 1, 1) := by decide +kernel
theorem dX1_findPeriod_11 : decode cX1_findPeriod 11 = .ok (.lconst 0, 1) := by decide +kernel
theorem dX1_findPeriod_12 : decode cX1_findPeriod 12 = .ok (.lcmp, 1) := by decide +kernel
theorem dX1_findPeriod_13 : decode cX1_findPeriod 13 = .ok (.ifCond .eq 30, 3) := by decide +kernel
theorem dX1_findPeriod_16 : decode cX1_findPeriod 16 = .ok (.lload_n 1, 1) := by decide +kernel
theorem dX1_findPeriod_17 : decode cX1_findPeriod 17 = .ok (.aload_n 0, 1) := by decide +kernel
theorem dX1_findPeriod_18 : decode cX1_findPeriod 18 = .ok (.getfield 9, 3) := by decide +kernel
theorem dX1_findPeriod_21 : decode cX1_findPeriod 21 = .ok (.aload_n 0, 1) := by decide +kernel
theorem dX1_findPeriod_22 : decode cX1_findPeriod 22 = .ok (.getfield 15, 3) := by decide +kernel
theorem dX1_findPeriod_25 : decode cX1_findPeriod 25 = .ok (.invokestatic 33, 3) := by decide +kernel
theorem dX1_findPeriod_28 : decode cX1_findPeriod 28 = .ok (.lstore_n 1, 1) := by decide +kernel
theorem dX1_findPeriod_29 : decode cX1_findPeriod 29 = .ok (.lload_n 1, 1) := by decide +kernel
theorem dX1_findPeriod_30 : decode cX1_findPeriod 30 = .ok (.lconst 1, 1) := by decide +kernel
theorem dX1_findPeriod_31 : decode cX1_findPeriod 31 = .ok (.lcmp, 1) := by decide +kernel
theorem dX1_findPeriod_32 : decode cX1_findPeriod 32 = .ok (.ifCond .ne 5, 3) := by decide +kernel
theorem dX1_findPeriod_35 : decode cX1_findPeriod 35 = .ok (.iload_n 3, 1) := by decide +kernel
theorem dX1_findPeriod_36 : decode cX1_findPeriod 36 = .ok (.ireturn, 1) := by decide +kernel
theorem dX1_findPeriod_37 : decode cX1_findPeriod 37 = .ok (.iinc 3 1, 3) := by decide +kernel
theorem dX1_findPeriod_40 : decode cX1_findPeriod 40 = .ok (.goto (-36), 3) := by decide +kernel
theorem dX1_findPeriod_43 : decode cX1_findPeriod 43 = .ok (.iconst (-1), 1) := by decide +kernel
theorem dX1_findPeriod_44 : decode cX1_findPeriod 44 = .ok (.ireturn, 1) := by decide +kernel
set_option maxRecDepth 20000 in
theorem ggX2_init_X6_init : GoodIn wsX2_init wsX6_init := goodIn_r _ [4, 5, 6, 7, 8, 9, 10, 11, 12, 13, 14, 15, 16, 17, 18, 19, 20, 21, 22, 23, 24, 25] (by decide +kernel) (by decide +kernel)
set_option maxRecDepth 20000 in
theorem gX2_init_X6_init : GoodIn wsX2_init (wsX6_init) := ggX2_init_X6_init
theorem dX2_init_0 : decode cX2_init 0 = .ok (.aload_n 0, 1) := by decide +kernel
theorem dX2_init_1 : decode cX2_init 1 = .ok (.iload_n 1, 1) := by decide +kernel
theorem dX2_init_2 : decode cX2_init 2 = .ok (.invokespecial 1, 3) := by decide +kernel
theorem dX2_init_5 : decode cX2_init 5 = .ok (.return_, 1) := by decide +kernel
theorem dX2_isByExclusiveOr_0 : decode cX2_isByExclusiveOr 0 = .ok (.iconst 0, 1) := by decide +kernel
theorem dX2_isByExclusiveOr_1 : decode cX2_isByExclusiveOr 1 = .ok (.ireturn, 1) := by decide +kernel
theorem dX2_canJoinBehind_0 : decode cX2_canJoinBehind 0 = .ok (.iconst 1, 1) := by decide +kernel
theorem dX2_canJoinBehind_1 : decode cX2_canJoinBehind 1 = .ok (.ireturn, 1) := by decide +kernel
theorem dX2_canDropFirst_0 : decode cX2_canDropFirst 0 = .ok (.iconst 1, 1) := by decide +kernel
theorem dX2_canDropFirst_1 : decode cX2_canDropFirst 1 = .ok (.ireturn, 1) := by decide +kernel
theorem dX2_withoutLeadingZero_0 : decode cX2_withoutLeadingZero 0 = .ok (.lload_n 1, 1) := by decide +kernel
theorem dX2_withoutLeadingZero_1 : decode cX2_withoutLeadingZero 1 = .ok (.lreturn, 1) := by decide +kernel
set_option maxRecDepth 20000 in
theorem ggX3_init_X7_init : GoodIn wsX3_init wsX7_init := goodIn_r _ [12, 13, 2, 3, 14, 15, 16, 4, 17, 18, 19, 23, 24, 25, 26, 27] (by decide +kernel) (by decide +kernel)
set_option maxRecDepth 20000 in
theorem gX3_init_X7_init_n21 : GoodIn wsX3_init (wsX7_init) := ggX3_init_X7_init
theorem dX3_init_0 : decode cX3_init 0 = .ok (.aload_n 0, 1) := by decide +kernel
theorem dX3_init_1 : decode cX3_init 1 = .ok (.invokespecial 3, 3) := by decide +kernel
theorem dX3_init_4 : decode cX3_init 4 = .ok (.aload_n 0, 1) := by decide +kernel
theorem dX3_init_5 : decode cX3_init 5 = .ok (.sipush 512, 3) := by decide +kernel
theorem dX3_init_8 : decode cX3_init 8 = .ok (.newarray .long, 2) := by decide +kernel
theorem dX3_init_10 : decode cX3_init 10 = .ok (.putfield 9, 3) := by decide +kernel
theorem dX3_init_13 : decode cX3_init 13 = .ok (.aload_n 0, 1) := by decide +kernel
theorem dX3_init_14 : decode cX3_init 14 = .ok (.iconst 0, 1) := by decide +kernel
theorem dX3_init_15 : decode cX3_init 15 = .ok (.putfield 15, 3) := by decide +kernel
theorem dX3_init_18 : decode cX3_init 18 = .ok (.aload_n 0, 1) := by decide +kernel
theorem dX3_init_19 : decode cX3_init 19 = .ok (.new 19, 3) := by decide +kernel
theorem dX3_init_22 : decode cX3_init 22 = .ok (.dup, 1) := by decide +kernel
theorem dX3_init_23 : decode cX3_init 23 = .ok (.invokespecial 21, 3) := by decide +kernel
theorem dX3_init_26 : decode cX3_init 26 = .ok (.putfield 22, 3) := by decide +kernel
theorem dX3_init_29 : decode cX3_init 29 = .ok (.return_, 1) := by decide +kernel
set_option maxRecDepth 20000 in
theorem ggX3_load_X1_doubled : GoodIn wsX3_load wsX1_doubled := goodIn_r _ [6, 7, 8, 9] (by decide +kernel) (by decide +kernel)
set_option maxRecDepth 20000 in
theorem gX3_load_X1_doubled : GoodIn wsX3_load (va_wsS RX3 26 yX1_doubled wsX1_doubled) := goodIn_app (goodIn_of _ (by decide +kernel)) ggX3_load_X1_doubled
theorem dX3_load_0 : decode cX3_load 0 = .ok (.aload_n 0, 1) := by decide +kernel
theorem dX3_load_1 : decode cX3_load 1 = .ok (.bipush 8, 2) := by decide +kernel
theorem dX3_load_3 : decode cX3_load 3 = .ok (.iload_n 1, 1) := by decide +kernel
theorem dX3_load_4 : decode cX3_load 4 = .ok (.imul, 1) := by decide +kernel
theorem dX3_load_5 : decode cX3_load 5 = .ok (.putfield 15, 3) := by decide +kernel
theorem dX3_load_8 : decode cX3_load 8 = .ok (.lload_n 3, 1) := by decide +kernel
theorem dX3_load_9 : decode cX3_load 9 = .ok (.lstore 6, 2) := by decide +kernel
theorem dX3_load_11 : decode cX3_load 11 = .ok (.iconst 0, 1) := by decide +kernel
theorem dX3_load_12 : decode cX3_load 12 = .ok (.istore 8, 2) := by decide +kernel
theorem dX3_load_14 : decode cX3_load 14 = .ok (.iload 8, 2) := by decide +kernel
theorem dX3_load_16 : decode cX3_load 16 = .ok (.aload_n 0, 1) := by decide +kernel
theorem dX3_load_17 : decode cX3_load 17 = .ok (.getfield 15, 3) := by decide +kernel
theorem dX3_load_20 : decode cX3_load 20 = .ok (.if_icmp .ge 51, 3) := by decide +kernel
theorem dX3_load_23 : decode cX3_load 23 = .ok (.aload_n 0, 1) := by decide +kernel
theorem dX3_load_24 : decode cX3_load 24 = .ok (.getfield 15, 3) := by decide +kernel
theorem dX3_load_27 : decode cX3_load 27 = .ok (.iconst 1, 1) := by decide +kernel
theorem dX3_load_28 : decode cX3_load 28 = .ok (.isub, 1) := by decide +kernel
theorem dX3_load_29 : decode cX3_load 29 = .ok (.iload 8, 2) := by decide +kernel
theorem dX3_load_31 : decode cX3_load 31 = .ok (.isub, 1) := by decide +kernel
theorem dX3_load_32 : decode cX3_load 32 = .ok (.istore 9, 2) := by decide +kernel
theorem dX3_load_34 : decode cX3_load 34 = .ok (.aload_n 0, 1) := by decide +kernel
theorem dX3_load_35 : decode cX3_load 35 = .ok (.getfield 9, 3) := by decide +kernel
theorem dX3_load_38 : decode cX3_load 38 = .ok (.iload 5, 2) := by decide +kernel
theorem dX3_load_40 : decode cX3_load 40 = .ok (.ifCond .eq 11, 3) := by decide +kernel
theorem dX3_load_43 : decode cX3_load 43 = .ok (.iload 9, 2) := by decide +kernel
theorem dX3_load_45 : decode cX3_load 45 = .ok (.bipush 7, 2) := by decide +kernel
theorem dX3_load_47 : decode cX3_load 47 = .ok (.ixor, 1) := by decide +kernel
theorem dX3_load_48 : decode cX3_load 48 = .ok (.goto 5, 3) := by decide +kernel
theorem dX3_load_51 : decode cX3_load 51 = .ok (.iload 9, 2) := by decide +kernel
theorem dX3_load_53 : decode cX3_load 53 = .ok (.lload 6, 2) := by decide +kernel
theorem dX3_load_55 : decode cX3_load 55 = .ok (.lastore, 1) := by decide +kernel
theorem dX3_load_56 : decode cX3_load 56 = .ok (.lload 6, 2) := by decide +kernel
theorem dX3_load_58 : decode cX3_load 58 = .ok (.iload_n 2, 1) := by decide +kernel
theorem dX3_load_59 : decode cX3_load 59 = .ok (.lload_n 3, 1) := by decide +kernel
theorem dX3_load_60 : decode cX3_load 60 = .ok (.invokestatic 26, 3) := by decide +kernel
theorem dX3_load_63 : decode cX3_load 63 = .ok (.lstore 6, 2) := by decide +kernel
theorem dX3_load_65 : decode cX3_load 65 = .ok (.iinc 8 1, 3) := by decide +kernel
theorem dX3_load_68 : decode cX3_load 68 = .ok (.goto (-54), 3) := by decide +kernel
theorem dX3_load_71 : decode cX3_load 71 = .ok (.return_, 1) := by decide +kernel
theorem dX3_firstPlaceOf_0 : decode cX3_firstPlaceOf 0 = .ok (.iconst 0, 1) := by decide +kernel
theorem dX3_firstPlaceOf_1 : decode cX3_firstPlaceOf 1 = .ok (.istore_n 3, 1) := by decide +kernel
theorem dX3_firstPlaceOf_2 : decode cX3_firstPlaceOf 2 = .ok (.iload_n 3, 1) := by decide +kernel
theorem dX3_firstPlaceOf_3 : decode cX3_firstPlaceOf 3 = .ok (.aload_n 0, 1) := by decide +kernel
theorem dX3_firstPlaceOf_4 : decode cX3_firstPlaceOf 4 = .ok (.getfield 15, 3) := by decide +kernel
theorem dX3_firstPlaceOf_7 : decode cX3_firstPlaceOf 7 = .ok (.if_icmp .ge 22, 3) := by decide +kernel
theorem dX3_firstPlaceOf_10 : decode cX3_firstPlaceOf 10 = .ok (.aload_n 0, 1) := by decide +kernel
theorem dX3_firstPlaceOf_11 : decode cX3_firstPlaceOf 11 = .ok (.getfield 9, 3) := by decide +kernel
theorem dX3_firstPlaceOf_14 : decode cX3_firstPlaceOf 14 = .ok (.iload_n 3, 1) := by decide +kernel
theorem dX3_firstPlaceOf_15 : decode cX3_firstPlaceOf 15 = .ok (.laload, 1) := by decide +kernel
theorem dX3_firstPlaceOf_16 : decode cX3_firstPlaceOf 16 = .ok (.lload_n 1, 1) := by decide +kernel
theorem dX3_firstPlaceOf_17 : decode cX3_firstPlaceOf 17 = .ok (.lcmp, 1) := by decide +kernel
theorem dX3_firstPlaceOf_18 : decode cX3_firstPlaceOf 18 = .ok (.ifCond .ne 5, 3) := by decide +kernel
theorem dX3_firstPlaceOf_21 : decode cX3_firstPlaceOf 21 = .ok (.iload_n 3, 1) := by decide +kernel
theorem dX3_firstPlaceOf_22 : decode cX3_firstPlaceOf 22 = .ok (.ireturn, 1) := by decide +kernel
theorem dX3_firstPlaceOf_23 : decode cX3_firstPlaceOf 23 = .ok (.iinc 3 1, 3) := by decide +kernel
theorem dX3_firstPlaceOf_26 : decode cX3_firstPlaceOf 26 = .ok (.goto (-24), 3) := by decide +kernel
theorem dX3_firstPlaceOf_29 : decode cX3_firstPlaceOf 29 = .ok (.iconst (-1), 1) := by decide +kernel
theorem dX3_firstPlaceOf_30 : decode cX3_firstPlaceOf 30 = .ok (.ireturn, 1) := by decide +kernel
set_option maxRecDepth 20000 in
theorem ggX3_leastSize_X3_howMany : GoodIn wsX3_leastSize wsX3_howMany := goodIn_r _ [5, 6, 7, 8, 4, 9, 10, 11, 12, 13, 14, 15, 16, 17, 18, 19, 20, 21, 22, 23, 24, 25, 26, 27, 28, 29, 30, 31, 32, 33, 34, 35, 36, 37, 38, 39, 40, 41, 42, 43, 44, 45, 46, 47, 48, 49, 50, 51, 52, 53, 54, 55, 56, 57, 58, 59, 60, 61, 62] (by decide +kernel) (by decide +kernel)
set_option maxRecDepth 20000 in
theorem gX3_leastSize_X3_howMany : GoodIn wsX3_leastSize (wsV RX3 32 RX3 yX3_howMany wsX3_howMany) := goodIn_app (goodIn_of _ (by decide +kernel)) ggX3_leastSize_X3_howMany
theorem dX3_leastSize_0 : decode cX3_leastSize 0 = .ok (.iconst 1, 1) := by decide +kernel
theorem dX3_leastSize_1 : decode cX3_leastSize 1 = .ok (.istore_n 1, 1) := by decide +kernel
theorem dX3_leastSize_2 : decode cX3_leastSize 2 = .ok (.iload_n 1, 1) := by decide +kernel
theorem dX3_leastSize_3 : decode cX3_leastSize 3 = .ok (.iconst 4, 1) := by decide +kernel
theorem dX3_leastSize_4 : decode cX3_leastSize 4 = .ok (.if_icmp .gt 17, 3) := by decide +kernel
theorem dX3_leastSize_7 : decode cX3_leastSize 7 = .ok (.aload_n 0, 1) := by decide +kernel
theorem dX3_leastSize_8 : decode cX3_leastSize 8 = .ok (.iload_n 1, 1) := by decide +kernel
theorem dX3_leastSize_9 : decode cX3_leastSize 9 = .ok (.invokevirtual 32, 3) := by decide +kernel
theorem dX3_leastSize_12 : decode cX3_leastSize 12 = .ok (.ifCond .ne 9, 3) := by decide +kernel
theorem dX3_leastSize_15 : decode cX3_leastSize 15 = .ok (.iinc 1 1, 3) := by decide +kernel
theorem dX3_leastSize_18 : decode cX3_leastSize 18 = .ok (.goto (-16), 3) := by decide +kernel
theorem dX3_leastSize_21 : decode cX3_leastSize 21 = .ok (.iload_n 1, 1) := by decide +kernel
theorem dX3_leastSize_22 : decode cX3_leastSize 22 = .ok (.ireturn, 1) := by decide +kernel
set_option maxRecDepth 20000 in
theorem ggX3_howMany_X3_howManySingles : GoodIn wsX3_howMany wsX3_howManySingles := goodIn_r _ [5, 6, 7, 51, 52, 53] (by decide +kernel) (by decide +kernel)
set_option maxRecDepth 20000 in
theorem gX3_howMany_X3_howManySingles : GoodIn wsX3_howMany (wsV RX3 36 RX3 yX3_howManySingles wsX3_howManySingles) := goodIn_app (goodIn_of _ (by decide +kernel)) ggX3_howMany_X3_howManySingles
set_option maxRecDepth 20000 in
theorem ggX3_howMany_X3_howManyPairs : GoodIn wsX3_howMany wsX3_howManyPairs := goodIn_r _ [11, 6, 7, 51, 52, 53] (by decide +kernel) (by decide +kernel)
set_option maxRecDepth 20000 in
theorem gX3_howMany_X3_howManyPairs : GoodIn wsX3_howMany (wsV RX3 40 RX3 yX3_howManyPairs wsX3_howManyPairs) := goodIn_app (goodIn_of _ (by decide +kernel)) ggX3_howMany_X3_howManyPairs
set_option maxRecDepth 20000 in
theorem ggX3_howMany_X3_howManyThrees : GoodIn wsX3_howMany wsX3_howManyThrees := goodIn_r _ [15, 16, 6, 7, 17, 18, 19, 20, 21, 22, 23, 24, 25, 26, 27, 28, 29, 30, 31, 32, 33, 34, 35, 36, 37, 38, 39, 40, 41, 42, 43, 44, 45, 46, 51, 52, 53, 54, 55, 56, 57, 58] (by decide +kernel) (by decide +kernel)
set_option maxRecDepth 20000 in
theorem gX3_howMany_X3_howManyThrees : GoodIn wsX3_howMany (wsV RX3 43 RX3 yX3_howManyThrees wsX3_howManyThrees) := goodIn_app (goodIn_of _ (by decide +kernel)) ggX3_howMany_X3_howManyThrees
set_option maxRecDepth 20000 in
theorem ggX3_howMany_X3_howManyFours : GoodIn wsX3_howMany wsX3_howManyFours := goodIn_r _ [50, 16, 6, 7, 17, 18, 19, 20, 21, 22, 23, 24, 25, 26, 27, 28, 29, 30, 31, 32, 33, 34, 35, 36, 37, 38, 39, 40, 41, 42, 43, 44, 45, 46, 51, 52, 53, 54, 55, 56, 57, 58] (by decide +kernel) (by decide +kernel)
set_option maxRecDepth 20000 in
theorem gX3_howMany_X3_howManyFours : GoodIn wsX3_howMany (wsV RX3 46 RX3 yX3_howManyFours wsX3_howManyFours) := goodIn_app (goodIn_of _ (by decide +kernel)) ggX3_howMany_X3_howManyFours
theorem dX3_howMany_0 : decode cX3_howMany 0 = .ok (.iload_n 1, 1) := by decide +kernel
theorem dX3_howMany_1 : decode cX3_howMany 1 = .ok (.tableswitch 42 1 3 #[27, 32, 37], 27) := by decide +kernel
theorem dX3_howMany_28 : decode cX3_howMany 28 = .ok (.aload_n 0, 1) := by decide +kernel
theorem dX3_howMany_29 : decode cX3_howMany 29 = .ok (.invokevirtual 36, 3) := by decide +kernel
theorem dX3_howMany_32 : decode cX3_howMany 32 = .ok (.ireturn, 1) := by decide +kernel
theorem dX3_howMany_33 : decode cX3_howMany 33 = .ok (.aload_n 0, 1) := by decide +kernel
theorem dX3_howMany_34 : decode cX3_howMany 34 = .ok (.invokevirtual 40, 3) := by decide +kernel
theorem dX3_howMany_37 : decode cX3_howMany 37 = .ok (.ireturn, 1) := by decide +kernel
theorem dX3_howMany_38 : decode cX3_howMany 38 = .ok (.aload_n 0, 1) := by decide +kernel
theorem dX3_howMany_39 : decode cX3_howMany 39 = .ok (.invokevirtual 43, 3) := by decide +kernel
theorem dX3_howMany_42 : decode cX3_howMany 42 = .ok (.ireturn, 1) := by decide +kernel
theorem dX3_howMany_43 : decode cX3_howMany 43 = .ok (.aload_n 0, 1) := by decide +kernel
theorem dX3_howMany_44 : decode cX3_howMany 44 = .ok (.invokevirtual 46, 3) := by decide +kernel
theorem dX3_howMany_47 : decode cX3_howMany 47 = .ok (.ireturn, 1) := by decide +kernel
theorem dX3_howManySingles_0 : decode cX3_howManySingles 0 = .ok (.iconst 0, 1) := by decide +kernel
theorem dX3_howManySingles_1 : decode cX3_howManySingles 1 = .ok (.istore_n 1, 1) := by decide +kernel
theorem dX3_howManySingles_2 : decode cX3_howManySingles 2 = .ok (.iconst 0, 1) := by decide +kernel
theorem dX3_howManySingles_3 : decode cX3_howManySingles 3 = .ok (.istore_n 2, 1) := by decide +kernel
theorem dX3_howManySingles_4 : decode cX3_howManySingles 4 = .ok (.iload_n 2, 1) := by decide +kernel
theorem dX3_howManySingles_5 : decode cX3_howManySingles 5 = .ok (.aload_n 0, 1) := by decide +kernel
theorem dX3_howManySingles_6 : decode cX3_howManySingles 6 = .ok (.getfield 15, 3) := by decide +kernel
theorem dX3_howManySingles_9 : decode cX3_howManySingles 9 = .ok (.if_icmp .ge 23, 3) := by decide +kernel
theorem dX3_howManySingles_12 : decode cX3_howManySingles 12 = .ok (.aload_n 0, 1) := by decide +kernel
theorem dX3_howManySingles_13 : decode cX3_howManySingles 13 = .ok (.getfield 9, 3) := by decide +kernel
theorem dX3_howManySingles_16 : decode cX3_howManySingles 16 = .ok (.iload_n 2, 1) := by decide +kernel
theorem dX3_howManySingles_17 : decode cX3_howManySingles 17 = .ok (.laload, 1) := by decide +kernel
theorem dX3_howManySingles_18 : decode cX3_howManySingles 18 = .ok (.lconst 0, 1) := by decide +kernel
theorem dX3_howManySingles_19 : decode cX3_howManySingles 19 = .ok (.lcmp, 1) := by decide +kernel
theorem dX3_howManySingles_20 : decode cX3_howManySingles 20 = .ok (.ifCond .ne 6, 3) := by decide +kernel
theorem dX3_howManySingles_23 : decode cX3_howManySingles 23 = .ok (.iinc 1 1, 3) := by decide +kernel
theorem dX3_howManySingles_26 : decode cX3_howManySingles 26 = .ok (.iinc 2 1, 3) := by decide +kernel
theorem dX3_howManySingles_29 : decode cX3_howManySingles 29 = .ok (.goto (-25), 3) := by decide +kernel
theorem dX3_howManySingles_32 : decode cX3_howManySingles 32 = .ok (.iload_n 1, 1) := by decide +kernel
theorem dX3_howManySingles_33 : decode cX3_howManySingles 33 = .ok (.ireturn, 1) := by decide +kernel
theorem dX3_howManyPairs_0 : decode cX3_howManyPairs 0 = .ok (.iconst 0, 1) := by decide +kernel
theorem dX3_howManyPairs_1 : decode cX3_howManyPairs 1 = .ok (.istore_n 1, 1) := by decide +kernel
theorem dX3_howManyPairs_2 : decode cX3_howManyPairs 2 = .ok (.iconst 0, 1) := by decide +kernel
theorem dX3_howManyPairs_3 : decode cX3_howManyPairs 3 = .ok (.istore_n 2, 1) := by decide +kernel
theorem dX3_howManyPairs_4 : decode cX3_howManyPairs 4 = .ok (.iload_n 2, 1) := by decide +kernel
theorem dX3_howManyPairs_5 : decode cX3_howManyPairs 5 = .ok (.aload_n 0, 1) := by decide +kernel
theorem dX3_howManyPairs_6 : decode cX3_howManyPairs 6 = .ok (.getfield 15, 3) := by decide +kernel
theorem dX3_howManyPairs_9 : decode cX3_howManyPairs 9 = .ok (.if_icmp .ge 46, 3) := by decide +kernel
theorem dX3_howManyPairs_12 : decode cX3_howManyPairs 12 = .ok (.iload_n 2, 1) := by decide +kernel
theorem dX3_howManyPairs_13 : decode cX3_howManyPairs 13 = .ok (.iconst 1, 1) := by decide +kernel
theorem dX3_howManyPairs_14 : decode cX3_howManyPairs 14 = .ok (.iadd, 1) := by decide +kernel
theorem dX3_howManyPairs_15 : decode cX3_howManyPairs 15 = .ok (.istore_n 3, 1) := by decide +kernel
theorem dX3_howManyPairs_16 : decode cX3_howManyPairs 16 = .ok (.iload_n 3, 1) := by decide +kernel
theorem dX3_howManyPairs_17 : decode cX3_howManyPairs 17 = .ok (.aload_n 0, 1) := by decide +kernel
theorem dX3_howManyPairs_18 : decode cX3_howManyPairs 18 = .ok (.getfield 15, 3) := by decide +kernel
theorem dX3_howManyPairs_21 : decode cX3_howManyPairs 21 = .ok (.if_icmp .ge 28, 3) := by decide +kernel
theorem dX3_howManyPairs_24 : decode cX3_howManyPairs 24 = .ok (.aload_n 0, 1) := by decide +kernel
theorem dX3_howManyPairs_25 : decode cX3_howManyPairs 25 = .ok (.getfield 9, 3) := by decide +kernel
theorem dX3_howManyPairs_28 : decode cX3_howManyPairs 28 = .ok (.iload_n 2, 1) := by decide +kernel
theorem dX3_howManyPairs_29 : decode cX3_howManyPairs 29 = .ok (.laload, 1) := by decide +kernel
theorem dX3_howManyPairs_30 : decode cX3_howManyPairs 30 = .ok (.aload_n 0, 1) := by decide +kernel
theorem dX3_howManyPairs_31 : decode cX3_howManyPairs 31 = .ok (.getfield 9, 3) := by decide +kernel
theorem dX3_howManyPairs_34 : decode cX3_howManyPairs 34 = .ok (.iload_n 3, 1) := by decide +kernel
theorem dX3_howManyPairs_35 : decode cX3_howManyPairs 35 = .ok (.laload, 1) := by decide +kernel
theorem dX3_howManyPairs_36 : decode cX3_howManyPairs 36 = .ok (.lcmp, 1) := by decide +kernel
theorem dX3_howManyPairs_37 : decode cX3_howManyPairs 37 = .ok (.ifCond .ne 6, 3) := by decide +kernel
theorem dX3_howManyPairs_40 : decode cX3_howManyPairs 40 = .ok (.iinc 1 1, 3) := by decide +kernel
theorem dX3_howManyPairs_43 : decode cX3_howManyPairs 43 = .ok (.iinc 3 1, 3) := by decide +kernel
theorem dX3_howManyPairs_46 : decode cX3_howManyPairs 46 = .ok (.goto (-30), 3) := by decide +kernel
theorem dX3_howManyPairs_49 : decode cX3_howManyPairs 49 = .ok (.iinc 2 1, 3) := by decide +kernel
theorem dX3_howManyPairs_52 : decode cX3_howManyPairs 52 = .ok (.goto (-48), 3) := by decide +kernel
theorem dX3_howManyPairs_55 : decode cX3_howManyPairs 55 = .ok (.iload_n 1, 1) := by decide +kernel
theorem dX3_howManyPairs_56 : decode cX3_howManyPairs 56 = .ok (.ireturn, 1) := by decide +kernel
set_option maxRecDepth 20000 in
theorem ggX3_howManyThrees_X7_forget : GoodIn wsX3_howManyThrees wsX7_forget := goodIn_r _ [8, 9, 10, 11, 12, 13, 14, 37, 38, 39, 40, 41] (by decide +kernel) (by decide +kernel)
set_option maxRecDepth 20000 in
theorem gX3_howManyThrees_X7_forget : GoodIn wsX3_howManyThrees (wsV RX3 49 RX7 yX7_forget wsX7_forget) := goodIn_app (goodIn_of _ (by decide +kernel)) ggX3_howManyThrees_X7_forget
set_option maxRecDepth 20000 in
theorem ggX3_howManyThrees_X7_timesOf : GoodIn wsX3_howManyThrees wsX7_timesOf := goodIn_r _ [18, 19, 20, 21, 7, 22, 23, 24, 25, 26, 27, 9, 10, 28, 29, 37, 38, 39, 40, 41] (by decide +kernel) (by decide +kernel)
set_option maxRecDepth 20000 in
theorem gX3_howManyThrees_X7_timesOf : GoodIn wsX3_howManyThrees (wsV RX3 52 RX7 yX7_timesOf wsX7_timesOf) := goodIn_app (goodIn_of _ (by decide +kernel)) ggX3_howManyThrees_X7_timesOf
set_option maxRecDepth 20000 in
theorem ggX3_howManyThrees_X7_note : GoodIn wsX3_howManyThrees wsX7_note := goodIn_r _ [33, 19, 10, 28, 29, 9, 20, 21, 7, 22, 23, 24, 25, 26, 27, 37, 38, 39, 40, 41] (by decide +kernel) (by decide +kernel)
set_option maxRecDepth 20000 in
theorem gX3_howManyThrees_X7_note : GoodIn wsX3_howManyThrees (wsV RX3 56 RX7 yX7_note wsX7_note) := goodIn_app (goodIn_of _ (by decide +kernel)) ggX3_howManyThrees_X7_note
theorem dX3_howManyThrees_0 : decode cX3_howManyThrees 0 = .ok (.iconst 0, 1) := by decide +kernel
theorem dX3_howManyThrees_1 : decode cX3_howManyThrees 1 = .ok (.istore_n 1, 1) := by decide +kernel
theorem dX3_howManyThrees_2 : decode cX3_howManyThrees 2 = .ok (.aload_n 0, 1) := by decide +kernel
theorem dX3_howManyThrees_3 : decode cX3_howManyThrees 3 = .ok (.getfield 22, 3) := by decide +kernel
theorem dX3_howManyThrees_6 : decode cX3_howManyThrees 6 = .ok (.invokevirtual 49, 3) := by decide +kernel
theorem dX3_howManyThrees_9 : decode cX3_howManyThrees 9 = .ok (.iconst 0, 1) := by decide +kernel
theorem dX3_howManyThrees_10 : decode cX3_howManyThrees 10 = .ok (.istore_n 2, 1) := by decide +kernel
theorem dX3_howManyThrees_11 : decode cX3_howManyThrees 11 = .ok (.iload_n 2, 1) := by decide +kernel
theorem dX3_howManyThrees_12 : decode cX3_howManyThrees 12 = .ok (.aload_n 0, 1) := by decide +kernel
theorem dX3_howManyThrees_13 : decode cX3_howManyThrees 13 = .ok (.getfield 15, 3) := by decide +kernel
theorem dX3_howManyThrees_16 : decode cX3_howManyThrees 16 = .ok (.if_icmp .ge 63, 3) := by decide +kernel
theorem dX3_howManyThrees_19 : decode cX3_howManyThrees 19 = .ok (.iload_n 2, 1) := by decide +kernel
theorem dX3_howManyThrees_20 : decode cX3_howManyThrees 20 = .ok (.iconst 1, 1) := by decide +kernel
theorem dX3_howManyThrees_21 : decode cX3_howManyThrees 21 = .ok (.iadd, 1) := by decide +kernel
theorem dX3_howManyThrees_22 : decode cX3_howManyThrees 22 = .ok (.istore_n 3, 1) := by decide +kernel
theorem dX3_howManyThrees_23 : decode cX3_howManyThrees 23 = .ok (.iload_n 3, 1) := by decide +kernel
theorem dX3_howManyThrees_24 : decode cX3_howManyThrees 24 = .ok (.aload_n 0, 1) := by decide +kernel
theorem dX3_howManyThrees_25 : decode cX3_howManyThrees 25 = .ok (.getfield 15, 3) := by decide +kernel
theorem dX3_howManyThrees_28 : decode cX3_howManyThrees 28 = .ok (.if_icmp .ge 32, 3) := by decide +kernel
theorem dX3_howManyThrees_31 : decode cX3_howManyThrees 31 = .ok (.iload_n 1, 1) := by decide +kernel
theorem dX3_howManyThrees_32 : decode cX3_howManyThrees 32 = .ok (.aload_n 0, 1) := by decide +kernel
theorem dX3_howManyThrees_33 : decode cX3_howManyThrees 33 = .ok (.getfield 22, 3) := by decide +kernel
theorem dX3_howManyThrees_36 : decode cX3_howManyThrees 36 = .ok (.aload_n 0, 1) := by decide +kernel
theorem dX3_howManyThrees_37 : decode cX3_howManyThrees 37 = .ok (.getfield 9, 3) := by decide +kernel
theorem dX3_howManyThrees_40 : decode cX3_howManyThrees 40 = .ok (.iload_n 2, 1) := by decide +kernel
theorem dX3_howManyThrees_41 : decode cX3_howManyThrees 41 = .ok (.laload, 1) := by decide +kernel
theorem dX3_howManyThrees_42 : decode cX3_howManyThrees 42 = .ok (.aload_n 0, 1) := by decide +kernel
theorem dX3_howManyThrees_43 : decode cX3_howManyThrees 43 = .ok (.getfield 9, 3) := by decide +kernel
theorem dX3_howManyThrees_46 : decode cX3_howManyThrees 46 = .ok (.iload_n 3, 1) := by decide +kernel
theorem dX3_howManyThrees_47 : decode cX3_howManyThrees 47 = .ok (.laload, 1) := by decide +kernel
theorem dX3_howManyThrees_48 : decode cX3_howManyThrees 48 = .ok (.lxor, 1) := by decide +kernel
theorem dX3_howManyThrees_49 : decode cX3_howManyThrees 49 = .ok (.invokevirtual 52, 3) := by decide +kernel
theorem dX3_howManyThrees_52 : decode cX3_howManyThrees 52 = .ok (.iadd, 1) := by decide +kernel
theorem dX3_howManyThrees_53 : decode cX3_howManyThrees 53 = .ok (.istore_n 1, 1) := by decide +kernel
theorem dX3_howManyThrees_54 : decode cX3_howManyThrees 54 = .ok (.iinc 3 1, 3) := by decide +kernel
theorem dX3_howManyThrees_57 : decode cX3_howManyThrees 57 = .ok (.goto (-34), 3) := by decide +kernel
theorem dX3_howManyThrees_60 : decode cX3_howManyThrees 60 = .ok (.aload_n 0, 1) := by decide +kernel
theorem dX3_howManyThrees_61 : decode cX3_howManyThrees 61 = .ok (.getfield 22, 3) := by decide +kernel
theorem dX3_howManyThrees_64 : decode cX3_howManyThrees 64 = .ok (.aload_n 0, 1) := by decide +kernel
theorem dX3_howManyThrees_65 : decode cX3_howManyThrees 65 = .ok (.getfield 9, 3) := by decide +kernel
theorem dX3_howManyThrees_68 : decode cX3_howManyThrees 68 = .ok (.iload_n 2, 1) := by decide +kernel
theorem dX3_howManyThrees_69 : decode cX3_howManyThrees 69 = .ok (.laload, 1) := by decide +kernel
theorem dX3_howManyThrees_70 : decode cX3_howManyThrees 70 = .ok (.invokevirtual 56, 3) := by decide +kernel
theorem dX3_howManyThrees_73 : decode cX3_howManyThrees 73 = .ok (.iinc 2 1, 3) := by decide +kernel
theorem dX3_howManyThrees_76 : decode cX3_howManyThrees 76 = .ok (.goto (-65), 3) := by decide +kernel
theorem dX3_howManyThrees_79 : decode cX3_howManyThrees 79 = .ok (.iload_n 1, 1) := by decide +kernel
theorem dX3_howManyThrees_80 : decode cX3_howManyThrees 80 = .ok (.ireturn, 1) := by decide +kernel
set_option maxRecDepth 20000 in
theorem ggX3_howManyFours_X7_forget : GoodIn wsX3_howManyFours wsX7_forget := goodIn_r _ [8, 9, 10, 11, 12, 13, 14, 37, 38, 39, 40, 41] (by decide +kernel) (by decide +kernel)
set_option maxRecDepth 20000 in
theorem gX3_howManyFours_X7_forget : GoodIn wsX3_howManyFours (wsV RX3 49 RX7 yX7_forget wsX7_forget) := goodIn_app (goodIn_of _ (by decide +kernel)) ggX3_howManyFours_X7_forget
set_option maxRecDepth 20000 in
theorem ggX3_howManyFours_X7_timesOf : GoodIn wsX3_howManyFours wsX7_timesOf := goodIn_r _ [18, 19, 20, 21, 7, 22, 23, 24, 25, 26, 27, 9, 10, 28, 29, 37, 38, 39, 40, 41] (by decide +kernel) (by decide +kernel)
set_option maxRecDepth 20000 in
theorem gX3_howManyFours_X7_timesOf : GoodIn wsX3_howManyFours (wsV RX3 52 RX7 yX7_timesOf wsX7_timesOf) := goodIn_app (goodIn_of _ (by decide +kernel)) ggX3_howManyFours_X7_timesOf
set_option maxRecDepth 20000 in
theorem ggX3_howManyFours_X7_note : GoodIn wsX3_howManyFours wsX7_note := goodIn_r _ [33, 19, 10, 28, 29, 9, 20, 21, 7, 22, 23, 24, 25, 26, 27, 37, 38, 39, 40, 41] (by decide +kernel) (by decide +kernel)
set_option maxRecDepth 20000 in
theorem gX3_howManyFours_X7_note : GoodIn wsX3_howManyFours (wsV RX3 56 RX7 yX7_note wsX7_note) := goodIn_app (goodIn_of _ (by decide +kernel)) ggX3_howManyFours_X7_note
theorem dX3_howManyFours_0 : decode cX3_howManyFours 0 = .ok (.iconst 0, 1) := by decide +kernel
theorem dX3_howManyFours_1 : decode cX3_howManyFours 1 = .ok (.istore_n 1, 1) := by decide +kernel
theorem dX3_howManyFours_2 : decode cX3_howManyFours 2 = .ok (.aload_n 0, 1) := by decide +kernel
theorem dX3_howManyFours_3 : decode cX3_howManyFours 3 = .ok (.getfield 22, 3) := by decide +kernel
theorem dX3_howManyFours_6 : decode cX3_howManyFours 6 = .ok (.invokevirtual 49, 3) := by decide +kernel
theorem dX3_howManyFours_9 : decode cX3_howManyFours 9 = .ok (.iconst 0, 1) := by decide +kernel
theorem dX3_howManyFours_10 : decode cX3_howManyFours 10 = .ok (.istore_n 2, 1) := by decide +kernel
theorem dX3_howManyFours_11 : decode cX3_howManyFours 11 = .ok (.iload_n 2, 1) := by decide +kernel
theorem dX3_howManyFours_12 : decode cX3_howManyFours 12 = .ok (.aload_n 0, 1) := by decide +kernel
theorem dX3_howManyFours_13 : decode cX3_howManyFours 13 = .ok (.getfield 15, 3) := by decide +kernel
theorem dX3_howManyFours_16 : decode cX3_howManyFours 16 = .ok (.if_icmp .ge 83, 3) := by decide +kernel
theorem dX3_howManyFours_19 : decode cX3_howManyFours 19 = .ok (.iload_n 2, 1) := by decide +kernel
theorem dX3_howManyFours_20 : decode cX3_howManyFours 20 = .ok (.iconst 1, 1) := by decide +kernel
theorem dX3_howManyFours_21 : decode cX3_howManyFours 21 = .ok (.iadd, 1) := by decide +kernel
theorem dX3_howManyFours_22 : decode cX3_howManyFours 22 = .ok (.istore_n 3, 1) := by decide +kernel
theorem dX3_howManyFours_23 : decode cX3_howManyFours 23 = .ok (.iload_n 3, 1) := by decide +kernel
theorem dX3_howManyFours_24 : decode cX3_howManyFours 24 = .ok (.aload_n 0, 1) := by decide +kernel
theorem dX3_howManyFours_25 : decode cX3_howManyFours 25 = .ok (.getfield 15, 3) := by decide +kernel
theorem dX3_howManyFours_28 : decode cX3_howManyFours 28 = .ok (.if_icmp .ge 32, 3) := by decide +kernel
theorem dX3_howManyFours_31 : decode cX3_howManyFours 31 = .ok (.iload_n 1, 1) := by decide +kernel
theorem dX3_howManyFours_32 : decode cX3_howManyFours 32 = .ok (.aload_n 0, 1) := by decide +kernel
theorem dX3_howManyFours_33 : decode cX3_howManyFours 33 = .ok (.getfield 22, 3) := by decide +kernel
theorem dX3_howManyFours_36 : decode cX3_howManyFours 36 = .ok (.aload_n 0, 1) := by decide +kernel
theorem dX3_howManyFours_37 : decode cX3_howManyFours 37 = .ok (.getfield 9, 3) := by decide +kernel
theorem dX3_howManyFours_40 : decode cX3_howManyFours 40 = .ok (.iload_n 2, 1) := by decide +kernel
theorem dX3_howManyFours_41 : decode cX3_howManyFours 41 = .ok (.laload, 1) := by decide +kernel
theorem dX3_howManyFours_42 : decode cX3_howManyFours 42 = .ok (.aload_n 0, 1) := by decide +kernel
theorem dX3_howManyFours_43 : decode cX3_howManyFours 43 = .ok (.getfield 9, 3) := by decide +kernel
theorem dX3_howManyFours_46 : decode cX3_howManyFours 46 = .ok (.iload_n 3, 1) := by decide +kernel
theorem dX3_howManyFours_47 : decode cX3_howManyFours 47 = .ok (.laload, 1) := by decide +kernel
theorem dX3_howManyFours_48 : decode cX3_howManyFours 48 = .ok (.lxor, 1) := by decide +kernel
theorem dX3_howManyFours_49 : decode cX3_howManyFours 49 = .ok (.invokevirtual 52, 3) := by decide +kernel
theorem dX3_howManyFours_52 : decode cX3_howManyFours 52 = .ok (.iadd, 1) := by decide +kernel
theorem dX3_howManyFours_53 : decode cX3_howManyFours 53 = .ok (.istore_n 1, 1) := by decide +kernel
theorem dX3_howManyFours_54 : decode cX3_howManyFours 54 = .ok (.iinc 3 1, 3) := by decide +kernel
theorem dX3_howManyFours_57 : decode cX3_howManyFours 57 = .ok (.goto (-34), 3) := by decide +kernel
theorem dX3_howManyFours_60 : decode cX3_howManyFours 60 = .ok (.iconst 0, 1) := by decide +kernel
theorem dX3_howManyFours_61 : decode cX3_howManyFours 61 = .ok (.istore_n 3, 1) := by decide +kernel
theorem dX3_howManyFours_62 : decode cX3_howManyFours 62 = .ok (.iload_n 3, 1) := by decide +kernel
theorem dX3_howManyFours_63 : decode cX3_howManyFours 63 = .ok (.iload_n 2, 1) := by decide +kernel
theorem dX3_howManyFours_64 : decode cX3_howManyFours 64 = .ok (.if_icmp .ge 29, 3) := by decide +kernel
theorem dX3_howManyFours_67 : decode cX3_howManyFours 67 = .ok (.aload_n 0, 1) := by decide +kernel
theorem dX3_howManyFours_68 : decode cX3_howManyFours 68 = .ok (.getfield 22, 3) := by decide +kernel
theorem dX3_howManyFours_71 : decode cX3_howManyFours 71 = .ok (.aload_n 0, 1) := by decide +kernel
theorem dX3_howManyFours_72 : decode cX3_howManyFours 72 = .ok (.getfield 9, 3) := by decide +kernel
theorem dX3_howManyFours_75 : decode cX3_howManyFours 75 = .ok (.iload_n 3, 1) := by decide +kernel
theorem dX3_howManyFours_76 : decode cX3_howManyFours 76 = .ok (.laload, 1) := by decide +kernel
theorem dX3_howManyFours_77 : decode cX3_howManyFours 77 = .ok (.aload_n 0, 1) := by decide +kernel
theorem dX3_howManyFours_78 : decode cX3_howManyFours 78 = .ok (.getfield 9, 3) := by decide +kernel
theorem dX3_howManyFours_81 : decode cX3_howManyFours 81 = .ok (.iload_n 2, 1) := by decide +kernel
theorem dX3_howManyFours_82 : decode cX3_howManyFours 82 = .ok (.laload, 1) := by decide +kernel
theorem dX3_howManyFours_83 : decode cX3_howManyFours 83 = .ok (.lxor, 1) := by decide +kernel
theorem dX3_howManyFours_84 : decode cX3_howManyFours 84 = .ok (.invokevirtual 56, 3) := by decide +kernel
theorem dX3_howManyFours_87 : decode cX3_howManyFours 87 = .ok (.iinc 3 1, 3) := by decide +kernel
theorem dX3_howManyFours_90 : decode cX3_howManyFours 90 = .ok (.goto (-28), 3) := by decide +kernel
theorem dX3_howManyFours_93 : decode cX3_howManyFours 93 = .ok (.iinc 2 1, 3) := by decide +kernel
theorem dX3_howManyFours_96 : decode cX3_howManyFours 96 = .ok (.goto (-85), 3) := by decide +kernel
theorem dX3_howManyFours_99 : decode cX3_howManyFours 99 = .ok (.iload_n 1, 1) := by decide +kernel
theorem dX3_howManyFours_100 : decode cX3_howManyFours 100 = .ok (.ireturn, 1) := by decide +kernel
set_option maxRecDepth 20000 in
theorem ggX3_findFirst_X3_findFirstBehind : GoodIn wsX3_findFirst wsX3_findFirstBehind := goodIn_r _ [5, 6, 7, 1, 2, 3, 4, 8, 9, 10] (by decide +kernel) (by decide +kernel)
set_option maxRecDepth 20000 in
theorem gX3_findFirst_X3_findFirstBehind : GoodIn wsX3_findFirst (wsV RX3 60 RX3 yX3_findFirstBehind wsX3_findFirstBehind) := goodIn_app (goodIn_of _ (by decide +kernel)) ggX3_findFirst_X3_findFirstBehind
theorem dX3_findFirst_0 : decode cX3_findFirst 0 = .ok (.aload_n 0, 1) := by decide +kernel
theorem dX3_findFirst_1 : decode cX3_findFirst 1 = .ok (.iload_n 1, 1) := by decide +kernel
theorem dX3_findFirst_2 : decode cX3_findFirst 2 = .ok (.aload_n 2, 1) := by decide +kernel
theorem dX3_findFirst_3 : decode cX3_findFirst 3 = .ok (.iconst 0, 1) := by decide +kernel
theorem dX3_findFirst_4 : decode cX3_findFirst 4 = .ok (.iconst 0, 1) := by decide +kernel
theorem dX3_findFirst_5 : decode cX3_findFirst 5 = .ok (.lconst 0, 1) := by decide +kernel
theorem dX3_findFirst_6 : decode cX3_findFirst 6 = .ok (.invokevirtual 60, 3) := by decide +kernel
theorem dX3_findFirst_9 : decode cX3_findFirst 9 = .ok (.pop, 1) := by decide +kernel
theorem dX3_findFirst_10 : decode cX3_findFirst 10 = .ok (.return_, 1) := by decide +kernel
set_option maxRecDepth 20000 in
theorem ggX3_findFirstBehind_X3_findFirstBehind : GoodIn wsX3_findFirstBehind wsX3_findFirstBehind := goodIn_r _ [0, 1, 2, 3, 4, 5, 6, 7, 8, 9] (by decide +kernel) (by decide +kernel)
set_option maxRecDepth 20000 in
theorem gX3_findFirstBehind_X3_findFirstBehind : GoodIn wsX3_findFirstBehind (wsV RX3 60 RX3 yX3_findFirstBehind wsX3_findFirstBehind) := goodIn_app (goodIn_of _ (by decide +kernel)) ggX3_findFirstBehind_X3_findFirstBehind
theorem dX3_findFirstBehind_0 : decode cX3_findFirstBehind 0 = .ok (.iload_n 3, 1) := by decide +kernel
theorem dX3_findFirstBehind_1 : decode cX3_findFirstBehind 1 = .ok (.iload_n 1, 1) := by decide +kernel
theorem dX3_findFirstBehind_2 : decode cX3_findFirstBehind 2 = .ok (.if_icmp .ge 9, 3) := by decide +kernel
theorem dX3_findFirstBehind_5 : decode cX3_findFirstBehind 5 = .ok (.iload_n 3, 1) := by decide +kernel
theorem dX3_findFirstBehind_6 : decode cX3_findFirstBehind 6 = .ok (.aload_n 2, 1) := by decide +kernel
theorem dX3_findFirstBehind_7 : decode cX3_findFirstBehind 7 = .ok (.arraylength, 1) := by decide +kernel
theorem dX3_findFirstBehind_8 : decode cX3_findFirstBehind 8 = .ok (.if_icmp .lt 16, 3) := by decide +kernel
theorem dX3_findFirstBehind_11 : decode cX3_findFirstBehind 11 = .ok (.lload 5, 2) := by decide +kernel
theorem dX3_findFirstBehind_13 : decode cX3_findFirstBehind 13 = .ok (.lconst 0, 1) := by decide +kernel
theorem dX3_findFirstBehind_14 : decode cX3_findFirstBehind 14 = .ok (.lcmp, 1) := by decide +kernel
theorem dX3_findFirstBehind_15 : decode cX3_findFirstBehind 15 = .ok (.ifCond .ne 7, 3) := by decide +kernel
theorem dX3_findFirstBehind_18 : decode cX3_findFirstBehind 18 = .ok (.iconst 1, 1) := by decide +kernel
theorem dX3_findFirstBehind_19 : decode cX3_findFirstBehind 19 = .ok (.goto 4, 3) := by decide +kernel
theorem dX3_findFirstBehind_22 : decode cX3_findFirstBehind 22 = .ok (.iconst 0, 1) := by decide +kernel
theorem dX3_findFirstBehind_23 : decode cX3_findFirstBehind 23 = .ok (.ireturn, 1) := by decide +kernel
theorem dX3_findFirstBehind_24 : decode cX3_findFirstBehind 24 = .ok (.iload 4, 2) := by decide +kernel
theorem dX3_findFirstBehind_26 : decode cX3_findFirstBehind 26 = .ok (.istore 7, 2) := by decide +kernel
theorem dX3_findFirstBehind_28 : decode cX3_findFirstBehind 28 = .ok (.iload 7, 2) := by decide +kernel
theorem dX3_findFirstBehind_30 : decode cX3_findFirstBehind 30 = .ok (.aload_n 0, 1) := by decide +kernel
theorem dX3_findFirstBehind_31 : decode cX3_findFirstBehind 31 = .ok (.getfield 15, 3) := by decide +kernel
theorem dX3_findFirstBehind_34 : decode cX3_findFirstBehind 34 = .ok (.if_icmp .ge 42, 3) := by decide +kernel
theorem dX3_findFirstBehind_37 : decode cX3_findFirstBehind 37 = .ok (.aload_n 2, 1) := by decide +kernel
theorem dX3_findFirstBehind_38 : decode cX3_findFirstBehind 38 = .ok (.iload_n 3, 1) := by decide +kernel
theorem dX3_findFirstBehind_39 : decode cX3_findFirstBehind 39 = .ok (.iload 7, 2) := by decide +kernel
theorem dX3_findFirstBehind_41 : decode cX3_findFirstBehind 41 = .ok (.iastore, 1) := by decide +kernel
theorem dX3_findFirstBehind_42 : decode cX3_findFirstBehind 42 = .ok (.aload_n 0, 1) := by decide +kernel
theorem dX3_findFirstBehind_43 : decode cX3_findFirstBehind 43 = .ok (.iload_n 1, 1) := by decide +kernel
theorem dX3_findFirstBehind_44 : decode cX3_findFirstBehind 44 = .ok (.aload_n 2, 1) := by decide +kernel
theorem dX3_findFirstBehind_45 : decode cX3_findFirstBehind 45 = .ok (.iload_n 3, 1) := by decide +kernel
theorem dX3_findFirstBehind_46 : decode cX3_findFirstBehind 46 = .ok (.iconst 1, 1) := by decide +kernel
theorem dX3_findFirstBehind_47 : decode cX3_findFirstBehind 47 = .ok (.iadd, 1) := by decide +kernel
theorem dX3_findFirstBehind_48 : decode cX3_findFirstBehind 48 = .ok (.iload 7, 2) := by decide +kernel
theorem dX3_findFirstBehind_50 : decode cX3_findFirstBehind 50 = .ok (.iconst 1, 1) := by decide +kernel
theorem dX3_findFirstBehind_51 : decode cX3_findFirstBehind 51 = .ok (.iadd, 1) := by decide +kernel
theorem dX3_findFirstBehind_52 : decode cX3_findFirstBehind 52 = .ok (.lload 5, 2) := by decide +kernel
theorem dX3_findFirstBehind_54 : decode cX3_findFirstBehind 54 = .ok (.aload_n 0, 1) := by decide +kernel
theorem dX3_findFirstBehind_55 : decode cX3_findFirstBehind 55 = .ok (.getfield 9, 3) := by decide +kernel
theorem dX3_findFirstBehind_58 : decode cX3_findFirstBehind 58 = .ok (.iload 7, 2) := by decide +kernel
theorem dX3_findFirstBehind_60 : decode cX3_findFirstBehind 60 = .ok (.laload, 1) := by decide +kernel
theorem dX3_findFirstBehind_61 : decode cX3_findFirstBehind 61 = .ok (.lxor, 1) := by decide +kernel
theorem dX3_findFirstBehind_62 : decode cX3_findFirstBehind 62 = .ok (.invokevirtual 60, 3) := by decide +kernel
theorem dX3_findFirstBehind_65 : decode cX3_findFirstBehind 65 = .ok (.ifCond .eq 5, 3) := by decide +kernel
theorem dX3_findFirstBehind_68 : decode cX3_findFirstBehind 68 = .ok (.iconst 1, 1) := by decide +kernel
theorem dX3_findFirstBehind_69 : decode cX3_findFirstBehind 69 = .ok (.ireturn, 1) := by decide +kernel
theorem dX3_findFirstBehind_70 : decode cX3_findFirstBehind 70 = .ok (.iinc 7 1, 3) := by decide +kernel
theorem dX3_findFirstBehind_73 : decode cX3_findFirstBehind 73 = .ok (.goto (-45), 3) := by decide +kernel
theorem dX3_findFirstBehind_76 : decode cX3_findFirstBehind 76 = .ok (.iconst 0, 1) := by decide +kernel
theorem dX3_findFirstBehind_77 : decode cX3_findFirstBehind 77 = .ok (.ireturn, 1) := by decide +kernel
set_option maxRecDepth 20000 in
theorem ggX3_findBest_X3_load : GoodIn wsX3_findBest wsX3_load := goodIn_r _ [5, 6, 7, 8, 9, 10, 11, 12, 13, 14, 70, 71, 72] (by decide +kernel) (by decide +kernel)
set_option maxRecDepth 20000 in
theorem gX3_findBest_X3_load : GoodIn wsX3_findBest (wsV RX3 64 RX3 yX3_load wsX3_load) := goodIn_app (goodIn_of _ (by decide +kernel)) ggX3_findBest_X3_load
set_option maxRecDepth 20000 in
theorem ggX3_findBest_X3_leastSize : GoodIn wsX3_findBest wsX3_leastSize := goodIn_r _ [18, 19, 20, 21, 4, 22, 23, 24, 25, 26, 6, 7, 27, 28, 29, 30, 31, 32, 33, 34, 35, 36, 37, 38, 39, 40, 41, 42, 43, 44, 45, 46, 47, 48, 49, 50, 51, 52, 53, 54, 55, 56, 57, 58, 59, 60, 61, 62, 63, 64, 65, 66, 67, 68, 69, 70, 71, 72, 73, 74, 75, 76, 77] (by decide +kernel) (by decide +kernel)
set_option maxRecDepth 20000 in
theorem gX3_findBest_X3_leastSize : GoodIn wsX3_findBest (wsV RX3 68 RX3 yX3_leastSize wsX3_leastSize) := goodIn_app (goodIn_of _ (by decide +kernel)) ggX3_findBest_X3_leastSize
set_option maxRecDepth 20000 in
theorem ggX3_findBest_X3_howMany : GoodIn wsX3_findBest wsX3_howMany := goodIn_r _ [22, 23, 24, 25, 4, 26, 6, 7, 27, 28, 29, 30, 31, 32, 33, 34, 35, 36, 37, 38, 39, 40, 41, 42, 43, 44, 45, 46, 47, 48, 49, 50, 51, 52, 53, 54, 55, 56, 57, 58, 59, 60, 61, 62, 63, 64, 65, 66, 67, 68, 69, 70, 71, 72, 73, 74, 75, 76, 77] (by decide +kernel) (by decide +kernel)
set_option maxRecDepth 20000 in
theorem gX3_findBest_X3_howMany : GoodIn wsX3_findBest (wsV RX3 32 RX3 yX3_howMany wsX3_howMany) := goodIn_app (goodIn_of _ (by decide +kernel)) ggX3_findBest_X3_howMany
theorem dX3_findBest_0 : decode cX3_findBest 0 = .ok (.iconst (-1), 1) := by decide +kernel
theorem dX3_findBest_1 : decode cX3_findBest 1 = .ok (.istore_n 3, 1) := by decide +kernel
theorem dX3_findBest_2 : decode cX3_findBest 2 = .ok (.iconst 0, 1) := by decide +kernel
theorem dX3_findBest_3 : decode cX3_findBest 3 = .ok (.istore 4, 2) := by decide +kernel
theorem dX3_findBest_5 : decode cX3_findBest 5 = .ok (.iconst 0, 1) := by decide +kernel
theorem dX3_findBest_6 : decode cX3_findBest 6 = .ok (.istore 5, 2) := by decide +kernel
theorem dX3_findBest_8 : decode cX3_findBest 8 = .ok (.iconst 1, 1) := by decide +kernel
theorem dX3_findBest_9 : decode cX3_findBest 9 = .ok (.istore 6, 2) := by decide +kernel
theorem dX3_findBest_11 : decode cX3_findBest 11 = .ok (.iload 6, 2) := by decide +kernel
theorem dX3_findBest_13 : decode cX3_findBest 13 = .ok (.iconst 1, 1) := by decide +kernel
theorem dX3_findBest_14 : decode cX3_findBest 14 = .ok (.iload_n 1, 1) := by decide +kernel
theorem dX3_findBest_15 : decode cX3_findBest 15 = .ok (.ishl, 1) := by decide +kernel
theorem dX3_findBest_16 : decode cX3_findBest 16 = .ok (.if_icmp .ge 88, 3) := by decide +kernel
theorem dX3_findBest_19 : decode cX3_findBest 19 = .ok (.iload 4, 2) := by decide +kernel
theorem dX3_findBest_21 : decode cX3_findBest 21 = .ok (.iconst 4, 1) := by decide +kernel
theorem dX3_findBest_22 : decode cX3_findBest 22 = .ok (.if_icmp .gt 82, 3) := by decide +kernel
theorem dX3_findBest_25 : decode cX3_findBest 25 = .ok (.aload_n 0, 1) := by decide +kernel
theorem dX3_findBest_26 : decode cX3_findBest 26 = .ok (.iload_n 2, 1) := by decide +kernel
theorem dX3_findBest_27 : decode cX3_findBest 27 = .ok (.iload_n 1, 1) := by decide +kernel
theorem dX3_findBest_28 : decode cX3_findBest 28 = .ok (.iload 6, 2) := by decide +kernel
theorem dX3_findBest_30 : decode cX3_findBest 30 = .ok (.i2l, 1) := by decide +kernel
theorem dX3_findBest_31 : decode cX3_findBest 31 = .ok (.iconst 0, 1) := by decide +kernel
theorem dX3_findBest_32 : decode cX3_findBest 32 = .ok (.invokevirtual 64, 3) := by decide +kernel
theorem dX3_findBest_35 : decode cX3_findBest 35 = .ok (.aload_n 0, 1) := by decide +kernel
theorem dX3_findBest_36 : decode cX3_findBest 36 = .ok (.invokevirtual 68, 3) := by decide +kernel
theorem dX3_findBest_39 : decode cX3_findBest 39 = .ok (.istore 7, 2) := by decide +kernel
theorem dX3_findBest_41 : decode cX3_findBest 41 = .ok (.iload 7, 2) := by decide +kernel
theorem dX3_findBest_43 : decode cX3_findBest 43 = .ok (.iconst 4, 1) := by decide +kernel
theorem dX3_findBest_44 : decode cX3_findBest 44 = .ok (.if_icmp .gt 19, 3) := by decide +kernel
theorem dX3_findBest_47 : decode cX3_findBest 47 = .ok (.iload 7, 2) := by decide +kernel
theorem dX3_findBest_49 : decode cX3_findBest 49 = .ok (.iload 4, 2) := by decide +kernel
theorem dX3_findBest_51 : decode cX3_findBest 51 = .ok (.if_icmp .lt 12, 3) := by decide +kernel
theorem dX3_findBest_54 : decode cX3_findBest 54 = .ok (.aload_n 0, 1) := by decide +kernel
theorem dX3_findBest_55 : decode cX3_findBest 55 = .ok (.iload 7, 2) := by decide +kernel
theorem dX3_findBest_57 : decode cX3_findBest 57 = .ok (.invokevirtual 32, 3) := by decide +kernel
theorem dX3_findBest_60 : decode cX3_findBest 60 = .ok (.goto 4, 3) := by decide +kernel
theorem dX3_findBest_63 : decode cX3_findBest 63 = .ok (.iconst 0, 1) := by decide +kernel
theorem dX3_findBest_64 : decode cX3_findBest 64 = .ok (.istore 8, 2) := by decide +kernel
theorem dX3_findBest_66 : decode cX3_findBest 66 = .ok (.iload 7, 2) := by decide +kernel
theorem dX3_findBest_68 : decode cX3_findBest 68 = .ok (.iload 4, 2) := by decide +kernel
theorem dX3_findBest_70 : decode cX3_findBest 70 = .ok (.if_icmp .gt 17, 3) := by decide +kernel
theorem dX3_findBest_73 : decode cX3_findBest 73 = .ok (.iload 7, 2) := by decide +kernel
theorem dX3_findBest_75 : decode cX3_findBest 75 = .ok (.iload 4, 2) := by decide +kernel
theorem dX3_findBest_77 : decode cX3_findBest 77 = .ok (.if_icmp .ne 21, 3) := by decide +kernel
theorem dX3_findBest_80 : decode cX3_findBest 80 = .ok (.iload 8, 2) := by decide +kernel
theorem dX3_findBest_82 : decode cX3_findBest 82 = .ok (.iload 5, 2) := by decide +kernel
theorem dX3_findBest_84 : decode cX3_findBest 84 = .ok (.if_icmp .ge 14, 3) := by decide +kernel
theorem dX3_findBest_87 : decode cX3_findBest 87 = .ok (.iload 6, 2) := by decide +kernel
theorem dX3_findBest_89 : decode cX3_findBest 89 = .ok (.istore_n 3, 1) := by decide +kernel
theorem dX3_findBest_90 : decode cX3_findBest 90 = .ok (.iload 7, 2) := by decide +kernel
theorem dX3_findBest_92 : decode cX3_findBest 92 = .ok (.istore 4, 2) := by decide +kernel
theorem dX3_findBest_94 : decode cX3_findBest 94 = .ok (.iload 8, 2) := by decide +kernel
theorem dX3_findBest_96 : decode cX3_findBest 96 = .ok (.istore 5, 2) := by decide +kernel
theorem dX3_findBest_98 : decode cX3_findBest 98 = .ok (.iinc 6 2, 3) := by decide +kernel
theorem dX3_findBest_101 : decode cX3_findBest 101 = .ok (.goto (-90), 3) := by decide +kernel
theorem dX3_findBest_104 : decode cX3_findBest 104 = .ok (.iload_n 3, 1) := by decide +kernel
theorem dX3_findBest_105 : decode cX3_findBest 105 = .ok (.ireturn, 1) := by decide +kernel
set_option maxRecDepth 20000 in
theorem ggX3_findReach_X3_load : GoodIn wsX3_findReach wsX3_load := goodIn_r _ [8, 2, 3, 9, 10, 11, 12, 13, 14, 15, 53, 54, 55] (by decide +kernel) (by decide +kernel)
set_option maxRecDepth 20000 in
theorem gX3_findReach_X3_load : GoodIn wsX3_findReach (wsV RX3 64 RX3 yX3_load wsX3_load) := goodIn_app (goodIn_of _ (by decide +kernel)) ggX3_findReach_X3_load
set_option maxRecDepth 20000 in
theorem ggX3_findReach_X7_forget : GoodIn wsX3_findReach wsX7_forget := goodIn_r _ [20, 21, 22, 23, 24, 25, 26, 56, 57, 58, 59, 60] (by decide +kernel) (by decide +kernel)
set_option maxRecDepth 20000 in
theorem gX3_findReach_X7_forget : GoodIn wsX3_findReach (wsV RX3 49 RX7 yX7_forget wsX7_forget) := goodIn_app (goodIn_of _ (by decide +kernel)) ggX3_findReach_X7_forget
set_option maxRecDepth 20000 in
theorem ggX3_findReach_J13_bitCount_95d88 : GoodIn wsX3_findReach wsJ13_bitCount_95d88 := goodIn_r _ [30, 31, 32, 33] (by decide +kernel) (by decide +kernel)
set_option maxRecDepth 20000 in
theorem gX3_findReach_J13_bitCount_95d88 : GoodIn wsX3_findReach (va_wsS RX3 71 yJ13_bitCount_95d88 wsJ13_bitCount_95d88) := goodIn_app (goodIn_of _ (by decide +kernel)) ggX3_findReach_J13_bitCount_95d88
set_option maxRecDepth 20000 in
theorem ggX3_findReach_X7_timesOf : GoodIn wsX3_findReach wsX7_timesOf := goodIn_r _ [37, 38, 39, 40, 19, 41, 42, 43, 44, 45, 46, 21, 22, 47, 48, 56, 57, 58, 59, 60] (by decide +kernel) (by decide +kernel)
set_option maxRecDepth 20000 in
theorem gX3_findReach_X7_timesOf : GoodIn wsX3_findReach (wsV RX3 52 RX7 yX7_timesOf wsX7_timesOf) := goodIn_app (goodIn_of _ (by decide +kernel)) ggX3_findReach_X7_timesOf
set_option maxRecDepth 20000 in
theorem ggX3_findReach_X7_note : GoodIn wsX3_findReach wsX7_note := goodIn_r _ [52, 38, 22, 47, 48, 21, 39, 40, 19, 41, 42, 43, 44, 45, 46, 56, 57, 58, 59, 60] (by decide +kernel) (by decide +kernel)
set_option maxRecDepth 20000 in
theorem gX3_findReach_X7_note : GoodIn wsX3_findReach (wsV RX3 56 RX7 yX7_note wsX7_note) := goodIn_app (goodIn_of _ (by decide +kernel)) ggX3_findReach_X7_note
theorem dX3_findReach_0 : decode cX3_findReach 0 = .ok (.aload_n 0, 1) := by decide +kernel
theorem dX3_findReach_1 : decode cX3_findReach 1 = .ok (.bipush 64, 2) := by decide +kernel
theorem dX3_findReach_3 : decode cX3_findReach 3 = .ok (.iload_n 1, 1) := by decide +kernel
theorem dX3_findReach_4 : decode cX3_findReach 4 = .ok (.lload_n 2, 1) := by decide +kernel
theorem dX3_findReach_5 : decode cX3_findReach 5 = .ok (.iconst 0, 1) := by decide +kernel
theorem dX3_findReach_6 : decode cX3_findReach 6 = .ok (.invokevirtual 64, 3) := by decide +kernel
theorem dX3_findReach_9 : decode cX3_findReach 9 = .ok (.aload_n 0, 1) := by decide +kernel
theorem dX3_findReach_10 : decode cX3_findReach 10 = .ok (.getfield 22, 3) := by decide +kernel
theorem dX3_findReach_13 : decode cX3_findReach 13 = .ok (.invokevirtual 49, 3) := by decide +kernel
theorem dX3_findReach_16 : decode cX3_findReach 16 = .ok (.iconst 0, 1) := by decide +kernel
theorem dX3_findReach_17 : decode cX3_findReach 17 = .ok (.istore 4, 2) := by decide +kernel
theorem dX3_findReach_19 : decode cX3_findReach 19 = .ok (.iload 4, 2) := by decide +kernel
theorem dX3_findReach_21 : decode cX3_findReach 21 = .ok (.aload_n 0, 1) := by decide +kernel
theorem dX3_findReach_22 : decode cX3_findReach 22 = .ok (.getfield 15, 3) := by decide +kernel
theorem dX3_findReach_25 : decode cX3_findReach 25 = .ok (.if_icmp .ge 61, 3) := by decide +kernel
theorem dX3_findReach_28 : decode cX3_findReach 28 = .ok (.aload_n 0, 1) := by decide +kernel
theorem dX3_findReach_29 : decode cX3_findReach 29 = .ok (.getfield 9, 3) := by decide +kernel
theorem dX3_findReach_32 : decode cX3_findReach 32 = .ok (.aload_n 0, 1) := by decide +kernel
theorem dX3_findReach_33 : decode cX3_findReach 33 = .ok (.getfield 15, 3) := by decide +kernel
theorem dX3_findReach_36 : decode cX3_findReach 36 = .ok (.iconst 1, 1) := by decide +kernel
theorem dX3_findReach_37 : decode cX3_findReach 37 = .ok (.isub, 1) := by decide +kernel
theorem dX3_findReach_38 : decode cX3_findReach 38 = .ok (.iload 4, 2) := by decide +kernel
theorem dX3_findReach_40 : decode cX3_findReach 40 = .ok (.isub, 1) := by decide +kernel
theorem dX3_findReach_41 : decode cX3_findReach 41 = .ok (.laload, 1) := by decide +kernel
theorem dX3_findReach_42 : decode cX3_findReach 42 = .ok (.lstore 5, 2) := by decide +kernel
theorem dX3_findReach_44 : decode cX3_findReach 44 = .ok (.lload 5, 2) := by decide +kernel
theorem dX3_findReach_46 : decode cX3_findReach 46 = .ok (.invokestatic 71, 3) := by decide +kernel
theorem dX3_findReach_49 : decode cX3_findReach 49 = .ok (.iconst 2, 1) := by decide +kernel
theorem dX3_findReach_50 : decode cX3_findReach 50 = .ok (.if_icmp .lt 15, 3) := by decide +kernel
theorem dX3_findReach_53 : decode cX3_findReach 53 = .ok (.aload_n 0, 1) := by decide +kernel
theorem dX3_findReach_54 : decode cX3_findReach 54 = .ok (.getfield 22, 3) := by decide +kernel
theorem dX3_findReach_57 : decode cX3_findReach 57 = .ok (.lload 5, 2) := by decide +kernel
theorem dX3_findReach_59 : decode cX3_findReach 59 = .ok (.invokevirtual 52, 3) := by decide +kernel
theorem dX3_findReach_62 : decode cX3_findReach 62 = .ok (.ifCond .le 9, 3) := by decide +kernel
theorem dX3_findReach_65 : decode cX3_findReach 65 = .ok (.iload 4, 2) := by decide +kernel
theorem dX3_findReach_67 : decode cX3_findReach 67 = .ok (.bipush 8, 2) := by decide +kernel
theorem dX3_findReach_69 : decode cX3_findReach 69 = .ok (.idiv, 1) := by decide +kernel
theorem dX3_findReach_70 : decode cX3_findReach 70 = .ok (.ireturn, 1) := by decide +kernel
theorem dX3_findReach_71 : decode cX3_findReach 71 = .ok (.aload_n 0, 1) := by decide +kernel
theorem dX3_findReach_72 : decode cX3_findReach 72 = .ok (.getfield 22, 3) := by decide +kernel
theorem dX3_findReach_75 : decode cX3_findReach 75 = .ok (.lload 5, 2) := by decide +kernel
theorem dX3_findReach_77 : decode cX3_findReach 77 = .ok (.invokevirtual 56, 3) := by decide +kernel
theorem dX3_findReach_80 : decode cX3_findReach 80 = .ok (.iinc 4 1, 3) := by decide +kernel
theorem dX3_findReach_83 : decode cX3_findReach 83 = .ok (.goto (-64), 3) := by decide +kernel
theorem dX3_findReach_86 : decode cX3_findReach 86 = .ok (.bipush 64, 2) := by decide +kernel
theorem dX3_findReach_88 : decode cX3_findReach 88 = .ok (.ireturn, 1) := by decide +kernel
theorem dX4_init_0 : decode cX4_init 0 = .ok (.aload_n 0, 1) := by decide +kernel
theorem dX4_init_1 : decode cX4_init 1 = .ok (.invokespecial 3, 3) := by decide +kernel
theorem dX4_init_4 : decode cX4_init 4 = .ok (.aload_n 0, 1) := by decide +kernel
theorem dX4_init_5 : decode cX4_init 5 = .ok (.bipush 64, 2) := by decide +kernel
theorem dX4_init_7 : decode cX4_init 7 = .ok (.newarray .long, 2) := by decide +kernel
theorem dX4_init_9 : decode cX4_init 9 = .ok (.putfield 9, 3) := by decide +kernel
theorem dX4_init_12 : decode cX4_init 12 = .ok (.aload_n 0, 1) := by decide +kernel
theorem dX4_init_13 : decode cX4_init 13 = .ok (.bipush 64, 2) := by decide +kernel
theorem dX4_init_15 : decode cX4_init 15 = .ok (.newarray .long, 2) := by decide +kernel
theorem dX4_init_17 : decode cX4_init 17 = .ok (.putfield 15, 3) := by decide +kernel
theorem dX4_init_20 : decode cX4_init 20 = .ok (.aload_n 0, 1) := by decide +kernel
theorem dX4_init_21 : decode cX4_init 21 = .ok (.bipush 8, 2) := by decide +kernel
theorem dX4_init_23 : decode cX4_init 23 = .ok (.newarray .int, 2) := by decide +kernel
theorem dX4_init_25 : decode cX4_init 25 = .ok (.putfield 18, 3) := by decide +kernel
theorem dX4_init_28 : decode cX4_init 28 = .ok (.aload_n 0, 1) := by decide +kernel
theorem dX4_init_29 : decode cX4_init 29 = .ok (.bipush 64, 2) := by decide +kernel
theorem dX4_init_31 : decode cX4_init 31 = .ok (.newarray .long, 2) := by decide +kernel
theorem dX4_init_33 : decode cX4_init 33 = .ok (.putfield 22, 3) := by decide +kernel
theorem dX4_init_36 : decode cX4_init 36 = .ok (.aload_n 0, 1) := by decide +kernel
theorem dX4_init_37 : decode cX4_init 37 = .ok (.bipush 8, 2) := by decide +kernel
theorem dX4_init_39 : decode cX4_init 39 = .ok (.newarray .int, 2) := by decide +kernel
theorem dX4_init_41 : decode cX4_init 41 = .ok (.putfield 25, 3) := by decide +kernel
theorem dX4_init_44 : decode cX4_init 44 = .ok (.aload_n 0, 1) := by decide +kernel
theorem dX4_init_45 : decode cX4_init 45 = .ok (.bipush 8, 2) := by decide +kernel
theorem dX4_init_47 : decode cX4_init 47 = .ok (.newarray .int, 2) := by decide +kernel
theorem dX4_init_49 : decode cX4_init 49 = .ok (.putfield 28, 3) := by decide +kernel
theorem dX4_init_52 : decode cX4_init 52 = .ok (.aload_n 0, 1) := by decide +kernel
theorem dX4_init_53 : decode cX4_init 53 = .ok (.iconst 0, 1) := by decide +kernel
theorem dX4_init_54 : decode cX4_init 54 = .ok (.putfield 31, 3) := by decide +kernel
theorem dX4_init_57 : decode cX4_init 57 = .ok (.return_, 1) := by decide +kernel
set_option maxRecDepth 20000 in
theorem ggX4_findFirst_X4_fillBitChanges : GoodIn wsX4_findFirst wsX4_fillBitChanges := goodIn_r _ [5, 6, 7, 8, 9, 10, 11, 12, 13, 14, 15, 16, 17, 18, 19, 20, 21, 22, 23, 24, 25, 26, 27, 28, 29, 30, 31, 32, 33, 34, 35, 36, 37, 38, 39, 40, 41, 42, 43, 44, 45, 46, 47, 48, 49, 50, 51, 52, 53, 54, 55, 56, 57, 58, 59, 60, 61, 62, 63, 64, 65, 66, 67, 68, 160, 161, 162, 163, 164, 165, 166, 167, 168, 169, 170, 171, 172, 173, 174, 175, 176, 177, 178, 179, 180] (by decide +kernel) (by decide +kernel)
set_option maxRecDepth 20000 in
theorem gX4_findFirst_X4_fillBitChanges : GoodIn wsX4_findFirst (wsV RX4 35 RX4 yX4_fillBitChanges wsX4_fillBitChanges) := goodIn_app (goodIn_of _ (by decide +kernel)) ggX4_findFirst_X4_fillBitChanges
set_option maxRecDepth 20000 in
theorem ggX4_findFirst_X4_findFlip : GoodIn wsX4_findFirst wsX4_findFlip := goodIn_r _ [72, 73, 74, 75, 76, 4, 77, 78, 79, 80, 81, 82, 6, 7, 83, 84, 85, 86, 87, 17, 88, 89, 90, 91, 37, 92, 93, 94, 95, 96, 97, 98, 99, 100, 101, 102, 103, 104, 105, 106, 47, 107, 49, 108, 109, 110, 111, 112, 113, 114, 54, 55, 56, 57, 115, 116, 60, 117, 62, 118, 119, 120, 121, 122, 123, 124, 125, 126, 127, 128, 129, 130, 131, 132, 133, 134, 135, 136, 8, 9, 10, 11, 12, 69, 70, 71, 160, 161, 162, 163, 164, 165, 166, 176, 177, 178, 179, 180] (by decide +kernel) (by decide +kernel)
set_option maxRecDepth 20000 in
theorem gX4_findFirst_X4_findFlip : GoodIn wsX4_findFirst (wsV RX4 39 RX4 yX4_findFlip wsX4_findFlip) := goodIn_app (goodIn_of _ (by decide +kernel)) ggX4_findFirst_X4_findFlip
set_option maxRecDepth 20000 in
theorem ggX4_findFirst_X4_findBurst : GoodIn wsX4_findFirst wsX4_findBurst := goodIn_r _ [140, 73, 141, 142, 143, 4, 144, 78, 79, 80, 81, 82, 6, 7, 83, 84, 85, 86, 87, 17, 88, 89, 90, 91, 37, 92, 93, 94, 95, 96, 97, 98, 99, 100, 101, 102, 103, 104, 105, 106, 47, 107, 49, 108, 109, 110, 111, 112, 113, 114, 54, 55, 56, 57, 115, 116, 60, 117, 62, 118, 119, 120, 121, 122, 123, 124, 125, 126, 127, 128, 129, 130, 131, 132, 133, 134, 135, 136, 8, 9, 10, 11, 12, 160, 161, 162, 163, 164, 165, 166, 176, 177, 178, 179, 180] (by decide +kernel) (by decide +kernel)
set_option maxRecDepth 20000 in
theorem gX4_findFirst_X4_findBurst : GoodIn wsX4_findFirst (wsV RX4 43 RX4 yX4_findBurst wsX4_findBurst) := goodIn_app (goodIn_of _ (by decide +kernel)) ggX4_findFirst_X4_findBurst
set_option maxRecDepth 20000 in
theorem ggX4_findFirst_X4_findByteSlip : GoodIn wsX4_findFirst wsX4_findByteSlip := goodIn_r _ [148, 149, 150, 151, 4, 152, 6, 7, 153, 154, 155, 97, 98, 99, 100, 17, 101, 102, 103, 37, 104, 105, 106, 47, 107, 49, 108, 109, 110, 111, 112, 113, 114, 54, 55, 56, 57, 115, 116, 60, 117, 62, 156, 157, 158, 159, 127, 126, 128, 129, 130, 131, 132, 133, 134, 135, 136, 160, 161, 162, 163, 164, 165, 166, 176, 177, 178, 179, 180] (by decide +kernel) (by decide +kernel)
set_option maxRecDepth 20000 in
theorem gX4_findFirst_X4_findByteSlip : GoodIn wsX4_findFirst (wsV RX4 47 RX4 yX4_findByteSlip wsX4_findByteSlip) := goodIn_app (goodIn_of _ (by decide +kernel)) ggX4_findFirst_X4_findByteSlip
theorem dX4_findFirst_0 : decode cX4_findFirst 0 = .ok (.aload_n 0, 1) := by decide +kernel
theorem dX4_findFirst_1 : decode cX4_findFirst 1 = .ok (.aload_n 1, 1) := by decide +kernel
theorem dX4_findFirst_2 : decode cX4_findFirst 2 = .ok (.iload 4, 2) := by decide +kernel
theorem dX4_findFirst_4 : decode cX4_findFirst 4 = .ok (.invokevirtual 35, 3) := by decide +kernel
theorem dX4_findFirst_7 : decode cX4_findFirst 7 = .ok (.iload_n 2, 1) := by decide +kernel
theorem dX4_findFirst_8 : decode cX4_findFirst 8 = .ok (.ifCond .ne 14, 3) := by decide +kernel
theorem dX4_findFirst_11 : decode cX4_findFirst 11 = .ok (.aload_n 0, 1) := by decide +kernel
theorem dX4_findFirst_12 : decode cX4_findFirst 12 = .ok (.aload_n 1, 1) := by decide +kernel
theorem dX4_findFirst_13 : decode cX4_findFirst 13 = .ok (.iload_n 3, 1) := by decide +kernel
theorem dX4_findFirst_14 : decode cX4_findFirst 14 = .ok (.iload 4, 2) := by decide +kernel
theorem dX4_findFirst_16 : decode cX4_findFirst 16 = .ok (.iconst 0, 1) := by decide +kernel
theorem dX4_findFirst_17 : decode cX4_findFirst 17 = .ok (.iconst 0, 1) := by decide +kernel
theorem dX4_findFirst_18 : decode cX4_findFirst 18 = .ok (.invokevirtual 39, 3) := by decide +kernel
theorem dX4_findFirst_21 : decode cX4_findFirst 21 = .ok (.ireturn, 1) := by decide +kernel
theorem dX4_findFirst_22 : decode cX4_findFirst 22 = .ok (.iload_n 2, 1) := by decide +kernel
theorem dX4_findFirst_23 : decode cX4_findFirst 23 = .ok (.iconst 1, 1) := by decide +kernel
theorem dX4_findFirst_24 : decode cX4_findFirst 24 = .ok (.if_icmp .ne 14, 3) := by decide +kernel
theorem dX4_findFirst_27 : decode cX4_findFirst 27 = .ok (.aload_n 0, 1) := by decide +kernel
theorem dX4_findFirst_28 : decode cX4_findFirst 28 = .ok (.aload_n 1, 1) := by decide +kernel
theorem dX4_findFirst_29 : decode cX4_findFirst 29 = .ok (.iload_n 3, 1) := by decide +kernel
theorem dX4_findFirst_30 : decode cX4_findFirst 30 = .ok (.iload 4, 2) := by decide +kernel
theorem dX4_findFirst_32 : decode cX4_findFirst 32 = .ok (.invokevirtual 43, 3) := by decide +kernel
theorem dX4_findFirst_35 : decode cX4_findFirst 35 = .ok (.goto 11, 3) := by decide +kernel
theorem dX4_findFirst_38 : decode cX4_findFirst 38 = .ok (.aload_n 0, 1) := by decide +kernel
theorem dX4_findFirst_39 : decode cX4_findFirst 39 = .ok (.aload_n 1, 1) := by decide +kernel
theorem dX4_findFirst_40 : decode cX4_findFirst 40 = .ok (.iload_n 2, 1) := by decide +kernel
theorem dX4_findFirst_41 : decode cX4_findFirst 41 = .ok (.iload 4, 2) := by decide +kernel
theorem dX4_findFirst_43 : decode cX4_findFirst 43 = .ok (.invokevirtual 47, 3) := by decide +kernel
theorem dX4_findFirst_46 : decode cX4_findFirst 46 = .ok (.ireturn, 1) := by decide +kernel
set_option maxRecDepth 20000 in
theorem ggX4_fillBitChanges_X11_byteOfPlace : GoodIn wsX4_fillBitChanges wsX11_byteOfPlace := goodIn_r _ [5] (by decide +kernel) (by decide +kernel)
set_option maxRecDepth 20000 in
theorem gX4_fillBitChanges_X11_byteOfPlace_n50 : GoodIn wsX4_fillBitChanges (wsX11_byteOfPlace) := ggX4_fillBitChanges_X11_byteOfPlace
set_option maxRecDepth 20000 in
theorem ggX4_fillBitChanges_X11_bitOfPlace : GoodIn wsX4_fillBitChanges wsX11_bitOfPlace := goodIn_r _ [7] (by decide +kernel) (by decide +kernel)
set_option maxRecDepth 20000 in
theorem gX4_fillBitChanges_X11_bitOfPlace_n54 : GoodIn wsX4_fillBitChanges (wsX11_bitOfPlace) := ggX4_fillBitChanges_X11_bitOfPlace
set_option maxRecDepth 20000 in
theorem ggX4_fillBitChanges_X1_changed : GoodIn wsX4_fillBitChanges wsX1_changed := goodIn_r _ [13, 14, 15, 16, 12, 17, 18, 19, 20, 21, 22, 23, 24, 4, 25, 26, 27, 28, 29, 71, 72, 73, 74, 75, 76] (by decide +kernel) (by decide +kernel)
set_option maxRecDepth 20000 in
theorem gX4_fillBitChanges_X1_changed_u57X1 : GoodIn wsX4_fillBitChanges (va_wsU RX4 57 RX1 "SumSmith$Linear" ⟨"SumSmith$Linear", "changed", "(IIII)J"⟩ yX1_changed wsX1_changed) := goodIn_app (goodIn_of _ (by decide +kernel)) ggX4_fillBitChanges_X1_changed
set_option maxRecDepth 20000 in
theorem ggX4_fillBitChanges_X8_changed : GoodIn wsX4_fillBitChanges wsX8_changed := goodIn_r _ [33, 34, 35, 36, 32, 37, 38, 39, 24, 4, 25, 77, 78, 79] (by decide +kernel) (by decide +kernel)
set_option maxRecDepth 20000 in
theorem gX4_fillBitChanges_X8_changed_u57X8 : GoodIn wsX4_fillBitChanges (va_wsU RX4 57 RX8 "SumSmith$Linear" ⟨"SumSmith$Linear", "changed", "(IIII)J"⟩ yX8_changed wsX8_changed) := goodIn_app (goodIn_of _ (by decide +kernel)) ggX4_fillBitChanges_X8_changed
set_option maxRecDepth 20000 in
theorem ggX4_fillBitChanges_X9_changed : GoodIn wsX4_fillBitChanges wsX9_changed := goodIn_r _ [43, 44, 45, 46, 47, 48, 49, 50, 42, 51, 52, 80, 81] (by decide +kernel) (by decide +kernel)
set_option maxRecDepth 20000 in
theorem gX4_fillBitChanges_X9_changed_u57X9 : GoodIn wsX4_fillBitChanges (va_wsU RX4 57 RX9 "SumSmith$Linear" ⟨"SumSmith$Linear", "changed", "(IIII)J"⟩ yX9_changed wsX9_changed) := goodIn_app (goodIn_of _ (by decide +kernel)) ggX4_fillBitChanges_X9_changed
set_option maxRecDepth 20000 in
theorem ggX4_fillBitChanges_X10_changed : GoodIn wsX4_fillBitChanges wsX10_changed := goodIn_r _ [56, 57, 58, 59, 60, 55, 61, 62, 63, 46, 47, 48, 82, 83, 84] (by decide +kernel) (by decide +kernel)
set_option maxRecDepth 20000 in
theorem gX4_fillBitChanges_X10_changed_u57X10 : GoodIn wsX4_fillBitChanges (va_wsU RX4 57 RX10 "SumSmith$Linear" ⟨"SumSmith$Linear", "changed", "(IIII)J"⟩ yX10_changed wsX10_changed) := goodIn_app (goodIn_of _ (by decide +kernel)) ggX4_fillBitChanges_X10_changed
theorem dX4_fillBitChanges_0 : decode cX4_fillBitChanges 0 = .ok (.iconst 0, 1) := by decide +kernel
theorem dX4_fillBitChanges_1 : decode cX4_fillBitChanges 1 = .ok (.istore_n 3, 1) := by decide +kernel
theorem dX4_fillBitChanges_2 : decode cX4_fillBitChanges 2 = .ok (.iload_n 3, 1) := by decide +kernel
theorem dX4_fillBitChanges_3 : decode cX4_fillBitChanges 3 = .ok (.bipush 8, 2) := by decide +kernel
theorem dX4_fillBitChanges_5 : decode cX4_fillBitChanges 5 = .ok (.iload_n 2, 1) := by decide +kernel
theorem dX4_fillBitChanges_6 : decode cX4_fillBitChanges 6 = .ok (.imul, 1) := by decide +kernel
theorem dX4_fillBitChanges_7 : decode cX4_fillBitChanges 7 = .ok (.if_icmp .ge 53, 3) := by decide +kernel
theorem dX4_fillBitChanges_10 : decode cX4_fillBitChanges 10 = .ok (.iload_n 3, 1) := by decide +kernel
theorem dX4_fillBitChanges_11 : decode cX4_fillBitChanges 11 = .ok (.invokestatic 50, 3) := by decide +kernel
theorem dX4_fillBitChanges_14 : decode cX4_fillBitChanges 14 = .ok (.istore 4, 2) := by decide +kernel
theorem dX4_fillBitChanges_16 : decode cX4_fillBitChanges 16 = .ok (.iload_n 3, 1) := by decide +kernel
theorem dX4_fillBitChanges_17 : decode cX4_fillBitChanges 17 = .ok (.invokestatic 54, 3) := by decide +kernel
theorem dX4_fillBitChanges_20 : decode cX4_fillBitChanges 20 = .ok (.istore 5, 2) := by decide +kernel
theorem dX4_fillBitChanges_22 : decode cX4_fillBitChanges 22 = .ok (.aload_n 0, 1) := by decide +kernel
theorem dX4_fillBitChanges_23 : decode cX4_fillBitChanges 23 = .ok (.getfield 9, 3) := by decide +kernel
theorem dX4_fillBitChanges_26 : decode cX4_fillBitChanges 26 = .ok (.iload_n 3, 1) := by decide +kernel
theorem dX4_fillBitChanges_27 : decode cX4_fillBitChanges 27 = .ok (.aload_n 1, 1) := by decide +kernel
theorem dX4_fillBitChanges_28 : decode cX4_fillBitChanges 28 = .ok (.iload_n 2, 1) := by decide +kernel
theorem dX4_fillBitChanges_29 : decode cX4_fillBitChanges 29 = .ok (.iload 4, 2) := by decide +kernel
theorem dX4_fillBitChanges_31 : decode cX4_fillBitChanges 31 = .ok (.iconst 0, 1) := by decide +kernel
theorem dX4_fillBitChanges_32 : decode cX4_fillBitChanges 32 = .ok (.iload 5, 2) := by decide +kernel
theorem dX4_fillBitChanges_34 : decode cX4_fillBitChanges 34 = .ok (.invokevirtual 57, 3) := by decide +kernel
theorem dX4_fillBitChanges_37 : decode cX4_fillBitChanges 37 = .ok (.lastore, 1) := by decide +kernel
theorem dX4_fillBitChanges_38 : decode cX4_fillBitChanges 38 = .ok (.aload_n 0, 1) := by decide +kernel
theorem dX4_fillBitChanges_39 : decode cX4_fillBitChanges 39 = .ok (.getfield 15, 3) := by decide +kernel
theorem dX4_fillBitChanges_42 : decode cX4_fillBitChanges 42 = .ok (.iload_n 3, 1) := by decide +kernel
theorem dX4_fillBitChanges_43 : decode cX4_fillBitChanges 43 = .ok (.aload_n 1, 1) := by decide +kernel
theorem dX4_fillBitChanges_44 : decode cX4_fillBitChanges 44 = .ok (.iload_n 2, 1) := by decide +kernel
theorem dX4_fillBitChanges_45 : decode cX4_fillBitChanges 45 = .ok (.iload 4, 2) := by decide +kernel
theorem dX4_fillBitChanges_47 : decode cX4_fillBitChanges 47 = .ok (.iload 5, 2) := by decide +kernel
theorem dX4_fillBitChanges_49 : decode cX4_fillBitChanges 49 = .ok (.iconst 0, 1) := by decide +kernel
theorem dX4_fillBitChanges_50 : decode cX4_fillBitChanges 50 = .ok (.invokevirtual 57, 3) := by decide +kernel
theorem dX4_fillBitChanges_53 : decode cX4_fillBitChanges 53 = .ok (.lastore, 1) := by decide +kernel
theorem dX4_fillBitChanges_54 : decode cX4_fillBitChanges 54 = .ok (.iinc 3 1, 3) := by decide +kernel
theorem dX4_fillBitChanges_57 : decode cX4_fillBitChanges 57 = .ok (.goto (-55), 3) := by decide +kernel
theorem dX4_fillBitChanges_60 : decode cX4_fillBitChanges 60 = .ok (.return_, 1) := by decide +kernel
set_option maxRecDepth 20000 in
theorem ggX4_findFlip_X4_findLastFlip : GoodIn wsX4_findFlip wsX4_findLastFlip := goodIn_r _ [6, 1, 7, 8, 9, 5, 10, 11, 12, 13, 14, 15, 16, 17, 18, 19, 20, 21, 22, 23, 24, 25, 26, 27, 28, 29, 30, 31, 32, 33, 34, 35, 36, 37, 38, 39, 40, 41, 42, 43, 44, 45, 46, 47, 48, 49, 50, 51, 52, 53, 54, 55, 56, 57, 58, 59, 60, 61, 62, 63, 64, 65, 66, 67, 68, 69, 70, 71, 72, 73, 74, 75, 76, 77, 78, 79, 80, 81, 82, 86, 87, 88, 89, 90, 91, 92, 93, 94, 95, 96, 97] (by decide +kernel) (by decide +kernel)
set_option maxRecDepth 20000 in
theorem gX4_findFlip_X4_findLastFlip : GoodIn wsX4_findFlip (wsV RX4 63 RX4 yX4_findLastFlip wsX4_findLastFlip) := goodIn_app (goodIn_of _ (by decide +kernel)) ggX4_findFlip_X4_findLastFlip
set_option maxRecDepth 20000 in
theorem ggX4_findFlip_X4_findFlip : GoodIn wsX4_findFlip wsX4_findFlip := goodIn_r _ [0, 1, 2, 3, 4, 5, 6, 7, 8, 9, 10, 11, 12, 13, 14, 15, 16, 17, 18, 19, 20, 21, 22, 23, 24, 25, 26, 27, 28, 29, 30, 31, 32, 33, 34, 35, 36, 37, 38, 39, 40, 41, 42, 43, 44, 45, 46, 47, 48, 49, 50, 51, 52, 53, 54, 55, 56, 57, 58, 59, 60, 61, 62, 63, 64, 65, 66, 67, 68, 69, 70, 71, 72, 73, 74, 75, 76, 77, 78, 79, 80, 81, 82, 83, 84, 85, 86, 87, 88, 89, 90, 91, 92, 93, 94, 95, 96, 97] (by decide +kernel) (by decide +kernel)
set_option maxRecDepth 20000 in
theorem gX4_findFlip_X4_findFlip : GoodIn wsX4_findFlip (wsV RX4 39 RX4 yX4_findFlip wsX4_findFlip) := goodIn_app (goodIn_of _ (by decide +kernel)) ggX4_findFlip_X4_findFlip
theorem dX4_findFlip_0 : decode cX4_findFlip 0 = .ok (.iload 4, 2) := by decide +kernel
theorem dX4_findFlip_2 : decode cX4_findFlip 2 = .ok (.iload_n 2, 1) := by decide +kernel
theorem dX4_findFlip_3 : decode cX4_findFlip 3 = .ok (.iconst 1, 1) := by decide +kernel
theorem dX4_findFlip_4 : decode cX4_findFlip 4 = .ok (.isub, 1) := by decide +kernel
theorem dX4_findFlip_5 : decode cX4_findFlip 5 = .ok (.if_icmp .lt 13, 3) := by decide +kernel
theorem dX4_findFlip_8 : decode cX4_findFlip 8 = .ok (.aload_n 0, 1) := by decide +kernel
theorem dX4_findFlip_9 : decode cX4_findFlip 9 = .ok (.aload_n 1, 1) := by decide +kernel
theorem dX4_findFlip_10 : decode cX4_findFlip 10 = .ok (.iload_n 2, 1) := by decide +kernel
theorem dX4_findFlip_11 : decode cX4_findFlip 11 = .ok (.iload_n 3, 1) := by decide +kernel
theorem dX4_findFlip_12 : decode cX4_findFlip 12 = .ok (.iload 5, 2) := by decide +kernel
theorem dX4_findFlip_14 : decode cX4_findFlip 14 = .ok (.invokevirtual 63, 3) := by decide +kernel
theorem dX4_findFlip_17 : decode cX4_findFlip 17 = .ok (.ireturn, 1) := by decide +kernel
theorem dX4_findFlip_18 : decode cX4_findFlip 18 = .ok (.iload 5, 2) := by decide +kernel
theorem dX4_findFlip_20 : decode cX4_findFlip 20 = .ok (.istore 6, 2) := by decide +kernel
theorem dX4_findFlip_22 : decode cX4_findFlip 22 = .ok (.iload 6, 2) := by decide +kernel
theorem dX4_findFlip_24 : decode cX4_findFlip 24 = .ok (.bipush 8, 2) := by decide +kernel
theorem dX4_findFlip_26 : decode cX4_findFlip 26 = .ok (.iload_n 3, 1) := by decide +kernel
theorem dX4_findFlip_27 : decode cX4_findFlip 27 = .ok (.imul, 1) := by decide +kernel
theorem dX4_findFlip_28 : decode cX4_findFlip 28 = .ok (.if_icmp .ge 38, 3) := by decide +kernel
theorem dX4_findFlip_31 : decode cX4_findFlip 31 = .ok (.aload_n 0, 1) := by decide +kernel
theorem dX4_findFlip_32 : decode cX4_findFlip 32 = .ok (.getfield 18, 3) := by decide +kernel
theorem dX4_findFlip_35 : decode cX4_findFlip 35 = .ok (.iload 4, 2) := by decide +kernel
theorem dX4_findFlip_37 : decode cX4_findFlip 37 = .ok (.iload 6, 2) := by decide +kernel
theorem dX4_findFlip_39 : decode cX4_findFlip 39 = .ok (.iastore, 1) := by decide +kernel
theorem dX4_findFlip_40 : decode cX4_findFlip 40 = .ok (.aload_n 0, 1) := by decide +kernel
theorem dX4_findFlip_41 : decode cX4_findFlip 41 = .ok (.aload_n 1, 1) := by decide +kernel
theorem dX4_findFlip_42 : decode cX4_findFlip 42 = .ok (.iload_n 2, 1) := by decide +kernel
theorem dX4_findFlip_43 : decode cX4_findFlip 43 = .ok (.iload_n 3, 1) := by decide +kernel
theorem dX4_findFlip_44 : decode cX4_findFlip 44 = .ok (.iload 4, 2) := by decide +kernel
theorem dX4_findFlip_46 : decode cX4_findFlip 46 = .ok (.iconst 1, 1) := by decide +kernel
theorem dX4_findFlip_47 : decode cX4_findFlip 47 = .ok (.iadd, 1) := by decide +kernel
theorem dX4_findFlip_48 : decode cX4_findFlip 48 = .ok (.iload 6, 2) := by decide +kernel
theorem dX4_findFlip_50 : decode cX4_findFlip 50 = .ok (.iconst 1, 1) := by decide +kernel
theorem dX4_findFlip_51 : decode cX4_findFlip 51 = .ok (.iadd, 1) := by decide +kernel
theorem dX4_findFlip_52 : decode cX4_findFlip 52 = .ok (.invokevirtual 39, 3) := by decide +kernel
theorem dX4_findFlip_55 : decode cX4_findFlip 55 = .ok (.ifCond .eq 5, 3) := by decide +kernel
theorem dX4_findFlip_58 : decode cX4_findFlip 58 = .ok (.iconst 1, 1) := by decide +kernel
theorem dX4_findFlip_59 : decode cX4_findFlip 59 = .ok (.ireturn, 1) := by decide +kernel
theorem dX4_findFlip_60 : decode cX4_findFlip 60 = .ok (.iinc 6 1, 3) := by decide +kernel
theorem dX4_findFlip_63 : decode cX4_findFlip 63 = .ok (.goto (-41), 3) := by decide +kernel
theorem dX4_findFlip_66 : decode cX4_findFlip 66 = .ok (.iconst 0, 1) := by decide +kernel
theorem dX4_findFlip_67 : decode cX4_findFlip 67 = .ok (.ireturn, 1) := by decide +kernel
set_option maxRecDepth 20000 in
theorem ggX4_findLastFlip_X4_fillTotals : GoodIn wsX4_findLastFlip wsX4_fillTotals := goodIn_r _ [6, 7, 1, 8, 9, 10, 11, 12, 13, 14, 15, 16, 17, 18, 19, 20, 21, 22, 23, 24, 25, 26, 27, 28, 29, 30, 31, 32, 33, 34, 35, 36, 37, 38, 39, 40, 41, 42, 43, 44, 45, 46, 47, 48, 49, 50, 51, 52, 53, 54, 79, 80, 81, 82, 83, 84, 85, 86, 87, 88, 89, 90] (by decide +kernel) (by decide +kernel)
set_option maxRecDepth 20000 in
theorem gX4_findLastFlip_X4_fillTotals : GoodIn wsX4_findLastFlip (wsV RX4 67 RX4 yX4_fillTotals wsX4_fillTotals) := goodIn_app (goodIn_of _ (by decide +kernel)) ggX4_findLastFlip_X4_fillTotals
set_option maxRecDepth 20000 in
theorem ggX4_findLastFlip_X4_bitsThatPass : GoodIn wsX4_findLastFlip wsX4_bitsThatPass := goodIn_r _ [58, 8, 9, 7, 79, 80, 81, 82, 83, 84, 85] (by decide +kernel) (by decide +kernel)
set_option maxRecDepth 20000 in
theorem gX4_findLastFlip_X4_bitsThatPass : GoodIn wsX4_findLastFlip (wsV RX4 71 RX4 yX4_bitsThatPass wsX4_bitsThatPass) := goodIn_app (goodIn_of _ (by decide +kernel)) ggX4_findLastFlip_X4_bitsThatPass
set_option maxRecDepth 20000 in
theorem ggX4_findLastFlip_X4_keepTurned : GoodIn wsX4_findLastFlip wsX4_keepTurned := goodIn_r _ [62, 1, 63, 64, 65, 66, 67, 5, 68, 69, 70, 71, 72, 73, 74, 75, 76, 77, 78, 79, 80, 81, 82, 83, 84, 85] (by decide +kernel) (by decide +kernel)
set_option maxRecDepth 20000 in
theorem gX4_findLastFlip_X4_keepTurned : GoodIn wsX4_findLastFlip (wsV RX4 75 RX4 yX4_keepTurned wsX4_keepTurned) := goodIn_app (goodIn_of _ (by decide +kernel)) ggX4_findLastFlip_X4_keepTurned
theorem dX4_findLastFlip_0 : decode cX4_findLastFlip 0 = .ok (.aload_n 0, 1) := by decide +kernel
theorem dX4_findLastFlip_1 : decode cX4_findLastFlip 1 = .ok (.aload_n 1, 1) := by decide +kernel
theorem dX4_findLastFlip_2 : decode cX4_findLastFlip 2 = .ok (.iload_n 2, 1) := by decide +kernel
theorem dX4_findLastFlip_3 : decode cX4_findLastFlip 3 = .ok (.iconst 1, 1) := by decide +kernel
theorem dX4_findLastFlip_4 : decode cX4_findLastFlip 4 = .ok (.isub, 1) := by decide +kernel
theorem dX4_findLastFlip_5 : decode cX4_findLastFlip 5 = .ok (.invokevirtual 67, 3) := by decide +kernel
theorem dX4_findLastFlip_8 : decode cX4_findLastFlip 8 = .ok (.istore 5, 2) := by decide +kernel
theorem dX4_findLastFlip_10 : decode cX4_findLastFlip 10 = .ok (.iload 4, 2) := by decide +kernel
theorem dX4_findLastFlip_12 : decode cX4_findLastFlip 12 = .ok (.istore 6, 2) := by decide +kernel
theorem dX4_findLastFlip_14 : decode cX4_findLastFlip 14 = .ok (.iload 6, 2) := by decide +kernel
theorem dX4_findLastFlip_16 : decode cX4_findLastFlip 16 = .ok (.bipush 8, 2) := by decide +kernel
theorem dX4_findLastFlip_18 : decode cX4_findLastFlip 18 = .ok (.iload_n 3, 1) := by decide +kernel
theorem dX4_findLastFlip_19 : decode cX4_findLastFlip 19 = .ok (.imul, 1) := by decide +kernel
theorem dX4_findLastFlip_20 : decode cX4_findLastFlip 20 = .ok (.if_icmp .ge 45, 3) := by decide +kernel
theorem dX4_findLastFlip_23 : decode cX4_findLastFlip 23 = .ok (.aload_n 0, 1) := by decide +kernel
theorem dX4_findLastFlip_24 : decode cX4_findLastFlip 24 = .ok (.iload 6, 2) := by decide +kernel
theorem dX4_findLastFlip_26 : decode cX4_findLastFlip 26 = .ok (.iload 5, 2) := by decide +kernel
theorem dX4_findLastFlip_28 : decode cX4_findLastFlip 28 = .ok (.invokevirtual 71, 3) := by decide +kernel
theorem dX4_findLastFlip_31 : decode cX4_findLastFlip 31 = .ok (.istore 7, 2) := by decide +kernel
theorem dX4_findLastFlip_33 : decode cX4_findLastFlip 33 = .ok (.iload 7, 2) := by decide +kernel
theorem dX4_findLastFlip_35 : decode cX4_findLastFlip 35 = .ok (.iconst (-1), 1) := by decide +kernel
theorem dX4_findLastFlip_36 : decode cX4_findLastFlip 36 = .ok (.if_icmp .eq 23, 3) := by decide +kernel
theorem dX4_findLastFlip_39 : decode cX4_findLastFlip 39 = .ok (.aload_n 0, 1) := by decide +kernel
theorem dX4_findLastFlip_40 : decode cX4_findLastFlip 40 = .ok (.getfield 18, 3) := by decide +kernel
theorem dX4_findLastFlip_43 : decode cX4_findLastFlip 43 = .ok (.iload_n 2, 1) := by decide +kernel
theorem dX4_findLastFlip_44 : decode cX4_findLastFlip 44 = .ok (.iconst 1, 1) := by decide +kernel
theorem dX4_findLastFlip_45 : decode cX4_findLastFlip 45 = .ok (.isub, 1) := by decide +kernel
theorem dX4_findLastFlip_46 : decode cX4_findLastFlip 46 = .ok (.iload 6, 2) := by decide +kernel
theorem dX4_findLastFlip_48 : decode cX4_findLastFlip 48 = .ok (.iastore, 1) := by decide +kernel
theorem dX4_findLastFlip_49 : decode cX4_findLastFlip 49 = .ok (.aload_n 0, 1) := by decide +kernel
theorem dX4_findLastFlip_50 : decode cX4_findLastFlip 50 = .ok (.iload_n 3, 1) := by decide +kernel
theorem dX4_findLastFlip_51 : decode cX4_findLastFlip 51 = .ok (.iload_n 2, 1) := by decide +kernel
theorem dX4_findLastFlip_52 : decode cX4_findLastFlip 52 = .ok (.iload 7, 2) := by decide +kernel
theorem dX4_findLastFlip_54 : decode cX4_findLastFlip 54 = .ok (.invokevirtual 75, 3) := by decide +kernel
theorem dX4_findLastFlip_57 : decode cX4_findLastFlip 57 = .ok (.iconst 1, 1) := by decide +kernel
theorem dX4_findLastFlip_58 : decode cX4_findLastFlip 58 = .ok (.ireturn, 1) := by decide +kernel
theorem dX4_findLastFlip_59 : decode cX4_findLastFlip 59 = .ok (.iinc 6 1, 3) := by decide +kernel
theorem dX4_findLastFlip_62 : decode cX4_findLastFlip 62 = .ok (.goto (-48), 3) := by decide +kernel
theorem dX4_findLastFlip_65 : decode cX4_findLastFlip 65 = .ok (.iconst 0, 1) := by decide +kernel
theorem dX4_findLastFlip_66 : decode cX4_findLastFlip 66 = .ok (.ireturn, 1) := by decide +kernel
set_option maxRecDepth 20000 in
theorem ggX4_findBurst_X4_fillBurstHeads : GoodIn wsX4_findBurst wsX4_fillBurstHeads := goodIn_r _ [6, 1, 83, 84, 85, 86, 87, 88, 89] (by decide +kernel) (by decide +kernel)
set_option maxRecDepth 20000 in
theorem gX4_findBurst_X4_fillBurstHeads : GoodIn wsX4_findBurst (wsV RX4 79 RX4 yX4_fillBurstHeads wsX4_fillBurstHeads) := goodIn_app (goodIn_of _ (by decide +kernel)) ggX4_findBurst_X4_fillBurstHeads
set_option maxRecDepth 20000 in
theorem ggX4_findBurst_X4_fillTotals : GoodIn wsX4_findBurst wsX4_fillTotals := goodIn_r _ [10, 11, 1, 12, 13, 14, 15, 16, 17, 18, 19, 20, 21, 22, 23, 24, 25, 26, 27, 28, 29, 30, 31, 32, 33, 34, 35, 36, 37, 38, 39, 40, 41, 42, 43, 44, 45, 46, 47, 48, 49, 50, 51, 52, 53, 54, 55, 56, 57, 58, 83, 84, 85, 86, 87, 88, 89, 90, 91, 92, 93, 94] (by decide +kernel) (by decide +kernel)
set_option maxRecDepth 20000 in
theorem gX4_findBurst_X4_fillTotals : GoodIn wsX4_findBurst (wsV RX4 67 RX4 yX4_fillTotals wsX4_fillTotals) := goodIn_app (goodIn_of _ (by decide +kernel)) ggX4_findBurst_X4_fillTotals
set_option maxRecDepth 20000 in
theorem ggX4_findBurst_X4_bitsThatPass : GoodIn wsX4_findBurst wsX4_bitsThatPass := goodIn_r _ [62, 12, 13, 11, 83, 84, 85, 86, 87, 88, 89] (by decide +kernel) (by decide +kernel)
set_option maxRecDepth 20000 in
theorem gX4_findBurst_X4_bitsThatPass : GoodIn wsX4_findBurst (wsV RX4 71 RX4 yX4_bitsThatPass wsX4_bitsThatPass) := goodIn_app (goodIn_of _ (by decide +kernel)) ggX4_findBurst_X4_bitsThatPass
set_option maxRecDepth 20000 in
theorem ggX4_findBurst_X4_keepTurned : GoodIn wsX4_findBurst wsX4_keepTurned := goodIn_r _ [66, 1, 67, 68, 69, 70, 71, 5, 72, 73, 74, 75, 76, 77, 78, 79, 80, 81, 82, 83, 84, 85, 86, 87, 88, 89] (by decide +kernel) (by decide +kernel)
set_option maxRecDepth 20000 in
theorem gX4_findBurst_X4_keepTurned : GoodIn wsX4_findBurst (wsV RX4 75 RX4 yX4_keepTurned wsX4_keepTurned) := goodIn_app (goodIn_of _ (by decide +kernel)) ggX4_findBurst_X4_keepTurned
theorem dX4_findBurst_0 : decode cX4_findBurst 0 = .ok (.iload_n 2, 1) := by decide +kernel
theorem dX4_findBurst_1 : decode cX4_findBurst 1 = .ok (.iconst 2, 1) := by decide +kernel
theorem dX4_findBurst_2 : decode cX4_findBurst 2 = .ok (.if_icmp .le 11, 3) := by decide +kernel
theorem dX4_findBurst_5 : decode cX4_findBurst 5 = .ok (.iconst 1, 1) := by decide +kernel
theorem dX4_findBurst_6 : decode cX4_findBurst 6 = .ok (.iload_n 2, 1) := by decide +kernel
theorem dX4_findBurst_7 : decode cX4_findBurst 7 = .ok (.iconst 2, 1) := by decide +kernel
theorem dX4_findBurst_8 : decode cX4_findBurst 8 = .ok (.isub, 1) := by decide +kernel
theorem dX4_findBurst_9 : decode cX4_findBurst 9 = .ok (.ishl, 1) := by decide +kernel
theorem dX4_findBurst_10 : decode cX4_findBurst 10 = .ok (.goto 4, 3) := by decide +kernel
theorem dX4_findBurst_13 : decode cX4_findBurst 13 = .ok (.iconst 1, 1) := by decide +kernel
theorem dX4_findBurst_14 : decode cX4_findBurst 14 = .ok (.istore 4, 2) := by decide +kernel
theorem dX4_findBurst_16 : decode cX4_findBurst 16 = .ok (.iconst 0, 1) := by decide +kernel
theorem dX4_findBurst_17 : decode cX4_findBurst 17 = .ok (.istore 5, 2) := by decide +kernel
theorem dX4_findBurst_19 : decode cX4_findBurst 19 = .ok (.iload 5, 2) := by decide +kernel
theorem dX4_findBurst_21 : decode cX4_findBurst 21 = .ok (.iload_n 2, 1) := by decide +kernel
theorem dX4_findBurst_22 : decode cX4_findBurst 22 = .ok (.iadd, 1) := by decide +kernel
theorem dX4_findBurst_23 : decode cX4_findBurst 23 = .ok (.bipush 8, 2) := by decide +kernel
theorem dX4_findBurst_25 : decode cX4_findBurst 25 = .ok (.iload_n 3, 1) := by decide +kernel
theorem dX4_findBurst_26 : decode cX4_findBurst 26 = .ok (.imul, 1) := by decide +kernel
theorem dX4_findBurst_27 : decode cX4_findBurst 27 = .ok (.if_icmp .gt 87, 3) := by decide +kernel
theorem dX4_findBurst_30 : decode cX4_findBurst 30 = .ok (.iload 5, 2) := by decide +kernel
theorem dX4_findBurst_32 : decode cX4_findBurst 32 = .ok (.iload_n 2, 1) := by decide +kernel
theorem dX4_findBurst_33 : decode cX4_findBurst 33 = .ok (.iadd, 1) := by decide +kernel
theorem dX4_findBurst_34 : decode cX4_findBurst 34 = .ok (.iconst 1, 1) := by decide +kernel
theorem dX4_findBurst_35 : decode cX4_findBurst 35 = .ok (.isub, 1) := by decide +kernel
theorem dX4_findBurst_36 : decode cX4_findBurst 36 = .ok (.istore 6, 2) := by decide +kernel
theorem dX4_findBurst_38 : decode cX4_findBurst 38 = .ok (.iconst 0, 1) := by decide +kernel
theorem dX4_findBurst_39 : decode cX4_findBurst 39 = .ok (.istore 7, 2) := by decide +kernel
theorem dX4_findBurst_41 : decode cX4_findBurst 41 = .ok (.iload 7, 2) := by decide +kernel
theorem dX4_findBurst_43 : decode cX4_findBurst 43 = .ok (.iload 4, 2) := by decide +kernel
theorem dX4_findBurst_45 : decode cX4_findBurst 45 = .ok (.if_icmp .ge 63, 3) := by decide +kernel
theorem dX4_findBurst_48 : decode cX4_findBurst 48 = .ok (.aload_n 0, 1) := by decide +kernel
theorem dX4_findBurst_49 : decode cX4_findBurst 49 = .ok (.iload 5, 2) := by decide +kernel
theorem dX4_findBurst_51 : decode cX4_findBurst 51 = .ok (.iload_n 2, 1) := by decide +kernel
theorem dX4_findBurst_52 : decode cX4_findBurst 52 = .ok (.iload 7, 2) := by decide +kernel
theorem dX4_findBurst_54 : decode cX4_findBurst 54 = .ok (.invokevirtual 79, 3) := by decide +kernel
theorem dX4_findBurst_57 : decode cX4_findBurst 57 = .ok (.istore 8, 2) := by decide +kernel
theorem dX4_findBurst_59 : decode cX4_findBurst 59 = .ok (.aload_n 0, 1) := by decide +kernel
theorem dX4_findBurst_60 : decode cX4_findBurst 60 = .ok (.iload 6, 2) := by decide +kernel
theorem dX4_findBurst_62 : decode cX4_findBurst 62 = .ok (.aload_n 0, 1) := by decide +kernel
theorem dX4_findBurst_63 : decode cX4_findBurst 63 = .ok (.aload_n 1, 1) := by decide +kernel
theorem dX4_findBurst_64 : decode cX4_findBurst 64 = .ok (.iload 8, 2) := by decide +kernel
theorem dX4_findBurst_66 : decode cX4_findBurst 66 = .ok (.invokevirtual 67, 3) := by decide +kernel
theorem dX4_findBurst_69 : decode cX4_findBurst 69 = .ok (.invokevirtual 71, 3) := by decide +kernel
theorem dX4_findBurst_72 : decode cX4_findBurst 72 = .ok (.istore 9, 2) := by decide +kernel
theorem dX4_findBurst_74 : decode cX4_findBurst 74 = .ok (.iload 9, 2) := by decide +kernel
theorem dX4_findBurst_76 : decode cX4_findBurst 76 = .ok (.iconst (-1), 1) := by decide +kernel
theorem dX4_findBurst_77 : decode cX4_findBurst 77 = .ok (.if_icmp .eq 25, 3) := by decide +kernel
theorem dX4_findBurst_80 : decode cX4_findBurst 80 = .ok (.aload_n 0, 1) := by decide +kernel
theorem dX4_findBurst_81 : decode cX4_findBurst 81 = .ok (.getfield 18, 3) := by decide +kernel
theorem dX4_findBurst_84 : decode cX4_findBurst 84 = .ok (.iload 8, 2) := by decide +kernel
theorem dX4_findBurst_86 : decode cX4_findBurst 86 = .ok (.iload 6, 2) := by decide +kernel
theorem dX4_findBurst_88 : decode cX4_findBurst 88 = .ok (.iastore, 1) := by decide +kernel
theorem dX4_findBurst_89 : decode cX4_findBurst 89 = .ok (.aload_n 0, 1) := by decide +kernel
theorem dX4_findBurst_90 : decode cX4_findBurst 90 = .ok (.iload_n 3, 1) := by decide +kernel
theorem dX4_findBurst_91 : decode cX4_findBurst 91 = .ok (.iload 8, 2) := by decide +kernel
theorem dX4_findBurst_93 : decode cX4_findBurst 93 = .ok (.iconst 1, 1) := by decide +kernel
theorem dX4_findBurst_94 : decode cX4_findBurst 94 = .ok (.iadd, 1) := by decide +kernel
theorem dX4_findBurst_95 : decode cX4_findBurst 95 = .ok (.iload 9, 2) := by decide +kernel
theorem dX4_findBurst_97 : decode cX4_findBurst 97 = .ok (.invokevirtual 75, 3) := by decide +kernel
theorem dX4_findBurst_100 : decode cX4_findBurst 100 = .ok (.iconst 1, 1) := by decide +kernel
theorem dX4_findBurst_101 : decode cX4_findBurst 101 = .ok (.ireturn, 1) := by decide +kernel
theorem dX4_findBurst_102 : decode cX4_findBurst 102 = .ok (.iinc 7 1, 3) := by decide +kernel
theorem dX4_findBurst_105 : decode cX4_findBurst 105 = .ok (.goto (-64), 3) := by decide +kernel
theorem dX4_findBurst_108 : decode cX4_findBurst 108 = .ok (.iinc 5 1, 3) := by decide +kernel
theorem dX4_findBurst_111 : decode cX4_findBurst 111 = .ok (.goto (-92), 3) := by decide +kernel
theorem dX4_findBurst_114 : decode cX4_findBurst 114 = .ok (.iconst 0, 1) := by decide +kernel
theorem dX4_findBurst_115 : decode cX4_findBurst 115 = .ok (.ireturn, 1) := by decide +kernel
theorem dX4_fillBurstHeads_0 : decode cX4_fillBurstHeads 0 = .ok (.iconst 0, 1) := by decide +kernel
theorem dX4_fillBurstHeads_1 : decode cX4_fillBurstHeads 1 = .ok (.istore 4, 2) := by decide +kernel
theorem dX4_fillBurstHeads_3 : decode cX4_fillBurstHeads 3 = .ok (.iconst 0, 1) := by decide +kernel
theorem dX4_fillBurstHeads_4 : decode cX4_fillBurstHeads 4 = .ok (.istore 5, 2) := by decide +kernel
theorem dX4_fillBurstHeads_6 : decode cX4_fillBurstHeads 6 = .ok (.iload 5, 2) := by decide +kernel
theorem dX4_fillBurstHeads_8 : decode cX4_fillBurstHeads 8 = .ok (.iload_n 2, 1) := by decide +kernel
theorem dX4_fillBurstHeads_9 : decode cX4_fillBurstHeads 9 = .ok (.iconst 1, 1) := by decide +kernel
theorem dX4_fillBurstHeads_10 : decode cX4_fillBurstHeads 10 = .ok (.isub, 1) := by decide +kernel
theorem dX4_fillBurstHeads_11 : decode cX4_fillBurstHeads 11 = .ok (.if_icmp .ge 42, 3) := by decide +kernel
theorem dX4_fillBurstHeads_14 : decode cX4_fillBurstHeads 14 = .ok (.iload 5, 2) := by decide +kernel
theorem dX4_fillBurstHeads_16 : decode cX4_fillBurstHeads 16 = .ok (.ifCond .eq 17, 3) := by decide +kernel
theorem dX4_fillBurstHeads_19 : decode cX4_fillBurstHeads 19 = .ok (.iload_n 3, 1) := by decide +kernel
theorem dX4_fillBurstHeads_20 : decode cX4_fillBurstHeads 20 = .ok (.iload_n 2, 1) := by decide +kernel
theorem dX4_fillBurstHeads_21 : decode cX4_fillBurstHeads 21 = .ok (.iconst 2, 1) := by decide +kernel
theorem dX4_fillBurstHeads_22 : decode cX4_fillBurstHeads 22 = .ok (.isub, 1) := by decide +kernel
theorem dX4_fillBurstHeads_23 : decode cX4_fillBurstHeads 23 = .ok (.iload 5, 2) := by decide +kernel
theorem dX4_fillBurstHeads_25 : decode cX4_fillBurstHeads 25 = .ok (.isub, 1) := by decide +kernel
theorem dX4_fillBurstHeads_26 : decode cX4_fillBurstHeads 26 = .ok (.ishr, 1) := by decide +kernel
theorem dX4_fillBurstHeads_27 : decode cX4_fillBurstHeads 27 = .ok (.iconst 1, 1) := by decide +kernel
theorem dX4_fillBurstHeads_28 : decode cX4_fillBurstHeads 28 = .ok (.iand, 1) := by decide +kernel
theorem dX4_fillBurstHeads_29 : decode cX4_fillBurstHeads 29 = .ok (.iconst 1, 1) := by decide +kernel
theorem dX4_fillBurstHeads_30 : decode cX4_fillBurstHeads 30 = .ok (.if_icmp .ne 17, 3) := by decide +kernel
theorem dX4_fillBurstHeads_33 : decode cX4_fillBurstHeads 33 = .ok (.aload_n 0, 1) := by decide +kernel
theorem dX4_fillBurstHeads_34 : decode cX4_fillBurstHeads 34 = .ok (.getfield 18, 3) := by decide +kernel
theorem dX4_fillBurstHeads_37 : decode cX4_fillBurstHeads 37 = .ok (.iload 4, 2) := by decide +kernel
theorem dX4_fillBurstHeads_39 : decode cX4_fillBurstHeads 39 = .ok (.iload_n 1, 1) := by decide +kernel
theorem dX4_fillBurstHeads_40 : decode cX4_fillBurstHeads 40 = .ok (.iload 5, 2) := by decide +kernel
theorem dX4_fillBurstHeads_42 : decode cX4_fillBurstHeads 42 = .ok (.iadd, 1) := by decide +kernel
theorem dX4_fillBurstHeads_43 : decode cX4_fillBurstHeads 43 = .ok (.iastore, 1) := by decide +kernel
theorem dX4_fillBurstHeads_44 : decode cX4_fillBurstHeads 44 = .ok (.iinc 4 1, 3) := by decide +kernel
theorem dX4_fillBurstHeads_47 : decode cX4_fillBurstHeads 47 = .ok (.iinc 5 1, 3) := by decide +kernel
theorem dX4_fillBurstHeads_50 : decode cX4_fillBurstHeads 50 = .ok (.goto (-44), 3) := by decide +kernel
theorem dX4_fillBurstHeads_53 : decode cX4_fillBurstHeads 53 = .ok (.iload 4, 2) := by decide +kernel
theorem dX4_fillBurstHeads_55 : decode cX4_fillBurstHeads 55 = .ok (.ireturn, 1) := by decide +kernel
set_option maxRecDepth 20000 in
theorem ggX4_fillTotals_X1_isByExclusiveOr : GoodIn wsX4_fillTotals wsX1_isByExclusiveOr := goodIn_r _ [11] (by decide +kernel) (by decide +kernel)
set_option maxRecDepth 20000 in
theorem gX4_fillTotals_X1_isByExclusiveOr_u83X1 : GoodIn wsX4_fillTotals (va_wsO RX4 83 RX1 "SumSmith$Linear" ⟨"SumSmith$Linear", "isByExclusiveOr", "()Z"⟩ yX1_isByExclusiveOr wsX1_isByExclusiveOr) := goodIn_app (goodIn_of _ (by decide +kernel)) ggX4_fillTotals_X1_isByExclusiveOr
set_option maxRecDepth 20000 in
theorem ggX4_fillTotals_X8_isByExclusiveOr : GoodIn wsX4_fillTotals wsX8_isByExclusiveOr := goodIn_r _ [16] (by decide +kernel) (by decide +kernel)
set_option maxRecDepth 20000 in
theorem gX4_fillTotals_X8_isByExclusiveOr_u83X8 : GoodIn wsX4_fillTotals (va_wsO RX4 83 RX8 "SumSmith$Linear" ⟨"SumSmith$Linear", "isByExclusiveOr", "()Z"⟩ yX8_isByExclusiveOr wsX8_isByExclusiveOr) := goodIn_app (goodIn_of _ (by decide +kernel)) ggX4_fillTotals_X8_isByExclusiveOr
set_option maxRecDepth 20000 in
theorem ggX4_fillTotals_X2_isByExclusiveOr : GoodIn wsX4_fillTotals wsX2_isByExclusiveOr := goodIn_r _ [12] (by decide +kernel) (by decide +kernel)
set_option maxRecDepth 20000 in
theorem gX4_fillTotals_X2_isByExclusiveOr_u83X9 : GoodIn wsX4_fillTotals (va_wsU RX4 83 RX9 "SumSmith$Linear" ⟨"SumSmith$Linear", "isByExclusiveOr", "()Z"⟩ yX2_isByExclusiveOr wsX2_isByExclusiveOr) := goodIn_app (goodIn_of _ (by decide +kernel)) ggX4_fillTotals_X2_isByExclusiveOr
set_option maxRecDepth 20000 in
theorem gX4_fillTotals_X2_isByExclusiveOr_u83X10 : GoodIn wsX4_fillTotals (va_wsU RX4 83 RX10 "SumSmith$Linear" ⟨"SumSmith$Linear", "isByExclusiveOr", "()Z"⟩ yX2_isByExclusiveOr wsX2_isByExclusiveOr) := goodIn_app (goodIn_of _ (by decide +kernel)) ggX4_fillTotals_X2_isByExclusiveOr
set_option maxRecDepth 20000 in
theorem ggX4_fillTotals_X1_merged : GoodIn wsX4_fillTotals wsX1_merged := goodIn_r _ [25] (by decide +kernel) (by decide +kernel)
set_option maxRecDepth 20000 in
theorem gX4_fillTotals_X1_merged_u87X1 : GoodIn wsX4_fillTotals (va_wsU RX4 87 RX1 "SumSmith$Linear" ⟨"SumSmith$Linear", "merged", "(JJ)J"⟩ yX1_merged wsX1_merged) := goodIn_app (goodIn_of _ (by decide +kernel)) ggX4_fillTotals_X1_merged
set_option maxRecDepth 20000 in
theorem ggX4_fillTotals_X8_merged : GoodIn wsX4_fillTotals wsX8_merged := goodIn_r _ [28] (by decide +kernel) (by decide +kernel)
set_option maxRecDepth 20000 in
theorem gX4_fillTotals_X8_merged_u87X8 : GoodIn wsX4_fillTotals (va_wsU RX4 87 RX8 "SumSmith$Linear" ⟨"SumSmith$Linear", "merged", "(JJ)J"⟩ yX8_merged wsX8_merged) := goodIn_app (goodIn_of _ (by decide +kernel)) ggX4_fillTotals_X8_merged
set_option maxRecDepth 20000 in
theorem ggX4_fillTotals_X9_merged : GoodIn wsX4_fillTotals wsX9_merged := goodIn_r _ [32, 33, 34, 35, 31, 36, 37, 38, 39, 40, 41, 42, 43, 44, 57, 58] (by decide +kernel) (by decide +kernel)
set_option maxRecDepth 20000 in
theorem gX4_fillTotals_X9_merged_u87X9 : GoodIn wsX4_fillTotals (va_wsU RX4 87 RX9 "SumSmith$Linear" ⟨"SumSmith$Linear", "merged", "(JJ)J"⟩ yX9_merged wsX9_merged) := goodIn_app (goodIn_of _ (by decide +kernel)) ggX4_fillTotals_X9_merged
set_option maxRecDepth 20000 in
theorem ggX4_fillTotals_X10_merged : GoodIn wsX4_fillTotals wsX10_merged := goodIn_r _ [48, 49, 59, 60, 61] (by decide +kernel) (by decide +kernel)
set_option maxRecDepth 20000 in
theorem gX4_fillTotals_X10_merged_u87X10 : GoodIn wsX4_fillTotals (va_wsU RX4 87 RX10 "SumSmith$Linear" ⟨"SumSmith$Linear", "merged", "(JJ)J"⟩ yX10_merged wsX10_merged) := goodIn_app (goodIn_of _ (by decide +kernel)) ggX4_fillTotals_X10_merged
theorem dX4_fillTotals_0 : decode cX4_fillTotals 0 = .ok (.aload_n 0, 1) := by decide +kernel
theorem dX4_fillTotals_1 : decode cX4_fillTotals 1 = .ok (.getfield 22, 3) := by decide +kernel
theorem dX4_fillTotals_4 : decode cX4_fillTotals 4 = .ok (.iconst 0, 1) := by decide +kernel
theorem dX4_fillTotals_5 : decode cX4_fillTotals 5 = .ok (.lconst 0, 1) := by decide +kernel
theorem dX4_fillTotals_6 : decode cX4_fillTotals 6 = .ok (.lastore, 1) := by decide +kernel
theorem dX4_fillTotals_7 : decode cX4_fillTotals 7 = .ok (.iconst 1, 1) := by decide +kernel
theorem dX4_fillTotals_8 : decode cX4_fillTotals 8 = .ok (.istore_n 3, 1) := by decide +kernel
theorem dX4_fillTotals_9 : decode cX4_fillTotals 9 = .ok (.iconst 0, 1) := by decide +kernel
theorem dX4_fillTotals_10 : decode cX4_fillTotals 10 = .ok (.istore 4, 2) := by decide +kernel
theorem dX4_fillTotals_12 : decode cX4_fillTotals 12 = .ok (.iload 4, 2) := by decide +kernel
theorem dX4_fillTotals_14 : decode cX4_fillTotals 14 = .ok (.iload_n 2, 1) := by decide +kernel
theorem dX4_fillTotals_15 : decode cX4_fillTotals 15 = .ok (.if_icmp .ge 131, 3) := by decide +kernel
theorem dX4_fillTotals_18 : decode cX4_fillTotals 18 = .ok (.aload_n 0, 1) := by decide +kernel
theorem dX4_fillTotals_19 : decode cX4_fillTotals 19 = .ok (.getfield 18, 3) := by decide +kernel
theorem dX4_fillTotals_22 : decode cX4_fillTotals 22 = .ok (.iload 4, 2) := by decide +kernel
theorem dX4_fillTotals_24 : decode cX4_fillTotals 24 = .ok (.iaload, 1) := by decide +kernel
theorem dX4_fillTotals_25 : decode cX4_fillTotals 25 = .ok (.istore 5, 2) := by decide +kernel
theorem dX4_fillTotals_27 : decode cX4_fillTotals 27 = .ok (.iload 4, 2) := by decide +kernel
theorem dX4_fillTotals_29 : decode cX4_fillTotals 29 = .ok (.ifCond .eq 10, 3) := by decide +kernel
theorem dX4_fillTotals_32 : decode cX4_fillTotals 32 = .ok (.aload_n 1, 1) := by decide +kernel
theorem dX4_fillTotals_33 : decode cX4_fillTotals 33 = .ok (.invokevirtual 83, 3) := by decide +kernel
theorem dX4_fillTotals_36 : decode cX4_fillTotals 36 = .ok (.ifCond .eq 29, 3) := by decide +kernel
theorem dX4_fillTotals_39 : decode cX4_fillTotals 39 = .ok (.aload_n 0, 1) := by decide +kernel
theorem dX4_fillTotals_40 : decode cX4_fillTotals 40 = .ok (.getfield 22, 3) := by decide +kernel
theorem dX4_fillTotals_43 : decode cX4_fillTotals 43 = .ok (.iconst 0, 1) := by decide +kernel
theorem dX4_fillTotals_44 : decode cX4_fillTotals 44 = .ok (.aload_n 1, 1) := by decide +kernel
theorem dX4_fillTotals_45 : decode cX4_fillTotals 45 = .ok (.aload_n 0, 1) := by decide +kernel
theorem dX4_fillTotals_46 : decode cX4_fillTotals 46 = .ok (.getfield 22, 3) := by decide +kernel
theorem dX4_fillTotals_49 : decode cX4_fillTotals 49 = .ok (.iconst 0, 1) := by decide +kernel
theorem dX4_fillTotals_50 : decode cX4_fillTotals 50 = .ok (.laload, 1) := by decide +kernel
theorem dX4_fillTotals_51 : decode cX4_fillTotals 51 = .ok (.aload_n 0, 1) := by decide +kernel
theorem dX4_fillTotals_52 : decode cX4_fillTotals 52 = .ok (.getfield 9, 3) := by decide +kernel
theorem dX4_fillTotals_55 : decode cX4_fillTotals 55 = .ok (.iload 5, 2) := by decide +kernel
theorem dX4_fillTotals_57 : decode cX4_fillTotals 57 = .ok (.laload, 1) := by decide +kernel
theorem dX4_fillTotals_58 : decode cX4_fillTotals 58 = .ok (.invokevirtual 87, 3) := by decide +kernel
theorem dX4_fillTotals_61 : decode cX4_fillTotals 61 = .ok (.lastore, 1) := by decide +kernel
theorem dX4_fillTotals_62 : decode cX4_fillTotals 62 = .ok (.goto 78, 3) := by decide +kernel
theorem dX4_fillTotals_65 : decode cX4_fillTotals 65 = .ok (.iload_n 3, 1) := by decide +kernel
theorem dX4_fillTotals_66 : decode cX4_fillTotals 66 = .ok (.iconst 1, 1) := by decide +kernel
theorem dX4_fillTotals_67 : decode cX4_fillTotals 67 = .ok (.isub, 1) := by decide +kernel
theorem dX4_fillTotals_68 : decode cX4_fillTotals 68 = .ok (.istore 6, 2) := by decide +kernel
theorem dX4_fillTotals_70 : decode cX4_fillTotals 70 = .ok (.iload 6, 2) := by decide +kernel
theorem dX4_fillTotals_72 : decode cX4_fillTotals 72 = .ok (.ifCond .lt 64, 3) := by decide +kernel
theorem dX4_fillTotals_75 : decode cX4_fillTotals 75 = .ok (.aload_n 0, 1) := by decide +kernel
theorem dX4_fillTotals_76 : decode cX4_fillTotals 76 = .ok (.getfield 22, 3) := by decide +kernel
theorem dX4_fillTotals_79 : decode cX4_fillTotals 79 = .ok (.iload 6, 2) := by decide +kernel
theorem dX4_fillTotals_81 : decode cX4_fillTotals 81 = .ok (.laload, 1) := by decide +kernel
theorem dX4_fillTotals_82 : decode cX4_fillTotals 82 = .ok (.lstore 7, 2) := by decide +kernel
theorem dX4_fillTotals_84 : decode cX4_fillTotals 84 = .ok (.aload_n 0, 1) := by decide +kernel
theorem dX4_fillTotals_85 : decode cX4_fillTotals 85 = .ok (.getfield 22, 3) := by decide +kernel
theorem dX4_fillTotals_88 : decode cX4_fillTotals 88 = .ok (.iconst 2, 1) := by decide +kernel
theorem dX4_fillTotals_89 : decode cX4_fillTotals 89 = .ok (.iload 6, 2) := by decide +kernel
theorem dX4_fillTotals_91 : decode cX4_fillTotals 91 = .ok (.imul, 1) := by decide +kernel
theorem dX4_fillTotals_92 : decode cX4_fillTotals 92 = .ok (.iconst 1, 1) := by decide +kernel
theorem dX4_fillTotals_93 : decode cX4_fillTotals 93 = .ok (.iadd, 1) := by decide +kernel
theorem dX4_fillTotals_94 : decode cX4_fillTotals 94 = .ok (.aload_n 1, 1) := by decide +kernel
theorem dX4_fillTotals_95 : decode cX4_fillTotals 95 = .ok (.lload 7, 2) := by decide +kernel
theorem dX4_fillTotals_97 : decode cX4_fillTotals 97 = .ok (.aload_n 0, 1) := by decide +kernel
theorem dX4_fillTotals_98 : decode cX4_fillTotals 98 = .ok (.getfield 15, 3) := by decide +kernel
theorem dX4_fillTotals_101 : decode cX4_fillTotals 101 = .ok (.iload 5, 2) := by decide +kernel
theorem dX4_fillTotals_103 : decode cX4_fillTotals 103 = .ok (.laload, 1) := by decide +kernel
theorem dX4_fillTotals_104 : decode cX4_fillTotals 104 = .ok (.invokevirtual 87, 3) := by decide +kernel
theorem dX4_fillTotals_107 : decode cX4_fillTotals 107 = .ok (.lastore, 1) := by decide +kernel
theorem dX4_fillTotals_108 : decode cX4_fillTotals 108 = .ok (.aload_n 0, 1) := by decide +kernel
theorem dX4_fillTotals_109 : decode cX4_fillTotals 109 = .ok (.getfield 22, 3) := by decide +kernel
theorem dX4_fillTotals_112 : decode cX4_fillTotals 112 = .ok (.iconst 2, 1) := by decide +kernel
theorem dX4_fillTotals_113 : decode cX4_fillTotals 113 = .ok (.iload 6, 2) := by decide +kernel
theorem dX4_fillTotals_115 : decode cX4_fillTotals 115 = .ok (.imul, 1) := by decide +kernel
theorem dX4_fillTotals_116 : decode cX4_fillTotals 116 = .ok (.aload_n 1, 1) := by decide +kernel
theorem dX4_fillTotals_117 : decode cX4_fillTotals 117 = .ok (.lload 7, 2) := by decide +kernel
theorem dX4_fillTotals_119 : decode cX4_fillTotals 119 = .ok (.aload_n 0, 1) := by decide +kernel
theorem dX4_fillTotals_120 : decode cX4_fillTotals 120 = .ok (.getfield 9, 3) := by decide +kernel
theorem dX4_fillTotals_123 : decode cX4_fillTotals 123 = .ok (.iload 5, 2) := by decide +kernel
theorem dX4_fillTotals_125 : decode cX4_fillTotals 125 = .ok (.laload, 1) := by decide +kernel
theorem dX4_fillTotals_126 : decode cX4_fillTotals 126 = .ok (.invokevirtual 87, 3) := by decide +kernel
theorem dX4_fillTotals_129 : decode cX4_fillTotals 129 = .ok (.lastore, 1) := by decide +kernel
theorem dX4_fillTotals_130 : decode cX4_fillTotals 130 = .ok (.iinc 6 (-1), 3) := by decide +kernel
theorem dX4_fillTotals_133 : decode cX4_fillTotals 133 = .ok (.goto (-63), 3) := by decide +kernel
theorem dX4_fillTotals_136 : decode cX4_fillTotals 136 = .ok (.iload_n 3, 1) := by decide +kernel
theorem dX4_fillTotals_137 : decode cX4_fillTotals 137 = .ok (.iconst 2, 1) := by decide +kernel
theorem dX4_fillTotals_138 : decode cX4_fillTotals 138 = .ok (.imul, 1) := by decide +kernel
theorem dX4_fillTotals_139 : decode cX4_fillTotals 139 = .ok (.istore_n 3, 1) := by decide +kernel
theorem dX4_fillTotals_140 : decode cX4_fillTotals 140 = .ok (.iinc 4 1, 3) := by decide +kernel
theorem dX4_fillTotals_143 : decode cX4_fillTotals 143 = .ok (.goto (-131), 3) := by decide +kernel
theorem dX4_fillTotals_146 : decode cX4_fillTotals 146 = .ok (.iload_n 3, 1) := by decide +kernel
theorem dX4_fillTotals_147 : decode cX4_fillTotals 147 = .ok (.ireturn, 1) := by decide +kernel
theorem dX4_bitsThatPass_0 : decode cX4_bitsThatPass 0 = .ok (.aload_n 0, 1) := by decide +kernel
theorem dX4_bitsThatPass_1 : decode cX4_bitsThatPass 1 = .ok (.getfield 9, 3) := by decide +kernel
theorem dX4_bitsThatPass_4 : decode cX4_bitsThatPass 4 = .ok (.iload_n 1, 1) := by decide +kernel
theorem dX4_bitsThatPass_5 : decode cX4_bitsThatPass 5 = .ok (.laload, 1) := by decide +kernel
theorem dX4_bitsThatPass_6 : decode cX4_bitsThatPass 6 = .ok (.lstore_n 3, 1) := by decide +kernel
theorem dX4_bitsThatPass_7 : decode cX4_bitsThatPass 7 = .ok (.aload_n 0, 1) := by decide +kernel
theorem dX4_bitsThatPass_8 : decode cX4_bitsThatPass 8 = .ok (.getfield 15, 3) := by decide +kernel
theorem dX4_bitsThatPass_11 : decode cX4_bitsThatPass 11 = .ok (.iload_n 1, 1) := by decide +kernel
theorem dX4_bitsThatPass_12 : decode cX4_bitsThatPass 12 = .ok (.laload, 1) := by decide +kernel
theorem dX4_bitsThatPass_13 : decode cX4_bitsThatPass 13 = .ok (.lstore 5, 2) := by decide +kernel
theorem dX4_bitsThatPass_15 : decode cX4_bitsThatPass 15 = .ok (.iconst 0, 1) := by decide +kernel
theorem dX4_bitsThatPass_16 : decode cX4_bitsThatPass 16 = .ok (.istore 7, 2) := by decide +kernel
theorem dX4_bitsThatPass_18 : decode cX4_bitsThatPass 18 = .ok (.iload 7, 2) := by decide +kernel
theorem dX4_bitsThatPass_20 : decode cX4_bitsThatPass 20 = .ok (.iload_n 2, 1) := by decide +kernel
theorem dX4_bitsThatPass_21 : decode cX4_bitsThatPass 21 = .ok (.if_icmp .ge 46, 3) := by decide +kernel
theorem dX4_bitsThatPass_24 : decode cX4_bitsThatPass 24 = .ok (.aload_n 0, 1) := by decide +kernel
theorem dX4_bitsThatPass_25 : decode cX4_bitsThatPass 25 = .ok (.getfield 22, 3) := by decide +kernel
theorem dX4_bitsThatPass_28 : decode cX4_bitsThatPass 28 = .ok (.iload 7, 2) := by decide +kernel
theorem dX4_bitsThatPass_30 : decode cX4_bitsThatPass 30 = .ok (.laload, 1) := by decide +kernel
theorem dX4_bitsThatPass_31 : decode cX4_bitsThatPass 31 = .ok (.lload 5, 2) := by decide +kernel
theorem dX4_bitsThatPass_33 : decode cX4_bitsThatPass 33 = .ok (.lcmp, 1) := by decide +kernel
theorem dX4_bitsThatPass_34 : decode cX4_bitsThatPass 34 = .ok (.ifCond .ne 8, 3) := by decide +kernel
theorem dX4_bitsThatPass_37 : decode cX4_bitsThatPass 37 = .ok (.iconst 2, 1) := by decide +kernel
theorem dX4_bitsThatPass_38 : decode cX4_bitsThatPass 38 = .ok (.iload 7, 2) := by decide +kernel
theorem dX4_bitsThatPass_40 : decode cX4_bitsThatPass 40 = .ok (.imul, 1) := by decide +kernel
theorem dX4_bitsThatPass_41 : decode cX4_bitsThatPass 41 = .ok (.ireturn, 1) := by decide +kernel
theorem dX4_bitsThatPass_42 : decode cX4_bitsThatPass 42 = .ok (.aload_n 0, 1) := by decide +kernel
theorem dX4_bitsThatPass_43 : decode cX4_bitsThatPass 43 = .ok (.getfield 22, 3) := by decide +kernel
theorem dX4_bitsThatPass_46 : decode cX4_bitsThatPass 46 = .ok (.iload 7, 2) := by decide +kernel
theorem dX4_bitsThatPass_48 : decode cX4_bitsThatPass 48 = .ok (.laload, 1) := by decide +kernel
theorem dX4_bitsThatPass_49 : decode cX4_bitsThatPass 49 = .ok (.lload_n 3, 1) := by decide +kernel
theorem dX4_bitsThatPass_50 : decode cX4_bitsThatPass 50 = .ok (.lcmp, 1) := by decide +kernel
theorem dX4_bitsThatPass_51 : decode cX4_bitsThatPass 51 = .ok (.ifCond .ne 10, 3) := by decide +kernel
theorem dX4_bitsThatPass_54 : decode cX4_bitsThatPass 54 = .ok (.iconst 2, 1) := by decide +kernel
theorem dX4_bitsThatPass_55 : decode cX4_bitsThatPass 55 = .ok (.iload 7, 2) := by decide +kernel
theorem dX4_bitsThatPass_57 : decode cX4_bitsThatPass 57 = .ok (.imul, 1) := by decide +kernel
theorem dX4_bitsThatPass_58 : decode cX4_bitsThatPass 58 = .ok (.iconst 1, 1) := by decide +kernel
theorem dX4_bitsThatPass_59 : decode cX4_bitsThatPass 59 = .ok (.iadd, 1) := by decide +kernel
theorem dX4_bitsThatPass_60 : decode cX4_bitsThatPass 60 = .ok (.ireturn, 1) := by decide +kernel
theorem dX4_bitsThatPass_61 : decode cX4_bitsThatPass 61 = .ok (.iinc 7 1, 3) := by decide +kernel
theorem dX4_bitsThatPass_64 : decode cX4_bitsThatPass 64 = .ok (.goto (-46), 3) := by decide +kernel
theorem dX4_bitsThatPass_67 : decode cX4_bitsThatPass 67 = .ok (.iconst (-1), 1) := by decide +kernel
theorem dX4_bitsThatPass_68 : decode cX4_bitsThatPass 68 = .ok (.ireturn, 1) := by decide +kernel
set_option maxRecDepth 20000 in
theorem ggX4_keepTurned_X4_keepZeros : GoodIn wsX4_keepTurned wsX4_keepZeros := goodIn_r _ [8, 2, 3, 9, 10, 11, 12, 13, 19, 20, 21, 22, 23, 24, 25] (by decide +kernel) (by decide +kernel)
set_option maxRecDepth 20000 in
theorem gX4_keepTurned_X4_keepZeros : GoodIn wsX4_keepTurned (wsV RX4 91 RX4 yX4_keepZeros wsX4_keepZeros) := goodIn_app (goodIn_of _ (by decide +kernel)) ggX4_keepTurned_X4_keepZeros
set_option maxRecDepth 20000 in
theorem ggX4_keepTurned_X11_byteOfPlace : GoodIn wsX4_keepTurned wsX11_byteOfPlace := goodIn_r _ [16] (by decide +kernel) (by decide +kernel)
set_option maxRecDepth 20000 in
theorem gX4_keepTurned_X11_byteOfPlace_n50 : GoodIn wsX4_keepTurned (wsX11_byteOfPlace) := ggX4_keepTurned_X11_byteOfPlace
set_option maxRecDepth 20000 in
theorem ggX4_keepTurned_X11_bitOfPlace : GoodIn wsX4_keepTurned wsX11_bitOfPlace := goodIn_r _ [18] (by decide +kernel) (by decide +kernel)
set_option maxRecDepth 20000 in
theorem gX4_keepTurned_X11_bitOfPlace_n54 : GoodIn wsX4_keepTurned (wsX11_bitOfPlace) := ggX4_keepTurned_X11_bitOfPlace
theorem dX4_keepTurned_0 : decode cX4_keepTurned 0 = .ok (.aload_n 0, 1) := by decide +kernel
theorem dX4_keepTurned_1 : decode cX4_keepTurned 1 = .ok (.iload_n 1, 1) := by decide +kernel
theorem dX4_keepTurned_2 : decode cX4_keepTurned 2 = .ok (.invokevirtual 91, 3) := by decide +kernel
theorem dX4_keepTurned_5 : decode cX4_keepTurned 5 = .ok (.iconst 0, 1) := by decide +kernel
theorem dX4_keepTurned_6 : decode cX4_keepTurned 6 = .ok (.istore 4, 2) := by decide +kernel
theorem dX4_keepTurned_8 : decode cX4_keepTurned 8 = .ok (.iload 4, 2) := by decide +kernel
theorem dX4_keepTurned_10 : decode cX4_keepTurned 10 = .ok (.iload_n 2, 1) := by decide +kernel
theorem dX4_keepTurned_11 : decode cX4_keepTurned 11 = .ok (.if_icmp .ge 74, 3) := by decide +kernel
theorem dX4_keepTurned_14 : decode cX4_keepTurned 14 = .ok (.aload_n 0, 1) := by decide +kernel
theorem dX4_keepTurned_15 : decode cX4_keepTurned 15 = .ok (.getfield 18, 3) := by decide +kernel
theorem dX4_keepTurned_18 : decode cX4_keepTurned 18 = .ok (.iload 4, 2) := by decide +kernel
theorem dX4_keepTurned_20 : decode cX4_keepTurned 20 = .ok (.iaload, 1) := by decide +kernel
theorem dX4_keepTurned_21 : decode cX4_keepTurned 21 = .ok (.invokestatic 50, 3) := by decide +kernel
theorem dX4_keepTurned_24 : decode cX4_keepTurned 24 = .ok (.istore 5, 2) := by decide +kernel
theorem dX4_keepTurned_26 : decode cX4_keepTurned 26 = .ok (.aload_n 0, 1) := by decide +kernel
theorem dX4_keepTurned_27 : decode cX4_keepTurned 27 = .ok (.getfield 18, 3) := by decide +kernel
theorem dX4_keepTurned_30 : decode cX4_keepTurned 30 = .ok (.iload 4, 2) := by decide +kernel
theorem dX4_keepTurned_32 : decode cX4_keepTurned 32 = .ok (.iaload, 1) := by decide +kernel
theorem dX4_keepTurned_33 : decode cX4_keepTurned 33 = .ok (.invokestatic 54, 3) := by decide +kernel
theorem dX4_keepTurned_36 : decode cX4_keepTurned 36 = .ok (.istore 6, 2) := by decide +kernel
theorem dX4_keepTurned_38 : decode cX4_keepTurned 38 = .ok (.iload_n 3, 1) := by decide +kernel
theorem dX4_keepTurned_39 : decode cX4_keepTurned 39 = .ok (.iload_n 2, 1) := by decide +kernel
theorem dX4_keepTurned_40 : decode cX4_keepTurned 40 = .ok (.iconst 1, 1) := by decide +kernel
theorem dX4_keepTurned_41 : decode cX4_keepTurned 41 = .ok (.isub, 1) := by decide +kernel
theorem dX4_keepTurned_42 : decode cX4_keepTurned 42 = .ok (.iload 4, 2) := by decide +kernel
theorem dX4_keepTurned_44 : decode cX4_keepTurned 44 = .ok (.isub, 1) := by decide +kernel
theorem dX4_keepTurned_45 : decode cX4_keepTurned 45 = .ok (.ishr, 1) := by decide +kernel
theorem dX4_keepTurned_46 : decode cX4_keepTurned 46 = .ok (.iconst 1, 1) := by decide +kernel
theorem dX4_keepTurned_47 : decode cX4_keepTurned 47 = .ok (.iand, 1) := by decide +kernel
theorem dX4_keepTurned_48 : decode cX4_keepTurned 48 = .ok (.iconst 1, 1) := by decide +kernel
theorem dX4_keepTurned_49 : decode cX4_keepTurned 49 = .ok (.if_icmp .ne 18, 3) := by decide +kernel
theorem dX4_keepTurned_52 : decode cX4_keepTurned 52 = .ok (.aload_n 0, 1) := by decide +kernel
theorem dX4_keepTurned_53 : decode cX4_keepTurned 53 = .ok (.getfield 25, 3) := by decide +kernel
theorem dX4_keepTurned_56 : decode cX4_keepTurned 56 = .ok (.iload 5, 2) := by decide +kernel
theorem dX4_keepTurned_58 : decode cX4_keepTurned 58 = .ok (.dup2, 1) := by decide +kernel
theorem dX4_keepTurned_59 : decode cX4_keepTurned 59 = .ok (.iaload, 1) := by decide +kernel
theorem dX4_keepTurned_60 : decode cX4_keepTurned 60 = .ok (.iload 6, 2) := by decide +kernel
theorem dX4_keepTurned_62 : decode cX4_keepTurned 62 = .ok (.ior, 1) := by decide +kernel
theorem dX4_keepTurned_63 : decode cX4_keepTurned 63 = .ok (.iastore, 1) := by decide +kernel
theorem dX4_keepTurned_64 : decode cX4_keepTurned 64 = .ok (.goto 15, 3) := by decide +kernel
theorem dX4_keepTurned_67 : decode cX4_keepTurned 67 = .ok (.aload_n 0, 1) := by decide +kernel
theorem dX4_keepTurned_68 : decode cX4_keepTurned 68 = .ok (.getfield 28, 3) := by decide +kernel
theorem dX4_keepTurned_71 : decode cX4_keepTurned 71 = .ok (.iload 5, 2) := by decide +kernel
theorem dX4_keepTurned_73 : decode cX4_keepTurned 73 = .ok (.dup2, 1) := by decide +kernel
theorem dX4_keepTurned_74 : decode cX4_keepTurned 74 = .ok (.iaload, 1) := by decide +kernel
theorem dX4_keepTurned_75 : decode cX4_keepTurned 75 = .ok (.iload 6, 2) := by decide +kernel
theorem dX4_keepTurned_77 : decode cX4_keepTurned 77 = .ok (.ior, 1) := by decide +kernel
theorem dX4_keepTurned_78 : decode cX4_keepTurned 78 = .ok (.iastore, 1) := by decide +kernel
theorem dX4_keepTurned_79 : decode cX4_keepTurned 79 = .ok (.iinc 4 1, 3) := by decide +kernel
theorem dX4_keepTurned_82 : decode cX4_keepTurned 82 = .ok (.goto (-74), 3) := by decide +kernel
theorem dX4_keepTurned_85 : decode cX4_keepTurned 85 = .ok (.return_, 1) := by decide +kernel
set_option maxRecDepth 20000 in
theorem ggX4_keepZeros_J7_fill_53178 : GoodIn wsX4_keepZeros wsJ7_fill_53178 := goodIn_r _ [7] (by decide +kernel) (by decide +kernel)
set_option maxRecDepth 20000 in
theorem gX4_keepZeros_J7_fill_53178 : GoodIn wsX4_keepZeros (va_wsS RX4 95 yJ7_fill_53178 wsJ7_fill_53178) := goodIn_app (goodIn_of _ (by decide +kernel)) ggX4_keepZeros_J7_fill_53178
theorem dX4_keepZeros_0 : decode cX4_keepZeros 0 = .ok (.aload_n 0, 1) := by decide +kernel
theorem dX4_keepZeros_1 : decode cX4_keepZeros 1 = .ok (.getfield 25, 3) := by decide +kernel
theorem dX4_keepZeros_4 : decode cX4_keepZeros 4 = .ok (.iconst 0, 1) := by decide +kernel
theorem dX4_keepZeros_5 : decode cX4_keepZeros 5 = .ok (.invokestatic 95, 3) := by decide +kernel
theorem dX4_keepZeros_8 : decode cX4_keepZeros 8 = .ok (.aload_n 0, 1) := by decide +kernel
theorem dX4_keepZeros_9 : decode cX4_keepZeros 9 = .ok (.getfield 28, 3) := by decide +kernel
theorem dX4_keepZeros_12 : decode cX4_keepZeros 12 = .ok (.iconst 0, 1) := by decide +kernel
theorem dX4_keepZeros_13 : decode cX4_keepZeros 13 = .ok (.invokestatic 95, 3) := by decide +kernel
theorem dX4_keepZeros_16 : decode cX4_keepZeros 16 = .ok (.aload_n 0, 1) := by decide +kernel
theorem dX4_keepZeros_17 : decode cX4_keepZeros 17 = .ok (.iload_n 1, 1) := by decide +kernel
theorem dX4_keepZeros_18 : decode cX4_keepZeros 18 = .ok (.putfield 31, 3) := by decide +kernel
theorem dX4_keepZeros_21 : decode cX4_keepZeros 21 = .ok (.return_, 1) := by decide +kernel
set_option maxRecDepth 20000 in
theorem ggX4_findByteSlip_X4_byteSlipChange : GoodIn wsX4_findByteSlip wsX4_byteSlipChange := goodIn_r _ [5, 6, 7, 8, 9, 4, 10, 11, 12, 13, 14, 15, 16, 17, 18, 19, 20, 21, 22, 23, 24, 25, 26, 27, 28, 29, 30, 31, 32, 33, 34, 35, 36, 37, 38, 39, 40, 41, 57, 58, 59, 60, 61, 62, 63, 64, 65, 66, 67, 68] (by decide +kernel) (by decide +kernel)
set_option maxRecDepth 20000 in
theorem gX4_findByteSlip_X4_byteSlipChange : GoodIn wsX4_findByteSlip (wsV RX4 101 RX4 yX4_byteSlipChange wsX4_byteSlipChange) := goodIn_app (goodIn_of _ (by decide +kernel)) ggX4_findByteSlip_X4_byteSlipChange
set_option maxRecDepth 20000 in
theorem ggX4_findByteSlip_X4_keepByteSlip : GoodIn wsX4_findByteSlip wsX4_keepByteSlip := goodIn_r _ [45, 46, 47, 48, 49, 50, 4, 51, 52, 53, 54, 55, 56, 57, 58, 59, 60, 61, 62, 63] (by decide +kernel) (by decide +kernel)
set_option maxRecDepth 20000 in
theorem gX4_findByteSlip_X4_keepByteSlip : GoodIn wsX4_findByteSlip (wsV RX4 105 RX4 yX4_keepByteSlip wsX4_keepByteSlip) := goodIn_app (goodIn_of _ (by decide +kernel)) ggX4_findByteSlip_X4_keepByteSlip
theorem dX4_findByteSlip_0 : decode cX4_findByteSlip 0 = .ok (.iload_n 2, 1) := by decide +kernel
theorem dX4_findByteSlip_1 : decode cX4_findByteSlip 1 = .ok (.iconst 2, 1) := by decide +kernel
theorem dX4_findByteSlip_2 : decode cX4_findByteSlip 2 = .ok (.if_icmp .ne 7, 3) := by decide +kernel
theorem dX4_findByteSlip_5 : decode cX4_findByteSlip 5 = .ok (.iconst 0, 1) := by decide +kernel
theorem dX4_findByteSlip_6 : decode cX4_findByteSlip 6 = .ok (.goto 13, 3) := by decide +kernel
theorem dX4_findByteSlip_9 : decode cX4_findByteSlip 9 = .ok (.iload_n 2, 1) := by decide +kernel
theorem dX4_findByteSlip_10 : decode cX4_findByteSlip 10 = .ok (.iconst 4, 1) := by decide +kernel
theorem dX4_findByteSlip_11 : decode cX4_findByteSlip 11 = .ok (.if_icmp .ne 7, 3) := by decide +kernel
theorem dX4_findByteSlip_14 : decode cX4_findByteSlip 14 = .ok (.iconst 2, 1) := by decide +kernel
theorem dX4_findByteSlip_15 : decode cX4_findByteSlip 15 = .ok (.goto 4, 3) := by decide +kernel
theorem dX4_findByteSlip_18 : decode cX4_findByteSlip 18 = .ok (.iconst 1, 1) := by decide +kernel
theorem dX4_findByteSlip_19 : decode cX4_findByteSlip 19 = .ok (.istore 4, 2) := by decide +kernel
theorem dX4_findByteSlip_21 : decode cX4_findByteSlip 21 = .ok (.iconst 0, 1) := by decide +kernel
theorem dX4_findByteSlip_22 : decode cX4_findByteSlip 22 = .ok (.istore 5, 2) := by decide +kernel
theorem dX4_findByteSlip_24 : decode cX4_findByteSlip 24 = .ok (.iload 5, 2) := by decide +kernel
theorem dX4_findByteSlip_26 : decode cX4_findByteSlip 26 = .ok (.iload 4, 2) := by decide +kernel
theorem dX4_findByteSlip_28 : decode cX4_findByteSlip 28 = .ok (.iadd, 1) := by decide +kernel
theorem dX4_findByteSlip_29 : decode cX4_findByteSlip 29 = .ok (.iload_n 3, 1) := by decide +kernel
theorem dX4_findByteSlip_30 : decode cX4_findByteSlip 30 = .ok (.if_icmp .ge 63, 3) := by decide +kernel
theorem dX4_findByteSlip_33 : decode cX4_findByteSlip 33 = .ok (.iconst 1, 1) := by decide +kernel
theorem dX4_findByteSlip_34 : decode cX4_findByteSlip 34 = .ok (.istore 6, 2) := by decide +kernel
theorem dX4_findByteSlip_36 : decode cX4_findByteSlip 36 = .ok (.iload 6, 2) := by decide +kernel
theorem dX4_findByteSlip_38 : decode cX4_findByteSlip 38 = .ok (.sipush 255, 3) := by decide +kernel
theorem dX4_findByteSlip_41 : decode cX4_findByteSlip 41 = .ok (.if_icmp .gt 46, 3) := by decide +kernel
theorem dX4_findByteSlip_44 : decode cX4_findByteSlip 44 = .ok (.aload_n 0, 1) := by decide +kernel
theorem dX4_findByteSlip_45 : decode cX4_findByteSlip 45 = .ok (.aload_n 1, 1) := by decide +kernel
theorem dX4_findByteSlip_46 : decode cX4_findByteSlip 46 = .ok (.iload_n 2, 1) := by decide +kernel
theorem dX4_findByteSlip_47 : decode cX4_findByteSlip 47 = .ok (.iload 5, 2) := by decide +kernel
theorem dX4_findByteSlip_49 : decode cX4_findByteSlip 49 = .ok (.iload 5, 2) := by decide +kernel
theorem dX4_findByteSlip_51 : decode cX4_findByteSlip 51 = .ok (.iload 4, 2) := by decide +kernel
theorem dX4_findByteSlip_53 : decode cX4_findByteSlip 53 = .ok (.iadd, 1) := by decide +kernel
theorem dX4_findByteSlip_54 : decode cX4_findByteSlip 54 = .ok (.iload 6, 2) := by decide +kernel
theorem dX4_findByteSlip_56 : decode cX4_findByteSlip 56 = .ok (.invokevirtual 101, 3) := by decide +kernel
theorem dX4_findByteSlip_59 : decode cX4_findByteSlip 59 = .ok (.lconst 0, 1) := by decide +kernel
theorem dX4_findByteSlip_60 : decode cX4_findByteSlip 60 = .ok (.lcmp, 1) := by decide +kernel
theorem dX4_findByteSlip_61 : decode cX4_findByteSlip 61 = .ok (.ifCond .ne 20, 3) := by decide +kernel
theorem dX4_findByteSlip_64 : decode cX4_findByteSlip 64 = .ok (.aload_n 0, 1) := by decide +kernel
theorem dX4_findByteSlip_65 : decode cX4_findByteSlip 65 = .ok (.iload_n 2, 1) := by decide +kernel
theorem dX4_findByteSlip_66 : decode cX4_findByteSlip 66 = .ok (.iload_n 3, 1) := by decide +kernel
theorem dX4_findByteSlip_67 : decode cX4_findByteSlip 67 = .ok (.iload 5, 2) := by decide +kernel
theorem dX4_findByteSlip_69 : decode cX4_findByteSlip 69 = .ok (.iload 5, 2) := by decide +kernel
theorem dX4_findByteSlip_71 : decode cX4_findByteSlip 71 = .ok (.iload 4, 2) := by decide +kernel
theorem dX4_findByteSlip_73 : decode cX4_findByteSlip 73 = .ok (.iadd, 1) := by decide +kernel
theorem dX4_findByteSlip_74 : decode cX4_findByteSlip 74 = .ok (.iload 6, 2) := by decide +kernel
theorem dX4_findByteSlip_76 : decode cX4_findByteSlip 76 = .ok (.invokevirtual 105, 3) := by decide +kernel
theorem dX4_findByteSlip_79 : decode cX4_findByteSlip 79 = .ok (.iconst 1, 1) := by decide +kernel
theorem dX4_findByteSlip_80 : decode cX4_findByteSlip 80 = .ok (.ireturn, 1) := by decide +kernel
theorem dX4_findByteSlip_81 : decode cX4_findByteSlip 81 = .ok (.iinc 6 1, 3) := by decide +kernel
theorem dX4_findByteSlip_84 : decode cX4_findByteSlip 84 = .ok (.goto (-48), 3) := by decide +kernel
theorem dX4_findByteSlip_87 : decode cX4_findByteSlip 87 = .ok (.iinc 5 1, 3) := by decide +kernel
theorem dX4_findByteSlip_90 : decode cX4_findByteSlip 90 = .ok (.goto (-66), 3) := by decide +kernel
theorem dX4_findByteSlip_93 : decode cX4_findByteSlip 93 = .ok (.iconst 0, 1) := by decide +kernel
theorem dX4_findByteSlip_94 : decode cX4_findByteSlip 94 = .ok (.ireturn, 1) := by decide +kernel
set_option maxRecDepth 20000 in
theorem ggX4_byteSlipChange_X4_mergedBits : GoodIn wsX4_byteSlipChange wsX4_mergedBits := goodIn_r _ [6, 7, 8, 9, 10, 11, 12, 13, 14, 15, 16, 17, 18, 19, 20, 21, 22, 23, 24, 25, 26, 27, 28, 29, 30, 31, 32, 33, 34, 35, 36, 37, 45, 46, 47, 48, 49] (by decide +kernel) (by decide +kernel)
set_option maxRecDepth 20000 in
theorem gX4_byteSlipChange_X4_mergedBits : GoodIn wsX4_byteSlipChange (va_wsS RX4 109 yX4_mergedBits wsX4_mergedBits) := goodIn_app (goodIn_of _ (by decide +kernel)) ggX4_byteSlipChange_X4_mergedBits
set_option maxRecDepth 20000 in
theorem ggX4_byteSlipChange_X1_merged : GoodIn wsX4_byteSlipChange wsX1_merged := goodIn_r _ [12] (by decide +kernel) (by decide +kernel)
set_option maxRecDepth 20000 in
theorem gX4_byteSlipChange_X1_merged_u87X1 : GoodIn wsX4_byteSlipChange (va_wsU RX4 87 RX1 "SumSmith$Linear" ⟨"SumSmith$Linear", "merged", "(JJ)J"⟩ yX1_merged wsX1_merged) := goodIn_app (goodIn_of _ (by decide +kernel)) ggX4_byteSlipChange_X1_merged
set_option maxRecDepth 20000 in
theorem ggX4_byteSlipChange_X8_merged : GoodIn wsX4_byteSlipChange wsX8_merged := goodIn_r _ [16] (by decide +kernel) (by decide +kernel)
set_option maxRecDepth 20000 in
theorem gX4_byteSlipChange_X8_merged_u87X8 : GoodIn wsX4_byteSlipChange (va_wsU RX4 87 RX8 "SumSmith$Linear" ⟨"SumSmith$Linear", "merged", "(JJ)J"⟩ yX8_merged wsX8_merged) := goodIn_app (goodIn_of _ (by decide +kernel)) ggX4_byteSlipChange_X8_merged
set_option maxRecDepth 20000 in
theorem ggX4_byteSlipChange_X9_merged : GoodIn wsX4_byteSlipChange wsX9_merged := goodIn_r _ [20, 21, 22, 23, 19, 24, 25, 26, 27, 28, 29, 30, 31, 32, 45, 46] (by decide +kernel) (by decide +kernel)
set_option maxRecDepth 20000 in
theorem gX4_byteSlipChange_X9_merged_u87X9 : GoodIn wsX4_byteSlipChange (va_wsU RX4 87 RX9 "SumSmith$Linear" ⟨"SumSmith$Linear", "merged", "(JJ)J"⟩ yX9_merged wsX9_merged) := goodIn_app (goodIn_of _ (by decide +kernel)) ggX4_byteSlipChange_X9_merged
set_option maxRecDepth 20000 in
theorem ggX4_byteSlipChange_X10_merged : GoodIn wsX4_byteSlipChange wsX10_merged := goodIn_r _ [36, 37, 47, 48, 49] (by decide +kernel) (by decide +kernel)
set_option maxRecDepth 20000 in
theorem gX4_byteSlipChange_X10_merged_u87X10 : GoodIn wsX4_byteSlipChange (va_wsU RX4 87 RX10 "SumSmith$Linear" ⟨"SumSmith$Linear", "merged", "(JJ)J"⟩ yX10_merged wsX10_merged) := goodIn_app (goodIn_of _ (by decide +kernel)) ggX4_byteSlipChange_X10_merged
theorem dX4_byteSlipChange_0 : decode cX4_byteSlipChange 0 = .ok (.aload_n 1, 1) := by decide +kernel
theorem dX4_byteSlipChange_1 : decode cX4_byteSlipChange 1 = .ok (.aload_n 0, 1) := by decide +kernel
theorem dX4_byteSlipChange_2 : decode cX4_byteSlipChange 2 = .ok (.getfield 9, 3) := by decide +kernel
theorem dX4_byteSlipChange_5 : decode cX4_byteSlipChange 5 = .ok (.iload_n 3, 1) := by decide +kernel
theorem dX4_byteSlipChange_6 : decode cX4_byteSlipChange 6 = .ok (.iload 5, 2) := by decide +kernel
theorem dX4_byteSlipChange_8 : decode cX4_byteSlipChange 8 = .ok (.invokestatic 109, 3) := by decide +kernel
theorem dX4_byteSlipChange_11 : decode cX4_byteSlipChange 11 = .ok (.lstore 6, 2) := by decide +kernel
theorem dX4_byteSlipChange_13 : decode cX4_byteSlipChange 13 = .ok (.iload_n 2, 1) := by decide +kernel
theorem dX4_byteSlipChange_14 : decode cX4_byteSlipChange 14 = .ok (.iconst 2, 1) := by decide +kernel
theorem dX4_byteSlipChange_15 : decode cX4_byteSlipChange 15 = .ok (.if_icmp .ne 6, 3) := by decide +kernel
theorem dX4_byteSlipChange_18 : decode cX4_byteSlipChange 18 = .ok (.lload 6, 2) := by decide +kernel
theorem dX4_byteSlipChange_20 : decode cX4_byteSlipChange 20 = .ok (.lreturn, 1) := by decide +kernel
theorem dX4_byteSlipChange_21 : decode cX4_byteSlipChange 21 = .ok (.aload_n 1, 1) := by decide +kernel
theorem dX4_byteSlipChange_22 : decode cX4_byteSlipChange 22 = .ok (.lload 6, 2) := by decide +kernel
theorem dX4_byteSlipChange_24 : decode cX4_byteSlipChange 24 = .ok (.aload_n 1, 1) := by decide +kernel
theorem dX4_byteSlipChange_25 : decode cX4_byteSlipChange 25 = .ok (.iload_n 2, 1) := by decide +kernel
theorem dX4_byteSlipChange_26 : decode cX4_byteSlipChange 26 = .ok (.iconst 5, 1) := by decide +kernel
theorem dX4_byteSlipChange_27 : decode cX4_byteSlipChange 27 = .ok (.if_icmp .ne 10, 3) := by decide +kernel
theorem dX4_byteSlipChange_30 : decode cX4_byteSlipChange 30 = .ok (.aload_n 0, 1) := by decide +kernel
theorem dX4_byteSlipChange_31 : decode cX4_byteSlipChange 31 = .ok (.getfield 9, 3) := by decide +kernel
theorem dX4_byteSlipChange_34 : decode cX4_byteSlipChange 34 = .ok (.goto 7, 3) := by decide +kernel
theorem dX4_byteSlipChange_37 : decode cX4_byteSlipChange 37 = .ok (.aload_n 0, 1) := by decide +kernel
theorem dX4_byteSlipChange_38 : decode cX4_byteSlipChange 38 = .ok (.getfield 15, 3) := by decide +kernel
theorem dX4_byteSlipChange_41 : decode cX4_byteSlipChange 41 = .ok (.iload 4, 2) := by decide +kernel
theorem dX4_byteSlipChange_43 : decode cX4_byteSlipChange 43 = .ok (.iload 5, 2) := by decide +kernel
theorem dX4_byteSlipChange_45 : decode cX4_byteSlipChange 45 = .ok (.invokestatic 109, 3) := by decide +kernel
theorem dX4_byteSlipChange_48 : decode cX4_byteSlipChange 48 = .ok (.invokevirtual 87, 3) := by decide +kernel
theorem dX4_byteSlipChange_51 : decode cX4_byteSlipChange 51 = .ok (.lreturn, 1) := by decide +kernel
set_option maxRecDepth 20000 in
theorem ggX4_mergedBits_X1_merged : GoodIn wsX4_mergedBits wsX1_merged := goodIn_r _ [6] (by decide +kernel) (by decide +kernel)
set_option maxRecDepth 20000 in
theorem gX4_mergedBits_X1_merged_u87X1 : GoodIn wsX4_mergedBits (va_wsU RX4 87 RX1 "SumSmith$Linear" ⟨"SumSmith$Linear", "merged", "(JJ)J"⟩ yX1_merged wsX1_merged) := goodIn_app (goodIn_of _ (by decide +kernel)) ggX4_mergedBits_X1_merged
set_option maxRecDepth 20000 in
theorem ggX4_mergedBits_X8_merged : GoodIn wsX4_mergedBits wsX8_merged := goodIn_r _ [10] (by decide +kernel) (by decide +kernel)
set_option maxRecDepth 20000 in
theorem gX4_mergedBits_X8_merged_u87X8 : GoodIn wsX4_mergedBits (va_wsU RX4 87 RX8 "SumSmith$Linear" ⟨"SumSmith$Linear", "merged", "(JJ)J"⟩ yX8_merged wsX8_merged) := goodIn_app (goodIn_of _ (by decide +kernel)) ggX4_mergedBits_X8_merged
set_option maxRecDepth 20000 in
theorem ggX4_mergedBits_X9_merged : GoodIn wsX4_mergedBits wsX9_merged := goodIn_r _ [14, 15, 16, 17, 13, 18, 19, 20, 21, 22, 23, 24, 25, 26, 32, 33] (by decide +kernel) (by decide +kernel)
set_option maxRecDepth 20000 in
theorem gX4_mergedBits_X9_merged_u87X9 : GoodIn wsX4_mergedBits (va_wsU RX4 87 RX9 "SumSmith$Linear" ⟨"SumSmith$Linear", "merged", "(JJ)J"⟩ yX9_merged wsX9_merged) := goodIn_app (goodIn_of _ (by decide +kernel)) ggX4_mergedBits_X9_merged
set_option maxRecDepth 20000 in
theorem ggX4_mergedBits_X10_merged : GoodIn wsX4_mergedBits wsX10_merged := goodIn_r _ [30, 31, 34, 35, 36] (by decide +kernel) (by decide +kernel)
set_option maxRecDepth 20000 in
theorem gX4_mergedBits_X10_merged_u87X10 : GoodIn wsX4_mergedBits (va_wsU RX4 87 RX10 "SumSmith$Linear" ⟨"SumSmith$Linear", "merged", "(JJ)J"⟩ yX10_merged wsX10_merged) := goodIn_app (goodIn_of _ (by decide +kernel)) ggX4_mergedBits_X10_merged
theorem dX4_mergedBits_0 : decode cX4_mergedBits 0 = .ok (.lconst 0, 1) := by decide +kernel
theorem dX4_mergedBits_1 : decode cX4_mergedBits 1 = .ok (.lstore 4, 2) := by decide +kernel
theorem dX4_mergedBits_3 : decode cX4_mergedBits 3 = .ok (.iconst 0, 1) := by decide +kernel
theorem dX4_mergedBits_4 : decode cX4_mergedBits 4 = .ok (.istore 6, 2) := by decide +kernel
theorem dX4_mergedBits_6 : decode cX4_mergedBits 6 = .ok (.iload 6, 2) := by decide +kernel
theorem dX4_mergedBits_8 : decode cX4_mergedBits 8 = .ok (.bipush 8, 2) := by decide +kernel
theorem dX4_mergedBits_10 : decode cX4_mergedBits 10 = .ok (.if_icmp .ge 37, 3) := by decide +kernel
theorem dX4_mergedBits_13 : decode cX4_mergedBits 13 = .ok (.iload_n 3, 1) := by decide +kernel
theorem dX4_mergedBits_14 : decode cX4_mergedBits 14 = .ok (.sipush 128, 3) := by decide +kernel
theorem dX4_mergedBits_17 : decode cX4_mergedBits 17 = .ok (.iload 6, 2) := by decide +kernel
theorem dX4_mergedBits_19 : decode cX4_mergedBits 19 = .ok (.ishr, 1) := by decide +kernel
theorem dX4_mergedBits_20 : decode cX4_mergedBits 20 = .ok (.iand, 1) := by decide +kernel
theorem dX4_mergedBits_21 : decode cX4_mergedBits 21 = .ok (.ifCond .eq 20, 3) := by decide +kernel
theorem dX4_mergedBits_24 : decode cX4_mergedBits 24 = .ok (.aload_n 0, 1) := by decide +kernel
theorem dX4_mergedBits_25 : decode cX4_mergedBits 25 = .ok (.lload 4, 2) := by decide +kernel
theorem dX4_mergedBits_27 : decode cX4_mergedBits 27 = .ok (.aload_n 1, 1) := by decide +kernel
theorem dX4_mergedBits_28 : decode cX4_mergedBits 28 = .ok (.bipush 8, 2) := by decide +kernel
theorem dX4_mergedBits_30 : decode cX4_mergedBits 30 = .ok (.iload_n 2, 1) := by decide +kernel
theorem dX4_mergedBits_31 : decode cX4_mergedBits 31 = .ok (.imul, 1) := by decide +kernel
theorem dX4_mergedBits_32 : decode cX4_mergedBits 32 = .ok (.iload 6, 2) := by decide +kernel
theorem dX4_mergedBits_34 : decode cX4_mergedBits 34 = .ok (.iadd, 1) := by decide +kernel
theorem dX4_mergedBits_35 : decode cX4_mergedBits 35 = .ok (.laload, 1) := by decide +kernel
theorem dX4_mergedBits_36 : decode cX4_mergedBits 36 = .ok (.invokevirtual 87, 3) := by decide +kernel
theorem dX4_mergedBits_39 : decode cX4_mergedBits 39 = .ok (.lstore 4, 2) := by decide +kernel
theorem dX4_mergedBits_41 : decode cX4_mergedBits 41 = .ok (.iinc 6 1, 3) := by decide +kernel
theorem dX4_mergedBits_44 : decode cX4_mergedBits 44 = .ok (.goto (-38), 3) := by decide +kernel
theorem dX4_mergedBits_47 : decode cX4_mergedBits 47 = .ok (.lload 4, 2) := by decide +kernel
theorem dX4_mergedBits_49 : decode cX4_mergedBits 49 = .ok (.lreturn, 1) := by decide +kernel
set_option maxRecDepth 20000 in
theorem ggX4_keepByteSlip_X4_keepZeros : GoodIn wsX4_keepByteSlip wsX4_keepZeros := goodIn_r _ [7, 2, 1, 8, 9, 10, 11, 12, 13, 14, 15, 16, 17, 18, 19] (by decide +kernel) (by decide +kernel)
set_option maxRecDepth 20000 in
theorem gX4_keepByteSlip_X4_keepZeros : GoodIn wsX4_keepByteSlip (wsV RX4 91 RX4 yX4_keepZeros wsX4_keepZeros) := goodIn_app (goodIn_of _ (by decide +kernel)) ggX4_keepByteSlip_X4_keepZeros
theorem dX4_keepByteSlip_0 : decode cX4_keepByteSlip 0 = .ok (.aload_n 0, 1) := by decide +kernel
theorem dX4_keepByteSlip_1 : decode cX4_keepByteSlip 1 = .ok (.iload_n 2, 1) := by decide +kernel
theorem dX4_keepByteSlip_2 : decode cX4_keepByteSlip 2 = .ok (.invokevirtual 91, 3) := by decide +kernel
theorem dX4_keepByteSlip_5 : decode cX4_keepByteSlip 5 = .ok (.aload_n 0, 1) := by decide +kernel
theorem dX4_keepByteSlip_6 : decode cX4_keepByteSlip 6 = .ok (.getfield 28, 3) := by decide +kernel
theorem dX4_keepByteSlip_9 : decode cX4_keepByteSlip 9 = .ok (.iload_n 3, 1) := by decide +kernel
theorem dX4_keepByteSlip_10 : decode cX4_keepByteSlip 10 = .ok (.iload 5, 2) := by decide +kernel
theorem dX4_keepByteSlip_12 : decode cX4_keepByteSlip 12 = .ok (.iastore, 1) := by decide +kernel
theorem dX4_keepByteSlip_13 : decode cX4_keepByteSlip 13 = .ok (.iload_n 1, 1) := by decide +kernel
theorem dX4_keepByteSlip_14 : decode cX4_keepByteSlip 14 = .ok (.iconst 5, 1) := by decide +kernel
theorem dX4_keepByteSlip_15 : decode cX4_keepByteSlip 15 = .ok (.if_icmp .ne 15, 3) := by decide +kernel
theorem dX4_keepByteSlip_18 : decode cX4_keepByteSlip 18 = .ok (.aload_n 0, 1) := by decide +kernel
theorem dX4_keepByteSlip_19 : decode cX4_keepByteSlip 19 = .ok (.getfield 28, 3) := by decide +kernel
theorem dX4_keepByteSlip_22 : decode cX4_keepByteSlip 22 = .ok (.iload 4, 2) := by decide +kernel
theorem dX4_keepByteSlip_24 : decode cX4_keepByteSlip 24 = .ok (.iload 5, 2) := by decide +kernel
theorem dX4_keepByteSlip_26 : decode cX4_keepByteSlip 26 = .ok (.iastore, 1) := by decide +kernel
theorem dX4_keepByteSlip_27 : decode cX4_keepByteSlip 27 = .ok (.goto 17, 3) := by decide +kernel
theorem dX4_keepByteSlip_30 : decode cX4_keepByteSlip 30 = .ok (.iload_n 1, 1) := by decide +kernel
theorem dX4_keepByteSlip_31 : decode cX4_keepByteSlip 31 = .ok (.iconst 2, 1) := by decide +kernel
theorem dX4_keepByteSlip_32 : decode cX4_keepByteSlip 32 = .ok (.if_icmp .eq 12, 3) := by decide +kernel
theorem dX4_keepByteSlip_35 : decode cX4_keepByteSlip 35 = .ok (.aload_n 0, 1) := by decide +kernel
theorem dX4_keepByteSlip_36 : decode cX4_keepByteSlip 36 = .ok (.getfield 25, 3) := by decide +kernel
theorem dX4_keepByteSlip_39 : decode cX4_keepByteSlip 39 = .ok (.iload 4, 2) := by decide +kernel
theorem dX4_keepByteSlip_41 : decode cX4_keepByteSlip 41 = .ok (.iload 5, 2) := by decide +kernel
theorem dX4_keepByteSlip_43 : decode cX4_keepByteSlip 43 = .ok (.iastore, 1) := by decide +kernel
theorem dX4_keepByteSlip_44 : decode cX4_keepByteSlip 44 = .ok (.return_, 1) := by decide +kernel
set_option maxRecDepth 20000 in
theorem ggX5_init_X6_init : GoodIn wsX5_init wsX6_init := goodIn_r _ [6, 7, 8, 9, 10, 14, 15, 16, 17, 18, 19, 11, 12, 13, 20, 21, 22, 23, 24, 25, 26, 27] (by decide +kernel) (by decide +kernel)
set_option maxRecDepth 20000 in
theorem gX5_init_X6_init : GoodIn wsX5_init (wsX6_init) := ggX5_init_X6_init
theorem dX5_init_0 : decode cX5_init 0 = .ok (.aload_n 0, 1) := by decide +kernel
theorem dX5_init_1 : decode cX5_init 1 = .ok (.bipush 6, 2) := by decide +kernel
theorem dX5_init_3 : decode cX5_init 3 = .ok (.invokespecial 3, 3) := by decide +kernel
theorem dX5_init_6 : decode cX5_init 6 = .ok (.aload_n 0, 1) := by decide +kernel
theorem dX5_init_7 : decode cX5_init 7 = .ok (.iload_n 1, 1) := by decide +kernel
theorem dX5_init_8 : decode cX5_init 8 = .ok (.putfield 9, 3) := by decide +kernel
theorem dX5_init_11 : decode cX5_init 11 = .ok (.aload_n 0, 1) := by decide +kernel
theorem dX5_init_12 : decode cX5_init 12 = .ok (.aload_n 2, 1) := by decide +kernel
theorem dX5_init_13 : decode cX5_init 13 = .ok (.putfield 15, 3) := by decide +kernel
theorem dX5_init_16 : decode cX5_init 16 = .ok (.return_, 1) := by decide +kernel
set_option maxRecDepth 20000 in
theorem ggX5_ofRow_X5_cell : GoodIn wsX5_ofRow wsX5_cell := goodIn_r _ [7, 8, 1, 9, 10, 11] (by decide +kernel) (by decide +kernel)
set_option maxRecDepth 20000 in
theorem gX5_ofRow_X5_cell : GoodIn wsX5_ofRow (wsV RX5 21 RX5 yX5_cell wsX5_cell) := goodIn_app (goodIn_of _ (by decide +kernel)) ggX5_ofRow_X5_cell
theorem dX5_ofRow_0 : decode cX5_ofRow 0 = .ok (.iconst 0, 1) := by decide +kernel
theorem dX5_ofRow_1 : decode cX5_ofRow 1 = .ok (.istore_n 3, 1) := by decide +kernel
theorem dX5_ofRow_2 : decode cX5_ofRow 2 = .ok (.iconst 0, 1) := by decide +kernel
theorem dX5_ofRow_3 : decode cX5_ofRow 3 = .ok (.istore 4, 2) := by decide +kernel
theorem dX5_ofRow_5 : decode cX5_ofRow 5 = .ok (.iload 4, 2) := by decide +kernel
theorem dX5_ofRow_7 : decode cX5_ofRow 7 = .ok (.iload_n 2, 1) := by decide +kernel
theorem dX5_ofRow_8 : decode cX5_ofRow 8 = .ok (.if_icmp .ge 34, 3) := by decide +kernel
theorem dX5_ofRow_11 : decode cX5_ofRow 11 = .ok (.aload_n 1, 1) := by decide +kernel
theorem dX5_ofRow_12 : decode cX5_ofRow 12 = .ok (.iload 4, 2) := by decide +kernel
theorem dX5_ofRow_14 : decode cX5_ofRow 14 = .ok (.iaload, 1) := by decide +kernel
theorem dX5_ofRow_15 : decode cX5_ofRow 15 = .ok (.aload_n 0, 1) := by decide +kernel
theorem dX5_ofRow_16 : decode cX5_ofRow 16 = .ok (.getfield 9, 3) := by decide +kernel
theorem dX5_ofRow_19 : decode cX5_ofRow 19 = .ok (.if_icmp .lt 7, 3) := by decide +kernel
theorem dX5_ofRow_22 : decode cX5_ofRow 22 = .ok (.ldc2_w 19, 3) := by decide +kernel
theorem dX5_ofRow_25 : decode cX5_ofRow 25 = .ok (.lreturn, 1) := by decide +kernel
theorem dX5_ofRow_26 : decode cX5_ofRow 26 = .ok (.aload_n 0, 1) := by decide +kernel
theorem dX5_ofRow_27 : decode cX5_ofRow 27 = .ok (.iload_n 3, 1) := by decide +kernel
theorem dX5_ofRow_28 : decode cX5_ofRow 28 = .ok (.aload_n 1, 1) := by decide +kernel
theorem dX5_ofRow_29 : decode cX5_ofRow 29 = .ok (.iload 4, 2) := by decide +kernel
theorem dX5_ofRow_31 : decode cX5_ofRow 31 = .ok (.iaload, 1) := by decide +kernel
theorem dX5_ofRow_32 : decode cX5_ofRow 32 = .ok (.invokevirtual 21, 3) := by decide +kernel
theorem dX5_ofRow_35 : decode cX5_ofRow 35 = .ok (.istore_n 3, 1) := by decide +kernel
theorem dX5_ofRow_36 : decode cX5_ofRow 36 = .ok (.iinc 4 1, 3) := by decide +kernel
theorem dX5_ofRow_39 : decode cX5_ofRow 39 = .ok (.goto (-34), 3) := by decide +kernel
theorem dX5_ofRow_42 : decode cX5_ofRow 42 = .ok (.iload_n 3, 1) := by decide +kernel
theorem dX5_ofRow_43 : decode cX5_ofRow 43 = .ok (.i2l, 1) := by decide +kernel
theorem dX5_ofRow_44 : decode cX5_ofRow 44 = .ok (.lreturn, 1) := by decide +kernel
theorem dX5_cell_0 : decode cX5_cell 0 = .ok (.aload_n 0, 1) := by decide +kernel
theorem dX5_cell_1 : decode cX5_cell 1 = .ok (.getfield 15, 3) := by decide +kernel
theorem dX5_cell_4 : decode cX5_cell 4 = .ok (.aload_n 0, 1) := by decide +kernel
theorem dX5_cell_5 : decode cX5_cell 5 = .ok (.getfield 9, 3) := by decide +kernel
theorem dX5_cell_8 : decode cX5_cell 8 = .ok (.iload_n 1, 1) := by decide +kernel
theorem dX5_cell_9 : decode cX5_cell 9 = .ok (.imul, 1) := by decide +kernel
theorem dX5_cell_10 : decode cX5_cell 10 = .ok (.iload_n 2, 1) := by decide +kernel
theorem dX5_cell_11 : decode cX5_cell 11 = .ok (.iadd, 1) := by decide +kernel
theorem dX5_cell_12 : decode cX5_cell 12 = .ok (.iaload, 1) := by decide +kernel
theorem dX5_cell_13 : decode cX5_cell 13 = .ok (.ireturn, 1) := by decide +kernel
set_option maxRecDepth 20000 in
theorem ggX5_seesSingles_X5_cell : GoodIn wsX5_seesSingles wsX5_cell := goodIn_r _ [6, 7, 1, 8, 9, 10] (by decide +kernel) (by decide +kernel)
set_option maxRecDepth 20000 in
theorem gX5_seesSingles_X5_cell : GoodIn wsX5_seesSingles (wsV RX5 21 RX5 yX5_cell wsX5_cell) := goodIn_app (goodIn_of _ (by decide +kernel)) ggX5_seesSingles_X5_cell
theorem dX5_seesSingles_0 : decode cX5_seesSingles 0 = .ok (.iconst 0, 1) := by decide +kernel
theorem dX5_seesSingles_1 : decode cX5_seesSingles 1 = .ok (.istore_n 1, 1) := by decide +kernel
theorem dX5_seesSingles_2 : decode cX5_seesSingles 2 = .ok (.iload_n 1, 1) := by decide +kernel
theorem dX5_seesSingles_3 : decode cX5_seesSingles 3 = .ok (.aload_n 0, 1) := by decide +kernel
theorem dX5_seesSingles_4 : decode cX5_seesSingles 4 = .ok (.getfield 9, 3) := by decide +kernel
theorem dX5_seesSingles_7 : decode cX5_seesSingles 7 = .ok (.if_icmp .ge 75, 3) := by decide +kernel
theorem dX5_seesSingles_10 : decode cX5_seesSingles 10 = .ok (.iconst 0, 1) := by decide +kernel
theorem dX5_seesSingles_11 : decode cX5_seesSingles 11 = .ok (.istore_n 2, 1) := by decide +kernel
theorem dX5_seesSingles_12 : decode cX5_seesSingles 12 = .ok (.iload_n 2, 1) := by decide +kernel
theorem dX5_seesSingles_13 : decode cX5_seesSingles 13 = .ok (.aload_n 0, 1) := by decide +kernel
theorem dX5_seesSingles_14 : decode cX5_seesSingles 14 = .ok (.getfield 9, 3) := by decide +kernel
theorem dX5_seesSingles_17 : decode cX5_seesSingles 17 = .ok (.if_icmp .ge 59, 3) := by decide +kernel
theorem dX5_seesSingles_20 : decode cX5_seesSingles 20 = .ok (.iload_n 2, 1) := by decide +kernel
theorem dX5_seesSingles_21 : decode cX5_seesSingles 21 = .ok (.iconst 1, 1) := by decide +kernel
theorem dX5_seesSingles_22 : decode cX5_seesSingles 22 = .ok (.iadd, 1) := by decide +kernel
theorem dX5_seesSingles_23 : decode cX5_seesSingles 23 = .ok (.istore_n 3, 1) := by decide +kernel
theorem dX5_seesSingles_24 : decode cX5_seesSingles 24 = .ok (.iload_n 3, 1) := by decide +kernel
theorem dX5_seesSingles_25 : decode cX5_seesSingles 25 = .ok (.aload_n 0, 1) := by decide +kernel
theorem dX5_seesSingles_26 : decode cX5_seesSingles 26 = .ok (.getfield 9, 3) := by decide +kernel
theorem dX5_seesSingles_29 : decode cX5_seesSingles 29 = .ok (.if_icmp .ge 41, 3) := by decide +kernel
theorem dX5_seesSingles_32 : decode cX5_seesSingles 32 = .ok (.aload_n 0, 1) := by decide +kernel
theorem dX5_seesSingles_33 : decode cX5_seesSingles 33 = .ok (.iload_n 1, 1) := by decide +kernel
theorem dX5_seesSingles_34 : decode cX5_seesSingles 34 = .ok (.iload_n 2, 1) := by decide +kernel
theorem dX5_seesSingles_35 : decode cX5_seesSingles 35 = .ok (.invokevirtual 21, 3) := by decide +kernel
theorem dX5_seesSingles_38 : decode cX5_seesSingles 38 = .ok (.aload_n 0, 1) := by decide +kernel
theorem dX5_seesSingles_39 : decode cX5_seesSingles 39 = .ok (.iload_n 1, 1) := by decide +kernel
theorem dX5_seesSingles_40 : decode cX5_seesSingles 40 = .ok (.iload_n 3, 1) := by decide +kernel
theorem dX5_seesSingles_41 : decode cX5_seesSingles 41 = .ok (.invokevirtual 21, 3) := by decide +kernel
theorem dX5_seesSingles_44 : decode cX5_seesSingles 44 = .ok (.if_icmp .eq 18, 3) := by decide +kernel
theorem dX5_seesSingles_47 : decode cX5_seesSingles 47 = .ok (.aload_n 0, 1) := by decide +kernel
theorem dX5_seesSingles_48 : decode cX5_seesSingles 48 = .ok (.iload_n 2, 1) := by decide +kernel
theorem dX5_seesSingles_49 : decode cX5_seesSingles 49 = .ok (.iload_n 1, 1) := by decide +kernel
theorem dX5_seesSingles_50 : decode cX5_seesSingles 50 = .ok (.invokevirtual 21, 3) := by decide +kernel
theorem dX5_seesSingles_53 : decode cX5_seesSingles 53 = .ok (.aload_n 0, 1) := by decide +kernel
theorem dX5_seesSingles_54 : decode cX5_seesSingles 54 = .ok (.iload_n 3, 1) := by decide +kernel
theorem dX5_seesSingles_55 : decode cX5_seesSingles 55 = .ok (.iload_n 1, 1) := by decide +kernel
theorem dX5_seesSingles_56 : decode cX5_seesSingles 56 = .ok (.invokevirtual 21, 3) := by decide +kernel
theorem dX5_seesSingles_59 : decode cX5_seesSingles 59 = .ok (.if_icmp .ne 5, 3) := by decide +kernel
theorem dX5_seesSingles_62 : decode cX5_seesSingles 62 = .ok (.iconst 0, 1) := by decide +kernel
theorem dX5_seesSingles_63 : decode cX5_seesSingles 63 = .ok (.ireturn, 1) := by decide +kernel
theorem dX5_seesSingles_64 : decode cX5_seesSingles 64 = .ok (.iinc 3 1, 3) := by decide +kernel
theorem dX5_seesSingles_67 : decode cX5_seesSingles 67 = .ok (.goto (-43), 3) := by decide +kernel
theorem dX5_seesSingles_70 : decode cX5_seesSingles 70 = .ok (.iinc 2 1, 3) := by decide +kernel
theorem dX5_seesSingles_73 : decode cX5_seesSingles 73 = .ok (.goto (-61), 3) := by decide +kernel
theorem dX5_seesSingles_76 : decode cX5_seesSingles 76 = .ok (.iinc 1 1, 3) := by decide +kernel
theorem dX5_seesSingles_79 : decode cX5_seesSingles 79 = .ok (.goto (-77), 3) := by decide +kernel
theorem dX5_seesSingles_82 : decode cX5_seesSingles 82 = .ok (.iconst 1, 1) := by decide +kernel
theorem dX5_seesSingles_83 : decode cX5_seesSingles 83 = .ok (.ireturn, 1) := by decide +kernel
set_option maxRecDepth 20000 in
theorem ggX5_seesSwaps_X5_cell : GoodIn wsX5_seesSwaps wsX5_cell := goodIn_r _ [6, 7, 1, 8, 9, 10] (by decide +kernel) (by decide +kernel)
set_option maxRecDepth 20000 in
theorem gX5_seesSwaps_X5_cell : GoodIn wsX5_seesSwaps (wsV RX5 21 RX5 yX5_cell wsX5_cell) := goodIn_app (goodIn_of _ (by decide +kernel)) ggX5_seesSwaps_X5_cell
theorem dX5_seesSwaps_0 : decode cX5_seesSwaps 0 = .ok (.iconst 0, 1) := by decide +kernel
theorem dX5_seesSwaps_1 : decode cX5_seesSwaps 1 = .ok (.istore_n 1, 1) := by decide +kernel
theorem dX5_seesSwaps_2 : decode cX5_seesSwaps 2 = .ok (.iload_n 1, 1) := by decide +kernel
theorem dX5_seesSwaps_3 : decode cX5_seesSwaps 3 = .ok (.aload_n 0, 1) := by decide +kernel
theorem dX5_seesSwaps_4 : decode cX5_seesSwaps 4 = .ok (.getfield 9, 3) := by decide +kernel
theorem dX5_seesSwaps_7 : decode cX5_seesSwaps 7 = .ok (.if_icmp .ge 70, 3) := by decide +kernel
theorem dX5_seesSwaps_10 : decode cX5_seesSwaps 10 = .ok (.iconst 0, 1) := by decide +kernel
theorem dX5_seesSwaps_11 : decode cX5_seesSwaps 11 = .ok (.istore_n 2, 1) := by decide +kernel
theorem dX5_seesSwaps_12 : decode cX5_seesSwaps 12 = .ok (.iload_n 2, 1) := by decide +kernel
theorem dX5_seesSwaps_13 : decode cX5_seesSwaps 13 = .ok (.aload_n 0, 1) := by decide +kernel
theorem dX5_seesSwaps_14 : decode cX5_seesSwaps 14 = .ok (.getfield 9, 3) := by decide +kernel
theorem dX5_seesSwaps_17 : decode cX5_seesSwaps 17 = .ok (.if_icmp .ge 54, 3) := by decide +kernel
theorem dX5_seesSwaps_20 : decode cX5_seesSwaps 20 = .ok (.iload_n 2, 1) := by decide +kernel
theorem dX5_seesSwaps_21 : decode cX5_seesSwaps 21 = .ok (.iconst 1, 1) := by decide +kernel
theorem dX5_seesSwaps_22 : decode cX5_seesSwaps 22 = .ok (.iadd, 1) := by decide +kernel
theorem dX5_seesSwaps_23 : decode cX5_seesSwaps 23 = .ok (.istore_n 3, 1) := by decide +kernel
theorem dX5_seesSwaps_24 : decode cX5_seesSwaps 24 = .ok (.iload_n 3, 1) := by decide +kernel
theorem dX5_seesSwaps_25 : decode cX5_seesSwaps 25 = .ok (.aload_n 0, 1) := by decide +kernel
theorem dX5_seesSwaps_26 : decode cX5_seesSwaps 26 = .ok (.getfield 9, 3) := by decide +kernel
theorem dX5_seesSwaps_29 : decode cX5_seesSwaps 29 = .ok (.if_icmp .ge 36, 3) := by decide +kernel
theorem dX5_seesSwaps_32 : decode cX5_seesSwaps 32 = .ok (.aload_n 0, 1) := by decide +kernel
theorem dX5_seesSwaps_33 : decode cX5_seesSwaps 33 = .ok (.aload_n 0, 1) := by decide +kernel
theorem dX5_seesSwaps_34 : decode cX5_seesSwaps 34 = .ok (.iload_n 1, 1) := by decide +kernel
theorem dX5_seesSwaps_35 : decode cX5_seesSwaps 35 = .ok (.iload_n 2, 1) := by decide +kernel
theorem dX5_seesSwaps_36 : decode cX5_seesSwaps 36 = .ok (.invokevirtual 21, 3) := by decide +kernel
theorem dX5_seesSwaps_39 : decode cX5_seesSwaps 39 = .ok (.iload_n 3, 1) := by decide +kernel
theorem dX5_seesSwaps_40 : decode cX5_seesSwaps 40 = .ok (.invokevirtual 21, 3) := by decide +kernel
theorem dX5_seesSwaps_43 : decode cX5_seesSwaps 43 = .ok (.aload_n 0, 1) := by decide +kernel
theorem dX5_seesSwaps_44 : decode cX5_seesSwaps 44 = .ok (.aload_n 0, 1) := by decide +kernel
theorem dX5_seesSwaps_45 : decode cX5_seesSwaps 45 = .ok (.iload_n 1, 1) := by decide +kernel
theorem dX5_seesSwaps_46 : decode cX5_seesSwaps 46 = .ok (.iload_n 3, 1) := by decide +kernel
theorem dX5_seesSwaps_47 : decode cX5_seesSwaps 47 = .ok (.invokevirtual 21, 3) := by decide +kernel
theorem dX5_seesSwaps_50 : decode cX5_seesSwaps 50 = .ok (.iload_n 2, 1) := by decide +kernel
theorem dX5_seesSwaps_51 : decode cX5_seesSwaps 51 = .ok (.invokevirtual 21, 3) := by decide +kernel
theorem dX5_seesSwaps_54 : decode cX5_seesSwaps 54 = .ok (.if_icmp .ne 5, 3) := by decide +kernel
theorem dX5_seesSwaps_57 : decode cX5_seesSwaps 57 = .ok (.iconst 0, 1) := by decide +kernel
theorem dX5_seesSwaps_58 : decode cX5_seesSwaps 58 = .ok (.ireturn, 1) := by decide +kernel
theorem dX5_seesSwaps_59 : decode cX5_seesSwaps 59 = .ok (.iinc 3 1, 3) := by decide +kernel
theorem dX5_seesSwaps_62 : decode cX5_seesSwaps 62 = .ok (.goto (-38), 3) := by decide +kernel
theorem dX5_seesSwaps_65 : decode cX5_seesSwaps 65 = .ok (.iinc 2 1, 3) := by decide +kernel
theorem dX5_seesSwaps_68 : decode cX5_seesSwaps 68 = .ok (.goto (-56), 3) := by decide +kernel
theorem dX5_seesSwaps_71 : decode cX5_seesSwaps 71 = .ok (.iinc 1 1, 3) := by decide +kernel
theorem dX5_seesSwaps_74 : decode cX5_seesSwaps 74 = .ok (.goto (-72), 3) := by decide +kernel
theorem dX5_seesSwaps_77 : decode cX5_seesSwaps 77 = .ok (.iconst 1, 1) := by decide +kernel
theorem dX5_seesSwaps_78 : decode cX5_seesSwaps 78 = .ok (.ireturn, 1) := by decide +kernel
set_option maxRecDepth 20000 in
theorem ggX5_seesTwins_X5_cell : GoodIn wsX5_seesTwins wsX5_cell := goodIn_r _ [6, 7, 1, 8, 9, 10] (by decide +kernel) (by decide +kernel)
set_option maxRecDepth 20000 in
theorem gX5_seesTwins_X5_cell : GoodIn wsX5_seesTwins (wsV RX5 21 RX5 yX5_cell wsX5_cell) := goodIn_app (goodIn_of _ (by decide +kernel)) ggX5_seesTwins_X5_cell
theorem dX5_seesTwins_0 : decode cX5_seesTwins 0 = .ok (.iconst 0, 1) := by decide +kernel
theorem dX5_seesTwins_1 : decode cX5_seesTwins 1 = .ok (.istore_n 1, 1) := by decide +kernel
theorem dX5_seesTwins_2 : decode cX5_seesTwins 2 = .ok (.iload_n 1, 1) := by decide +kernel
theorem dX5_seesTwins_3 : decode cX5_seesTwins 3 = .ok (.aload_n 0, 1) := by decide +kernel
theorem dX5_seesTwins_4 : decode cX5_seesTwins 4 = .ok (.getfield 9, 3) := by decide +kernel
theorem dX5_seesTwins_7 : decode cX5_seesTwins 7 = .ok (.if_icmp .ge 70, 3) := by decide +kernel
theorem dX5_seesTwins_10 : decode cX5_seesTwins 10 = .ok (.iconst 0, 1) := by decide +kernel
theorem dX5_seesTwins_11 : decode cX5_seesTwins 11 = .ok (.istore_n 2, 1) := by decide +kernel
theorem dX5_seesTwins_12 : decode cX5_seesTwins 12 = .ok (.iload_n 2, 1) := by decide +kernel
theorem dX5_seesTwins_13 : decode cX5_seesTwins 13 = .ok (.aload_n 0, 1) := by decide +kernel
theorem dX5_seesTwins_14 : decode cX5_seesTwins 14 = .ok (.getfield 9, 3) := by decide +kernel
theorem dX5_seesTwins_17 : decode cX5_seesTwins 17 = .ok (.if_icmp .ge 54, 3) := by decide +kernel
theorem dX5_seesTwins_20 : decode cX5_seesTwins 20 = .ok (.iload_n 2, 1) := by decide +kernel
theorem dX5_seesTwins_21 : decode cX5_seesTwins 21 = .ok (.iconst 1, 1) := by decide +kernel
theorem dX5_seesTwins_22 : decode cX5_seesTwins 22 = .ok (.iadd, 1) := by decide +kernel
theorem dX5_seesTwins_23 : decode cX5_seesTwins 23 = .ok (.istore_n 3, 1) := by decide +kernel
theorem dX5_seesTwins_24 : decode cX5_seesTwins 24 = .ok (.iload_n 3, 1) := by decide +kernel
theorem dX5_seesTwins_25 : decode cX5_seesTwins 25 = .ok (.aload_n 0, 1) := by decide +kernel
theorem dX5_seesTwins_26 : decode cX5_seesTwins 26 = .ok (.getfield 9, 3) := by decide +kernel
theorem dX5_seesTwins_29 : decode cX5_seesTwins 29 = .ok (.if_icmp .ge 36, 3) := by decide +kernel
theorem dX5_seesTwins_32 : decode cX5_seesTwins 32 = .ok (.aload_n 0, 1) := by decide +kernel
theorem dX5_seesTwins_33 : decode cX5_seesTwins 33 = .ok (.aload_n 0, 1) := by decide +kernel
theorem dX5_seesTwins_34 : decode cX5_seesTwins 34 = .ok (.iload_n 1, 1) := by decide +kernel
theorem dX5_seesTwins_35 : decode cX5_seesTwins 35 = .ok (.iload_n 2, 1) := by decide +kernel
theorem dX5_seesTwins_36 : decode cX5_seesTwins 36 = .ok (.invokevirtual 21, 3) := by decide +kernel
theorem dX5_seesTwins_39 : decode cX5_seesTwins 39 = .ok (.iload_n 2, 1) := by decide +kernel
theorem dX5_seesTwins_40 : decode cX5_seesTwins 40 = .ok (.invokevirtual 21, 3) := by decide +kernel
theorem dX5_seesTwins_43 : decode cX5_seesTwins 43 = .ok (.aload_n 0, 1) := by decide +kernel
theorem dX5_seesTwins_44 : decode cX5_seesTwins 44 = .ok (.aload_n 0, 1) := by decide +kernel
theorem dX5_seesTwins_45 : decode cX5_seesTwins 45 = .ok (.iload_n 1, 1) := by decide +kernel
theorem dX5_seesTwins_46 : decode cX5_seesTwins 46 = .ok (.iload_n 3, 1) := by decide +kernel
theorem dX5_seesTwins_47 : decode cX5_seesTwins 47 = .ok (.invokevirtual 21, 3) := by decide +kernel
theorem dX5_seesTwins_50 : decode cX5_seesTwins 50 = .ok (.iload_n 3, 1) := by decide +kernel
theorem dX5_seesTwins_51 : decode cX5_seesTwins 51 = .ok (.invokevirtual 21, 3) := by decide +kernel
theorem dX5_seesTwins_54 : decode cX5_seesTwins 54 = .ok (.if_icmp .ne 5, 3) := by decide +kernel
theorem dX5_seesTwins_57 : decode cX5_seesTwins 57 = .ok (.iconst 0, 1) := by decide +kernel
theorem dX5_seesTwins_58 : decode cX5_seesTwins 58 = .ok (.ireturn, 1) := by decide +kernel
theorem dX5_seesTwins_59 : decode cX5_seesTwins 59 = .ok (.iinc 3 1, 3) := by decide +kernel
theorem dX5_seesTwins_62 : decode cX5_seesTwins 62 = .ok (.goto (-38), 3) := by decide +kernel
theorem dX5_seesTwins_65 : decode cX5_seesTwins 65 = .ok (.iinc 2 1, 3) := by decide +kernel
theorem dX5_seesTwins_68 : decode cX5_seesTwins 68 = .ok (.goto (-56), 3) := by decide +kernel
theorem dX5_seesTwins_71 : decode cX5_seesTwins 71 = .ok (.iinc 1 1, 3) := by decide +kernel
theorem dX5_seesTwins_74 : decode cX5_seesTwins 74 = .ok (.goto (-72), 3) := by decide +kernel
theorem dX5_seesTwins_77 : decode cX5_seesTwins 77 = .ok (.iconst 1, 1) := by decide +kernel
theorem dX5_seesTwins_78 : decode cX5_seesTwins 78 = .ok (.ireturn, 1) := by decide +kernel
theorem dX6_init_0 : decode cX6_init 0 = .ok (.aload_n 0, 1) := by decide +kernel
theorem dX6_init_1 : decode cX6_init 1 = .ok (.invokespecial 1, 3) := by decide +kernel
theorem dX6_init_4 : decode cX6_init 4 = .ok (.aload_n 0, 1) := by decide +kernel
theorem dX6_init_5 : decode cX6_init 5 = .ok (.iload_n 1, 1) := by decide +kernel
theorem dX6_init_6 : decode cX6_init 6 = .ok (.putfield 7, 3) := by decide +kernel
theorem dX6_init_9 : decode cX6_init 9 = .ok (.return_, 1) := by decide +kernel
theorem dX7_init_0 : decode cX7_init 0 = .ok (.aload_n 0, 1) := by decide +kernel
theorem dX7_init_1 : decode cX7_init 1 = .ok (.invokespecial 3, 3) := by decide +kernel
theorem dX7_init_4 : decode cX7_init 4 = .ok (.aload_n 0, 1) := by decide +kernel
theorem dX7_init_5 : decode cX7_init 5 = .ok (.sipush 512, 3) := by decide +kernel
theorem dX7_init_8 : decode cX7_init 8 = .ok (.newarray .int, 2) := by decide +kernel
theorem dX7_init_10 : decode cX7_init 10 = .ok (.putfield 11, 3) := by decide +kernel
theorem dX7_init_13 : decode cX7_init 13 = .ok (.aload_n 0, 1) := by decide +kernel
theorem dX7_init_14 : decode cX7_init 14 = .ok (.sipush 1128, 3) := by decide +kernel
theorem dX7_init_17 : decode cX7_init 17 = .ok (.newarray .int, 2) := by decide +kernel
theorem dX7_init_19 : decode cX7_init 19 = .ok (.putfield 15, 3) := by decide +kernel
theorem dX7_init_22 : decode cX7_init 22 = .ok (.aload_n 0, 1) := by decide +kernel
theorem dX7_init_23 : decode cX7_init 23 = .ok (.sipush 1128, 3) := by decide +kernel
theorem dX7_init_26 : decode cX7_init 26 = .ok (.newarray .long, 2) := by decide +kernel
theorem dX7_init_28 : decode cX7_init 28 = .ok (.putfield 18, 3) := by decide +kernel
theorem dX7_init_31 : decode cX7_init 31 = .ok (.aload_n 0, 1) := by decide +kernel
theorem dX7_init_32 : decode cX7_init 32 = .ok (.sipush 1128, 3) := by decide +kernel
theorem dX7_init_35 : decode cX7_init 35 = .ok (.newarray .int, 2) := by decide +kernel
theorem dX7_init_37 : decode cX7_init 37 = .ok (.putfield 22, 3) := by decide +kernel
theorem dX7_init_40 : decode cX7_init 40 = .ok (.aload_n 0, 1) := by decide +kernel
theorem dX7_init_41 : decode cX7_init 41 = .ok (.iconst 0, 1) := by decide +kernel
theorem dX7_init_42 : decode cX7_init 42 = .ok (.putfield 25, 3) := by decide +kernel
theorem dX7_init_45 : decode cX7_init 45 = .ok (.return_, 1) := by decide +kernel
set_option maxRecDepth 20000 in
theorem ggX7_forget_J7_fill_53178 : GoodIn wsX7_forget wsJ7_fill_53178 := goodIn_r _ [6] (by decide +kernel) (by decide +kernel)
set_option maxRecDepth 20000 in
theorem gX7_forget_J7_fill_53178 : GoodIn wsX7_forget (va_wsS RX7 29 yJ7_fill_53178 wsJ7_fill_53178) := goodIn_app (goodIn_of _ (by decide +kernel)) ggX7_forget_J7_fill_53178
theorem dX7_forget_0 : decode cX7_forget 0 = .ok (.aload_n 0, 1) := by decide +kernel
theorem dX7_forget_1 : decode cX7_forget 1 = .ok (.getfield 11, 3) := by decide +kernel
theorem dX7_forget_4 : decode cX7_forget 4 = .ok (.iconst (-1), 1) := by decide +kernel
theorem dX7_forget_5 : decode cX7_forget 5 = .ok (.invokestatic 29, 3) := by decide +kernel
theorem dX7_forget_8 : decode cX7_forget 8 = .ok (.aload_n 0, 1) := by decide +kernel
theorem dX7_forget_9 : decode cX7_forget 9 = .ok (.iconst 0, 1) := by decide +kernel
theorem dX7_forget_10 : decode cX7_forget 10 = .ok (.putfield 25, 3) := by decide +kernel
theorem dX7_forget_13 : decode cX7_forget 13 = .ok (.return_, 1) := by decide +kernel
theorem dX7_bucketOf_0 : decode cX7_bucketOf 0 = .ok (.lload_n 0, 1) := by decide +kernel
theorem dX7_bucketOf_1 : decode cX7_bucketOf 1 = .ok (.ldc2_w 35, 3) := by decide +kernel
theorem dX7_bucketOf_4 : decode cX7_bucketOf 4 = .ok (.lmul, 1) := by decide +kernel
theorem dX7_bucketOf_5 : decode cX7_bucketOf 5 = .ok (.bipush 55, 2) := by decide +kernel
theorem dX7_bucketOf_7 : decode cX7_bucketOf 7 = .ok (.lushr, 1) := by decide +kernel
theorem dX7_bucketOf_8 : decode cX7_bucketOf 8 = .ok (.l2i, 1) := by decide +kernel
theorem dX7_bucketOf_9 : decode cX7_bucketOf 9 = .ok (.ireturn, 1) := by decide +kernel
theorem dX7_entryOf_0 : decode cX7_entryOf 0 = .ok (.aload_n 0, 1) := by decide +kernel
theorem dX7_entryOf_1 : decode cX7_entryOf 1 = .ok (.getfield 11, 3) := by decide +kernel
theorem dX7_entryOf_4 : decode cX7_entryOf 4 = .ok (.iload_n 3, 1) := by decide +kernel
theorem dX7_entryOf_5 : decode cX7_entryOf 5 = .ok (.iaload, 1) := by decide +kernel
theorem dX7_entryOf_6 : decode cX7_entryOf 6 = .ok (.istore 4, 2) := by decide +kernel
theorem dX7_entryOf_8 : decode cX7_entryOf 8 = .ok (.iconst 0, 1) := by decide +kernel
theorem dX7_entryOf_9 : decode cX7_entryOf 9 = .ok (.istore 5, 2) := by decide +kernel
theorem dX7_entryOf_11 : decode cX7_entryOf 11 = .ok (.iload 5, 2) := by decide +kernel
theorem dX7_entryOf_13 : decode cX7_entryOf 13 = .ok (.aload_n 0, 1) := by decide +kernel
theorem dX7_entryOf_14 : decode cX7_entryOf 14 = .ok (.getfield 25, 3) := by decide +kernel
theorem dX7_entryOf_17 : decode cX7_entryOf 17 = .ok (.if_icmp .ge 38, 3) := by decide +kernel
theorem dX7_entryOf_20 : decode cX7_entryOf 20 = .ok (.iload 4, 2) := by decide +kernel
theorem dX7_entryOf_22 : decode cX7_entryOf 22 = .ok (.ifCond .lt 33, 3) := by decide +kernel
theorem dX7_entryOf_25 : decode cX7_entryOf 25 = .ok (.aload_n 0, 1) := by decide +kernel
theorem dX7_entryOf_26 : decode cX7_entryOf 26 = .ok (.getfield 18, 3) := by decide +kernel
theorem dX7_entryOf_29 : decode cX7_entryOf 29 = .ok (.iload 4, 2) := by decide +kernel
theorem dX7_entryOf_31 : decode cX7_entryOf 31 = .ok (.laload, 1) := by decide +kernel
theorem dX7_entryOf_32 : decode cX7_entryOf 32 = .ok (.lload_n 1, 1) := by decide +kernel
theorem dX7_entryOf_33 : decode cX7_entryOf 33 = .ok (.lcmp, 1) := by decide +kernel
theorem dX7_entryOf_34 : decode cX7_entryOf 34 = .ok (.ifCond .ne 6, 3) := by decide +kernel
theorem dX7_entryOf_37 : decode cX7_entryOf 37 = .ok (.iload 4, 2) := by decide +kernel
theorem dX7_entryOf_39 : decode cX7_entryOf 39 = .ok (.ireturn, 1) := by decide +kernel
theorem dX7_entryOf_40 : decode cX7_entryOf 40 = .ok (.aload_n 0, 1) := by decide +kernel
theorem dX7_entryOf_41 : decode cX7_entryOf 41 = .ok (.getfield 15, 3) := by decide +kernel
theorem dX7_entryOf_44 : decode cX7_entryOf 44 = .ok (.iload 4, 2) := by decide +kernel
theorem dX7_entryOf_46 : decode cX7_entryOf 46 = .ok (.iaload, 1) := by decide +kernel
theorem dX7_entryOf_47 : decode cX7_entryOf 47 = .ok (.istore 4, 2) := by decide +kernel
theorem dX7_entryOf_49 : decode cX7_entryOf 49 = .ok (.iinc 5 1, 3) := by decide +kernel
theorem dX7_entryOf_52 : decode cX7_entryOf 52 = .ok (.goto (-41), 3) := by decide +kernel
theorem dX7_entryOf_55 : decode cX7_entryOf 55 = .ok (.iconst (-1), 1) := by decide +kernel
theorem dX7_entryOf_56 : decode cX7_entryOf 56 = .ok (.ireturn, 1) := by decide +kernel
set_option maxRecDepth 20000 in
theorem ggX7_timesOf_X7_bucketOf : GoodIn wsX7_timesOf wsX7_bucketOf := goodIn_r _ [5, 6] (by decide +kernel) (by decide +kernel)
set_option maxRecDepth 20000 in
theorem gX7_timesOf_X7_bucketOf : GoodIn wsX7_timesOf (va_wsS RX7 37 yX7_bucketOf wsX7_bucketOf) := goodIn_app (goodIn_of _ (by decide +kernel)) ggX7_timesOf_X7_bucketOf
set_option maxRecDepth 20000 in
theorem ggX7_timesOf_X7_entryOf : GoodIn wsX7_timesOf wsX7_entryOf := goodIn_r _ [10, 11, 12, 13, 14, 15, 16, 17, 18, 19] (by decide +kernel) (by decide +kernel)
set_option maxRecDepth 20000 in
theorem gX7_timesOf_X7_entryOf : GoodIn wsX7_timesOf (wsV RX7 41 RX7 yX7_entryOf wsX7_entryOf) := goodIn_app (goodIn_of _ (by decide +kernel)) ggX7_timesOf_X7_entryOf
theorem dX7_timesOf_0 : decode cX7_timesOf 0 = .ok (.aload_n 0, 1) := by decide +kernel
theorem dX7_timesOf_1 : decode cX7_timesOf 1 = .ok (.lload_n 1, 1) := by decide +kernel
theorem dX7_timesOf_2 : decode cX7_timesOf 2 = .ok (.lload_n 1, 1) := by decide +kernel
theorem dX7_timesOf_3 : decode cX7_timesOf 3 = .ok (.invokestatic 37, 3) := by decide +kernel
theorem dX7_timesOf_6 : decode cX7_timesOf 6 = .ok (.invokevirtual 41, 3) := by decide +kernel
theorem dX7_timesOf_9 : decode cX7_timesOf 9 = .ok (.istore_n 3, 1) := by decide +kernel
theorem dX7_timesOf_10 : decode cX7_timesOf 10 = .ok (.iload_n 3, 1) := by decide +kernel
theorem dX7_timesOf_11 : decode cX7_timesOf 11 = .ok (.ifCond .ge 7, 3) := by decide +kernel
theorem dX7_timesOf_14 : decode cX7_timesOf 14 = .ok (.iconst 0, 1) := by decide +kernel
theorem dX7_timesOf_15 : decode cX7_timesOf 15 = .ok (.goto 9, 3) := by decide +kernel
theorem dX7_timesOf_18 : decode cX7_timesOf 18 = .ok (.aload_n 0, 1) := by decide +kernel
theorem dX7_timesOf_19 : decode cX7_timesOf 19 = .ok (.getfield 22, 3) := by decide +kernel
theorem dX7_timesOf_22 : decode cX7_timesOf 22 = .ok (.iload_n 3, 1) := by decide +kernel
theorem dX7_timesOf_23 : decode cX7_timesOf 23 = .ok (.iaload, 1) := by decide +kernel
theorem dX7_timesOf_24 : decode cX7_timesOf 24 = .ok (.ireturn, 1) := by decide +kernel
set_option maxRecDepth 20000 in
theorem ggX7_note_X7_bucketOf : GoodIn wsX7_note wsX7_bucketOf := goodIn_r _ [9, 10] (by decide +kernel) (by decide +kernel)
set_option maxRecDepth 20000 in
theorem gX7_note_X7_bucketOf : GoodIn wsX7_note (va_wsS RX7 37 yX7_bucketOf wsX7_bucketOf) := goodIn_app (goodIn_of _ (by decide +kernel)) ggX7_note_X7_bucketOf
set_option maxRecDepth 20000 in
theorem ggX7_note_X7_entryOf : GoodIn wsX7_note wsX7_entryOf := goodIn_r _ [14, 5, 2, 3, 4, 15, 16, 17, 18, 19] (by decide +kernel) (by decide +kernel)
set_option maxRecDepth 20000 in
theorem gX7_note_X7_entryOf : GoodIn wsX7_note (wsV RX7 41 RX7 yX7_entryOf wsX7_entryOf) := goodIn_app (goodIn_of _ (by decide +kernel)) ggX7_note_X7_entryOf
theorem dX7_note_0 : decode cX7_note 0 = .ok (.lload_n 1, 1) := by decide +kernel
theorem dX7_note_1 : decode cX7_note 1 = .ok (.invokestatic 37, 3) := by decide +kernel
theorem dX7_note_4 : decode cX7_note 4 = .ok (.istore_n 3, 1) := by decide +kernel
theorem dX7_note_5 : decode cX7_note 5 = .ok (.aload_n 0, 1) := by decide +kernel
theorem dX7_note_6 : decode cX7_note 6 = .ok (.lload_n 1, 1) := by decide +kernel
theorem dX7_note_7 : decode cX7_note 7 = .ok (.iload_n 3, 1) := by decide +kernel
theorem dX7_note_8 : decode cX7_note 8 = .ok (.invokevirtual 41, 3) := by decide +kernel
theorem dX7_note_11 : decode cX7_note 11 = .ok (.istore 4, 2) := by decide +kernel
theorem dX7_note_13 : decode cX7_note 13 = .ok (.iload 4, 2) := by decide +kernel
theorem dX7_note_15 : decode cX7_note 15 = .ok (.ifCond .lt 17, 3) := by decide +kernel
theorem dX7_note_18 : decode cX7_note 18 = .ok (.aload_n 0, 1) := by decide +kernel
theorem dX7_note_19 : decode cX7_note 19 = .ok (.getfield 22, 3) := by decide +kernel
theorem dX7_note_22 : decode cX7_note 22 = .ok (.iload 4, 2) := by decide +kernel
theorem dX7_note_24 : decode cX7_note 24 = .ok (.dup2, 1) := by decide +kernel
theorem dX7_note_25 : decode cX7_note 25 = .ok (.iaload, 1) := by decide +kernel
theorem dX7_note_26 : decode cX7_note 26 = .ok (.iconst 1, 1) := by decide +kernel
theorem dX7_note_27 : decode cX7_note 27 = .ok (.iadd, 1) := by decide +kernel
theorem dX7_note_28 : decode cX7_note 28 = .ok (.iastore, 1) := by decide +kernel
theorem dX7_note_29 : decode cX7_note 29 = .ok (.goto 70, 3) := by decide +kernel
theorem dX7_note_32 : decode cX7_note 32 = .ok (.aload_n 0, 1) := by decide +kernel
theorem dX7_note_33 : decode cX7_note 33 = .ok (.getfield 25, 3) := by decide +kernel
theorem dX7_note_36 : decode cX7_note 36 = .ok (.aload_n 0, 1) := by decide +kernel
theorem dX7_note_37 : decode cX7_note 37 = .ok (.getfield 18, 3) := by decide +kernel
theorem dX7_note_40 : decode cX7_note 40 = .ok (.arraylength, 1) := by decide +kernel
theorem dX7_note_41 : decode cX7_note 41 = .ok (.if_icmp .ge 58, 3) := by decide +kernel
theorem dX7_note_44 : decode cX7_note 44 = .ok (.aload_n 0, 1) := by decide +kernel
theorem dX7_note_45 : decode cX7_note 45 = .ok (.getfield 18, 3) := by decide +kernel
theorem dX7_note_48 : decode cX7_note 48 = .ok (.aload_n 0, 1) := by decide +kernel
theorem dX7_note_49 : decode cX7_note 49 = .ok (.getfield 25, 3) := by decide +kernel
theorem dX7_note_52 : decode cX7_note 52 = .ok (.lload_n 1, 1) := by decide +kernel
theorem dX7_note_53 : decode cX7_note 53 = .ok (.lastore, 1) := by decide +kernel
theorem dX7_note_54 : decode cX7_note 54 = .ok (.aload_n 0, 1) := by decide +kernel
theorem dX7_note_55 : decode cX7_note 55 = .ok (.getfield 22, 3) := by decide +kernel
theorem dX7_note_58 : decode cX7_note 58 = .ok (.aload_n 0, 1) := by decide +kernel
theorem dX7_note_59 : decode cX7_note 59 = .ok (.getfield 25, 3) := by decide +kernel
theorem dX7_note_62 : decode cX7_note 62 = .ok (.iconst 1, 1) := by decide +kernel
theorem dX7_note_63 : decode cX7_note 63 = .ok (.iastore, 1) := by decide +kernel
theorem dX7_note_64 : decode cX7_note 64 = .ok (.aload_n 0, 1) := by decide +kernel
theorem dX7_note_65 : decode cX7_note 65 = .ok (.getfield 15, 3) := by decide +kernel
theorem dX7_note_68 : decode cX7_note 68 = .ok (.aload_n 0, 1) := by decide +kernel
theorem dX7_note_69 : decode cX7_note 69 = .ok (.getfield 25, 3) := by decide +kernel
theorem dX7_note_72 : decode cX7_note 72 = .ok (.aload_n 0, 1) := by decide +kernel
theorem dX7_note_73 : decode cX7_note 73 = .ok (.getfield 11, 3) := by decide +kernel
theorem dX7_note_76 : decode cX7_note 76 = .ok (.iload_n 3, 1) := by decide +kernel
theorem dX7_note_77 : decode cX7_note 77 = .ok (.iaload, 1) := by decide +kernel
theorem dX7_note_78 : decode cX7_note 78 = .ok (.iastore, 1) := by decide +kernel
theorem dX7_note_79 : decode cX7_note 79 = .ok (.aload_n 0, 1) := by decide +kernel
theorem dX7_note_80 : decode cX7_note 80 = .ok (.getfield 11, 3) := by decide +kernel
theorem dX7_note_83 : decode cX7_note 83 = .ok (.iload_n 3, 1) := by decide +kernel
theorem dX7_note_84 : decode cX7_note 84 = .ok (.aload_n 0, 1) := by decide +kernel
theorem dX7_note_85 : decode cX7_note 85 = .ok (.getfield 25, 3) := by decide +kernel
theorem dX7_note_88 : decode cX7_note 88 = .ok (.iastore, 1) := by decide +kernel
theorem dX7_note_89 : decode cX7_note 89 = .ok (.aload_n 0, 1) := by decide +kernel
theorem dX7_note_90 : decode cX7_note 90 = .ok (.dup, 1) := by decide +kernel
theorem dX7_note_91 : decode cX7_note 91 = .ok (.getfield 25, 3) := by decide +kernel
theorem dX7_note_94 : decode cX7_note 94 = .ok (.iconst 1, 1) := by decide +kernel
theorem dX7_note_95 : decode cX7_note 95 = .ok (.iadd, 1) := by decide +kernel
theorem dX7_note_96 : decode cX7_note 96 = .ok (.putfield 25, 3) := by decide +kernel
theorem dX7_note_99 : decode cX7_note 99 = .ok (.return_, 1) := by decide +kernel
set_option maxRecDepth 20000 in
theorem ggX8_init_X2_init : GoodIn wsX8_init wsX2_init := goodIn_r _ [6, 7, 8, 9, 10, 11, 12, 13, 14, 18, 19, 20, 21, 22, 23, 24, 25, 26, 15, 16, 17, 27, 28, 29, 30, 31] (by decide +kernel) (by decide +kernel)
set_option maxRecDepth 20000 in
theorem gX8_init_X2_init : GoodIn wsX8_init (wsX2_init) := ggX8_init_X2_init
theorem dX8_init_0 : decode cX8_init 0 = .ok (.aload_n 0, 1) := by decide +kernel
theorem dX8_init_1 : decode cX8_init 1 = .ok (.iconst 3, 1) := by decide +kernel
theorem dX8_init_2 : decode cX8_init 2 = .ok (.invokespecial 3, 3) := by decide +kernel
theorem dX8_init_5 : decode cX8_init 5 = .ok (.aload_n 0, 1) := by decide +kernel
theorem dX8_init_6 : decode cX8_init 6 = .ok (.iload_n 1, 1) := by decide +kernel
theorem dX8_init_7 : decode cX8_init 7 = .ok (.putfield 9, 3) := by decide +kernel
theorem dX8_init_10 : decode cX8_init 10 = .ok (.aload_n 0, 1) := by decide +kernel
theorem dX8_init_11 : decode cX8_init 11 = .ok (.iload_n 2, 1) := by decide +kernel
theorem dX8_init_12 : decode cX8_init 12 = .ok (.putfield 15, 3) := by decide +kernel
theorem dX8_init_15 : decode cX8_init 15 = .ok (.return_, 1) := by decide +kernel
set_option maxRecDepth 20000 in
theorem ggX8_ofRow_X8_carried : GoodIn wsX8_ofRow wsX8_carried := goodIn_r _ [5, 6, 7, 8, 9, 10, 11, 12, 13] (by decide +kernel) (by decide +kernel)
set_option maxRecDepth 20000 in
theorem gX8_ofRow_X8_carried : GoodIn wsX8_ofRow (wsV RX8 18 RX8 yX8_carried wsX8_carried) := goodIn_app (goodIn_of _ (by decide +kernel)) ggX8_ofRow_X8_carried
theorem dX8_ofRow_0 : decode cX8_ofRow 0 = .ok (.lconst 0, 1) := by decide +kernel
theorem dX8_ofRow_1 : decode cX8_ofRow 1 = .ok (.lstore_n 3, 1) := by decide +kernel
theorem dX8_ofRow_2 : decode cX8_ofRow 2 = .ok (.iconst 0, 1) := by decide +kernel
theorem dX8_ofRow_3 : decode cX8_ofRow 3 = .ok (.istore 5, 2) := by decide +kernel
theorem dX8_ofRow_5 : decode cX8_ofRow 5 = .ok (.iload 5, 2) := by decide +kernel
theorem dX8_ofRow_7 : decode cX8_ofRow 7 = .ok (.iload_n 2, 1) := by decide +kernel
theorem dX8_ofRow_8 : decode cX8_ofRow 8 = .ok (.if_icmp .ge 22, 3) := by decide +kernel
theorem dX8_ofRow_11 : decode cX8_ofRow 11 = .ok (.aload_n 0, 1) := by decide +kernel
theorem dX8_ofRow_12 : decode cX8_ofRow 12 = .ok (.lload_n 3, 1) := by decide +kernel
theorem dX8_ofRow_13 : decode cX8_ofRow 13 = .ok (.iconst 1, 1) := by decide +kernel
theorem dX8_ofRow_14 : decode cX8_ofRow 14 = .ok (.invokevirtual 18, 3) := by decide +kernel
theorem dX8_ofRow_17 : decode cX8_ofRow 17 = .ok (.aload_n 1, 1) := by decide +kernel
theorem dX8_ofRow_18 : decode cX8_ofRow 18 = .ok (.iload 5, 2) := by decide +kernel
theorem dX8_ofRow_20 : decode cX8_ofRow 20 = .ok (.iaload, 1) := by decide +kernel
theorem dX8_ofRow_21 : decode cX8_ofRow 21 = .ok (.i2l, 1) := by decide +kernel
theorem dX8_ofRow_22 : decode cX8_ofRow 22 = .ok (.lxor, 1) := by decide +kernel
theorem dX8_ofRow_23 : decode cX8_ofRow 23 = .ok (.lstore_n 3, 1) := by decide +kernel
theorem dX8_ofRow_24 : decode cX8_ofRow 24 = .ok (.iinc 5 1, 3) := by decide +kernel
theorem dX8_ofRow_27 : decode cX8_ofRow 27 = .ok (.goto (-22), 3) := by decide +kernel
theorem dX8_ofRow_30 : decode cX8_ofRow 30 = .ok (.lload_n 3, 1) := by decide +kernel
theorem dX8_ofRow_31 : decode cX8_ofRow 31 = .ok (.lreturn, 1) := by decide +kernel
set_option maxRecDepth 20000 in
theorem ggX8_holds_X11_fits : GoodIn wsX8_holds wsX11_fits := goodIn_r _ [4, 5, 6, 3, 7] (by decide +kernel) (by decide +kernel)
set_option maxRecDepth 20000 in
theorem gX8_holds_X11_fits_n22 : GoodIn wsX8_holds (wsX11_fits) := ggX8_holds_X11_fits
theorem dX8_holds_0 : decode cX8_holds 0 = .ok (.lload_n 1, 1) := by decide +kernel
theorem dX8_holds_1 : decode cX8_holds 1 = .ok (.aload_n 0, 1) := by decide +kernel
theorem dX8_holds_2 : decode cX8_holds 2 = .ok (.getfield 9, 3) := by decide +kernel
theorem dX8_holds_5 : decode cX8_holds 5 = .ok (.invokestatic 22, 3) := by decide +kernel
theorem dX8_holds_8 : decode cX8_holds 8 = .ok (.ireturn, 1) := by decide +kernel
theorem dX8_merged_0 : decode cX8_merged 0 = .ok (.lload_n 1, 1) := by decide +kernel
theorem dX8_merged_1 : decode cX8_merged 1 = .ok (.lload_n 3, 1) := by decide +kernel
theorem dX8_merged_2 : decode cX8_merged 2 = .ok (.lxor, 1) := by decide +kernel
theorem dX8_merged_3 : decode cX8_merged 3 = .ok (.lreturn, 1) := by decide +kernel
set_option maxRecDepth 20000 in
theorem ggX8_changed_X8_carried : GoodIn wsX8_changed wsX8_carried := goodIn_r _ [5, 6, 7, 8, 9, 10, 11, 12, 13] (by decide +kernel) (by decide +kernel)
set_option maxRecDepth 20000 in
theorem gX8_changed_X8_carried : GoodIn wsX8_changed (wsV RX8 18 RX8 yX8_carried wsX8_carried) := goodIn_app (goodIn_of _ (by decide +kernel)) ggX8_changed_X8_carried
theorem dX8_changed_0 : decode cX8_changed 0 = .ok (.aload_n 0, 1) := by decide +kernel
theorem dX8_changed_1 : decode cX8_changed 1 = .ok (.iload_n 3, 1) := by decide +kernel
theorem dX8_changed_2 : decode cX8_changed 2 = .ok (.iload 4, 2) := by decide +kernel
theorem dX8_changed_4 : decode cX8_changed 4 = .ok (.ixor, 1) := by decide +kernel
theorem dX8_changed_5 : decode cX8_changed 5 = .ok (.i2l, 1) := by decide +kernel
theorem dX8_changed_6 : decode cX8_changed 6 = .ok (.iload_n 1, 1) := by decide +kernel
theorem dX8_changed_7 : decode cX8_changed 7 = .ok (.iconst 1, 1) := by decide +kernel
theorem dX8_changed_8 : decode cX8_changed 8 = .ok (.isub, 1) := by decide +kernel
theorem dX8_changed_9 : decode cX8_changed 9 = .ok (.iload_n 2, 1) := by decide +kernel
theorem dX8_changed_10 : decode cX8_changed 10 = .ok (.isub, 1) := by decide +kernel
theorem dX8_changed_11 : decode cX8_changed 11 = .ok (.invokevirtual 18, 3) := by decide +kernel
theorem dX8_changed_14 : decode cX8_changed 14 = .ok (.lreturn, 1) := by decide +kernel
set_option maxRecDepth 20000 in
theorem ggX8_carried_X11_maskOf : GoodIn wsX8_carried wsX11_maskOf := goodIn_r _ [5] (by decide +kernel) (by decide +kernel)
set_option maxRecDepth 20000 in
theorem gX8_carried_X11_maskOf_n26 : GoodIn wsX8_carried (wsX11_maskOf) := ggX8_carried_X11_maskOf
theorem dX8_carried_0 : decode cX8_carried 0 = .ok (.aload_n 0, 1) := by decide +kernel
theorem dX8_carried_1 : decode cX8_carried 1 = .ok (.getfield 15, 3) := by decide +kernel
theorem dX8_carried_4 : decode cX8_carried 4 = .ok (.iload_n 3, 1) := by decide +kernel
theorem dX8_carried_5 : decode cX8_carried 5 = .ok (.imul, 1) := by decide +kernel
theorem dX8_carried_6 : decode cX8_carried 6 = .ok (.aload_n 0, 1) := by decide +kernel
theorem dX8_carried_7 : decode cX8_carried 7 = .ok (.getfield 9, 3) := by decide +kernel
theorem dX8_carried_10 : decode cX8_carried 10 = .ok (.irem, 1) := by decide +kernel
theorem dX8_carried_11 : decode cX8_carried 11 = .ok (.istore 4, 2) := by decide +kernel
theorem dX8_carried_13 : decode cX8_carried 13 = .ok (.lload_n 1, 1) := by decide +kernel
theorem dX8_carried_14 : decode cX8_carried 14 = .ok (.iload 4, 2) := by decide +kernel
theorem dX8_carried_16 : decode cX8_carried 16 = .ok (.lshl, 1) := by decide +kernel
theorem dX8_carried_17 : decode cX8_carried 17 = .ok (.lload_n 1, 1) := by decide +kernel
theorem dX8_carried_18 : decode cX8_carried 18 = .ok (.aload_n 0, 1) := by decide +kernel
theorem dX8_carried_19 : decode cX8_carried 19 = .ok (.getfield 9, 3) := by decide +kernel
theorem dX8_carried_22 : decode cX8_carried 22 = .ok (.iload 4, 2) := by decide +kernel
theorem dX8_carried_24 : decode cX8_carried 24 = .ok (.isub, 1) := by decide +kernel
theorem dX8_carried_25 : decode cX8_carried 25 = .ok (.lushr, 1) := by decide +kernel
theorem dX8_carried_26 : decode cX8_carried 26 = .ok (.lor, 1) := by decide +kernel
theorem dX8_carried_27 : decode cX8_carried 27 = .ok (.aload_n 0, 1) := by decide +kernel
theorem dX8_carried_28 : decode cX8_carried 28 = .ok (.getfield 9, 3) := by decide +kernel
theorem dX8_carried_31 : decode cX8_carried 31 = .ok (.invokestatic 26, 3) := by decide +kernel
theorem dX8_carried_34 : decode cX8_carried 34 = .ok (.land, 1) := by decide +kernel
theorem dX8_carried_35 : decode cX8_carried 35 = .ok (.lreturn, 1) := by decide +kernel
theorem dX8_isByExclusiveOr_0 : decode cX8_isByExclusiveOr 0 = .ok (.iconst 1, 1) := by decide +kernel
theorem dX8_isByExclusiveOr_1 : decode cX8_isByExclusiveOr 1 = .ok (.ireturn, 1) := by decide +kernel
set_option maxRecDepth 20000 in
theorem ggX9_init_X2_init : GoodIn wsX9_init wsX2_init := goodIn_r _ [5, 6, 7, 8, 9, 10, 11, 12, 13, 16, 17, 18, 19, 20, 21, 22, 23, 24, 25, 26, 27, 14, 15, 28, 29, 30] (by decide +kernel) (by decide +kernel)
set_option maxRecDepth 20000 in
theorem gX9_init_X2_init : GoodIn wsX9_init (wsX2_init) := ggX9_init_X2_init
theorem dX9_init_0 : decode cX9_init 0 = .ok (.aload_n 0, 1) := by decide +kernel
theorem dX9_init_1 : decode cX9_init 1 = .ok (.iconst 1, 1) := by decide +kernel
theorem dX9_init_2 : decode cX9_init 2 = .ok (.invokespecial 3, 3) := by decide +kernel
theorem dX9_init_5 : decode cX9_init 5 = .ok (.aload_n 0, 1) := by decide +kernel
theorem dX9_init_6 : decode cX9_init 6 = .ok (.iload_n 1, 1) := by decide +kernel
theorem dX9_init_7 : decode cX9_init 7 = .ok (.putfield 9, 3) := by decide +kernel
theorem dX9_init_10 : decode cX9_init 10 = .ok (.return_, 1) := by decide +kernel
set_option maxRecDepth 20000 in
theorem ggX9_ofRow_X9_packed : GoodIn wsX9_ofRow wsX9_packed := goodIn_r _ [5, 6] (by decide +kernel) (by decide +kernel)
set_option maxRecDepth 20000 in
theorem gX9_ofRow_X9_packed : GoodIn wsX9_ofRow (va_wsS RX9 15 yX9_packed wsX9_packed) := goodIn_app (goodIn_of _ (by decide +kernel)) ggX9_ofRow_X9_packed
theorem dX9_ofRow_0 : decode cX9_ofRow 0 = .ok (.lconst 0, 1) := by decide +kernel
theorem dX9_ofRow_1 : decode cX9_ofRow 1 = .ok (.lstore_n 3, 1) := by decide +kernel
theorem dX9_ofRow_2 : decode cX9_ofRow 2 = .ok (.lconst 0, 1) := by decide +kernel
theorem dX9_ofRow_3 : decode cX9_ofRow 3 = .ok (.lstore 5, 2) := by decide +kernel
theorem dX9_ofRow_5 : decode cX9_ofRow 5 = .ok (.iconst 0, 1) := by decide +kernel
theorem dX9_ofRow_6 : decode cX9_ofRow 6 = .ok (.istore 7, 2) := by decide +kernel
theorem dX9_ofRow_8 : decode cX9_ofRow 8 = .ok (.iload 7, 2) := by decide +kernel
theorem dX9_ofRow_10 : decode cX9_ofRow 10 = .ok (.iload_n 2, 1) := by decide +kernel
theorem dX9_ofRow_11 : decode cX9_ofRow 11 = .ok (.if_icmp .ge 35, 3) := by decide +kernel
theorem dX9_ofRow_14 : decode cX9_ofRow 14 = .ok (.lload_n 3, 1) := by decide +kernel
theorem dX9_ofRow_15 : decode cX9_ofRow 15 = .ok (.aload_n 1, 1) := by decide +kernel
theorem dX9_ofRow_16 : decode cX9_ofRow 16 = .ok (.iload 7, 2) := by decide +kernel
theorem dX9_ofRow_18 : decode cX9_ofRow 18 = .ok (.iaload, 1) := by decide +kernel
theorem dX9_ofRow_19 : decode cX9_ofRow 19 = .ok (.i2l, 1) := by decide +kernel
theorem dX9_ofRow_20 : decode cX9_ofRow 20 = .ok (.ladd, 1) := by decide +kernel
theorem dX9_ofRow_21 : decode cX9_ofRow 21 = .ok (.aload_n 0, 1) := by decide +kernel
theorem dX9_ofRow_22 : decode cX9_ofRow 22 = .ok (.getfield 9, 3) := by decide +kernel
theorem dX9_ofRow_25 : decode cX9_ofRow 25 = .ok (.i2l, 1) := by decide +kernel
theorem dX9_ofRow_26 : decode cX9_ofRow 26 = .ok (.lrem, 1) := by decide +kernel
theorem dX9_ofRow_27 : decode cX9_ofRow 27 = .ok (.lstore_n 3, 1) := by decide +kernel
theorem dX9_ofRow_28 : decode cX9_ofRow 28 = .ok (.lload 5, 2) := by decide +kernel
theorem dX9_ofRow_30 : decode cX9_ofRow 30 = .ok (.lload_n 3, 1) := by decide +kernel
theorem dX9_ofRow_31 : decode cX9_ofRow 31 = .ok (.ladd, 1) := by decide +kernel
theorem dX9_ofRow_32 : decode cX9_ofRow 32 = .ok (.aload_n 0, 1) := by decide +kernel
theorem dX9_ofRow_33 : decode cX9_ofRow 33 = .ok (.getfield 9, 3) := by decide +kernel
theorem dX9_ofRow_36 : decode cX9_ofRow 36 = .ok (.i2l, 1) := by decide +kernel
theorem dX9_ofRow_37 : decode cX9_ofRow 37 = .ok (.lrem, 1) := by decide +kernel
theorem dX9_ofRow_38 : decode cX9_ofRow 38 = .ok (.lstore 5, 2) := by decide +kernel
theorem dX9_ofRow_40 : decode cX9_ofRow 40 = .ok (.iinc 7 1, 3) := by decide +kernel
theorem dX9_ofRow_43 : decode cX9_ofRow 43 = .ok (.goto (-35), 3) := by decide +kernel
theorem dX9_ofRow_46 : decode cX9_ofRow 46 = .ok (.lload_n 3, 1) := by decide +kernel
theorem dX9_ofRow_47 : decode cX9_ofRow 47 = .ok (.lload 5, 2) := by decide +kernel
theorem dX9_ofRow_49 : decode cX9_ofRow 49 = .ok (.invokestatic 15, 3) := by decide +kernel
theorem dX9_ofRow_52 : decode cX9_ofRow 52 = .ok (.lreturn, 1) := by decide +kernel
theorem dX9_packed_0 : decode cX9_packed 0 = .ok (.ldc2_w 19, 3) := by decide +kernel
theorem dX9_packed_3 : decode cX9_packed 3 = .ok (.lload_n 2, 1) := by decide +kernel
theorem dX9_packed_4 : decode cX9_packed 4 = .ok (.lmul, 1) := by decide +kernel
theorem dX9_packed_5 : decode cX9_packed 5 = .ok (.lload_n 0, 1) := by decide +kernel
theorem dX9_packed_6 : decode cX9_packed 6 = .ok (.ladd, 1) := by decide +kernel
theorem dX9_packed_7 : decode cX9_packed 7 = .ok (.lreturn, 1) := by decide +kernel
theorem dX9_partA_0 : decode cX9_partA 0 = .ok (.lload_n 0, 1) := by decide +kernel
theorem dX9_partA_1 : decode cX9_partA 1 = .ok (.ldc2_w 21, 3) := by decide +kernel
theorem dX9_partA_4 : decode cX9_partA 4 = .ok (.land, 1) := by decide +kernel
theorem dX9_partA_5 : decode cX9_partA 5 = .ok (.lreturn, 1) := by decide +kernel
theorem dX9_partB_0 : decode cX9_partB 0 = .ok (.lload_n 0, 1) := by decide +kernel
theorem dX9_partB_1 : decode cX9_partB 1 = .ok (.bipush 16, 2) := by decide +kernel
theorem dX9_partB_3 : decode cX9_partB 3 = .ok (.lshr, 1) := by decide +kernel
theorem dX9_partB_4 : decode cX9_partB 4 = .ok (.lreturn, 1) := by decide +kernel
set_option maxRecDepth 20000 in
theorem ggX9_holds_X9_partA : GoodIn wsX9_holds wsX9_partA := goodIn_r _ [5, 6] (by decide +kernel) (by decide +kernel)
set_option maxRecDepth 20000 in
theorem gX9_holds_X9_partA : GoodIn wsX9_holds (va_wsS RX9 23 yX9_partA wsX9_partA) := goodIn_app (goodIn_of _ (by decide +kernel)) ggX9_holds_X9_partA
set_option maxRecDepth 20000 in
theorem ggX9_holds_X9_partB : GoodIn wsX9_holds wsX9_partB := goodIn_r _ [9] (by decide +kernel) (by decide +kernel)
set_option maxRecDepth 20000 in
theorem gX9_holds_X9_partB : GoodIn wsX9_holds (va_wsS RX9 27 yX9_partB wsX9_partB) := goodIn_app (goodIn_of _ (by decide +kernel)) ggX9_holds_X9_partB
theorem dX9_holds_0 : decode cX9_holds 0 = .ok (.lload_n 1, 1) := by decide +kernel
theorem dX9_holds_1 : decode cX9_holds 1 = .ok (.lconst 0, 1) := by decide +kernel
theorem dX9_holds_2 : decode cX9_holds 2 = .ok (.lcmp, 1) := by decide +kernel
theorem dX9_holds_3 : decode cX9_holds 3 = .ok (.ifCond .lt 33, 3) := by decide +kernel
theorem dX9_holds_6 : decode cX9_holds 6 = .ok (.lload_n 1, 1) := by decide +kernel
theorem dX9_holds_7 : decode cX9_holds 7 = .ok (.invokestatic 23, 3) := by decide +kernel
theorem dX9_holds_10 : decode cX9_holds 10 = .ok (.aload_n 0, 1) := by decide +kernel
theorem dX9_holds_11 : decode cX9_holds 11 = .ok (.getfield 9, 3) := by decide +kernel
theorem dX9_holds_14 : decode cX9_holds 14 = .ok (.i2l, 1) := by decide +kernel
theorem dX9_holds_15 : decode cX9_holds 15 = .ok (.lcmp, 1) := by decide +kernel
theorem dX9_holds_16 : decode cX9_holds 16 = .ok (.ifCond .ge 20, 3) := by decide +kernel
theorem dX9_holds_19 : decode cX9_holds 19 = .ok (.lload_n 1, 1) := by decide +kernel
theorem dX9_holds_20 : decode cX9_holds 20 = .ok (.invokestatic 27, 3) := by decide +kernel
theorem dX9_holds_23 : decode cX9_holds 23 = .ok (.aload_n 0, 1) := by decide +kernel
theorem dX9_holds_24 : decode cX9_holds 24 = .ok (.getfield 9, 3) := by decide +kernel
theorem dX9_holds_27 : decode cX9_holds 27 = .ok (.i2l, 1) := by decide +kernel
theorem dX9_holds_28 : decode cX9_holds 28 = .ok (.lcmp, 1) := by decide +kernel
theorem dX9_holds_29 : decode cX9_holds 29 = .ok (.ifCond .ge 7, 3) := by decide +kernel
theorem dX9_holds_32 : decode cX9_holds 32 = .ok (.iconst 1, 1) := by decide +kernel
theorem dX9_holds_33 : decode cX9_holds 33 = .ok (.goto 4, 3) := by decide +kernel
theorem dX9_holds_36 : decode cX9_holds 36 = .ok (.iconst 0, 1) := by decide +kernel
theorem dX9_holds_37 : decode cX9_holds 37 = .ok (.ireturn, 1) := by decide +kernel
set_option maxRecDepth 20000 in
theorem ggX9_merged_X9_partA : GoodIn wsX9_merged wsX9_partA := goodIn_r _ [5, 6] (by decide +kernel) (by decide +kernel)
set_option maxRecDepth 20000 in
theorem gX9_merged_X9_partA : GoodIn wsX9_merged (va_wsS RX9 23 yX9_partA wsX9_partA) := goodIn_app (goodIn_of _ (by decide +kernel)) ggX9_merged_X9_partA
set_option maxRecDepth 20000 in
theorem ggX9_merged_X9_partB : GoodIn wsX9_merged wsX9_partB := goodIn_r _ [9] (by decide +kernel) (by decide +kernel)
set_option maxRecDepth 20000 in
theorem gX9_merged_X9_partB : GoodIn wsX9_merged (va_wsS RX9 27 yX9_partB wsX9_partB) := goodIn_app (goodIn_of _ (by decide +kernel)) ggX9_merged_X9_partB
set_option maxRecDepth 20000 in
theorem ggX9_merged_X9_packed : GoodIn wsX9_merged wsX9_packed := goodIn_r _ [12, 13] (by decide +kernel) (by decide +kernel)
set_option maxRecDepth 20000 in
theorem gX9_merged_X9_packed : GoodIn wsX9_merged (va_wsS RX9 15 yX9_packed wsX9_packed) := goodIn_app (goodIn_of _ (by decide +kernel)) ggX9_merged_X9_packed
theorem dX9_merged_0 : decode cX9_merged 0 = .ok (.lload_n 1, 1) := by decide +kernel
theorem dX9_merged_1 : decode cX9_merged 1 = .ok (.invokestatic 23, 3) := by decide +kernel
theorem dX9_merged_4 : decode cX9_merged 4 = .ok (.lload_n 3, 1) := by decide +kernel
theorem dX9_merged_5 : decode cX9_merged 5 = .ok (.invokestatic 23, 3) := by decide +kernel
theorem dX9_merged_8 : decode cX9_merged 8 = .ok (.ladd, 1) := by decide +kernel
theorem dX9_merged_9 : decode cX9_merged 9 = .ok (.aload_n 0, 1) := by decide +kernel
theorem dX9_merged_10 : decode cX9_merged 10 = .ok (.getfield 9, 3) := by decide +kernel
theorem dX9_merged_13 : decode cX9_merged 13 = .ok (.i2l, 1) := by decide +kernel
theorem dX9_merged_14 : decode cX9_merged 14 = .ok (.lrem, 1) := by decide +kernel
theorem dX9_merged_15 : decode cX9_merged 15 = .ok (.lload_n 1, 1) := by decide +kernel
theorem dX9_merged_16 : decode cX9_merged 16 = .ok (.invokestatic 27, 3) := by decide +kernel
theorem dX9_merged_19 : decode cX9_merged 19 = .ok (.lload_n 3, 1) := by decide +kernel
theorem dX9_merged_20 : decode cX9_merged 20 = .ok (.invokestatic 27, 3) := by decide +kernel
theorem dX9_merged_23 : decode cX9_merged 23 = .ok (.ladd, 1) := by decide +kernel
theorem dX9_merged_24 : decode cX9_merged 24 = .ok (.aload_n 0, 1) := by decide +kernel
theorem dX9_merged_25 : decode cX9_merged 25 = .ok (.getfield 9, 3) := by decide +kernel
theorem dX9_merged_28 : decode cX9_merged 28 = .ok (.i2l, 1) := by decide +kernel
theorem dX9_merged_29 : decode cX9_merged 29 = .ok (.lrem, 1) := by decide +kernel
theorem dX9_merged_30 : decode cX9_merged 30 = .ok (.invokestatic 15, 3) := by decide +kernel
theorem dX9_merged_33 : decode cX9_merged 33 = .ok (.lreturn, 1) := by decide +kernel
set_option maxRecDepth 20000 in
theorem ggX9_changed_J9_floorMod_f86c9 : GoodIn wsX9_changed wsJ9_floorMod_f86c9 := goodIn_r _ [5] (by decide +kernel) (by decide +kernel)
set_option maxRecDepth 20000 in
theorem gX9_changed_J9_floorMod_f86c9 : GoodIn wsX9_changed (va_wsS RX9 30 yJ9_floorMod_f86c9 wsJ9_floorMod_f86c9) := goodIn_app (goodIn_of _ (by decide +kernel)) ggX9_changed_J9_floorMod_f86c9
set_option maxRecDepth 20000 in
theorem ggX9_changed_X9_packed : GoodIn wsX9_changed wsX9_packed := goodIn_r _ [9, 10] (by decide +kernel) (by decide +kernel)
set_option maxRecDepth 20000 in
theorem gX9_changed_X9_packed : GoodIn wsX9_changed (va_wsS RX9 15 yX9_packed wsX9_packed) := goodIn_app (goodIn_of _ (by decide +kernel)) ggX9_changed_X9_packed
theorem dX9_changed_0 : decode cX9_changed 0 = .ok (.iload 4, 2) := by decide +kernel
theorem dX9_changed_2 : decode cX9_changed 2 = .ok (.iload_n 3, 1) := by decide +kernel
theorem dX9_changed_3 : decode cX9_changed 3 = .ok (.isub, 1) := by decide +kernel
theorem dX9_changed_4 : decode cX9_changed 4 = .ok (.i2l, 1) := by decide +kernel
theorem dX9_changed_5 : decode cX9_changed 5 = .ok (.lstore 5, 2) := by decide +kernel
theorem dX9_changed_7 : decode cX9_changed 7 = .ok (.lload 5, 2) := by decide +kernel
theorem dX9_changed_9 : decode cX9_changed 9 = .ok (.aload_n 0, 1) := by decide +kernel
theorem dX9_changed_10 : decode cX9_changed 10 = .ok (.getfield 9, 3) := by decide +kernel
theorem dX9_changed_13 : decode cX9_changed 13 = .ok (.i2l, 1) := by decide +kernel
theorem dX9_changed_14 : decode cX9_changed 14 = .ok (.invokestatic 30, 3) := by decide +kernel
theorem dX9_changed_17 : decode cX9_changed 17 = .ok (.iload_n 1, 1) := by decide +kernel
theorem dX9_changed_18 : decode cX9_changed 18 = .ok (.iload_n 2, 1) := by decide +kernel
theorem dX9_changed_19 : decode cX9_changed 19 = .ok (.isub, 1) := by decide +kernel
theorem dX9_changed_20 : decode cX9_changed 20 = .ok (.i2l, 1) := by decide +kernel
theorem dX9_changed_21 : decode cX9_changed 21 = .ok (.lload 5, 2) := by decide +kernel
theorem dX9_changed_23 : decode cX9_changed 23 = .ok (.lmul, 1) := by decide +kernel
theorem dX9_changed_24 : decode cX9_changed 24 = .ok (.aload_n 0, 1) := by decide +kernel
theorem dX9_changed_25 : decode cX9_changed 25 = .ok (.getfield 9, 3) := by decide +kernel
theorem dX9_changed_28 : decode cX9_changed 28 = .ok (.i2l, 1) := by decide +kernel
theorem dX9_changed_29 : decode cX9_changed 29 = .ok (.invokestatic 30, 3) := by decide +kernel
theorem dX9_changed_32 : decode cX9_changed 32 = .ok (.invokestatic 15, 3) := by decide +kernel
theorem dX9_changed_35 : decode cX9_changed 35 = .ok (.lreturn, 1) := by decide +kernel
set_option maxRecDepth 20000 in
theorem ggX9_carried_X9_partA : GoodIn wsX9_carried wsX9_partA := goodIn_r _ [5, 6] (by decide +kernel) (by decide +kernel)
set_option maxRecDepth 20000 in
theorem gX9_carried_X9_partA : GoodIn wsX9_carried (va_wsS RX9 23 yX9_partA wsX9_partA) := goodIn_app (goodIn_of _ (by decide +kernel)) ggX9_carried_X9_partA
set_option maxRecDepth 20000 in
theorem ggX9_carried_X9_partB : GoodIn wsX9_carried wsX9_partB := goodIn_r _ [9] (by decide +kernel) (by decide +kernel)
set_option maxRecDepth 20000 in
theorem gX9_carried_X9_partB : GoodIn wsX9_carried (va_wsS RX9 27 yX9_partB wsX9_partB) := goodIn_app (goodIn_of _ (by decide +kernel)) ggX9_carried_X9_partB
set_option maxRecDepth 20000 in
theorem ggX9_carried_X9_packed : GoodIn wsX9_carried wsX9_packed := goodIn_r _ [12, 13] (by decide +kernel) (by decide +kernel)
set_option maxRecDepth 20000 in
theorem gX9_carried_X9_packed : GoodIn wsX9_carried (va_wsS RX9 15 yX9_packed wsX9_packed) := goodIn_app (goodIn_of _ (by decide +kernel)) ggX9_carried_X9_packed
theorem dX9_carried_0 : decode cX9_carried 0 = .ok (.lload_n 1, 1) := by decide +kernel
theorem dX9_carried_1 : decode cX9_carried 1 = .ok (.invokestatic 23, 3) := by decide +kernel
theorem dX9_carried_4 : decode cX9_carried 4 = .ok (.lload_n 1, 1) := by decide +kernel
theorem dX9_carried_5 : decode cX9_carried 5 = .ok (.invokestatic 27, 3) := by decide +kernel
theorem dX9_carried_8 : decode cX9_carried 8 = .ok (.iload_n 3, 1) := by decide +kernel
theorem dX9_carried_9 : decode cX9_carried 9 = .ok (.i2l, 1) := by decide +kernel
theorem dX9_carried_10 : decode cX9_carried 10 = .ok (.lload_n 1, 1) := by decide +kernel
theorem dX9_carried_11 : decode cX9_carried 11 = .ok (.invokestatic 23, 3) := by decide +kernel
theorem dX9_carried_14 : decode cX9_carried 14 = .ok (.lmul, 1) := by decide +kernel
theorem dX9_carried_15 : decode cX9_carried 15 = .ok (.ladd, 1) := by decide +kernel
theorem dX9_carried_16 : decode cX9_carried 16 = .ok (.aload_n 0, 1) := by decide +kernel
theorem dX9_carried_17 : decode cX9_carried 17 = .ok (.getfield 9, 3) := by decide +kernel
theorem dX9_carried_20 : decode cX9_carried 20 = .ok (.i2l, 1) := by decide +kernel
theorem dX9_carried_21 : decode cX9_carried 21 = .ok (.lrem, 1) := by decide +kernel
theorem dX9_carried_22 : decode cX9_carried 22 = .ok (.invokestatic 15, 3) := by decide +kernel
theorem dX9_carried_25 : decode cX9_carried 25 = .ok (.lreturn, 1) := by decide +kernel
set_option maxRecDepth 20000 in
theorem ggX10_init_X2_init : GoodIn wsX10_init wsX2_init := goodIn_r _ [6, 7, 8, 9, 10, 11, 12, 13, 14, 18, 19, 20, 21, 22, 23, 24, 25, 26, 27, 28, 29, 30, 31, 15, 16, 17] (by decide +kernel) (by decide +kernel)
set_option maxRecDepth 20000 in
theorem gX10_init_X2_init : GoodIn wsX10_init (wsX2_init) := ggX10_init_X2_init
theorem dX10_init_0 : decode cX10_init 0 = .ok (.aload_n 0, 1) := by decide +kernel
theorem dX10_init_1 : decode cX10_init 1 = .ok (.iload_n 1, 1) := by decide +kernel
theorem dX10_init_2 : decode cX10_init 2 = .ok (.invokespecial 1, 3) := by decide +kernel
theorem dX10_init_5 : decode cX10_init 5 = .ok (.aload_n 0, 1) := by decide +kernel
theorem dX10_init_6 : decode cX10_init 6 = .ok (.iload_n 2, 1) := by decide +kernel
theorem dX10_init_7 : decode cX10_init 7 = .ok (.putfield 7, 3) := by decide +kernel
theorem dX10_init_10 : decode cX10_init 10 = .ok (.aload_n 0, 1) := by decide +kernel
theorem dX10_init_11 : decode cX10_init 11 = .ok (.aload_n 3, 1) := by decide +kernel
theorem dX10_init_12 : decode cX10_init 12 = .ok (.putfield 13, 3) := by decide +kernel
theorem dX10_init_15 : decode cX10_init 15 = .ok (.return_, 1) := by decide +kernel
set_option maxRecDepth 20000 in
theorem ggX10_ofRow_X10_weightAt : GoodIn wsX10_ofRow wsX10_weightAt := goodIn_r _ [6, 7, 8, 9, 10] (by decide +kernel) (by decide +kernel)
set_option maxRecDepth 20000 in
theorem gX10_ofRow_X10_weightAt : GoodIn wsX10_ofRow (wsV RX10 17 RX10 yX10_weightAt wsX10_weightAt) := goodIn_app (goodIn_of _ (by decide +kernel)) ggX10_ofRow_X10_weightAt
theorem dX10_ofRow_0 : decode cX10_ofRow 0 = .ok (.lconst 0, 1) := by decide +kernel
theorem dX10_ofRow_1 : decode cX10_ofRow 1 = .ok (.lstore_n 3, 1) := by decide +kernel
theorem dX10_ofRow_2 : decode cX10_ofRow 2 = .ok (.iconst 0, 1) := by decide +kernel
theorem dX10_ofRow_3 : decode cX10_ofRow 3 = .ok (.istore 5, 2) := by decide +kernel
theorem dX10_ofRow_5 : decode cX10_ofRow 5 = .ok (.iload 5, 2) := by decide +kernel
theorem dX10_ofRow_7 : decode cX10_ofRow 7 = .ok (.iload_n 2, 1) := by decide +kernel
theorem dX10_ofRow_8 : decode cX10_ofRow 8 = .ok (.if_icmp .ge 25, 3) := by decide +kernel
theorem dX10_ofRow_11 : decode cX10_ofRow 11 = .ok (.lload_n 3, 1) := by decide +kernel
theorem dX10_ofRow_12 : decode cX10_ofRow 12 = .ok (.aload_n 0, 1) := by decide +kernel
theorem dX10_ofRow_13 : decode cX10_ofRow 13 = .ok (.iload 5, 2) := by decide +kernel
theorem dX10_ofRow_15 : decode cX10_ofRow 15 = .ok (.invokevirtual 17, 3) := by decide +kernel
theorem dX10_ofRow_18 : decode cX10_ofRow 18 = .ok (.i2l, 1) := by decide +kernel
theorem dX10_ofRow_19 : decode cX10_ofRow 19 = .ok (.aload_n 1, 1) := by decide +kernel
theorem dX10_ofRow_20 : decode cX10_ofRow 20 = .ok (.iload 5, 2) := by decide +kernel
theorem dX10_ofRow_22 : decode cX10_ofRow 22 = .ok (.iaload, 1) := by decide +kernel
theorem dX10_ofRow_23 : decode cX10_ofRow 23 = .ok (.i2l, 1) := by decide +kernel
theorem dX10_ofRow_24 : decode cX10_ofRow 24 = .ok (.lmul, 1) := by decide +kernel
theorem dX10_ofRow_25 : decode cX10_ofRow 25 = .ok (.ladd, 1) := by decide +kernel
theorem dX10_ofRow_26 : decode cX10_ofRow 26 = .ok (.lstore_n 3, 1) := by decide +kernel
theorem dX10_ofRow_27 : decode cX10_ofRow 27 = .ok (.iinc 5 1, 3) := by decide +kernel
theorem dX10_ofRow_30 : decode cX10_ofRow 30 = .ok (.goto (-25), 3) := by decide +kernel
theorem dX10_ofRow_33 : decode cX10_ofRow 33 = .ok (.lload_n 3, 1) := by decide +kernel
theorem dX10_ofRow_34 : decode cX10_ofRow 34 = .ok (.aload_n 0, 1) := by decide +kernel
theorem dX10_ofRow_35 : decode cX10_ofRow 35 = .ok (.getfield 7, 3) := by decide +kernel
theorem dX10_ofRow_38 : decode cX10_ofRow 38 = .ok (.i2l, 1) := by decide +kernel
theorem dX10_ofRow_39 : decode cX10_ofRow 39 = .ok (.lrem, 1) := by decide +kernel
theorem dX10_ofRow_40 : decode cX10_ofRow 40 = .ok (.lreturn, 1) := by decide +kernel
theorem dX10_weightAt_0 : decode cX10_weightAt 0 = .ok (.aload_n 0, 1) := by decide +kernel
theorem dX10_weightAt_1 : decode cX10_weightAt 1 = .ok (.getfield 13, 3) := by decide +kernel
theorem dX10_weightAt_4 : decode cX10_weightAt 4 = .ok (.iload_n 1, 1) := by decide +kernel
theorem dX10_weightAt_5 : decode cX10_weightAt 5 = .ok (.aload_n 0, 1) := by decide +kernel
theorem dX10_weightAt_6 : decode cX10_weightAt 6 = .ok (.getfield 13, 3) := by decide +kernel
theorem dX10_weightAt_9 : decode cX10_weightAt 9 = .ok (.arraylength, 1) := by decide +kernel
theorem dX10_weightAt_10 : decode cX10_weightAt 10 = .ok (.irem, 1) := by decide +kernel
theorem dX10_weightAt_11 : decode cX10_weightAt 11 = .ok (.iaload, 1) := by decide +kernel
theorem dX10_weightAt_12 : decode cX10_weightAt 12 = .ok (.ireturn, 1) := by decide +kernel
theorem dX10_holds_0 : decode cX10_holds 0 = .ok (.lload_n 1, 1) := by decide +kernel
theorem dX10_holds_1 : decode cX10_holds 1 = .ok (.lconst 0, 1) := by decide +kernel
theorem dX10_holds_2 : decode cX10_holds 2 = .ok (.lcmp, 1) := by decide +kernel
theorem dX10_holds_3 : decode cX10_holds 3 = .ok (.ifCond .lt 17, 3) := by decide +kernel
theorem dX10_holds_6 : decode cX10_holds 6 = .ok (.lload_n 1, 1) := by decide +kernel
theorem dX10_holds_7 : decode cX10_holds 7 = .ok (.aload_n 0, 1) := by decide +kernel
theorem dX10_holds_8 : decode cX10_holds 8 = .ok (.getfield 7, 3) := by decide +kernel
theorem dX10_holds_11 : decode cX10_holds 11 = .ok (.i2l, 1) := by decide +kernel
theorem dX10_holds_12 : decode cX10_holds 12 = .ok (.lcmp, 1) := by decide +kernel
theorem dX10_holds_13 : decode cX10_holds 13 = .ok (.ifCond .ge 7, 3) := by decide +kernel
theorem dX10_holds_16 : decode cX10_holds 16 = .ok (.iconst 1, 1) := by decide +kernel
theorem dX10_holds_17 : decode cX10_holds 17 = .ok (.goto 4, 3) := by decide +kernel
theorem dX10_holds_20 : decode cX10_holds 20 = .ok (.iconst 0, 1) := by decide +kernel
theorem dX10_holds_21 : decode cX10_holds 21 = .ok (.ireturn, 1) := by decide +kernel
theorem dX10_merged_0 : decode cX10_merged 0 = .ok (.lload_n 1, 1) := by decide +kernel
theorem dX10_merged_1 : decode cX10_merged 1 = .ok (.lload_n 3, 1) := by decide +kernel
theorem dX10_merged_2 : decode cX10_merged 2 = .ok (.ladd, 1) := by decide +kernel
theorem dX10_merged_3 : decode cX10_merged 3 = .ok (.aload_n 0, 1) := by decide +kernel
theorem dX10_merged_4 : decode cX10_merged 4 = .ok (.getfield 7, 3) := by decide +kernel
theorem dX10_merged_7 : decode cX10_merged 7 = .ok (.i2l, 1) := by decide +kernel
theorem dX10_merged_8 : decode cX10_merged 8 = .ok (.lrem, 1) := by decide +kernel
theorem dX10_merged_9 : decode cX10_merged 9 = .ok (.lreturn, 1) := by decide +kernel
set_option maxRecDepth 20000 in
theorem ggX10_changed_X10_weightAt : GoodIn wsX10_changed wsX10_weightAt := goodIn_r _ [6, 7, 12, 13, 14] (by decide +kernel) (by decide +kernel)
set_option maxRecDepth 20000 in
theorem gX10_changed_X10_weightAt : GoodIn wsX10_changed (wsV RX10 17 RX10 yX10_weightAt wsX10_weightAt) := goodIn_app (goodIn_of _ (by decide +kernel)) ggX10_changed_X10_weightAt
set_option maxRecDepth 20000 in
theorem ggX10_changed_J9_floorMod_f86c9 : GoodIn wsX10_changed wsJ9_floorMod_f86c9 := goodIn_r _ [11] (by decide +kernel) (by decide +kernel)
set_option maxRecDepth 20000 in
theorem gX10_changed_J9_floorMod_f86c9 : GoodIn wsX10_changed (va_wsS RX10 21 yJ9_floorMod_f86c9 wsJ9_floorMod_f86c9) := goodIn_app (goodIn_of _ (by decide +kernel)) ggX10_changed_J9_floorMod_f86c9
theorem dX10_changed_0 : decode cX10_changed 0 = .ok (.aload_n 0, 1) := by decide +kernel
theorem dX10_changed_1 : decode cX10_changed 1 = .ok (.iload_n 2, 1) := by decide +kernel
theorem dX10_changed_2 : decode cX10_changed 2 = .ok (.invokevirtual 17, 3) := by decide +kernel
theorem dX10_changed_5 : decode cX10_changed 5 = .ok (.i2l, 1) := by decide +kernel
theorem dX10_changed_6 : decode cX10_changed 6 = .ok (.iload 4, 2) := by decide +kernel
theorem dX10_changed_8 : decode cX10_changed 8 = .ok (.iload_n 3, 1) := by decide +kernel
theorem dX10_changed_9 : decode cX10_changed 9 = .ok (.isub, 1) := by decide +kernel
theorem dX10_changed_10 : decode cX10_changed 10 = .ok (.i2l, 1) := by decide +kernel
theorem dX10_changed_11 : decode cX10_changed 11 = .ok (.lmul, 1) := by decide +kernel
theorem dX10_changed_12 : decode cX10_changed 12 = .ok (.aload_n 0, 1) := by decide +kernel
theorem dX10_changed_13 : decode cX10_changed 13 = .ok (.getfield 7, 3) := by decide +kernel
theorem dX10_changed_16 : decode cX10_changed 16 = .ok (.i2l, 1) := by decide +kernel
theorem dX10_changed_17 : decode cX10_changed 17 = .ok (.invokestatic 21, 3) := by decide +kernel
theorem dX10_changed_20 : decode cX10_changed 20 = .ok (.lreturn, 1) := by decide +kernel
theorem dX10_carried_0 : decode cX10_carried 0 = .ok (.lload_n 1, 1) := by decide +kernel
theorem dX10_carried_1 : decode cX10_carried 1 = .ok (.lreturn, 1) := by decide +kernel
theorem dX10_canJoinBehind_0 : decode cX10_canJoinBehind 0 = .ok (.iload_n 1, 1) := by decide +kernel
theorem dX10_canJoinBehind_1 : decode cX10_canJoinBehind 1 = .ok (.aload_n 0, 1) := by decide +kernel
theorem dX10_canJoinBehind_2 : decode cX10_canJoinBehind 2 = .ok (.getfield 13, 3) := by decide +kernel
theorem dX10_canJoinBehind_5 : decode cX10_canJoinBehind 5 = .ok (.arraylength, 1) := by decide +kernel
theorem dX10_canJoinBehind_6 : decode cX10_canJoinBehind 6 = .ok (.irem, 1) := by decide +kernel
theorem dX10_canJoinBehind_7 : decode cX10_canJoinBehind 7 = .ok (.ifCond .ne 7, 3) := by decide +kernel
theorem dX10_canJoinBehind_10 : decode cX10_canJoinBehind 10 = .ok (.iconst 1, 1) := by decide +kernel
theorem dX10_canJoinBehind_11 : decode cX10_canJoinBehind 11 = .ok (.goto 4, 3) := by decide +kernel
theorem dX10_canJoinBehind_14 : decode cX10_canJoinBehind 14 = .ok (.iconst 0, 1) := by decide +kernel
theorem dX10_canJoinBehind_15 : decode cX10_canJoinBehind 15 = .ok (.ireturn, 1) := by decide +kernel
theorem dX10_canDropFirst_0 : decode cX10_canDropFirst 0 = .ok (.aload_n 0, 1) := by decide +kernel
theorem dX10_canDropFirst_1 : decode cX10_canDropFirst 1 = .ok (.getfield 13, 3) := by decide +kernel
theorem dX10_canDropFirst_4 : decode cX10_canDropFirst 4 = .ok (.arraylength, 1) := by decide +kernel
theorem dX10_canDropFirst_5 : decode cX10_canDropFirst 5 = .ok (.iconst 1, 1) := by decide +kernel
theorem dX10_canDropFirst_6 : decode cX10_canDropFirst 6 = .ok (.if_icmp .ne 7, 3) := by decide +kernel
theorem dX10_canDropFirst_9 : decode cX10_canDropFirst 9 = .ok (.iconst 1, 1) := by decide +kernel
