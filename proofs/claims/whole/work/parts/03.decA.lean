theorem dX0_init_0 : decode cX0_init 0 = .ok (.aload_n 0, 1) := by decide +kernel
theorem dX0_init_1 : decode cX0_init 1 = .ok (.invokespecial 3, 3) := by decide +kernel
theorem dX0_init_4 : decode cX0_init 4 = .ok (.aload_n 0, 1) := by decide +kernel
theorem dX0_init_5 : decode cX0_init 5 = .ok (.iconst 0, 1) := by decide +kernel
theorem dX0_init_6 : decode cX0_init 6 = .ok (.putfield 9, 3) := by decide +kernel
theorem dX0_init_9 : decode cX0_init 9 = .ok (.aload_n 0, 1) := by decide +kernel
theorem dX0_init_10 : decode cX0_init 10 = .ok (.iconst 0, 1) := by decide +kernel
theorem dX0_init_11 : decode cX0_init 11 = .ok (.putfield 15, 3) := by decide +kernel
theorem dX0_init_14 : decode cX0_init 14 = .ok (.aload_n 0, 1) := by decide +kernel
theorem dX0_init_15 : decode cX0_init 15 = .ok (.iconst 0, 1) := by decide +kernel
theorem dX0_init_16 : decode cX0_init 16 = .ok (.putfield 18, 3) := by decide +kernel
theorem dX0_init_19 : decode cX0_init 19 = .ok (.aload_n 0, 1) := by decide +kernel
theorem dX0_init_20 : decode cX0_init 20 = .ok (.iconst 0, 1) := by decide +kernel
theorem dX0_init_21 : decode cX0_init 21 = .ok (.putfield 21, 3) := by decide +kernel
theorem dX0_init_24 : decode cX0_init 24 = .ok (.aload_n 0, 1) := by decide +kernel
theorem dX0_init_25 : decode cX0_init 25 = .ok (.aload_n 1, 1) := by decide +kernel
theorem dX0_init_26 : decode cX0_init 26 = .ok (.putfield 24, 3) := by decide +kernel
theorem dX0_init_29 : decode cX0_init 29 = .ok (.aload_n 0, 1) := by decide +kernel
theorem dX0_init_30 : decode cX0_init 30 = .ok (.aload_n 2, 1) := by decide +kernel
theorem dX0_init_31 : decode cX0_init 31 = .ok (.putfield 28, 3) := by decide +kernel
theorem dX0_init_34 : decode cX0_init 34 = .ok (.return_, 1) := by decide +kernel
set_option maxRecDepth 20000 in
theorem ggX0_findLeast_X9_isIn : GoodIn wsX0_findLeast wsX9_isIn := goodIn_r _ [6] (by decide +kernel) (by decide +kernel)
set_option maxRecDepth 20000 in
theorem gX0_findLeast_X9_isIn_n37 : GoodIn wsX0_findLeast (wsX9_isIn) := ggX0_findLeast_X9_isIn
set_option maxRecDepth 20000 in
theorem ggX0_findLeast_X0_lookAtSide : GoodIn wsX0_findLeast wsX0_lookAtSide := goodIn_r _ [11, 3, 1, 2, 4, 5, 6, 12, 13, 14, 10, 15, 16, 17, 18, 19, 20, 21, 22, 23, 24, 25, 26, 27, 28, 29, 30, 31, 32, 33, 34, 35, 36, 37, 38] (by decide +kernel) (by decide +kernel)
set_option maxRecDepth 20000 in
theorem gX0_findLeast_X0_lookAtSide : GoodIn wsX0_findLeast (wsV RX0 41 RX0 yX0_lookAtSide wsX0_lookAtSide) := goodIn_app (goodIn_of _ (by decide +kernel)) ggX0_findLeast_X0_lookAtSide
theorem dX0_findLeast_0 : decode cX0_findLeast 0 = .ok (.aload_n 0, 1) := by decide +kernel
theorem dX0_findLeast_1 : decode cX0_findLeast 1 = .ok (.bipush 82, 2) := by decide +kernel
theorem dX0_findLeast_3 : decode cX0_findLeast 3 = .ok (.putfield 9, 3) := by decide +kernel
theorem dX0_findLeast_6 : decode cX0_findLeast 6 = .ok (.aload_n 0, 1) := by decide +kernel
theorem dX0_findLeast_7 : decode cX0_findLeast 7 = .ok (.iconst 0, 1) := by decide +kernel
theorem dX0_findLeast_8 : decode cX0_findLeast 8 = .ok (.putfield 15, 3) := by decide +kernel
theorem dX0_findLeast_11 : decode cX0_findLeast 11 = .ok (.iconst 0, 1) := by decide +kernel
theorem dX0_findLeast_12 : decode cX0_findLeast 12 = .ok (.istore 4, 2) := by decide +kernel
theorem dX0_findLeast_14 : decode cX0_findLeast 14 = .ok (.iload 4, 2) := by decide +kernel
theorem dX0_findLeast_16 : decode cX0_findLeast 16 = .ok (.iconst 1, 1) := by decide +kernel
theorem dX0_findLeast_17 : decode cX0_findLeast 17 = .ok (.aload_n 0, 1) := by decide +kernel
theorem dX0_findLeast_18 : decode cX0_findLeast 18 = .ok (.getfield 24, 3) := by decide +kernel
theorem dX0_findLeast_21 : decode cX0_findLeast 21 = .ok (.getfield 32, 3) := by decide +kernel
theorem dX0_findLeast_24 : decode cX0_findLeast 24 = .ok (.ishl, 1) := by decide +kernel
theorem dX0_findLeast_25 : decode cX0_findLeast 25 = .ok (.if_icmp .ge 34, 3) := by decide +kernel
theorem dX0_findLeast_28 : decode cX0_findLeast 28 = .ok (.iload 4, 2) := by decide +kernel
theorem dX0_findLeast_30 : decode cX0_findLeast 30 = .ok (.iload_n 2, 1) := by decide +kernel
theorem dX0_findLeast_31 : decode cX0_findLeast 31 = .ok (.invokestatic 37, 3) := by decide +kernel
theorem dX0_findLeast_34 : decode cX0_findLeast 34 = .ok (.ifCond .eq 19, 3) := by decide +kernel
theorem dX0_findLeast_37 : decode cX0_findLeast 37 = .ok (.iload 4, 2) := by decide +kernel
theorem dX0_findLeast_39 : decode cX0_findLeast 39 = .ok (.iload_n 3, 1) := by decide +kernel
theorem dX0_findLeast_40 : decode cX0_findLeast 40 = .ok (.invokestatic 37, 3) := by decide +kernel
theorem dX0_findLeast_43 : decode cX0_findLeast 43 = .ok (.ifCond .ne 10, 3) := by decide +kernel
theorem dX0_findLeast_46 : decode cX0_findLeast 46 = .ok (.aload_n 0, 1) := by decide +kernel
theorem dX0_findLeast_47 : decode cX0_findLeast 47 = .ok (.iload 4, 2) := by decide +kernel
theorem dX0_findLeast_49 : decode cX0_findLeast 49 = .ok (.iload_n 1, 1) := by decide +kernel
theorem dX0_findLeast_50 : decode cX0_findLeast 50 = .ok (.invokevirtual 41, 3) := by decide +kernel
theorem dX0_findLeast_53 : decode cX0_findLeast 53 = .ok (.iinc 4 1, 3) := by decide +kernel
theorem dX0_findLeast_56 : decode cX0_findLeast 56 = .ok (.goto (-42), 3) := by decide +kernel
theorem dX0_findLeast_59 : decode cX0_findLeast 59 = .ok (.return_, 1) := by decide +kernel
set_option maxRecDepth 20000 in
theorem ggX0_lookAtSide_X9_isIn : GoodIn wsX0_lookAtSide wsX9_isIn := goodIn_r _ [6] (by decide +kernel) (by decide +kernel)
set_option maxRecDepth 20000 in
theorem gX0_lookAtSide_X9_isIn_n37 : GoodIn wsX0_lookAtSide (wsX9_isIn) := ggX0_lookAtSide_X9_isIn
set_option maxRecDepth 20000 in
theorem ggX0_lookAtSide_X0_timesBorne : GoodIn wsX0_lookAtSide wsX0_timesBorne := goodIn_r _ [11, 12, 13, 14, 15, 16, 17, 18, 31, 32, 33, 34] (by decide +kernel) (by decide +kernel)
set_option maxRecDepth 20000 in
theorem gX0_lookAtSide_X0_timesBorne : GoodIn wsX0_lookAtSide (wsV RX0 55 RX0 yX0_timesBorne wsX0_timesBorne) := goodIn_app (goodIn_of _ (by decide +kernel)) ggX0_lookAtSide_X0_timesBorne
theorem dX0_lookAtSide_0 : decode cX0_lookAtSide 0 = .ok (.iconst 0, 1) := by decide +kernel
theorem dX0_lookAtSide_1 : decode cX0_lookAtSide 1 = .ok (.istore_n 3, 1) := by decide +kernel
theorem dX0_lookAtSide_2 : decode cX0_lookAtSide 2 = .ok (.iconst 0, 1) := by decide +kernel
theorem dX0_lookAtSide_3 : decode cX0_lookAtSide 3 = .ok (.istore 4, 2) := by decide +kernel
theorem dX0_lookAtSide_5 : decode cX0_lookAtSide 5 = .ok (.iconst 0, 1) := by decide +kernel
theorem dX0_lookAtSide_6 : decode cX0_lookAtSide 6 = .ok (.istore 5, 2) := by decide +kernel
theorem dX0_lookAtSide_8 : decode cX0_lookAtSide 8 = .ok (.iload 5, 2) := by decide +kernel
theorem dX0_lookAtSide_10 : decode cX0_lookAtSide 10 = .ok (.aload_n 0, 1) := by decide +kernel
theorem dX0_lookAtSide_11 : decode cX0_lookAtSide 11 = .ok (.getfield 24, 3) := by decide +kernel
theorem dX0_lookAtSide_14 : decode cX0_lookAtSide 14 = .ok (.getfield 45, 3) := by decide +kernel
theorem dX0_lookAtSide_17 : decode cX0_lookAtSide 17 = .ok (.if_icmp .ge 59, 3) := by decide +kernel
theorem dX0_lookAtSide_20 : decode cX0_lookAtSide 20 = .ok (.iload_n 1, 1) := by decide +kernel
theorem dX0_lookAtSide_21 : decode cX0_lookAtSide 21 = .ok (.aload_n 0, 1) := by decide +kernel
theorem dX0_lookAtSide_22 : decode cX0_lookAtSide 22 = .ok (.getfield 24, 3) := by decide +kernel
theorem dX0_lookAtSide_25 : decode cX0_lookAtSide 25 = .ok (.getfield 48, 3) := by decide +kernel
theorem dX0_lookAtSide_28 : decode cX0_lookAtSide 28 = .ok (.iload 5, 2) := by decide +kernel
theorem dX0_lookAtSide_30 : decode cX0_lookAtSide 30 = .ok (.iaload, 1) := by decide +kernel
theorem dX0_lookAtSide_31 : decode cX0_lookAtSide 31 = .ok (.invokestatic 37, 3) := by decide +kernel
theorem dX0_lookAtSide_34 : decode cX0_lookAtSide 34 = .ok (.iload_n 1, 1) := by decide +kernel
theorem dX0_lookAtSide_35 : decode cX0_lookAtSide 35 = .ok (.aload_n 0, 1) := by decide +kernel
theorem dX0_lookAtSide_36 : decode cX0_lookAtSide 36 = .ok (.getfield 24, 3) := by decide +kernel
theorem dX0_lookAtSide_39 : decode cX0_lookAtSide 39 = .ok (.getfield 52, 3) := by decide +kernel
theorem dX0_lookAtSide_42 : decode cX0_lookAtSide 42 = .ok (.iload 5, 2) := by decide +kernel
theorem dX0_lookAtSide_44 : decode cX0_lookAtSide 44 = .ok (.iaload, 1) := by decide +kernel
theorem dX0_lookAtSide_45 : decode cX0_lookAtSide 45 = .ok (.invokestatic 37, 3) := by decide +kernel
theorem dX0_lookAtSide_48 : decode cX0_lookAtSide 48 = .ok (.if_icmp .eq 22, 3) := by decide +kernel
theorem dX0_lookAtSide_51 : decode cX0_lookAtSide 51 = .ok (.iload_n 3, 1) := by decide +kernel
theorem dX0_lookAtSide_52 : decode cX0_lookAtSide 52 = .ok (.aload_n 0, 1) := by decide +kernel
theorem dX0_lookAtSide_53 : decode cX0_lookAtSide 53 = .ok (.iload 5, 2) := by decide +kernel
theorem dX0_lookAtSide_55 : decode cX0_lookAtSide 55 = .ok (.iload_n 2, 1) := by decide +kernel
theorem dX0_lookAtSide_56 : decode cX0_lookAtSide 56 = .ok (.invokevirtual 55, 3) := by decide +kernel
theorem dX0_lookAtSide_59 : decode cX0_lookAtSide 59 = .ok (.iadd, 1) := by decide +kernel
theorem dX0_lookAtSide_60 : decode cX0_lookAtSide 60 = .ok (.istore_n 3, 1) := by decide +kernel
theorem dX0_lookAtSide_61 : decode cX0_lookAtSide 61 = .ok (.iload 4, 2) := by decide +kernel
theorem dX0_lookAtSide_63 : decode cX0_lookAtSide 63 = .ok (.iconst 1, 1) := by decide +kernel
theorem dX0_lookAtSide_64 : decode cX0_lookAtSide 64 = .ok (.iload 5, 2) := by decide +kernel
theorem dX0_lookAtSide_66 : decode cX0_lookAtSide 66 = .ok (.ishl, 1) := by decide +kernel
theorem dX0_lookAtSide_67 : decode cX0_lookAtSide 67 = .ok (.ior, 1) := by decide +kernel
theorem dX0_lookAtSide_68 : decode cX0_lookAtSide 68 = .ok (.istore 4, 2) := by decide +kernel
theorem dX0_lookAtSide_70 : decode cX0_lookAtSide 70 = .ok (.iinc 5 1, 3) := by decide +kernel
theorem dX0_lookAtSide_73 : decode cX0_lookAtSide 73 = .ok (.goto (-65), 3) := by decide +kernel
theorem dX0_lookAtSide_76 : decode cX0_lookAtSide 76 = .ok (.iload_n 3, 1) := by decide +kernel
theorem dX0_lookAtSide_77 : decode cX0_lookAtSide 77 = .ok (.aload_n 0, 1) := by decide +kernel
theorem dX0_lookAtSide_78 : decode cX0_lookAtSide 78 = .ok (.getfield 9, 3) := by decide +kernel
theorem dX0_lookAtSide_81 : decode cX0_lookAtSide 81 = .ok (.if_icmp .lt 20, 3) := by decide +kernel
theorem dX0_lookAtSide_84 : decode cX0_lookAtSide 84 = .ok (.iload_n 3, 1) := by decide +kernel
theorem dX0_lookAtSide_85 : decode cX0_lookAtSide 85 = .ok (.aload_n 0, 1) := by decide +kernel
theorem dX0_lookAtSide_86 : decode cX0_lookAtSide 86 = .ok (.getfield 9, 3) := by decide +kernel
theorem dX0_lookAtSide_89 : decode cX0_lookAtSide 89 = .ok (.if_icmp .ne 23, 3) := by decide +kernel
theorem dX0_lookAtSide_92 : decode cX0_lookAtSide 92 = .ok (.iload 4, 2) := by decide +kernel
theorem dX0_lookAtSide_94 : decode cX0_lookAtSide 94 = .ok (.aload_n 0, 1) := by decide +kernel
theorem dX0_lookAtSide_95 : decode cX0_lookAtSide 95 = .ok (.getfield 15, 3) := by decide +kernel
theorem dX0_lookAtSide_98 : decode cX0_lookAtSide 98 = .ok (.if_icmp .ge 14, 3) := by decide +kernel
theorem dX0_lookAtSide_101 : decode cX0_lookAtSide 101 = .ok (.aload_n 0, 1) := by decide +kernel
theorem dX0_lookAtSide_102 : decode cX0_lookAtSide 102 = .ok (.iload_n 3, 1) := by decide +kernel
theorem dX0_lookAtSide_103 : decode cX0_lookAtSide 103 = .ok (.putfield 9, 3) := by decide +kernel
theorem dX0_lookAtSide_106 : decode cX0_lookAtSide 106 = .ok (.aload_n 0, 1) := by decide +kernel
theorem dX0_lookAtSide_107 : decode cX0_lookAtSide 107 = .ok (.iload 4, 2) := by decide +kernel
theorem dX0_lookAtSide_109 : decode cX0_lookAtSide 109 = .ok (.putfield 15, 3) := by decide +kernel
theorem dX0_lookAtSide_112 : decode cX0_lookAtSide 112 = .ok (.return_, 1) := by decide +kernel
theorem dX0_timesBorne_0 : decode cX0_timesBorne 0 = .ok (.iload_n 2, 1) := by decide +kernel
theorem dX0_timesBorne_1 : decode cX0_timesBorne 1 = .ok (.ifCond .le 17, 3) := by decide +kernel
theorem dX0_timesBorne_4 : decode cX0_timesBorne 4 = .ok (.aload_n 0, 1) := by decide +kernel
theorem dX0_timesBorne_5 : decode cX0_timesBorne 5 = .ok (.getfield 28, 3) := by decide +kernel
theorem dX0_timesBorne_8 : decode cX0_timesBorne 8 = .ok (.getfield 59, 3) := by decide +kernel
theorem dX0_timesBorne_11 : decode cX0_timesBorne 11 = .ok (.iload_n 1, 1) := by decide +kernel
theorem dX0_timesBorne_12 : decode cX0_timesBorne 12 = .ok (.iaload, 1) := by decide +kernel
theorem dX0_timesBorne_13 : decode cX0_timesBorne 13 = .ok (.iload_n 2, 1) := by decide +kernel
theorem dX0_timesBorne_14 : decode cX0_timesBorne 14 = .ok (.idiv, 1) := by decide +kernel
theorem dX0_timesBorne_15 : decode cX0_timesBorne 15 = .ok (.goto 4, 3) := by decide +kernel
theorem dX0_timesBorne_18 : decode cX0_timesBorne 18 = .ok (.iconst 0, 1) := by decide +kernel
theorem dX0_timesBorne_19 : decode cX0_timesBorne 19 = .ok (.ireturn, 1) := by decide +kernel
set_option maxRecDepth 20000 in
theorem ggX0_findBestExchange_X3_swap : GoodIn wsX0_findBestExchange wsX3_swap := goodIn_r _ [10, 11, 47, 48, 49, 50] (by decide +kernel) (by decide +kernel)
set_option maxRecDepth 20000 in
theorem gX0_findBestExchange_X3_swap : GoodIn wsX0_findBestExchange (wsV RX0 64 RX3 yX3_swap wsX3_swap) := goodIn_app (goodIn_of _ (by decide +kernel)) ggX0_findBestExchange_X3_swap
set_option maxRecDepth 20000 in
theorem ggX0_findBestExchange_X0_findLeast : GoodIn wsX0_findBestExchange wsX0_findLeast := goodIn_r _ [16, 5, 17, 3, 18, 19, 20, 21, 22, 23, 15, 24, 25, 26, 27, 28, 4, 29, 30, 31, 32, 33, 34, 35, 36, 37, 38, 39, 40, 41, 42, 43, 44, 45, 46, 47, 48, 49, 50] (by decide +kernel) (by decide +kernel)
set_option maxRecDepth 20000 in
theorem gX0_findBestExchange_X0_findLeast : GoodIn wsX0_findBestExchange (wsV RX0 67 RX0 yX0_findLeast wsX0_findLeast) := goodIn_app (goodIn_of _ (by decide +kernel)) ggX0_findBestExchange_X0_findLeast
theorem dX0_findBestExchange_0 : decode cX0_findBestExchange 0 = .ok (.aload_n 0, 1) := by decide +kernel
theorem dX0_findBestExchange_1 : decode cX0_findBestExchange 1 = .ok (.iconst (-1), 1) := by decide +kernel
theorem dX0_findBestExchange_2 : decode cX0_findBestExchange 2 = .ok (.putfield 18, 3) := by decide +kernel
theorem dX0_findBestExchange_5 : decode cX0_findBestExchange 5 = .ok (.aload_n 0, 1) := by decide +kernel
theorem dX0_findBestExchange_6 : decode cX0_findBestExchange 6 = .ok (.bipush (-9), 2) := by decide +kernel
theorem dX0_findBestExchange_8 : decode cX0_findBestExchange 8 = .ok (.putfield 21, 3) := by decide +kernel
theorem dX0_findBestExchange_11 : decode cX0_findBestExchange 11 = .ok (.iconst 0, 1) := by decide +kernel
theorem dX0_findBestExchange_12 : decode cX0_findBestExchange 12 = .ok (.istore 4, 2) := by decide +kernel
theorem dX0_findBestExchange_14 : decode cX0_findBestExchange 14 = .ok (.iload 4, 2) := by decide +kernel
theorem dX0_findBestExchange_16 : decode cX0_findBestExchange 16 = .ok (.aload_n 0, 1) := by decide +kernel
theorem dX0_findBestExchange_17 : decode cX0_findBestExchange 17 = .ok (.getfield 24, 3) := by decide +kernel
theorem dX0_findBestExchange_20 : decode cX0_findBestExchange 20 = .ok (.getfield 45, 3) := by decide +kernel
theorem dX0_findBestExchange_23 : decode cX0_findBestExchange 23 = .ok (.if_icmp .ge 93, 3) := by decide +kernel
theorem dX0_findBestExchange_26 : decode cX0_findBestExchange 26 = .ok (.iload 4, 2) := by decide +kernel
theorem dX0_findBestExchange_28 : decode cX0_findBestExchange 28 = .ok (.iconst 1, 1) := by decide +kernel
theorem dX0_findBestExchange_29 : decode cX0_findBestExchange 29 = .ok (.iadd, 1) := by decide +kernel
theorem dX0_findBestExchange_30 : decode cX0_findBestExchange 30 = .ok (.istore 5, 2) := by decide +kernel
theorem dX0_findBestExchange_32 : decode cX0_findBestExchange 32 = .ok (.iload 5, 2) := by decide +kernel
theorem dX0_findBestExchange_34 : decode cX0_findBestExchange 34 = .ok (.aload_n 0, 1) := by decide +kernel
theorem dX0_findBestExchange_35 : decode cX0_findBestExchange 35 = .ok (.getfield 24, 3) := by decide +kernel
theorem dX0_findBestExchange_38 : decode cX0_findBestExchange 38 = .ok (.getfield 45, 3) := by decide +kernel
theorem dX0_findBestExchange_41 : decode cX0_findBestExchange 41 = .ok (.if_icmp .ge 69, 3) := by decide +kernel
theorem dX0_findBestExchange_44 : decode cX0_findBestExchange 44 = .ok (.aload_n 0, 1) := by decide +kernel
theorem dX0_findBestExchange_45 : decode cX0_findBestExchange 45 = .ok (.getfield 28, 3) := by decide +kernel
theorem dX0_findBestExchange_48 : decode cX0_findBestExchange 48 = .ok (.iload 4, 2) := by decide +kernel
theorem dX0_findBestExchange_50 : decode cX0_findBestExchange 50 = .ok (.iload 5, 2) := by decide +kernel
theorem dX0_findBestExchange_52 : decode cX0_findBestExchange 52 = .ok (.invokevirtual 64, 3) := by decide +kernel
theorem dX0_findBestExchange_55 : decode cX0_findBestExchange 55 = .ok (.aload_n 0, 1) := by decide +kernel
theorem dX0_findBestExchange_56 : decode cX0_findBestExchange 56 = .ok (.iload_n 1, 1) := by decide +kernel
theorem dX0_findBestExchange_57 : decode cX0_findBestExchange 57 = .ok (.iload_n 2, 1) := by decide +kernel
theorem dX0_findBestExchange_58 : decode cX0_findBestExchange 58 = .ok (.iload_n 3, 1) := by decide +kernel
theorem dX0_findBestExchange_59 : decode cX0_findBestExchange 59 = .ok (.invokevirtual 67, 3) := by decide +kernel
theorem dX0_findBestExchange_62 : decode cX0_findBestExchange 62 = .ok (.aload_n 0, 1) := by decide +kernel
theorem dX0_findBestExchange_63 : decode cX0_findBestExchange 63 = .ok (.getfield 28, 3) := by decide +kernel
theorem dX0_findBestExchange_66 : decode cX0_findBestExchange 66 = .ok (.iload 4, 2) := by decide +kernel
theorem dX0_findBestExchange_68 : decode cX0_findBestExchange 68 = .ok (.iload 5, 2) := by decide +kernel
theorem dX0_findBestExchange_70 : decode cX0_findBestExchange 70 = .ok (.invokevirtual 64, 3) := by decide +kernel
theorem dX0_findBestExchange_73 : decode cX0_findBestExchange 73 = .ok (.aload_n 0, 1) := by decide +kernel
theorem dX0_findBestExchange_74 : decode cX0_findBestExchange 74 = .ok (.getfield 9, 3) := by decide +kernel
theorem dX0_findBestExchange_77 : decode cX0_findBestExchange 77 = .ok (.aload_n 0, 1) := by decide +kernel
theorem dX0_findBestExchange_78 : decode cX0_findBestExchange 78 = .ok (.getfield 18, 3) := by decide +kernel
theorem dX0_findBestExchange_81 : decode cX0_findBestExchange 81 = .ok (.if_icmp .le 23, 3) := by decide +kernel
theorem dX0_findBestExchange_84 : decode cX0_findBestExchange 84 = .ok (.aload_n 0, 1) := by decide +kernel
theorem dX0_findBestExchange_85 : decode cX0_findBestExchange 85 = .ok (.aload_n 0, 1) := by decide +kernel
theorem dX0_findBestExchange_86 : decode cX0_findBestExchange 86 = .ok (.getfield 9, 3) := by decide +kernel
theorem dX0_findBestExchange_89 : decode cX0_findBestExchange 89 = .ok (.putfield 18, 3) := by decide +kernel
theorem dX0_findBestExchange_92 : decode cX0_findBestExchange 92 = .ok (.aload_n 0, 1) := by decide +kernel
theorem dX0_findBestExchange_93 : decode cX0_findBestExchange 93 = .ok (.bipush 10, 2) := by decide +kernel
theorem dX0_findBestExchange_95 : decode cX0_findBestExchange 95 = .ok (.iload 4, 2) := by decide +kernel
theorem dX0_findBestExchange_97 : decode cX0_findBestExchange 97 = .ok (.imul, 1) := by decide +kernel
theorem dX0_findBestExchange_98 : decode cX0_findBestExchange 98 = .ok (.iload 5, 2) := by decide +kernel
theorem dX0_findBestExchange_100 : decode cX0_findBestExchange 100 = .ok (.iadd, 1) := by decide +kernel
theorem dX0_findBestExchange_101 : decode cX0_findBestExchange 101 = .ok (.putfield 21, 3) := by decide +kernel
theorem dX0_findBestExchange_104 : decode cX0_findBestExchange 104 = .ok (.iinc 5 1, 3) := by decide +kernel
theorem dX0_findBestExchange_107 : decode cX0_findBestExchange 107 = .ok (.goto (-75), 3) := by decide +kernel
theorem dX0_findBestExchange_110 : decode cX0_findBestExchange 110 = .ok (.iinc 4 1, 3) := by decide +kernel
theorem dX0_findBestExchange_113 : decode cX0_findBestExchange 113 = .ok (.goto (-99), 3) := by decide +kernel
theorem dX0_findBestExchange_116 : decode cX0_findBestExchange 116 = .ok (.return_, 1) := by decide +kernel
theorem dX1_init_0 : decode cX1_init 0 = .ok (.aload_n 0, 1) := by decide +kernel
theorem dX1_init_1 : decode cX1_init 1 = .ok (.invokespecial 3, 3) := by decide +kernel
theorem dX1_init_4 : decode cX1_init 4 = .ok (.aload_n 0, 1) := by decide +kernel
theorem dX1_init_5 : decode cX1_init 5 = .ok (.lconst 0, 1) := by decide +kernel
theorem dX1_init_6 : decode cX1_init 6 = .ok (.putfield 9, 3) := by decide +kernel
theorem dX1_init_9 : decode cX1_init 9 = .ok (.aload_n 0, 1) := by decide +kernel
theorem dX1_init_10 : decode cX1_init 10 = .ok (.aload_n 1, 1) := by decide +kernel
theorem dX1_init_11 : decode cX1_init 11 = .ok (.putfield 15, 3) := by decide +kernel
theorem dX1_init_14 : decode cX1_init 14 = .ok (.aload_n 0, 1) := by decide +kernel
theorem dX1_init_15 : decode cX1_init 15 = .ok (.aload_n 2, 1) := by decide +kernel
theorem dX1_init_16 : decode cX1_init 16 = .ok (.putfield 19, 3) := by decide +kernel
theorem dX1_init_19 : decode cX1_init 19 = .ok (.return_, 1) := by decide +kernel
set_option maxRecDepth 20000 in
theorem ggX1_rateAs_X1_asPerson : GoodIn wsX1_rateAs wsX1_asPerson := goodIn_r _ [6, 7, 8, 41, 42, 43, 44, 45, 46, 47, 48, 49, 50, 51, 52, 53, 54, 55] (by decide +kernel) (by decide +kernel)
set_option maxRecDepth 20000 in
theorem gX1_rateAs_X1_asPerson : GoodIn wsX1_rateAs (wsV RX1 23 RX1 yX1_asPerson wsX1_asPerson) := goodIn_app (goodIn_of _ (by decide +kernel)) ggX1_rateAs_X1_asPerson
set_option maxRecDepth 20000 in
theorem ggX1_rateAs_X1_asFarmer : GoodIn wsX1_rateAs wsX1_asFarmer := goodIn_r _ [12, 7, 13, 14, 8, 2, 3, 4, 5, 6, 15, 16, 17, 18, 19, 20, 41, 42, 43, 44, 45, 46, 47, 48, 49, 50, 51, 52, 53, 54, 55, 56, 57, 58, 59] (by decide +kernel) (by decide +kernel)
set_option maxRecDepth 20000 in
theorem gX1_rateAs_X1_asFarmer : GoodIn wsX1_rateAs (wsV RX1 27 RX1 yX1_asFarmer wsX1_asFarmer) := goodIn_app (goodIn_of _ (by decide +kernel)) ggX1_rateAs_X1_asFarmer
set_option maxRecDepth 20000 in
theorem ggX1_rateAs_X1_asLeaper : GoodIn wsX1_rateAs wsX1_asLeaper := goodIn_r _ [24, 7, 25, 8, 2, 3, 4, 5, 6, 41, 42, 43, 44, 45, 46, 47, 48, 49, 50, 51, 52, 53, 54, 55] (by decide +kernel) (by decide +kernel)
set_option maxRecDepth 20000 in
theorem gX1_rateAs_X1_asLeaper : GoodIn wsX1_rateAs (wsV RX1 30 RX1 yX1_asLeaper wsX1_asLeaper) := goodIn_app (goodIn_of _ (by decide +kernel)) ggX1_rateAs_X1_asLeaper
set_option maxRecDepth 20000 in
theorem ggX1_rateAs_X1_asCarter : GoodIn wsX1_rateAs wsX1_asCarter := goodIn_r _ [29, 7, 30, 9, 10, 11, 5, 12, 13, 14, 8, 2, 3, 4, 6, 15, 16, 17, 18, 19, 20, 41, 42, 43, 44, 45, 46, 47, 48, 49, 50, 51, 52, 53, 54, 55, 56, 57, 58, 59] (by decide +kernel) (by decide +kernel)
set_option maxRecDepth 20000 in
theorem gX1_rateAs_X1_asCarter : GoodIn wsX1_rateAs (wsV RX1 33 RX1 yX1_asCarter wsX1_asCarter) := goodIn_app (goodIn_of _ (by decide +kernel)) ggX1_rateAs_X1_asCarter
set_option maxRecDepth 20000 in
theorem ggX1_rateAs_X1_asThief : GoodIn wsX1_rateAs wsX1_asThief := goodIn_r _ [34, 7, 35, 21, 22, 23, 5, 24, 25, 8, 2, 3, 4, 6, 41, 42, 43, 44, 45, 46, 47, 48, 49, 50, 51, 52, 53, 54, 55] (by decide +kernel) (by decide +kernel)
set_option maxRecDepth 20000 in
theorem gX1_rateAs_X1_asThief : GoodIn wsX1_rateAs (wsV RX1 36 RX1 yX1_asThief wsX1_asThief) := goodIn_app (goodIn_of _ (by decide +kernel)) ggX1_rateAs_X1_asThief
set_option maxRecDepth 20000 in
theorem ggX1_rateAs_X1_asBride : GoodIn wsX1_rateAs wsX1_asBride := goodIn_r _ [39, 7, 40, 14, 2, 3, 4, 5, 6, 8, 41, 42, 43, 56, 57, 58, 59, 44, 45, 46, 47, 48, 49, 50, 51, 52, 53, 54, 55] (by decide +kernel) (by decide +kernel)
set_option maxRecDepth 20000 in
theorem gX1_rateAs_X1_asBride : GoodIn wsX1_rateAs (wsV RX1 39 RX1 yX1_asBride wsX1_asBride) := goodIn_app (goodIn_of _ (by decide +kernel)) ggX1_rateAs_X1_asBride
theorem dX1_rateAs_0 : decode cX1_rateAs 0 = .ok (.iload_n 1, 1) := by decide +kernel
theorem dX1_rateAs_1 : decode cX1_rateAs 1 = .ok (.tableswitch 75 0 5 #[39, 45, 51, 57, 63, 69], 39) := by decide +kernel
theorem dX1_rateAs_40 : decode cX1_rateAs 40 = .ok (.aload_n 0, 1) := by decide +kernel
theorem dX1_rateAs_41 : decode cX1_rateAs 41 = .ok (.iload_n 2, 1) := by decide +kernel
theorem dX1_rateAs_42 : decode cX1_rateAs 42 = .ok (.invokevirtual 23, 3) := by decide +kernel
theorem dX1_rateAs_45 : decode cX1_rateAs 45 = .ok (.ireturn, 1) := by decide +kernel
theorem dX1_rateAs_46 : decode cX1_rateAs 46 = .ok (.aload_n 0, 1) := by decide +kernel
theorem dX1_rateAs_47 : decode cX1_rateAs 47 = .ok (.iload_n 2, 1) := by decide +kernel
theorem dX1_rateAs_48 : decode cX1_rateAs 48 = .ok (.invokevirtual 27, 3) := by decide +kernel
theorem dX1_rateAs_51 : decode cX1_rateAs 51 = .ok (.ireturn, 1) := by decide +kernel
theorem dX1_rateAs_52 : decode cX1_rateAs 52 = .ok (.aload_n 0, 1) := by decide +kernel
theorem dX1_rateAs_53 : decode cX1_rateAs 53 = .ok (.iload_n 2, 1) := by decide +kernel
theorem dX1_rateAs_54 : decode cX1_rateAs 54 = .ok (.invokevirtual 30, 3) := by decide +kernel
theorem dX1_rateAs_57 : decode cX1_rateAs 57 = .ok (.ireturn, 1) := by decide +kernel
theorem dX1_rateAs_58 : decode cX1_rateAs 58 = .ok (.aload_n 0, 1) := by decide +kernel
theorem dX1_rateAs_59 : decode cX1_rateAs 59 = .ok (.iload_n 2, 1) := by decide +kernel
theorem dX1_rateAs_60 : decode cX1_rateAs 60 = .ok (.invokevirtual 33, 3) := by decide +kernel
theorem dX1_rateAs_63 : decode cX1_rateAs 63 = .ok (.ireturn, 1) := by decide +kernel
theorem dX1_rateAs_64 : decode cX1_rateAs 64 = .ok (.aload_n 0, 1) := by decide +kernel
theorem dX1_rateAs_65 : decode cX1_rateAs 65 = .ok (.iload_n 2, 1) := by decide +kernel
theorem dX1_rateAs_66 : decode cX1_rateAs 66 = .ok (.invokevirtual 36, 3) := by decide +kernel
theorem dX1_rateAs_69 : decode cX1_rateAs 69 = .ok (.ireturn, 1) := by decide +kernel
theorem dX1_rateAs_70 : decode cX1_rateAs 70 = .ok (.aload_n 0, 1) := by decide +kernel
theorem dX1_rateAs_71 : decode cX1_rateAs 71 = .ok (.iload_n 2, 1) := by decide +kernel
theorem dX1_rateAs_72 : decode cX1_rateAs 72 = .ok (.invokevirtual 39, 3) := by decide +kernel
theorem dX1_rateAs_75 : decode cX1_rateAs 75 = .ok (.ireturn, 1) := by decide +kernel
theorem dX1_rateAs_76 : decode cX1_rateAs 76 = .ok (.ldc 42, 2) := by decide +kernel
theorem dX1_rateAs_78 : decode cX1_rateAs 78 = .ok (.ireturn, 1) := by decide +kernel
theorem dX1_asPerson_0 : decode cX1_asPerson 0 = .ok (.aload_n 0, 1) := by decide +kernel
theorem dX1_asPerson_1 : decode cX1_asPerson 1 = .ok (.dup, 1) := by decide +kernel
theorem dX1_asPerson_2 : decode cX1_asPerson 2 = .ok (.getfield 9, 3) := by decide +kernel
theorem dX1_asPerson_5 : decode cX1_asPerson 5 = .ok (.lconst 1, 1) := by decide +kernel
theorem dX1_asPerson_6 : decode cX1_asPerson 6 = .ok (.ladd, 1) := by decide +kernel
theorem dX1_asPerson_7 : decode cX1_asPerson 7 = .ok (.putfield 9, 3) := by decide +kernel
theorem dX1_asPerson_10 : decode cX1_asPerson 10 = .ok (.aload_n 0, 1) := by decide +kernel
theorem dX1_asPerson_11 : decode cX1_asPerson 11 = .ok (.getfield 15, 3) := by decide +kernel
theorem dX1_asPerson_14 : decode cX1_asPerson 14 = .ok (.getfield 43, 3) := by decide +kernel
theorem dX1_asPerson_17 : decode cX1_asPerson 17 = .ok (.iload_n 1, 1) := by decide +kernel
theorem dX1_asPerson_18 : decode cX1_asPerson 18 = .ok (.iaload, 1) := by decide +kernel
theorem dX1_asPerson_19 : decode cX1_asPerson 19 = .ok (.ireturn, 1) := by decide +kernel
set_option maxRecDepth 20000 in
theorem ggX1_asFarmer_X1_asPerson : GoodIn wsX1_asFarmer wsX1_asPerson := goodIn_r _ [9, 1, 4, 16, 17, 18, 19, 20, 21, 22, 23, 24, 25, 26, 27, 28, 29, 30] (by decide +kernel) (by decide +kernel)
set_option maxRecDepth 20000 in
theorem gX1_asFarmer_X1_asPerson : GoodIn wsX1_asFarmer (wsV RX1 23 RX1 yX1_asPerson wsX1_asPerson) := goodIn_app (goodIn_of _ (by decide +kernel)) ggX1_asFarmer_X1_asPerson
set_option maxRecDepth 20000 in
theorem ggX1_asFarmer_X3_howManyBear : GoodIn wsX1_asFarmer wsX3_howManyBear := goodIn_r _ [14, 15, 31, 32, 33, 34] (by decide +kernel) (by decide +kernel)
set_option maxRecDepth 20000 in
theorem gX1_asFarmer_X3_howManyBear : GoodIn wsX1_asFarmer (wsV RX1 51 RX3 yX3_howManyBear wsX3_howManyBear) := goodIn_app (goodIn_of _ (by decide +kernel)) ggX1_asFarmer_X3_howManyBear
theorem dX1_asFarmer_0 : decode cX1_asFarmer 0 = .ok (.aload_n 0, 1) := by decide +kernel
theorem dX1_asFarmer_1 : decode cX1_asFarmer 1 = .ok (.dup, 1) := by decide +kernel
theorem dX1_asFarmer_2 : decode cX1_asFarmer 2 = .ok (.getfield 9, 3) := by decide +kernel
theorem dX1_asFarmer_5 : decode cX1_asFarmer 5 = .ok (.ldc2_w 49, 3) := by decide +kernel
theorem dX1_asFarmer_8 : decode cX1_asFarmer 8 = .ok (.ladd, 1) := by decide +kernel
theorem dX1_asFarmer_9 : decode cX1_asFarmer 9 = .ok (.putfield 9, 3) := by decide +kernel
theorem dX1_asFarmer_12 : decode cX1_asFarmer 12 = .ok (.aload_n 0, 1) := by decide +kernel
theorem dX1_asFarmer_13 : decode cX1_asFarmer 13 = .ok (.iload_n 1, 1) := by decide +kernel
theorem dX1_asFarmer_14 : decode cX1_asFarmer 14 = .ok (.invokevirtual 23, 3) := by decide +kernel
theorem dX1_asFarmer_17 : decode cX1_asFarmer 17 = .ok (.aload_n 0, 1) := by decide +kernel
theorem dX1_asFarmer_18 : decode cX1_asFarmer 18 = .ok (.getfield 19, 3) := by decide +kernel
theorem dX1_asFarmer_21 : decode cX1_asFarmer 21 = .ok (.aload_n 0, 1) := by decide +kernel
theorem dX1_asFarmer_22 : decode cX1_asFarmer 22 = .ok (.getfield 15, 3) := by decide +kernel
theorem dX1_asFarmer_25 : decode cX1_asFarmer 25 = .ok (.getfield 43, 3) := by decide +kernel
theorem dX1_asFarmer_28 : decode cX1_asFarmer 28 = .ok (.iload_n 1, 1) := by decide +kernel
theorem dX1_asFarmer_29 : decode cX1_asFarmer 29 = .ok (.iaload, 1) := by decide +kernel
theorem dX1_asFarmer_30 : decode cX1_asFarmer 30 = .ok (.invokevirtual 51, 3) := by decide +kernel
theorem dX1_asFarmer_33 : decode cX1_asFarmer 33 = .ok (.iadd, 1) := by decide +kernel
theorem dX1_asFarmer_34 : decode cX1_asFarmer 34 = .ok (.ireturn, 1) := by decide +kernel
set_option maxRecDepth 20000 in
theorem ggX1_asLeaper_X1_asPerson : GoodIn wsX1_asLeaper wsX1_asPerson := goodIn_r _ [8, 1, 3, 9, 10, 11, 12, 13, 14, 15, 16, 17, 18, 19, 20, 21, 22, 23] (by decide +kernel) (by decide +kernel)
set_option maxRecDepth 20000 in
theorem gX1_asLeaper_X1_asPerson : GoodIn wsX1_asLeaper (wsV RX1 23 RX1 yX1_asPerson wsX1_asPerson) := goodIn_app (goodIn_of _ (by decide +kernel)) ggX1_asLeaper_X1_asPerson
theorem dX1_asLeaper_0 : decode cX1_asLeaper 0 = .ok (.aload_n 0, 1) := by decide +kernel
theorem dX1_asLeaper_1 : decode cX1_asLeaper 1 = .ok (.dup, 1) := by decide +kernel
theorem dX1_asLeaper_2 : decode cX1_asLeaper 2 = .ok (.getfield 9, 3) := by decide +kernel
theorem dX1_asLeaper_5 : decode cX1_asLeaper 5 = .ok (.ldc2_w 56, 3) := by decide +kernel
theorem dX1_asLeaper_8 : decode cX1_asLeaper 8 = .ok (.ladd, 1) := by decide +kernel
theorem dX1_asLeaper_9 : decode cX1_asLeaper 9 = .ok (.putfield 9, 3) := by decide +kernel
theorem dX1_asLeaper_12 : decode cX1_asLeaper 12 = .ok (.aload_n 0, 1) := by decide +kernel
theorem dX1_asLeaper_13 : decode cX1_asLeaper 13 = .ok (.iload_n 1, 1) := by decide +kernel
theorem dX1_asLeaper_14 : decode cX1_asLeaper 14 = .ok (.invokevirtual 23, 3) := by decide +kernel
theorem dX1_asLeaper_17 : decode cX1_asLeaper 17 = .ok (.aload_n 0, 1) := by decide +kernel
theorem dX1_asLeaper_18 : decode cX1_asLeaper 18 = .ok (.getfield 15, 3) := by decide +kernel
theorem dX1_asLeaper_21 : decode cX1_asLeaper 21 = .ok (.getfield 58, 3) := by decide +kernel
theorem dX1_asLeaper_24 : decode cX1_asLeaper 24 = .ok (.iload_n 1, 1) := by decide +kernel
theorem dX1_asLeaper_25 : decode cX1_asLeaper 25 = .ok (.iaload, 1) := by decide +kernel
theorem dX1_asLeaper_26 : decode cX1_asLeaper 26 = .ok (.isub, 1) := by decide +kernel
theorem dX1_asLeaper_27 : decode cX1_asLeaper 27 = .ok (.ireturn, 1) := by decide +kernel
set_option maxRecDepth 20000 in
theorem ggX1_asCarter_X1_asFarmer : GoodIn wsX1_asCarter wsX1_asFarmer := goodIn_r _ [7, 1, 8, 9, 10, 11, 12, 13, 6, 14, 15, 16, 17, 18, 19, 20, 21, 22, 23, 24, 25, 26, 27, 28, 29, 30, 31, 32, 33, 34, 35, 36, 37, 38, 39] (by decide +kernel) (by decide +kernel)
set_option maxRecDepth 20000 in
theorem gX1_asCarter_X1_asFarmer : GoodIn wsX1_asCarter (wsV RX1 27 RX1 yX1_asFarmer wsX1_asFarmer) := goodIn_app (goodIn_of _ (by decide +kernel)) ggX1_asCarter_X1_asFarmer
theorem dX1_asCarter_0 : decode cX1_asCarter 0 = .ok (.aload_n 0, 1) := by decide +kernel
theorem dX1_asCarter_1 : decode cX1_asCarter 1 = .ok (.dup, 1) := by decide +kernel
theorem dX1_asCarter_2 : decode cX1_asCarter 2 = .ok (.getfield 9, 3) := by decide +kernel
theorem dX1_asCarter_5 : decode cX1_asCarter 5 = .ok (.ldc2_w 61, 3) := by decide +kernel
theorem dX1_asCarter_8 : decode cX1_asCarter 8 = .ok (.ladd, 1) := by decide +kernel
theorem dX1_asCarter_9 : decode cX1_asCarter 9 = .ok (.putfield 9, 3) := by decide +kernel
theorem dX1_asCarter_12 : decode cX1_asCarter 12 = .ok (.iconst 2, 1) := by decide +kernel
theorem dX1_asCarter_13 : decode cX1_asCarter 13 = .ok (.aload_n 0, 1) := by decide +kernel
theorem dX1_asCarter_14 : decode cX1_asCarter 14 = .ok (.iload_n 1, 1) := by decide +kernel
theorem dX1_asCarter_15 : decode cX1_asCarter 15 = .ok (.invokevirtual 27, 3) := by decide +kernel
theorem dX1_asCarter_18 : decode cX1_asCarter 18 = .ok (.imul, 1) := by decide +kernel
theorem dX1_asCarter_19 : decode cX1_asCarter 19 = .ok (.ireturn, 1) := by decide +kernel
set_option maxRecDepth 20000 in
theorem ggX1_asThief_X1_asLeaper : GoodIn wsX1_asThief wsX1_asLeaper := goodIn_r _ [7, 1, 8, 9, 10, 11, 12, 6, 13, 14, 15, 16, 17, 18, 19, 20, 21, 22, 23, 24, 25, 26, 27, 28] (by decide +kernel) (by decide +kernel)
set_option maxRecDepth 20000 in
theorem gX1_asThief_X1_asLeaper : GoodIn wsX1_asThief (wsV RX1 30 RX1 yX1_asLeaper wsX1_asLeaper) := goodIn_app (goodIn_of _ (by decide +kernel)) ggX1_asThief_X1_asLeaper
theorem dX1_asThief_0 : decode cX1_asThief 0 = .ok (.aload_n 0, 1) := by decide +kernel
theorem dX1_asThief_1 : decode cX1_asThief 1 = .ok (.dup, 1) := by decide +kernel
theorem dX1_asThief_2 : decode cX1_asThief 2 = .ok (.getfield 9, 3) := by decide +kernel
theorem dX1_asThief_5 : decode cX1_asThief 5 = .ok (.ldc2_w 63, 3) := by decide +kernel
theorem dX1_asThief_8 : decode cX1_asThief 8 = .ok (.ladd, 1) := by decide +kernel
theorem dX1_asThief_9 : decode cX1_asThief 9 = .ok (.putfield 9, 3) := by decide +kernel
theorem dX1_asThief_12 : decode cX1_asThief 12 = .ok (.aload_n 0, 1) := by decide +kernel
theorem dX1_asThief_13 : decode cX1_asThief 13 = .ok (.iload_n 1, 1) := by decide +kernel
theorem dX1_asThief_14 : decode cX1_asThief 14 = .ok (.invokevirtual 30, 3) := by decide +kernel
theorem dX1_asThief_17 : decode cX1_asThief 17 = .ok (.iload_n 1, 1) := by decide +kernel
theorem dX1_asThief_18 : decode cX1_asThief 18 = .ok (.iadd, 1) := by decide +kernel
theorem dX1_asThief_19 : decode cX1_asThief 19 = .ok (.ireturn, 1) := by decide +kernel
set_option maxRecDepth 20000 in
theorem ggX1_asBride_X1_asPerson : GoodIn wsX1_asBride wsX1_asPerson := goodIn_r _ [8, 1, 9, 10, 11, 12, 17, 18, 19, 20, 21, 22, 23, 24, 25, 26, 27, 28] (by decide +kernel) (by decide +kernel)
set_option maxRecDepth 20000 in
theorem gX1_asBride_X1_asPerson : GoodIn wsX1_asBride (wsV RX1 23 RX1 yX1_asPerson wsX1_asPerson) := goodIn_app (goodIn_of _ (by decide +kernel)) ggX1_asBride_X1_asPerson
theorem dX1_asBride_0 : decode cX1_asBride 0 = .ok (.aload_n 0, 1) := by decide +kernel
theorem dX1_asBride_1 : decode cX1_asBride 1 = .ok (.dup, 1) := by decide +kernel
theorem dX1_asBride_2 : decode cX1_asBride 2 = .ok (.getfield 9, 3) := by decide +kernel
theorem dX1_asBride_5 : decode cX1_asBride 5 = .ok (.ldc2_w 65, 3) := by decide +kernel
theorem dX1_asBride_8 : decode cX1_asBride 8 = .ok (.ladd, 1) := by decide +kernel
theorem dX1_asBride_9 : decode cX1_asBride 9 = .ok (.putfield 9, 3) := by decide +kernel
theorem dX1_asBride_12 : decode cX1_asBride 12 = .ok (.aload_n 0, 1) := by decide +kernel
theorem dX1_asBride_13 : decode cX1_asBride 13 = .ok (.iload_n 1, 1) := by decide +kernel
theorem dX1_asBride_14 : decode cX1_asBride 14 = .ok (.invokevirtual 23, 3) := by decide +kernel
theorem dX1_asBride_17 : decode cX1_asBride 17 = .ok (.aload_n 0, 1) := by decide +kernel
theorem dX1_asBride_18 : decode cX1_asBride 18 = .ok (.getfield 19, 3) := by decide +kernel
theorem dX1_asBride_21 : decode cX1_asBride 21 = .ok (.getfield 67, 3) := by decide +kernel
theorem dX1_asBride_24 : decode cX1_asBride 24 = .ok (.iadd, 1) := by decide +kernel
theorem dX1_asBride_25 : decode cX1_asBride 25 = .ok (.ireturn, 1) := by decide +kernel
theorem dX2_init_0 : decode cX2_init 0 = .ok (.aload_n 0, 1) := by decide +kernel
theorem dX2_init_1 : decode cX2_init 1 = .ok (.invokespecial 3, 3) := by decide +kernel
theorem dX2_init_4 : decode cX2_init 4 = .ok (.aload_n 0, 1) := by decide +kernel
theorem dX2_init_5 : decode cX2_init 5 = .ok (.iconst 4, 1) := by decide +kernel
theorem dX2_init_6 : decode cX2_init 6 = .ok (.putfield 9, 3) := by decide +kernel
theorem dX2_init_9 : decode cX2_init 9 = .ok (.aload_n 0, 1) := by decide +kernel
theorem dX2_init_10 : decode cX2_init 10 = .ok (.iconst 0, 1) := by decide +kernel
theorem dX2_init_11 : decode cX2_init 11 = .ok (.putfield 15, 3) := by decide +kernel
theorem dX2_init_14 : decode cX2_init 14 = .ok (.aload_n 0, 1) := by decide +kernel
theorem dX2_init_15 : decode cX2_init 15 = .ok (.iconst 0, 1) := by decide +kernel
theorem dX2_init_16 : decode cX2_init 16 = .ok (.putfield 18, 3) := by decide +kernel
theorem dX2_init_19 : decode cX2_init 19 = .ok (.aload_n 0, 1) := by decide +kernel
theorem dX2_init_20 : decode cX2_init 20 = .ok (.iconst 0, 1) := by decide +kernel
theorem dX2_init_21 : decode cX2_init 21 = .ok (.putfield 21, 3) := by decide +kernel
theorem dX2_init_24 : decode cX2_init 24 = .ok (.aload_n 0, 1) := by decide +kernel
theorem dX2_init_25 : decode cX2_init 25 = .ok (.bipush 9, 2) := by decide +kernel
theorem dX2_init_27 : decode cX2_init 27 = .ok (.newarray .int, 2) := by decide +kernel
theorem dX2_init_29 : decode cX2_init 29 = .ok (.putfield 24, 3) := by decide +kernel
theorem dX2_init_32 : decode cX2_init 32 = .ok (.aload_n 0, 1) := by decide +kernel
theorem dX2_init_33 : decode cX2_init 33 = .ok (.bipush 9, 2) := by decide +kernel
theorem dX2_init_35 : decode cX2_init 35 = .ok (.newarray .int, 2) := by decide +kernel
theorem dX2_init_37 : decode cX2_init 37 = .ok (.putfield 28, 3) := by decide +kernel
theorem dX2_init_40 : decode cX2_init 40 = .ok (.aload_n 0, 1) := by decide +kernel
theorem dX2_init_41 : decode cX2_init 41 = .ok (.bipush 9, 2) := by decide +kernel
theorem dX2_init_43 : decode cX2_init 43 = .ok (.newarray .int, 2) := by decide +kernel
theorem dX2_init_45 : decode cX2_init 45 = .ok (.putfield 31, 3) := by decide +kernel
theorem dX2_init_48 : decode cX2_init 48 = .ok (.aload_n 0, 1) := by decide +kernel
theorem dX2_init_49 : decode cX2_init 49 = .ok (.iconst 4, 1) := by decide +kernel
theorem dX2_init_50 : decode cX2_init 50 = .ok (.newarray .int, 2) := by decide +kernel
theorem dX2_init_52 : decode cX2_init 52 = .ok (.putfield 34, 3) := by decide +kernel
theorem dX2_init_55 : decode cX2_init 55 = .ok (.aload_n 0, 1) := by decide +kernel
theorem dX2_init_56 : decode cX2_init 56 = .ok (.iconst 4, 1) := by decide +kernel
theorem dX2_init_57 : decode cX2_init 57 = .ok (.newarray .int, 2) := by decide +kernel
theorem dX2_init_59 : decode cX2_init 59 = .ok (.putfield 37, 3) := by decide +kernel
theorem dX2_init_62 : decode cX2_init 62 = .ok (.aload_n 0, 1) := by decide +kernel
theorem dX2_init_63 : decode cX2_init 63 = .ok (.iconst 3, 1) := by decide +kernel
theorem dX2_init_64 : decode cX2_init 64 = .ok (.newarray .int, 2) := by decide +kernel
theorem dX2_init_66 : decode cX2_init 66 = .ok (.putfield 40, 3) := by decide +kernel
theorem dX2_init_69 : decode cX2_init 69 = .ok (.aload_n 0, 1) := by decide +kernel
theorem dX2_init_70 : decode cX2_init 70 = .ok (.iconst 3, 1) := by decide +kernel
theorem dX2_init_71 : decode cX2_init 71 = .ok (.newarray .int, 2) := by decide +kernel
theorem dX2_init_73 : decode cX2_init 73 = .ok (.putfield 43, 3) := by decide +kernel
theorem dX2_init_76 : decode cX2_init 76 = .ok (.aload_n 0, 1) := by decide +kernel
theorem dX2_init_77 : decode cX2_init 77 = .ok (.iconst 3, 1) := by decide +kernel
theorem dX2_init_78 : decode cX2_init 78 = .ok (.newarray .int, 2) := by decide +kernel
theorem dX2_init_80 : decode cX2_init 80 = .ok (.putfield 46, 3) := by decide +kernel
theorem dX2_init_83 : decode cX2_init 83 = .ok (.return_, 1) := by decide +kernel
theorem dX2_forgetAll_0 : decode cX2_forgetAll 0 = .ok (.aload_n 0, 1) := by decide +kernel
theorem dX2_forgetAll_1 : decode cX2_forgetAll 1 = .ok (.iconst 4, 1) := by decide +kernel
theorem dX2_forgetAll_2 : decode cX2_forgetAll 2 = .ok (.putfield 9, 3) := by decide +kernel
theorem dX2_forgetAll_5 : decode cX2_forgetAll 5 = .ok (.aload_n 0, 1) := by decide +kernel
theorem dX2_forgetAll_6 : decode cX2_forgetAll 6 = .ok (.iconst 0, 1) := by decide +kernel
theorem dX2_forgetAll_7 : decode cX2_forgetAll 7 = .ok (.putfield 15, 3) := by decide +kernel
theorem dX2_forgetAll_10 : decode cX2_forgetAll 10 = .ok (.aload_n 0, 1) := by decide +kernel
theorem dX2_forgetAll_11 : decode cX2_forgetAll 11 = .ok (.iconst 0, 1) := by decide +kernel
theorem dX2_forgetAll_12 : decode cX2_forgetAll 12 = .ok (.putfield 18, 3) := by decide +kernel
theorem dX2_forgetAll_15 : decode cX2_forgetAll 15 = .ok (.aload_n 0, 1) := by decide +kernel
theorem dX2_forgetAll_16 : decode cX2_forgetAll 16 = .ok (.iconst 0, 1) := by decide +kernel
theorem dX2_forgetAll_17 : decode cX2_forgetAll 17 = .ok (.putfield 21, 3) := by decide +kernel
theorem dX2_forgetAll_20 : decode cX2_forgetAll 20 = .ok (.return_, 1) := by decide +kernel
theorem dX2_addPlank_0 : decode cX2_addPlank 0 = .ok (.aload_n 0, 1) := by decide +kernel
theorem dX2_addPlank_1 : decode cX2_addPlank 1 = .ok (.getfield 15, 3) := by decide +kernel
theorem dX2_addPlank_4 : decode cX2_addPlank 4 = .ok (.bipush 9, 2) := by decide +kernel
theorem dX2_addPlank_6 : decode cX2_addPlank 6 = .ok (.if_icmp .ge 43, 3) := by decide +kernel
theorem dX2_addPlank_9 : decode cX2_addPlank 9 = .ok (.aload_n 0, 1) := by decide +kernel
theorem dX2_addPlank_10 : decode cX2_addPlank 10 = .ok (.getfield 24, 3) := by decide +kernel
theorem dX2_addPlank_13 : decode cX2_addPlank 13 = .ok (.aload_n 0, 1) := by decide +kernel
theorem dX2_addPlank_14 : decode cX2_addPlank 14 = .ok (.getfield 15, 3) := by decide +kernel
theorem dX2_addPlank_17 : decode cX2_addPlank 17 = .ok (.iload_n 1, 1) := by decide +kernel
theorem dX2_addPlank_18 : decode cX2_addPlank 18 = .ok (.iastore, 1) := by decide +kernel
theorem dX2_addPlank_19 : decode cX2_addPlank 19 = .ok (.aload_n 0, 1) := by decide +kernel
theorem dX2_addPlank_20 : decode cX2_addPlank 20 = .ok (.getfield 28, 3) := by decide +kernel
theorem dX2_addPlank_23 : decode cX2_addPlank 23 = .ok (.aload_n 0, 1) := by decide +kernel
theorem dX2_addPlank_24 : decode cX2_addPlank 24 = .ok (.getfield 15, 3) := by decide +kernel
theorem dX2_addPlank_27 : decode cX2_addPlank 27 = .ok (.iload_n 2, 1) := by decide +kernel
theorem dX2_addPlank_28 : decode cX2_addPlank 28 = .ok (.iastore, 1) := by decide +kernel
theorem dX2_addPlank_29 : decode cX2_addPlank 29 = .ok (.aload_n 0, 1) := by decide +kernel
theorem dX2_addPlank_30 : decode cX2_addPlank 30 = .ok (.getfield 31, 3) := by decide +kernel
theorem dX2_addPlank_33 : decode cX2_addPlank 33 = .ok (.aload_n 0, 1) := by decide +kernel
theorem dX2_addPlank_34 : decode cX2_addPlank 34 = .ok (.getfield 15, 3) := by decide +kernel
theorem dX2_addPlank_37 : decode cX2_addPlank 37 = .ok (.iload_n 3, 1) := by decide +kernel
theorem dX2_addPlank_38 : decode cX2_addPlank 38 = .ok (.iastore, 1) := by decide +kernel
theorem dX2_addPlank_39 : decode cX2_addPlank 39 = .ok (.aload_n 0, 1) := by decide +kernel
theorem dX2_addPlank_40 : decode cX2_addPlank 40 = .ok (.dup, 1) := by decide +kernel
theorem dX2_addPlank_41 : decode cX2_addPlank 41 = .ok (.getfield 15, 3) := by decide +kernel
theorem dX2_addPlank_44 : decode cX2_addPlank 44 = .ok (.iconst 1, 1) := by decide +kernel
theorem dX2_addPlank_45 : decode cX2_addPlank 45 = .ok (.iadd, 1) := by decide +kernel
theorem dX2_addPlank_46 : decode cX2_addPlank 46 = .ok (.putfield 15, 3) := by decide +kernel
theorem dX2_addPlank_49 : decode cX2_addPlank 49 = .ok (.return_, 1) := by decide +kernel
theorem dX2_addPerson_0 : decode cX2_addPerson 0 = .ok (.aload_n 0, 1) := by decide +kernel
theorem dX2_addPerson_1 : decode cX2_addPerson 1 = .ok (.getfield 18, 3) := by decide +kernel
theorem dX2_addPerson_4 : decode cX2_addPerson 4 = .ok (.iconst 4, 1) := by decide +kernel
theorem dX2_addPerson_5 : decode cX2_addPerson 5 = .ok (.if_icmp .ge 33, 3) := by decide +kernel
theorem dX2_addPerson_8 : decode cX2_addPerson 8 = .ok (.aload_n 0, 1) := by decide +kernel
theorem dX2_addPerson_9 : decode cX2_addPerson 9 = .ok (.getfield 34, 3) := by decide +kernel
theorem dX2_addPerson_12 : decode cX2_addPerson 12 = .ok (.aload_n 0, 1) := by decide +kernel
theorem dX2_addPerson_13 : decode cX2_addPerson 13 = .ok (.getfield 18, 3) := by decide +kernel
theorem dX2_addPerson_16 : decode cX2_addPerson 16 = .ok (.iload_n 1, 1) := by decide +kernel
theorem dX2_addPerson_17 : decode cX2_addPerson 17 = .ok (.iastore, 1) := by decide +kernel
theorem dX2_addPerson_18 : decode cX2_addPerson 18 = .ok (.aload_n 0, 1) := by decide +kernel
theorem dX2_addPerson_19 : decode cX2_addPerson 19 = .ok (.getfield 37, 3) := by decide +kernel
theorem dX2_addPerson_22 : decode cX2_addPerson 22 = .ok (.aload_n 0, 1) := by decide +kernel
theorem dX2_addPerson_23 : decode cX2_addPerson 23 = .ok (.getfield 18, 3) := by decide +kernel
theorem dX2_addPerson_26 : decode cX2_addPerson 26 = .ok (.iload_n 2, 1) := by decide +kernel
theorem dX2_addPerson_27 : decode cX2_addPerson 27 = .ok (.iastore, 1) := by decide +kernel
theorem dX2_addPerson_28 : decode cX2_addPerson 28 = .ok (.aload_n 0, 1) := by decide +kernel
theorem dX2_addPerson_29 : decode cX2_addPerson 29 = .ok (.dup, 1) := by decide +kernel
theorem dX2_addPerson_30 : decode cX2_addPerson 30 = .ok (.getfield 18, 3) := by decide +kernel
theorem dX2_addPerson_33 : decode cX2_addPerson 33 = .ok (.iconst 1, 1) := by decide +kernel
theorem dX2_addPerson_34 : decode cX2_addPerson 34 = .ok (.iadd, 1) := by decide +kernel
theorem dX2_addPerson_35 : decode cX2_addPerson 35 = .ok (.putfield 18, 3) := by decide +kernel
theorem dX2_addPerson_38 : decode cX2_addPerson 38 = .ok (.return_, 1) := by decide +kernel
theorem dX2_addErrand_0 : decode cX2_addErrand 0 = .ok (.aload_n 0, 1) := by decide +kernel
theorem dX2_addErrand_1 : decode cX2_addErrand 1 = .ok (.getfield 21, 3) := by decide +kernel
theorem dX2_addErrand_4 : decode cX2_addErrand 4 = .ok (.iconst 3, 1) := by decide +kernel
theorem dX2_addErrand_5 : decode cX2_addErrand 5 = .ok (.if_icmp .ge 43, 3) := by decide +kernel
theorem dX2_addErrand_8 : decode cX2_addErrand 8 = .ok (.aload_n 0, 1) := by decide +kernel
theorem dX2_addErrand_9 : decode cX2_addErrand 9 = .ok (.getfield 40, 3) := by decide +kernel
theorem dX2_addErrand_12 : decode cX2_addErrand 12 = .ok (.aload_n 0, 1) := by decide +kernel
theorem dX2_addErrand_13 : decode cX2_addErrand 13 = .ok (.getfield 21, 3) := by decide +kernel
theorem dX2_addErrand_16 : decode cX2_addErrand 16 = .ok (.iload_n 1, 1) := by decide +kernel
theorem dX2_addErrand_17 : decode cX2_addErrand 17 = .ok (.iastore, 1) := by decide +kernel
theorem dX2_addErrand_18 : decode cX2_addErrand 18 = .ok (.aload_n 0, 1) := by decide +kernel
theorem dX2_addErrand_19 : decode cX2_addErrand 19 = .ok (.getfield 43, 3) := by decide +kernel
theorem dX2_addErrand_22 : decode cX2_addErrand 22 = .ok (.aload_n 0, 1) := by decide +kernel
theorem dX2_addErrand_23 : decode cX2_addErrand 23 = .ok (.getfield 21, 3) := by decide +kernel
theorem dX2_addErrand_26 : decode cX2_addErrand 26 = .ok (.iload_n 2, 1) := by decide +kernel
theorem dX2_addErrand_27 : decode cX2_addErrand 27 = .ok (.iastore, 1) := by decide +kernel
theorem dX2_addErrand_28 : decode cX2_addErrand 28 = .ok (.aload_n 0, 1) := by decide +kernel
theorem dX2_addErrand_29 : decode cX2_addErrand 29 = .ok (.getfield 46, 3) := by decide +kernel
theorem dX2_addErrand_32 : decode cX2_addErrand 32 = .ok (.aload_n 0, 1) := by decide +kernel
theorem dX2_addErrand_33 : decode cX2_addErrand 33 = .ok (.getfield 21, 3) := by decide +kernel
theorem dX2_addErrand_36 : decode cX2_addErrand 36 = .ok (.iload_n 3, 1) := by decide +kernel
theorem dX2_addErrand_37 : decode cX2_addErrand 37 = .ok (.iastore, 1) := by decide +kernel
theorem dX2_addErrand_38 : decode cX2_addErrand 38 = .ok (.aload_n 0, 1) := by decide +kernel
theorem dX2_addErrand_39 : decode cX2_addErrand 39 = .ok (.dup, 1) := by decide +kernel
theorem dX2_addErrand_40 : decode cX2_addErrand 40 = .ok (.getfield 21, 3) := by decide +kernel
theorem dX2_addErrand_43 : decode cX2_addErrand 43 = .ok (.iconst 1, 1) := by decide +kernel
theorem dX2_addErrand_44 : decode cX2_addErrand 44 = .ok (.iadd, 1) := by decide +kernel
theorem dX2_addErrand_45 : decode cX2_addErrand 45 = .ok (.putfield 21, 3) := by decide +kernel
theorem dX2_addErrand_48 : decode cX2_addErrand 48 = .ok (.return_, 1) := by decide +kernel
theorem dX2_becomes_0 : decode cX2_becomes 0 = .ok (.aload_n 0, 1) := by decide +kernel
theorem dX2_becomes_1 : decode cX2_becomes 1 = .ok (.aload_n 1, 1) := by decide +kernel
theorem dX2_becomes_2 : decode cX2_becomes 2 = .ok (.getfield 9, 3) := by decide +kernel
theorem dX2_becomes_5 : decode cX2_becomes 5 = .ok (.putfield 9, 3) := by decide +kernel
theorem dX2_becomes_8 : decode cX2_becomes 8 = .ok (.aload_n 0, 1) := by decide +kernel
theorem dX2_becomes_9 : decode cX2_becomes 9 = .ok (.aload_n 1, 1) := by decide +kernel
theorem dX2_becomes_10 : decode cX2_becomes 10 = .ok (.getfield 15, 3) := by decide +kernel
theorem dX2_becomes_13 : decode cX2_becomes 13 = .ok (.putfield 15, 3) := by decide +kernel
theorem dX2_becomes_16 : decode cX2_becomes 16 = .ok (.aload_n 0, 1) := by decide +kernel
theorem dX2_becomes_17 : decode cX2_becomes 17 = .ok (.aload_n 1, 1) := by decide +kernel
theorem dX2_becomes_18 : decode cX2_becomes 18 = .ok (.getfield 18, 3) := by decide +kernel
theorem dX2_becomes_21 : decode cX2_becomes 21 = .ok (.putfield 18, 3) := by decide +kernel
theorem dX2_becomes_24 : decode cX2_becomes 24 = .ok (.aload_n 0, 1) := by decide +kernel
theorem dX2_becomes_25 : decode cX2_becomes 25 = .ok (.aload_n 1, 1) := by decide +kernel
theorem dX2_becomes_26 : decode cX2_becomes 26 = .ok (.getfield 21, 3) := by decide +kernel
theorem dX2_becomes_29 : decode cX2_becomes 29 = .ok (.putfield 21, 3) := by decide +kernel
theorem dX2_becomes_32 : decode cX2_becomes 32 = .ok (.aload_n 1, 1) := by decide +kernel
theorem dX2_becomes_33 : decode cX2_becomes 33 = .ok (.getfield 24, 3) := by decide +kernel
theorem dX2_becomes_36 : decode cX2_becomes 36 = .ok (.iconst 0, 1) := by decide +kernel
theorem dX2_becomes_37 : decode cX2_becomes 37 = .ok (.aload_n 0, 1) := by decide +kernel
theorem dX2_becomes_38 : decode cX2_becomes 38 = .ok (.getfield 24, 3) := by decide +kernel
theorem dX2_becomes_41 : decode cX2_becomes 41 = .ok (.iconst 0, 1) := by decide +kernel
theorem dX2_becomes_42 : decode cX2_becomes 42 = .ok (.bipush 9, 2) := by decide +kernel
theorem dX2_becomes_44 : decode cX2_becomes 44 = .ok (.invokestatic 49, 3) := by decide +kernel
theorem dX2_becomes_47 : decode cX2_becomes 47 = .ok (.aload_n 1, 1) := by decide +kernel
theorem dX2_becomes_48 : decode cX2_becomes 48 = .ok (.getfield 28, 3) := by decide +kernel
theorem dX2_becomes_51 : decode cX2_becomes 51 = .ok (.iconst 0, 1) := by decide +kernel
theorem dX2_becomes_52 : decode cX2_becomes 52 = .ok (.aload_n 0, 1) := by decide +kernel
theorem dX2_becomes_53 : decode cX2_becomes 53 = .ok (.getfield 28, 3) := by decide +kernel
theorem dX2_becomes_56 : decode cX2_becomes 56 = .ok (.iconst 0, 1) := by decide +kernel
theorem dX2_becomes_57 : decode cX2_becomes 57 = .ok (.bipush 9, 2) := by decide +kernel
theorem dX2_becomes_59 : decode cX2_becomes 59 = .ok (.invokestatic 49, 3) := by decide +kernel
theorem dX2_becomes_62 : decode cX2_becomes 62 = .ok (.aload_n 1, 1) := by decide +kernel
theorem dX2_becomes_63 : decode cX2_becomes 63 = .ok (.getfield 31, 3) := by decide +kernel
theorem dX2_becomes_66 : decode cX2_becomes 66 = .ok (.iconst 0, 1) := by decide +kernel
theorem dX2_becomes_67 : decode cX2_becomes 67 = .ok (.aload_n 0, 1) := by decide +kernel
theorem dX2_becomes_68 : decode cX2_becomes 68 = .ok (.getfield 31, 3) := by decide +kernel
theorem dX2_becomes_71 : decode cX2_becomes 71 = .ok (.iconst 0, 1) := by decide +kernel
theorem dX2_becomes_72 : decode cX2_becomes 72 = .ok (.bipush 9, 2) := by decide +kernel
theorem dX2_becomes_74 : decode cX2_becomes 74 = .ok (.invokestatic 49, 3) := by decide +kernel
theorem dX2_becomes_77 : decode cX2_becomes 77 = .ok (.aload_n 1, 1) := by decide +kernel
theorem dX2_becomes_78 : decode cX2_becomes 78 = .ok (.getfield 34, 3) := by decide +kernel
theorem dX2_becomes_81 : decode cX2_becomes 81 = .ok (.iconst 0, 1) := by decide +kernel
theorem dX2_becomes_82 : decode cX2_becomes 82 = .ok (.aload_n 0, 1) := by decide +kernel
theorem dX2_becomes_83 : decode cX2_becomes 83 = .ok (.getfield 34, 3) := by decide +kernel
theorem dX2_becomes_86 : decode cX2_becomes 86 = .ok (.iconst 0, 1) := by decide +kernel
theorem dX2_becomes_87 : decode cX2_becomes 87 = .ok (.iconst 4, 1) := by decide +kernel
theorem dX2_becomes_88 : decode cX2_becomes 88 = .ok (.invokestatic 49, 3) := by decide +kernel
theorem dX2_becomes_91 : decode cX2_becomes 91 = .ok (.aload_n 1, 1) := by decide +kernel
theorem dX2_becomes_92 : decode cX2_becomes 92 = .ok (.getfield 37, 3) := by decide +kernel
theorem dX2_becomes_95 : decode cX2_becomes 95 = .ok (.iconst 0, 1) := by decide +kernel
theorem dX2_becomes_96 : decode cX2_becomes 96 = .ok (.aload_n 0, 1) := by decide +kernel
theorem dX2_becomes_97 : decode cX2_becomes 97 = .ok (.getfield 37, 3) := by decide +kernel
theorem dX2_becomes_100 : decode cX2_becomes 100 = .ok (.iconst 0, 1) := by decide +kernel
theorem dX2_becomes_101 : decode cX2_becomes 101 = .ok (.iconst 4, 1) := by decide +kernel
theorem dX2_becomes_102 : decode cX2_becomes 102 = .ok (.invokestatic 49, 3) := by decide +kernel
theorem dX2_becomes_105 : decode cX2_becomes 105 = .ok (.aload_n 1, 1) := by decide +kernel
theorem dX2_becomes_106 : decode cX2_becomes 106 = .ok (.getfield 40, 3) := by decide +kernel
theorem dX2_becomes_109 : decode cX2_becomes 109 = .ok (.iconst 0, 1) := by decide +kernel
theorem dX2_becomes_110 : decode cX2_becomes 110 = .ok (.aload_n 0, 1) := by decide +kernel
theorem dX2_becomes_111 : decode cX2_becomes 111 = .ok (.getfield 40, 3) := by decide +kernel
theorem dX2_becomes_114 : decode cX2_becomes 114 = .ok (.iconst 0, 1) := by decide +kernel
theorem dX2_becomes_115 : decode cX2_becomes 115 = .ok (.iconst 3, 1) := by decide +kernel
theorem dX2_becomes_116 : decode cX2_becomes 116 = .ok (.invokestatic 49, 3) := by decide +kernel
theorem dX2_becomes_119 : decode cX2_becomes 119 = .ok (.aload_n 1, 1) := by decide +kernel
theorem dX2_becomes_120 : decode cX2_becomes 120 = .ok (.getfield 43, 3) := by decide +kernel
theorem dX2_becomes_123 : decode cX2_becomes 123 = .ok (.iconst 0, 1) := by decide +kernel
theorem dX2_becomes_124 : decode cX2_becomes 124 = .ok (.aload_n 0, 1) := by decide +kernel
theorem dX2_becomes_125 : decode cX2_becomes 125 = .ok (.getfield 43, 3) := by decide +kernel
theorem dX2_becomes_128 : decode cX2_becomes 128 = .ok (.iconst 0, 1) := by decide +kernel
theorem dX2_becomes_129 : decode cX2_becomes 129 = .ok (.iconst 3, 1) := by decide +kernel
theorem dX2_becomes_130 : decode cX2_becomes 130 = .ok (.invokestatic 49, 3) := by decide +kernel
theorem dX2_becomes_133 : decode cX2_becomes 133 = .ok (.aload_n 1, 1) := by decide +kernel
theorem dX2_becomes_134 : decode cX2_becomes 134 = .ok (.getfield 46, 3) := by decide +kernel
theorem dX2_becomes_137 : decode cX2_becomes 137 = .ok (.iconst 0, 1) := by decide +kernel
theorem dX2_becomes_138 : decode cX2_becomes 138 = .ok (.aload_n 0, 1) := by decide +kernel
theorem dX2_becomes_139 : decode cX2_becomes 139 = .ok (.getfield 46, 3) := by decide +kernel
theorem dX2_becomes_142 : decode cX2_becomes 142 = .ok (.iconst 0, 1) := by decide +kernel
theorem dX2_becomes_143 : decode cX2_becomes 143 = .ok (.iconst 3, 1) := by decide +kernel
theorem dX2_becomes_144 : decode cX2_becomes 144 = .ok (.invokestatic 49, 3) := by decide +kernel
theorem dX2_becomes_147 : decode cX2_becomes 147 = .ok (.return_, 1) := by decide +kernel
theorem dX2_isPlank_0 : decode cX2_isPlank 0 = .ok (.iload_n 1, 1) := by decide +kernel
theorem dX2_isPlank_1 : decode cX2_isPlank 1 = .ok (.ifCond .lt 15, 3) := by decide +kernel
theorem dX2_isPlank_4 : decode cX2_isPlank 4 = .ok (.iload_n 1, 1) := by decide +kernel
theorem dX2_isPlank_5 : decode cX2_isPlank 5 = .ok (.aload_n 0, 1) := by decide +kernel
theorem dX2_isPlank_6 : decode cX2_isPlank 6 = .ok (.getfield 15, 3) := by decide +kernel
theorem dX2_isPlank_9 : decode cX2_isPlank 9 = .ok (.if_icmp .ge 7, 3) := by decide +kernel
theorem dX2_isPlank_12 : decode cX2_isPlank 12 = .ok (.iconst 1, 1) := by decide +kernel
theorem dX2_isPlank_13 : decode cX2_isPlank 13 = .ok (.goto 4, 3) := by decide +kernel
theorem dX2_isPlank_16 : decode cX2_isPlank 16 = .ok (.iconst 0, 1) := by decide +kernel
theorem dX2_isPlank_17 : decode cX2_isPlank 17 = .ok (.ireturn, 1) := by decide +kernel
theorem dX2_isPerson_0 : decode cX2_isPerson 0 = .ok (.iload_n 1, 1) := by decide +kernel
theorem dX2_isPerson_1 : decode cX2_isPerson 1 = .ok (.ifCond .lt 15, 3) := by decide +kernel
theorem dX2_isPerson_4 : decode cX2_isPerson 4 = .ok (.iload_n 1, 1) := by decide +kernel
theorem dX2_isPerson_5 : decode cX2_isPerson 5 = .ok (.aload_n 0, 1) := by decide +kernel
theorem dX2_isPerson_6 : decode cX2_isPerson 6 = .ok (.getfield 18, 3) := by decide +kernel
theorem dX2_isPerson_9 : decode cX2_isPerson 9 = .ok (.if_icmp .ge 7, 3) := by decide +kernel
theorem dX2_isPerson_12 : decode cX2_isPerson 12 = .ok (.iconst 1, 1) := by decide +kernel
theorem dX2_isPerson_13 : decode cX2_isPerson 13 = .ok (.goto 4, 3) := by decide +kernel
theorem dX2_isPerson_16 : decode cX2_isPerson 16 = .ok (.iconst 0, 1) := by decide +kernel
theorem dX2_isPerson_17 : decode cX2_isPerson 17 = .ok (.ireturn, 1) := by decide +kernel
theorem dX2_isErrand_0 : decode cX2_isErrand 0 = .ok (.iload_n 1, 1) := by decide +kernel
theorem dX2_isErrand_1 : decode cX2_isErrand 1 = .ok (.ifCond .lt 15, 3) := by decide +kernel
theorem dX2_isErrand_4 : decode cX2_isErrand 4 = .ok (.iload_n 1, 1) := by decide +kernel
theorem dX2_isErrand_5 : decode cX2_isErrand 5 = .ok (.aload_n 0, 1) := by decide +kernel
theorem dX2_isErrand_6 : decode cX2_isErrand 6 = .ok (.getfield 21, 3) := by decide +kernel
theorem dX2_isErrand_9 : decode cX2_isErrand 9 = .ok (.if_icmp .ge 7, 3) := by decide +kernel
theorem dX2_isErrand_12 : decode cX2_isErrand 12 = .ok (.iconst 1, 1) := by decide +kernel
theorem dX2_isErrand_13 : decode cX2_isErrand 13 = .ok (.goto 4, 3) := by decide +kernel
theorem dX2_isErrand_16 : decode cX2_isErrand 16 = .ok (.iconst 0, 1) := by decide +kernel
theorem dX2_isErrand_17 : decode cX2_isErrand 17 = .ok (.ireturn, 1) := by decide +kernel
theorem dX2_areTwoPlaces_0 : decode cX2_areTwoPlaces 0 = .ok (.iload_n 1, 1) := by decide +kernel
theorem dX2_areTwoPlaces_1 : decode cX2_areTwoPlaces 1 = .ok (.ifCond .lt 32, 3) := by decide +kernel
theorem dX2_areTwoPlaces_4 : decode cX2_areTwoPlaces 4 = .ok (.iload_n 1, 1) := by decide +kernel
theorem dX2_areTwoPlaces_5 : decode cX2_areTwoPlaces 5 = .ok (.aload_n 0, 1) := by decide +kernel
theorem dX2_areTwoPlaces_6 : decode cX2_areTwoPlaces 6 = .ok (.getfield 9, 3) := by decide +kernel
theorem dX2_areTwoPlaces_9 : decode cX2_areTwoPlaces 9 = .ok (.if_icmp .ge 24, 3) := by decide +kernel
theorem dX2_areTwoPlaces_12 : decode cX2_areTwoPlaces 12 = .ok (.iload_n 2, 1) := by decide +kernel
theorem dX2_areTwoPlaces_13 : decode cX2_areTwoPlaces 13 = .ok (.ifCond .lt 20, 3) := by decide +kernel
theorem dX2_areTwoPlaces_16 : decode cX2_areTwoPlaces 16 = .ok (.iload_n 2, 1) := by decide +kernel
theorem dX2_areTwoPlaces_17 : decode cX2_areTwoPlaces 17 = .ok (.aload_n 0, 1) := by decide +kernel
theorem dX2_areTwoPlaces_18 : decode cX2_areTwoPlaces 18 = .ok (.getfield 9, 3) := by decide +kernel
theorem dX2_areTwoPlaces_21 : decode cX2_areTwoPlaces 21 = .ok (.if_icmp .ge 12, 3) := by decide +kernel
theorem dX2_areTwoPlaces_24 : decode cX2_areTwoPlaces 24 = .ok (.iload_n 1, 1) := by decide +kernel
theorem dX2_areTwoPlaces_25 : decode cX2_areTwoPlaces 25 = .ok (.iload_n 2, 1) := by decide +kernel
theorem dX2_areTwoPlaces_26 : decode cX2_areTwoPlaces 26 = .ok (.if_icmp .eq 7, 3) := by decide +kernel
theorem dX2_areTwoPlaces_29 : decode cX2_areTwoPlaces 29 = .ok (.iconst 1, 1) := by decide +kernel
theorem dX2_areTwoPlaces_30 : decode cX2_areTwoPlaces 30 = .ok (.goto 4, 3) := by decide +kernel
theorem dX2_areTwoPlaces_33 : decode cX2_areTwoPlaces 33 = .ok (.iconst 0, 1) := by decide +kernel
theorem dX2_areTwoPlaces_34 : decode cX2_areTwoPlaces 34 = .ok (.ireturn, 1) := by decide +kernel
set_option maxRecDepth 20000 in
theorem ggX2_across_X9_isIn : GoodIn wsX2_across wsX9_isIn := goodIn_r _ [5] (by decide +kernel) (by decide +kernel)
set_option maxRecDepth 20000 in
theorem gX2_across_X9_isIn_n55 : GoodIn wsX2_across (wsX9_isIn) := ggX2_across_X9_isIn
theorem dX2_across_0 : decode cX2_across 0 = .ok (.aload_n 0, 1) := by decide +kernel
theorem dX2_across_1 : decode cX2_across 1 = .ok (.getfield 24, 3) := by decide +kernel
theorem dX2_across_4 : decode cX2_across 4 = .ok (.iload_n 1, 1) := by decide +kernel
theorem dX2_across_5 : decode cX2_across 5 = .ok (.iaload, 1) := by decide +kernel
theorem dX2_across_6 : decode cX2_across 6 = .ok (.iload_n 2, 1) := by decide +kernel
theorem dX2_across_7 : decode cX2_across 7 = .ok (.if_icmp .ne 12, 3) := by decide +kernel
theorem dX2_across_10 : decode cX2_across 10 = .ok (.aload_n 0, 1) := by decide +kernel
theorem dX2_across_11 : decode cX2_across 11 = .ok (.getfield 28, 3) := by decide +kernel
theorem dX2_across_14 : decode cX2_across 14 = .ok (.iload_n 1, 1) := by decide +kernel
theorem dX2_across_15 : decode cX2_across 15 = .ok (.iaload, 1) := by decide +kernel
theorem dX2_across_16 : decode cX2_across 16 = .ok (.goto 9, 3) := by decide +kernel
theorem dX2_across_19 : decode cX2_across 19 = .ok (.aload_n 0, 1) := by decide +kernel
theorem dX2_across_20 : decode cX2_across 20 = .ok (.getfield 24, 3) := by decide +kernel
theorem dX2_across_23 : decode cX2_across 23 = .ok (.iload_n 1, 1) := by decide +kernel
theorem dX2_across_24 : decode cX2_across 24 = .ok (.iaload, 1) := by decide +kernel
theorem dX2_across_25 : decode cX2_across 25 = .ok (.istore 4, 2) := by decide +kernel
theorem dX2_across_27 : decode cX2_across 27 = .ok (.aload_n 0, 1) := by decide +kernel
theorem dX2_across_28 : decode cX2_across 28 = .ok (.getfield 24, 3) := by decide +kernel
theorem dX2_across_31 : decode cX2_across 31 = .ok (.iload_n 1, 1) := by decide +kernel
theorem dX2_across_32 : decode cX2_across 32 = .ok (.iaload, 1) := by decide +kernel
theorem dX2_across_33 : decode cX2_across 33 = .ok (.iload_n 2, 1) := by decide +kernel
theorem dX2_across_34 : decode cX2_across 34 = .ok (.if_icmp .eq 13, 3) := by decide +kernel
theorem dX2_across_37 : decode cX2_across 37 = .ok (.aload_n 0, 1) := by decide +kernel
theorem dX2_across_38 : decode cX2_across 38 = .ok (.getfield 28, 3) := by decide +kernel
theorem dX2_across_41 : decode cX2_across 41 = .ok (.iload_n 1, 1) := by decide +kernel
theorem dX2_across_42 : decode cX2_across 42 = .ok (.iaload, 1) := by decide +kernel
theorem dX2_across_43 : decode cX2_across 43 = .ok (.iload_n 2, 1) := by decide +kernel
theorem dX2_across_44 : decode cX2_across 44 = .ok (.if_icmp .ne 7, 3) := by decide +kernel
theorem dX2_across_47 : decode cX2_across 47 = .ok (.iconst 1, 1) := by decide +kernel
theorem dX2_across_48 : decode cX2_across 48 = .ok (.goto 4, 3) := by decide +kernel
theorem dX2_across_51 : decode cX2_across 51 = .ok (.iconst 0, 1) := by decide +kernel
theorem dX2_across_52 : decode cX2_across 52 = .ok (.istore 5, 2) := by decide +kernel
theorem dX2_across_54 : decode cX2_across 54 = .ok (.iload 5, 2) := by decide +kernel
theorem dX2_across_56 : decode cX2_across 56 = .ok (.ifCond .eq 17, 3) := by decide +kernel
theorem dX2_across_59 : decode cX2_across 59 = .ok (.iload_n 3, 1) := by decide +kernel
theorem dX2_across_60 : decode cX2_across 60 = .ok (.iload 4, 2) := by decide +kernel
theorem dX2_across_62 : decode cX2_across 62 = .ok (.invokestatic 55, 3) := by decide +kernel
theorem dX2_across_65 : decode cX2_across 65 = .ok (.ifCond .ne 8, 3) := by decide +kernel
theorem dX2_across_68 : decode cX2_across 68 = .ok (.iload 4, 2) := by decide +kernel
theorem dX2_across_70 : decode cX2_across 70 = .ok (.goto 4, 3) := by decide +kernel
theorem dX2_across_73 : decode cX2_across 73 = .ok (.iconst (-1), 1) := by decide +kernel
theorem dX2_across_74 : decode cX2_across 74 = .ok (.ireturn, 1) := by decide +kernel
theorem dX2_takes_0 : decode cX2_takes 0 = .ok (.aload_n 0, 1) := by decide +kernel
theorem dX2_takes_1 : decode cX2_takes 1 = .ok (.getfield 37, 3) := by decide +kernel
theorem dX2_takes_4 : decode cX2_takes 4 = .ok (.iload_n 1, 1) := by decide +kernel
theorem dX2_takes_5 : decode cX2_takes 5 = .ok (.iaload, 1) := by decide +kernel
theorem dX2_takes_6 : decode cX2_takes 6 = .ok (.iconst 2, 1) := by decide +kernel
theorem dX2_takes_7 : decode cX2_takes 7 = .ok (.if_icmp .ne 14, 3) := by decide +kernel
theorem dX2_takes_10 : decode cX2_takes 10 = .ok (.iload_n 2, 1) := by decide +kernel
theorem dX2_takes_11 : decode cX2_takes 11 = .ok (.iconst 2, 1) := by decide +kernel
theorem dX2_takes_12 : decode cX2_takes 12 = .ok (.irem, 1) := by decide +kernel
theorem dX2_takes_13 : decode cX2_takes 13 = .ok (.iconst 1, 1) := by decide +kernel
theorem dX2_takes_14 : decode cX2_takes 14 = .ok (.if_icmp .ne 7, 3) := by decide +kernel
theorem dX2_takes_17 : decode cX2_takes 17 = .ok (.iconst 1, 1) := by decide +kernel
theorem dX2_takes_18 : decode cX2_takes 18 = .ok (.goto 4, 3) := by decide +kernel
theorem dX2_takes_21 : decode cX2_takes 21 = .ok (.iconst 0, 1) := by decide +kernel
theorem dX2_takes_22 : decode cX2_takes 22 = .ok (.istore_n 3, 1) := by decide +kernel
theorem dX2_takes_23 : decode cX2_takes 23 = .ok (.iload_n 3, 1) := by decide +kernel
theorem dX2_takes_24 : decode cX2_takes 24 = .ok (.ifCond .eq 7, 3) := by decide +kernel
theorem dX2_takes_27 : decode cX2_takes 27 = .ok (.iconst 0, 1) := by decide +kernel
theorem dX2_takes_28 : decode cX2_takes 28 = .ok (.goto 9, 3) := by decide +kernel
theorem dX2_takes_31 : decode cX2_takes 31 = .ok (.aload_n 0, 1) := by decide +kernel
theorem dX2_takes_32 : decode cX2_takes 32 = .ok (.getfield 34, 3) := by decide +kernel
theorem dX2_takes_35 : decode cX2_takes 35 = .ok (.iload_n 1, 1) := by decide +kernel
theorem dX2_takes_36 : decode cX2_takes 36 = .ok (.iaload, 1) := by decide +kernel
theorem dX2_takes_37 : decode cX2_takes 37 = .ok (.ireturn, 1) := by decide +kernel
theorem dX3_init_0 : decode cX3_init 0 = .ok (.aload_n 0, 1) := by decide +kernel
theorem dX3_init_1 : decode cX3_init 1 = .ok (.invokespecial 3, 3) := by decide +kernel
theorem dX3_init_4 : decode cX3_init 4 = .ok (.aload_n 0, 1) := by decide +kernel
theorem dX3_init_5 : decode cX3_init 5 = .ok (.bipush 9, 2) := by decide +kernel
theorem dX3_init_7 : decode cX3_init 7 = .ok (.newarray .int, 2) := by decide +kernel
theorem dX3_init_9 : decode cX3_init 9 = .ok (.putfield 9, 3) := by decide +kernel
theorem dX3_init_12 : decode cX3_init 12 = .ok (.aload_n 0, 1) := by decide +kernel
theorem dX3_init_13 : decode cX3_init 13 = .ok (.bipush 20, 2) := by decide +kernel
theorem dX3_init_15 : decode cX3_init 15 = .ok (.newarray .int, 2) := by decide +kernel
theorem dX3_init_17 : decode cX3_init 17 = .ok (.putfield 15, 3) := by decide +kernel
theorem dX3_init_20 : decode cX3_init 20 = .ok (.aload_n 0, 1) := by decide +kernel
theorem dX3_init_21 : decode cX3_init 21 = .ok (.bipush 20, 2) := by decide +kernel
theorem dX3_init_23 : decode cX3_init 23 = .ok (.newarray .int, 2) := by decide +kernel
theorem dX3_init_25 : decode cX3_init 25 = .ok (.putfield 18, 3) := by decide +kernel
theorem dX3_init_28 : decode cX3_init 28 = .ok (.aload_n 0, 1) := by decide +kernel
theorem dX3_init_29 : decode cX3_init 29 = .ok (.iconst 0, 1) := by decide +kernel
theorem dX3_init_30 : decode cX3_init 30 = .ok (.putfield 21, 3) := by decide +kernel
theorem dX3_init_33 : decode cX3_init 33 = .ok (.return_, 1) := by decide +kernel
theorem dX3_beginsAsTold_0 : decode cX3_beginsAsTold 0 = .ok (.iconst 0, 1) := by decide +kernel
theorem dX3_beginsAsTold_1 : decode cX3_beginsAsTold 1 = .ok (.istore_n 2, 1) := by decide +kernel
theorem dX3_beginsAsTold_2 : decode cX3_beginsAsTold 2 = .ok (.iload_n 2, 1) := by decide +kernel
theorem dX3_beginsAsTold_3 : decode cX3_beginsAsTold 3 = .ok (.bipush 9, 2) := by decide +kernel
theorem dX3_beginsAsTold_5 : decode cX3_beginsAsTold 5 = .ok (.if_icmp .ge 33, 3) := by decide +kernel
theorem dX3_beginsAsTold_8 : decode cX3_beginsAsTold 8 = .ok (.aload_n 0, 1) := by decide +kernel
theorem dX3_beginsAsTold_9 : decode cX3_beginsAsTold 9 = .ok (.getfield 9, 3) := by decide +kernel
theorem dX3_beginsAsTold_12 : decode cX3_beginsAsTold 12 = .ok (.iload_n 2, 1) := by decide +kernel
theorem dX3_beginsAsTold_13 : decode cX3_beginsAsTold 13 = .ok (.iload_n 2, 1) := by decide +kernel
theorem dX3_beginsAsTold_14 : decode cX3_beginsAsTold 14 = .ok (.aload_n 1, 1) := by decide +kernel
theorem dX3_beginsAsTold_15 : decode cX3_beginsAsTold 15 = .ok (.getfield 25, 3) := by decide +kernel
theorem dX3_beginsAsTold_18 : decode cX3_beginsAsTold 18 = .ok (.if_icmp .ge 12, 3) := by decide +kernel
theorem dX3_beginsAsTold_21 : decode cX3_beginsAsTold 21 = .ok (.aload_n 1, 1) := by decide +kernel
theorem dX3_beginsAsTold_22 : decode cX3_beginsAsTold 22 = .ok (.getfield 30, 3) := by decide +kernel
theorem dX3_beginsAsTold_25 : decode cX3_beginsAsTold 25 = .ok (.iload_n 2, 1) := by decide +kernel
theorem dX3_beginsAsTold_26 : decode cX3_beginsAsTold 26 = .ok (.iaload, 1) := by decide +kernel
theorem dX3_beginsAsTold_27 : decode cX3_beginsAsTold 27 = .ok (.goto 4, 3) := by decide +kernel
theorem dX3_beginsAsTold_30 : decode cX3_beginsAsTold 30 = .ok (.iconst 0, 1) := by decide +kernel
theorem dX3_beginsAsTold_31 : decode cX3_beginsAsTold 31 = .ok (.iastore, 1) := by decide +kernel
theorem dX3_beginsAsTold_32 : decode cX3_beginsAsTold 32 = .ok (.iinc 2 1, 3) := by decide +kernel
theorem dX3_beginsAsTold_35 : decode cX3_beginsAsTold 35 = .ok (.goto (-33), 3) := by decide +kernel
theorem dX3_beginsAsTold_38 : decode cX3_beginsAsTold 38 = .ok (.aload_n 0, 1) := by decide +kernel
theorem dX3_beginsAsTold_39 : decode cX3_beginsAsTold 39 = .ok (.iconst 0, 1) := by decide +kernel
theorem dX3_beginsAsTold_40 : decode cX3_beginsAsTold 40 = .ok (.putfield 21, 3) := by decide +kernel
theorem dX3_beginsAsTold_43 : decode cX3_beginsAsTold 43 = .ok (.return_, 1) := by decide +kernel
theorem dX3_becomes_0 : decode cX3_becomes 0 = .ok (.aload_n 1, 1) := by decide +kernel
theorem dX3_becomes_1 : decode cX3_becomes 1 = .ok (.getfield 9, 3) := by decide +kernel
theorem dX3_becomes_4 : decode cX3_becomes 4 = .ok (.iconst 0, 1) := by decide +kernel
theorem dX3_becomes_5 : decode cX3_becomes 5 = .ok (.aload_n 0, 1) := by decide +kernel
theorem dX3_becomes_6 : decode cX3_becomes 6 = .ok (.getfield 9, 3) := by decide +kernel
theorem dX3_becomes_9 : decode cX3_becomes 9 = .ok (.iconst 0, 1) := by decide +kernel
theorem dX3_becomes_10 : decode cX3_becomes 10 = .ok (.bipush 9, 2) := by decide +kernel
theorem dX3_becomes_12 : decode cX3_becomes 12 = .ok (.invokestatic 33, 3) := by decide +kernel
theorem dX3_becomes_15 : decode cX3_becomes 15 = .ok (.aload_n 1, 1) := by decide +kernel
theorem dX3_becomes_16 : decode cX3_becomes 16 = .ok (.getfield 15, 3) := by decide +kernel
theorem dX3_becomes_19 : decode cX3_becomes 19 = .ok (.iconst 0, 1) := by decide +kernel
theorem dX3_becomes_20 : decode cX3_becomes 20 = .ok (.aload_n 0, 1) := by decide +kernel
theorem dX3_becomes_21 : decode cX3_becomes 21 = .ok (.getfield 15, 3) := by decide +kernel
theorem dX3_becomes_24 : decode cX3_becomes 24 = .ok (.iconst 0, 1) := by decide +kernel
theorem dX3_becomes_25 : decode cX3_becomes 25 = .ok (.bipush 20, 2) := by decide +kernel
theorem dX3_becomes_27 : decode cX3_becomes 27 = .ok (.invokestatic 33, 3) := by decide +kernel
theorem dX3_becomes_30 : decode cX3_becomes 30 = .ok (.aload_n 1, 1) := by decide +kernel
theorem dX3_becomes_31 : decode cX3_becomes 31 = .ok (.getfield 18, 3) := by decide +kernel
theorem dX3_becomes_34 : decode cX3_becomes 34 = .ok (.iconst 0, 1) := by decide +kernel
theorem dX3_becomes_35 : decode cX3_becomes 35 = .ok (.aload_n 0, 1) := by decide +kernel
theorem dX3_becomes_36 : decode cX3_becomes 36 = .ok (.getfield 18, 3) := by decide +kernel
theorem dX3_becomes_39 : decode cX3_becomes 39 = .ok (.iconst 0, 1) := by decide +kernel
theorem dX3_becomes_40 : decode cX3_becomes 40 = .ok (.bipush 20, 2) := by decide +kernel
theorem dX3_becomes_42 : decode cX3_becomes 42 = .ok (.invokestatic 33, 3) := by decide +kernel
theorem dX3_becomes_45 : decode cX3_becomes 45 = .ok (.aload_n 0, 1) := by decide +kernel
theorem dX3_becomes_46 : decode cX3_becomes 46 = .ok (.aload_n 1, 1) := by decide +kernel
theorem dX3_becomes_47 : decode cX3_becomes 47 = .ok (.getfield 21, 3) := by decide +kernel
theorem dX3_becomes_50 : decode cX3_becomes 50 = .ok (.putfield 21, 3) := by decide +kernel
theorem dX3_becomes_53 : decode cX3_becomes 53 = .ok (.return_, 1) := by decide +kernel
theorem dX3_canTake_0 : decode cX3_canTake 0 = .ok (.aload_n 0, 1) := by decide +kernel
theorem dX3_canTake_1 : decode cX3_canTake 1 = .ok (.getfield 9, 3) := by decide +kernel
theorem dX3_canTake_4 : decode cX3_canTake 4 = .ok (.iload_n 1, 1) := by decide +kernel
theorem dX3_canTake_5 : decode cX3_canTake 5 = .ok (.iaload, 1) := by decide +kernel
theorem dX3_canTake_6 : decode cX3_canTake 6 = .ok (.ifCond .le 17, 3) := by decide +kernel
theorem dX3_canTake_9 : decode cX3_canTake 9 = .ok (.aload_n 0, 1) := by decide +kernel
theorem dX3_canTake_10 : decode cX3_canTake 10 = .ok (.getfield 9, 3) := by decide +kernel
theorem dX3_canTake_13 : decode cX3_canTake 13 = .ok (.iload_n 1, 1) := by decide +kernel
theorem dX3_canTake_14 : decode cX3_canTake 14 = .ok (.iaload, 1) := by decide +kernel
theorem dX3_canTake_15 : decode cX3_canTake 15 = .ok (.iload_n 2, 1) := by decide +kernel
theorem dX3_canTake_16 : decode cX3_canTake 16 = .ok (.if_icmp .lt 7, 3) := by decide +kernel
theorem dX3_canTake_19 : decode cX3_canTake 19 = .ok (.iconst 1, 1) := by decide +kernel
theorem dX3_canTake_20 : decode cX3_canTake 20 = .ok (.goto 4, 3) := by decide +kernel
theorem dX3_canTake_23 : decode cX3_canTake 23 = .ok (.iconst 0, 1) := by decide +kernel
theorem dX3_canTake_24 : decode cX3_canTake 24 = .ok (.ireturn, 1) := by decide +kernel
theorem dX3_take_0 : decode cX3_take 0 = .ok (.aload_n 0, 1) := by decide +kernel
theorem dX3_take_1 : decode cX3_take 1 = .ok (.getfield 9, 3) := by decide +kernel
theorem dX3_take_4 : decode cX3_take 4 = .ok (.iload_n 1, 1) := by decide +kernel
theorem dX3_take_5 : decode cX3_take 5 = .ok (.dup2, 1) := by decide +kernel
theorem dX3_take_6 : decode cX3_take 6 = .ok (.iaload, 1) := by decide +kernel
theorem dX3_take_7 : decode cX3_take 7 = .ok (.iload_n 2, 1) := by decide +kernel
theorem dX3_take_8 : decode cX3_take 8 = .ok (.isub, 1) := by decide +kernel
theorem dX3_take_9 : decode cX3_take 9 = .ok (.iastore, 1) := by decide +kernel
theorem dX3_take_10 : decode cX3_take 10 = .ok (.aload_n 0, 1) := by decide +kernel
theorem dX3_take_11 : decode cX3_take 11 = .ok (.getfield 9, 3) := by decide +kernel
theorem dX3_take_14 : decode cX3_take 14 = .ok (.iload_n 1, 1) := by decide +kernel
theorem dX3_take_15 : decode cX3_take 15 = .ok (.iaload, 1) := by decide +kernel
theorem dX3_take_16 : decode cX3_take 16 = .ok (.ifCond .le 5, 3) := by decide +kernel
theorem dX3_take_19 : decode cX3_take 19 = .ok (.iconst 0, 1) := by decide +kernel
theorem dX3_take_20 : decode cX3_take 20 = .ok (.ireturn, 1) := by decide +kernel
theorem dX3_take_21 : decode cX3_take 21 = .ok (.aload_n 0, 1) := by decide +kernel
theorem dX3_take_22 : decode cX3_take 22 = .ok (.getfield 21, 3) := by decide +kernel
theorem dX3_take_25 : decode cX3_take 25 = .ok (.bipush 20, 2) := by decide +kernel
theorem dX3_take_27 : decode cX3_take 27 = .ok (.if_icmp .ge 33, 3) := by decide +kernel
theorem dX3_take_30 : decode cX3_take 30 = .ok (.aload_n 0, 1) := by decide +kernel
theorem dX3_take_31 : decode cX3_take 31 = .ok (.getfield 15, 3) := by decide +kernel
theorem dX3_take_34 : decode cX3_take 34 = .ok (.aload_n 0, 1) := by decide +kernel
theorem dX3_take_35 : decode cX3_take 35 = .ok (.getfield 21, 3) := by decide +kernel
theorem dX3_take_38 : decode cX3_take 38 = .ok (.iload_n 1, 1) := by decide +kernel
theorem dX3_take_39 : decode cX3_take 39 = .ok (.iastore, 1) := by decide +kernel
theorem dX3_take_40 : decode cX3_take 40 = .ok (.aload_n 0, 1) := by decide +kernel
theorem dX3_take_41 : decode cX3_take 41 = .ok (.getfield 18, 3) := by decide +kernel
theorem dX3_take_44 : decode cX3_take 44 = .ok (.aload_n 0, 1) := by decide +kernel
theorem dX3_take_45 : decode cX3_take 45 = .ok (.getfield 21, 3) := by decide +kernel
theorem dX3_take_48 : decode cX3_take 48 = .ok (.iload_n 3, 1) := by decide +kernel
theorem dX3_take_49 : decode cX3_take 49 = .ok (.iastore, 1) := by decide +kernel
theorem dX3_take_50 : decode cX3_take 50 = .ok (.aload_n 0, 1) := by decide +kernel
theorem dX3_take_51 : decode cX3_take 51 = .ok (.dup, 1) := by decide +kernel
theorem dX3_take_52 : decode cX3_take 52 = .ok (.getfield 21, 3) := by decide +kernel
theorem dX3_take_55 : decode cX3_take 55 = .ok (.iconst 1, 1) := by decide +kernel
theorem dX3_take_56 : decode cX3_take 56 = .ok (.iadd, 1) := by decide +kernel
theorem dX3_take_57 : decode cX3_take 57 = .ok (.putfield 21, 3) := by decide +kernel
theorem dX3_take_60 : decode cX3_take 60 = .ok (.iconst 1, 1) := by decide +kernel
theorem dX3_take_61 : decode cX3_take 61 = .ok (.ireturn, 1) := by decide +kernel
theorem dX3_freeze_0 : decode cX3_freeze 0 = .ok (.iconst 0, 1) := by decide +kernel
theorem dX3_freeze_1 : decode cX3_freeze 1 = .ok (.istore_n 1, 1) := by decide +kernel
theorem dX3_freeze_2 : decode cX3_freeze 2 = .ok (.iconst 0, 1) := by decide +kernel
theorem dX3_freeze_3 : decode cX3_freeze 3 = .ok (.istore_n 2, 1) := by decide +kernel
theorem dX3_freeze_4 : decode cX3_freeze 4 = .ok (.iload_n 2, 1) := by decide +kernel
theorem dX3_freeze_5 : decode cX3_freeze 5 = .ok (.bipush 9, 2) := by decide +kernel
theorem dX3_freeze_7 : decode cX3_freeze 7 = .ok (.if_icmp .ge 42, 3) := by decide +kernel
theorem dX3_freeze_10 : decode cX3_freeze 10 = .ok (.aload_n 0, 1) := by decide +kernel
theorem dX3_freeze_11 : decode cX3_freeze 11 = .ok (.getfield 9, 3) := by decide +kernel
theorem dX3_freeze_14 : decode cX3_freeze 14 = .ok (.iload_n 2, 1) := by decide +kernel
theorem dX3_freeze_15 : decode cX3_freeze 15 = .ok (.iaload, 1) := by decide +kernel
theorem dX3_freeze_16 : decode cX3_freeze 16 = .ok (.ifCond .le 27, 3) := by decide +kernel
theorem dX3_freeze_19 : decode cX3_freeze 19 = .ok (.aload_n 0, 1) := by decide +kernel
theorem dX3_freeze_20 : decode cX3_freeze 20 = .ok (.getfield 9, 3) := by decide +kernel
theorem dX3_freeze_23 : decode cX3_freeze 23 = .ok (.iload_n 2, 1) := by decide +kernel
theorem dX3_freeze_24 : decode cX3_freeze 24 = .ok (.iaload, 1) := by decide +kernel
theorem dX3_freeze_25 : decode cX3_freeze 25 = .ok (.bipush 9, 2) := by decide +kernel
theorem dX3_freeze_27 : decode cX3_freeze 27 = .ok (.if_icmp .ge 16, 3) := by decide +kernel
theorem dX3_freeze_30 : decode cX3_freeze 30 = .ok (.aload_n 0, 1) := by decide +kernel
theorem dX3_freeze_31 : decode cX3_freeze 31 = .ok (.getfield 9, 3) := by decide +kernel
theorem dX3_freeze_34 : decode cX3_freeze 34 = .ok (.iload_n 2, 1) := by decide +kernel
theorem dX3_freeze_35 : decode cX3_freeze 35 = .ok (.dup2, 1) := by decide +kernel
theorem dX3_freeze_36 : decode cX3_freeze 36 = .ok (.iaload, 1) := by decide +kernel
theorem dX3_freeze_37 : decode cX3_freeze 37 = .ok (.iconst 1, 1) := by decide +kernel
theorem dX3_freeze_38 : decode cX3_freeze 38 = .ok (.iadd, 1) := by decide +kernel
theorem dX3_freeze_39 : decode cX3_freeze 39 = .ok (.iastore, 1) := by decide +kernel
theorem dX3_freeze_40 : decode cX3_freeze 40 = .ok (.iinc 1 1, 3) := by decide +kernel
theorem dX3_freeze_43 : decode cX3_freeze 43 = .ok (.iinc 2 1, 3) := by decide +kernel
theorem dX3_freeze_46 : decode cX3_freeze 46 = .ok (.goto (-42), 3) := by decide +kernel
theorem dX3_freeze_49 : decode cX3_freeze 49 = .ok (.iload_n 1, 1) := by decide +kernel
theorem dX3_freeze_50 : decode cX3_freeze 50 = .ok (.ireturn, 1) := by decide +kernel
theorem dX3_swap_0 : decode cX3_swap 0 = .ok (.aload_n 0, 1) := by decide +kernel
theorem dX3_swap_1 : decode cX3_swap 1 = .ok (.getfield 9, 3) := by decide +kernel
theorem dX3_swap_4 : decode cX3_swap 4 = .ok (.iload_n 1, 1) := by decide +kernel
theorem dX3_swap_5 : decode cX3_swap 5 = .ok (.iaload, 1) := by decide +kernel
theorem dX3_swap_6 : decode cX3_swap 6 = .ok (.istore_n 3, 1) := by decide +kernel
theorem dX3_swap_7 : decode cX3_swap 7 = .ok (.aload_n 0, 1) := by decide +kernel
theorem dX3_swap_8 : decode cX3_swap 8 = .ok (.getfield 9, 3) := by decide +kernel
theorem dX3_swap_11 : decode cX3_swap 11 = .ok (.iload_n 1, 1) := by decide +kernel
theorem dX3_swap_12 : decode cX3_swap 12 = .ok (.aload_n 0, 1) := by decide +kernel
theorem dX3_swap_13 : decode cX3_swap 13 = .ok (.getfield 9, 3) := by decide +kernel
theorem dX3_swap_16 : decode cX3_swap 16 = .ok (.iload_n 2, 1) := by decide +kernel
theorem dX3_swap_17 : decode cX3_swap 17 = .ok (.iaload, 1) := by decide +kernel
theorem dX3_swap_18 : decode cX3_swap 18 = .ok (.iastore, 1) := by decide +kernel
theorem dX3_swap_19 : decode cX3_swap 19 = .ok (.aload_n 0, 1) := by decide +kernel
theorem dX3_swap_20 : decode cX3_swap 20 = .ok (.getfield 9, 3) := by decide +kernel
theorem dX3_swap_23 : decode cX3_swap 23 = .ok (.iload_n 2, 1) := by decide +kernel
theorem dX3_swap_24 : decode cX3_swap 24 = .ok (.iload_n 3, 1) := by decide +kernel
theorem dX3_swap_25 : decode cX3_swap 25 = .ok (.iastore, 1) := by decide +kernel
theorem dX3_swap_26 : decode cX3_swap 26 = .ok (.return_, 1) := by decide +kernel
theorem dX3_borneByAll_0 : decode cX3_borneByAll 0 = .ok (.iconst 0, 1) := by decide +kernel
theorem dX3_borneByAll_1 : decode cX3_borneByAll 1 = .ok (.istore_n 1, 1) := by decide +kernel
theorem dX3_borneByAll_2 : decode cX3_borneByAll 2 = .ok (.iconst 0, 1) := by decide +kernel
theorem dX3_borneByAll_3 : decode cX3_borneByAll 3 = .ok (.istore_n 2, 1) := by decide +kernel
theorem dX3_borneByAll_4 : decode cX3_borneByAll 4 = .ok (.iload_n 2, 1) := by decide +kernel
theorem dX3_borneByAll_5 : decode cX3_borneByAll 5 = .ok (.bipush 9, 2) := by decide +kernel
theorem dX3_borneByAll_7 : decode cX3_borneByAll 7 = .ok (.if_icmp .ge 18, 3) := by decide +kernel
theorem dX3_borneByAll_10 : decode cX3_borneByAll 10 = .ok (.iload_n 1, 1) := by decide +kernel
theorem dX3_borneByAll_11 : decode cX3_borneByAll 11 = .ok (.aload_n 0, 1) := by decide +kernel
theorem dX3_borneByAll_12 : decode cX3_borneByAll 12 = .ok (.getfield 9, 3) := by decide +kernel
theorem dX3_borneByAll_15 : decode cX3_borneByAll 15 = .ok (.iload_n 2, 1) := by decide +kernel
theorem dX3_borneByAll_16 : decode cX3_borneByAll 16 = .ok (.iaload, 1) := by decide +kernel
theorem dX3_borneByAll_17 : decode cX3_borneByAll 17 = .ok (.iadd, 1) := by decide +kernel
theorem dX3_borneByAll_18 : decode cX3_borneByAll 18 = .ok (.istore_n 1, 1) := by decide +kernel
theorem dX3_borneByAll_19 : decode cX3_borneByAll 19 = .ok (.iinc 2 1, 3) := by decide +kernel
theorem dX3_borneByAll_22 : decode cX3_borneByAll 22 = .ok (.goto (-18), 3) := by decide +kernel
theorem dX3_borneByAll_25 : decode cX3_borneByAll 25 = .ok (.iload_n 1, 1) := by decide +kernel
theorem dX3_borneByAll_26 : decode cX3_borneByAll 26 = .ok (.ireturn, 1) := by decide +kernel
set_option maxRecDepth 20000 in
theorem ggX3_notUnder_X3_howManyBear : GoodIn wsX3_notUnder wsX3_howManyBear := goodIn_r _ [5, 6, 7, 8, 9, 10] (by decide +kernel) (by decide +kernel)
set_option maxRecDepth 20000 in
theorem gX3_notUnder_X3_howManyBear : GoodIn wsX3_notUnder (wsV RX3 39 RX3 yX3_howManyBear wsX3_howManyBear) := goodIn_app (goodIn_of _ (by decide +kernel)) ggX3_notUnder_X3_howManyBear
theorem dX3_notUnder_0 : decode cX3_notUnder 0 = .ok (.aload_n 0, 1) := by decide +kernel
theorem dX3_notUnder_1 : decode cX3_notUnder 1 = .ok (.iconst 1, 1) := by decide +kernel
theorem dX3_notUnder_2 : decode cX3_notUnder 2 = .ok (.invokevirtual 39, 3) := by decide +kernel
theorem dX3_notUnder_5 : decode cX3_notUnder 5 = .ok (.ireturn, 1) := by decide +kernel
theorem dX3_howManyBear_0 : decode cX3_howManyBear 0 = .ok (.iconst 0, 1) := by decide +kernel
theorem dX3_howManyBear_1 : decode cX3_howManyBear 1 = .ok (.istore_n 2, 1) := by decide +kernel
theorem dX3_howManyBear_2 : decode cX3_howManyBear 2 = .ok (.iconst 0, 1) := by decide +kernel
theorem dX3_howManyBear_3 : decode cX3_howManyBear 3 = .ok (.istore_n 3, 1) := by decide +kernel
theorem dX3_howManyBear_4 : decode cX3_howManyBear 4 = .ok (.iload_n 3, 1) := by decide +kernel
theorem dX3_howManyBear_5 : decode cX3_howManyBear 5 = .ok (.bipush 9, 2) := by decide +kernel
theorem dX3_howManyBear_7 : decode cX3_howManyBear 7 = .ok (.if_icmp .ge 22, 3) := by decide +kernel
theorem dX3_howManyBear_10 : decode cX3_howManyBear 10 = .ok (.aload_n 0, 1) := by decide +kernel
theorem dX3_howManyBear_11 : decode cX3_howManyBear 11 = .ok (.getfield 9, 3) := by decide +kernel
theorem dX3_howManyBear_14 : decode cX3_howManyBear 14 = .ok (.iload_n 3, 1) := by decide +kernel
theorem dX3_howManyBear_15 : decode cX3_howManyBear 15 = .ok (.iaload, 1) := by decide +kernel
theorem dX3_howManyBear_16 : decode cX3_howManyBear 16 = .ok (.iload_n 1, 1) := by decide +kernel
theorem dX3_howManyBear_17 : decode cX3_howManyBear 17 = .ok (.if_icmp .lt 6, 3) := by decide +kernel
theorem dX3_howManyBear_20 : decode cX3_howManyBear 20 = .ok (.iinc 2 1, 3) := by decide +kernel
theorem dX3_howManyBear_23 : decode cX3_howManyBear 23 = .ok (.iinc 3 1, 3) := by decide +kernel
theorem dX3_howManyBear_26 : decode cX3_howManyBear 26 = .ok (.goto (-22), 3) := by decide +kernel
theorem dX3_howManyBear_29 : decode cX3_howManyBear 29 = .ok (.iload_n 2, 1) := by decide +kernel
theorem dX3_howManyBear_30 : decode cX3_howManyBear 30 = .ok (.ireturn, 1) := by decide +kernel
set_option maxRecDepth 20000 in
theorem ggX4_init_X2_init : GoodIn wsX4_init wsX2_init := goodIn_r _ [16, 17, 2, 3, 18, 19, 20, 21, 12, 22, 23, 24, 25, 26, 27, 28, 29, 30, 31, 32, 33, 34, 35, 36, 37, 38, 39, 40, 41] (by decide +kernel) (by decide +kernel)
set_option maxRecDepth 20000 in
theorem gX4_init_X2_init_n11 : GoodIn wsX4_init (wsX2_init) := ggX4_init_X2_init
theorem dX4_init_0 : decode cX4_init 0 = .ok (.aload_n 0, 1) := by decide +kernel
theorem dX4_init_1 : decode cX4_init 1 = .ok (.invokespecial 3, 3) := by decide +kernel
theorem dX4_init_4 : decode cX4_init 4 = .ok (.aload_n 0, 1) := by decide +kernel
theorem dX4_init_5 : decode cX4_init 5 = .ok (.new 9, 3) := by decide +kernel
theorem dX4_init_8 : decode cX4_init 8 = .ok (.dup, 1) := by decide +kernel
theorem dX4_init_9 : decode cX4_init 9 = .ok (.invokespecial 11, 3) := by decide +kernel
theorem dX4_init_12 : decode cX4_init 12 = .ok (.putfield 12, 3) := by decide +kernel
theorem dX4_init_15 : decode cX4_init 15 = .ok (.aload_n 0, 1) := by decide +kernel
theorem dX4_init_16 : decode cX4_init 16 = .ok (.iconst 1, 1) := by decide +kernel
theorem dX4_init_17 : decode cX4_init 17 = .ok (.putfield 18, 3) := by decide +kernel
theorem dX4_init_20 : decode cX4_init 20 = .ok (.aload_n 0, 1) := by decide +kernel
theorem dX4_init_21 : decode cX4_init 21 = .ok (.iconst 0, 1) := by decide +kernel
theorem dX4_init_22 : decode cX4_init 22 = .ok (.putfield 22, 3) := by decide +kernel
theorem dX4_init_25 : decode cX4_init 25 = .ok (.aload_n 0, 1) := by decide +kernel
theorem dX4_init_26 : decode cX4_init 26 = .ok (.iconst 0, 1) := by decide +kernel
theorem dX4_init_27 : decode cX4_init 27 = .ok (.putfield 25, 3) := by decide +kernel
theorem dX4_init_30 : decode cX4_init 30 = .ok (.aload_n 0, 1) := by decide +kernel
theorem dX4_init_31 : decode cX4_init 31 = .ok (.iconst 0, 1) := by decide +kernel
theorem dX4_init_32 : decode cX4_init 32 = .ok (.putfield 28, 3) := by decide +kernel
theorem dX4_init_35 : decode cX4_init 35 = .ok (.aload_n 0, 1) := by decide +kernel
theorem dX4_init_36 : decode cX4_init 36 = .ok (.iconst 3, 1) := by decide +kernel
theorem dX4_init_37 : decode cX4_init 37 = .ok (.newarray .int, 2) := by decide +kernel
theorem dX4_init_39 : decode cX4_init 39 = .ok (.putfield 31, 3) := by decide +kernel
theorem dX4_init_42 : decode cX4_init 42 = .ok (.aload_n 0, 1) := by decide +kernel
theorem dX4_init_43 : decode cX4_init 43 = .ok (.aload_n 1, 1) := by decide +kernel
theorem dX4_init_44 : decode cX4_init 44 = .ok (.putfield 35, 3) := by decide +kernel
theorem dX4_init_47 : decode cX4_init 47 = .ok (.return_, 1) := by decide +kernel
set_option maxRecDepth 20000 in
theorem ggX4_read_X2_forgetAll : GoodIn wsX4_read wsX2_forgetAll := goodIn_r _ [9, 10, 11, 12, 13, 150, 151, 152, 153, 154, 155, 156, 157, 158, 159, 160, 161] (by decide +kernel) (by decide +kernel)
set_option maxRecDepth 20000 in
theorem gX4_read_X2_forgetAll : GoodIn wsX4_read (wsV RX4 39 RX2 yX2_forgetAll wsX2_forgetAll) := goodIn_app (goodIn_of _ (by decide +kernel)) ggX4_read_X2_forgetAll
set_option maxRecDepth 20000 in
theorem ggX4_read_X4_readToken : GoodIn wsX4_read wsX4_readToken := goodIn_r _ [18, 2, 4, 19, 3, 20, 21, 22, 23, 24, 25, 26, 27, 28, 17, 29, 30, 31, 32, 33, 34, 35, 36, 37, 38, 39, 40, 41, 42, 43, 44, 45, 46, 47, 48, 49, 50, 51, 52, 53, 54, 55, 56, 57, 58, 59, 60, 61, 62, 63, 64, 65, 66, 67, 68, 69, 70, 71, 72, 73, 74, 75, 76, 77, 78, 79, 80, 81, 82, 83, 84, 85, 86, 87, 88, 89, 90, 91, 92, 93, 94, 95, 96, 97, 98, 143, 144, 145, 146, 147, 148, 149, 162, 163] (by decide +kernel) (by decide +kernel)
set_option maxRecDepth 20000 in
theorem gX4_read_X4_readToken : GoodIn wsX4_read (wsV RX4 42 RX4 yX4_readToken wsX4_readToken) := goodIn_app (goodIn_of _ (by decide +kernel)) ggX4_read_X4_readToken
set_option maxRecDepth 20000 in
theorem ggX4_read_X4_canBegin : GoodIn wsX4_read wsX4_canBegin := goodIn_r _ [102, 1, 143, 144, 145, 146, 147, 148, 149, 150, 151, 152, 153, 154, 155, 156, 157, 158, 159, 160, 161] (by decide +kernel) (by decide +kernel)
set_option maxRecDepth 20000 in
theorem gX4_read_X4_canBegin : GoodIn wsX4_read (wsV RX4 45 RX4 yX4_canBegin wsX4_canBegin) := goodIn_app (goodIn_of _ (by decide +kernel)) ggX4_read_X4_canBegin
set_option maxRecDepth 20000 in
theorem ggX4_read_X4_readNumbers : GoodIn wsX4_read wsX4_readNumbers := goodIn_r _ [106, 1, 107, 108, 109, 110, 17, 111, 3, 34, 14, 15, 16, 18, 2, 4, 19, 20, 21, 22, 23, 24, 25, 26, 27, 28, 29, 30, 31, 32, 33, 35, 36, 37, 38, 39, 40, 41, 42, 43, 44, 45, 46, 47, 48, 49, 50, 51, 52, 53, 54, 55, 56, 57, 58, 59, 60, 61, 62, 63, 64, 65, 66, 67, 68, 69, 70, 71, 72, 73, 74, 75, 76, 77, 78, 79, 80, 81, 82, 83, 84, 85, 86, 87, 88, 89, 90, 91, 92, 93, 94, 95, 96, 97, 98, 112, 113, 114, 143, 144, 145, 146, 147, 148, 149, 150, 151, 152, 153, 154, 155, 156, 157, 158, 159, 160, 161, 162, 163] (by decide +kernel) (by decide +kernel)
set_option maxRecDepth 20000 in
theorem gX4_read_X4_readNumbers : GoodIn wsX4_read (wsV RX4 49 RX4 yX4_readNumbers wsX4_readNumbers) := goodIn_app (goodIn_of _ (by decide +kernel)) ggX4_read_X4_readNumbers
set_option maxRecDepth 20000 in
theorem ggX4_read_X4_readSemicolon : GoodIn wsX4_read wsX4_readSemicolon := goodIn_r _ [118, 3, 14, 15, 16, 17, 18, 2, 4, 19, 20, 21, 22, 23, 24, 25, 26, 27, 28, 29, 30, 31, 32, 33, 34, 35, 36, 37, 38, 39, 40, 41, 42, 43, 44, 45, 46, 47, 48, 49, 50, 51, 52, 53, 54, 55, 56, 57, 58, 59, 60, 61, 62, 63, 64, 65, 66, 67, 68, 69, 70, 71, 72, 73, 74, 75, 76, 77, 78, 79, 80, 81, 82, 83, 84, 85, 86, 87, 88, 89, 90, 91, 92, 93, 94, 95, 96, 97, 98, 143, 144, 145, 146, 147, 148, 149, 162, 163] (by decide +kernel) (by decide +kernel)
set_option maxRecDepth 20000 in
theorem gX4_read_X4_readSemicolon : GoodIn wsX4_read (wsV RX4 53 RX4 yX4_readSemicolon wsX4_readSemicolon) := goodIn_app (goodIn_of _ (by decide +kernel)) ggX4_read_X4_readSemicolon
set_option maxRecDepth 20000 in
theorem ggX4_read_X4_addItem : GoodIn wsX4_read wsX4_addItem := goodIn_r _ [122, 1, 107, 123, 124, 125, 8, 126, 11, 127, 128, 129, 130, 131, 132, 133, 12, 134, 135, 136, 137, 138, 139, 13, 140, 141, 142, 143, 144, 145, 146, 147, 148, 149, 150, 151, 152, 153, 154, 155, 156, 157, 158, 159, 160, 161] (by decide +kernel) (by decide +kernel)
set_option maxRecDepth 20000 in
theorem gX4_read_X4_addItem : GoodIn wsX4_read (wsV RX4 57 RX4 yX4_addItem wsX4_addItem) := goodIn_app (goodIn_of _ (by decide +kernel)) ggX4_read_X4_addItem
theorem dX4_read_0 : decode cX4_read 0 = .ok (.aload_n 0, 1) := by decide +kernel
theorem dX4_read_1 : decode cX4_read 1 = .ok (.getfield 12, 3) := by decide +kernel
theorem dX4_read_4 : decode cX4_read 4 = .ok (.invokevirtual 39, 3) := by decide +kernel
theorem dX4_read_7 : decode cX4_read 7 = .ok (.aload_n 0, 1) := by decide +kernel
theorem dX4_read_8 : decode cX4_read 8 = .ok (.iconst 0, 1) := by decide +kernel
theorem dX4_read_9 : decode cX4_read 9 = .ok (.putfield 25, 3) := by decide +kernel
theorem dX4_read_12 : decode cX4_read 12 = .ok (.iconst 0, 1) := by decide +kernel
theorem dX4_read_13 : decode cX4_read 13 = .ok (.istore_n 1, 1) := by decide +kernel
theorem dX4_read_14 : decode cX4_read 14 = .ok (.aload_n 0, 1) := by decide +kernel
theorem dX4_read_15 : decode cX4_read 15 = .ok (.invokevirtual 42, 3) := by decide +kernel
theorem dX4_read_18 : decode cX4_read 18 = .ok (.iload_n 1, 1) := by decide +kernel
theorem dX4_read_19 : decode cX4_read 19 = .ok (.sipush 300, 3) := by decide +kernel
theorem dX4_read_22 : decode cX4_read 22 = .ok (.if_icmp .ge 63, 3) := by decide +kernel
theorem dX4_read_25 : decode cX4_read 25 = .ok (.aload_n 0, 1) := by decide +kernel
theorem dX4_read_26 : decode cX4_read 26 = .ok (.getfield 18, 3) := by decide +kernel
theorem dX4_read_29 : decode cX4_read 29 = .ok (.iconst 1, 1) := by decide +kernel
theorem dX4_read_30 : decode cX4_read 30 = .ok (.if_icmp .eq 55, 3) := by decide +kernel
theorem dX4_read_33 : decode cX4_read 33 = .ok (.aload_n 0, 1) := by decide +kernel
theorem dX4_read_34 : decode cX4_read 34 = .ok (.getfield 18, 3) := by decide +kernel
theorem dX4_read_37 : decode cX4_read 37 = .ok (.istore_n 2, 1) := by decide +kernel
theorem dX4_read_38 : decode cX4_read 38 = .ok (.aload_n 0, 1) := by decide +kernel
theorem dX4_read_39 : decode cX4_read 39 = .ok (.iload_n 2, 1) := by decide +kernel
theorem dX4_read_40 : decode cX4_read 40 = .ok (.iload_n 1, 1) := by decide +kernel
theorem dX4_read_41 : decode cX4_read 41 = .ok (.invokevirtual 45, 3) := by decide +kernel
theorem dX4_read_44 : decode cX4_read 44 = .ok (.ifCond .eq 18, 3) := by decide +kernel
theorem dX4_read_47 : decode cX4_read 47 = .ok (.aload_n 0, 1) := by decide +kernel
theorem dX4_read_48 : decode cX4_read 48 = .ok (.iload_n 2, 1) := by decide +kernel
theorem dX4_read_49 : decode cX4_read 49 = .ok (.invokevirtual 49, 3) := by decide +kernel
theorem dX4_read_52 : decode cX4_read 52 = .ok (.ifCond .eq 10, 3) := by decide +kernel
theorem dX4_read_55 : decode cX4_read 55 = .ok (.aload_n 0, 1) := by decide +kernel
theorem dX4_read_56 : decode cX4_read 56 = .ok (.invokevirtual 53, 3) := by decide +kernel
theorem dX4_read_59 : decode cX4_read 59 = .ok (.ifCond .ne 11, 3) := by decide +kernel
theorem dX4_read_62 : decode cX4_read 62 = .ok (.bipush (-10), 2) := by decide +kernel
theorem dX4_read_64 : decode cX4_read 64 = .ok (.aload_n 0, 1) := by decide +kernel
theorem dX4_read_65 : decode cX4_read 65 = .ok (.getfield 22, 3) := by decide +kernel
theorem dX4_read_68 : decode cX4_read 68 = .ok (.isub, 1) := by decide +kernel
theorem dX4_read_69 : decode cX4_read 69 = .ok (.ireturn, 1) := by decide +kernel
theorem dX4_read_70 : decode cX4_read 70 = .ok (.aload_n 0, 1) := by decide +kernel
theorem dX4_read_71 : decode cX4_read 71 = .ok (.iload_n 2, 1) := by decide +kernel
theorem dX4_read_72 : decode cX4_read 72 = .ok (.invokevirtual 57, 3) := by decide +kernel
theorem dX4_read_75 : decode cX4_read 75 = .ok (.iinc 1 1, 3) := by decide +kernel
theorem dX4_read_78 : decode cX4_read 78 = .ok (.aload_n 0, 1) := by decide +kernel
theorem dX4_read_79 : decode cX4_read 79 = .ok (.invokevirtual 42, 3) := by decide +kernel
theorem dX4_read_82 : decode cX4_read 82 = .ok (.goto (-64), 3) := by decide +kernel
theorem dX4_read_85 : decode cX4_read 85 = .ok (.iload_n 1, 1) := by decide +kernel
theorem dX4_read_86 : decode cX4_read 86 = .ok (.ireturn, 1) := by decide +kernel
theorem dX4_canBegin_0 : decode cX4_canBegin 0 = .ok (.iload_n 1, 1) := by decide +kernel
theorem dX4_canBegin_1 : decode cX4_canBegin 1 = .ok (.tableswitch 93 4 7 #[31, 41, 59, 76], 31) := by decide +kernel
theorem dX4_canBegin_32 : decode cX4_canBegin 32 = .ok (.iload_n 2, 1) := by decide +kernel
theorem dX4_canBegin_33 : decode cX4_canBegin 33 = .ok (.ifCond .ne 7, 3) := by decide +kernel
theorem dX4_canBegin_36 : decode cX4_canBegin 36 = .ok (.iconst 1, 1) := by decide +kernel
theorem dX4_canBegin_37 : decode cX4_canBegin 37 = .ok (.goto 4, 3) := by decide +kernel
theorem dX4_canBegin_40 : decode cX4_canBegin 40 = .ok (.iconst 0, 1) := by decide +kernel
theorem dX4_canBegin_41 : decode cX4_canBegin 41 = .ok (.ireturn, 1) := by decide +kernel
theorem dX4_canBegin_42 : decode cX4_canBegin 42 = .ok (.aload_n 0, 1) := by decide +kernel
theorem dX4_canBegin_43 : decode cX4_canBegin 43 = .ok (.getfield 12, 3) := by decide +kernel
theorem dX4_canBegin_46 : decode cX4_canBegin 46 = .ok (.getfield 61, 3) := by decide +kernel
theorem dX4_canBegin_49 : decode cX4_canBegin 49 = .ok (.bipush 9, 2) := by decide +kernel
theorem dX4_canBegin_51 : decode cX4_canBegin 51 = .ok (.if_icmp .ge 7, 3) := by decide +kernel
theorem dX4_canBegin_54 : decode cX4_canBegin 54 = .ok (.iconst 1, 1) := by decide +kernel
theorem dX4_canBegin_55 : decode cX4_canBegin 55 = .ok (.goto 4, 3) := by decide +kernel
theorem dX4_canBegin_58 : decode cX4_canBegin 58 = .ok (.iconst 0, 1) := by decide +kernel
theorem dX4_canBegin_59 : decode cX4_canBegin 59 = .ok (.ireturn, 1) := by decide +kernel
theorem dX4_canBegin_60 : decode cX4_canBegin 60 = .ok (.aload_n 0, 1) := by decide +kernel
theorem dX4_canBegin_61 : decode cX4_canBegin 61 = .ok (.getfield 12, 3) := by decide +kernel
theorem dX4_canBegin_64 : decode cX4_canBegin 64 = .ok (.getfield 64, 3) := by decide +kernel
theorem dX4_canBegin_67 : decode cX4_canBegin 67 = .ok (.iconst 4, 1) := by decide +kernel
theorem dX4_canBegin_68 : decode cX4_canBegin 68 = .ok (.if_icmp .ge 7, 3) := by decide +kernel
theorem dX4_canBegin_71 : decode cX4_canBegin 71 = .ok (.iconst 1, 1) := by decide +kernel
theorem dX4_canBegin_72 : decode cX4_canBegin 72 = .ok (.goto 4, 3) := by decide +kernel
theorem dX4_canBegin_75 : decode cX4_canBegin 75 = .ok (.iconst 0, 1) := by decide +kernel
theorem dX4_canBegin_76 : decode cX4_canBegin 76 = .ok (.ireturn, 1) := by decide +kernel
theorem dX4_canBegin_77 : decode cX4_canBegin 77 = .ok (.aload_n 0, 1) := by decide +kernel
theorem dX4_canBegin_78 : decode cX4_canBegin 78 = .ok (.getfield 12, 3) := by decide +kernel
theorem dX4_canBegin_81 : decode cX4_canBegin 81 = .ok (.getfield 67, 3) := by decide +kernel
theorem dX4_canBegin_84 : decode cX4_canBegin 84 = .ok (.iconst 3, 1) := by decide +kernel
theorem dX4_canBegin_85 : decode cX4_canBegin 85 = .ok (.if_icmp .ge 7, 3) := by decide +kernel
theorem dX4_canBegin_88 : decode cX4_canBegin 88 = .ok (.iconst 1, 1) := by decide +kernel
theorem dX4_canBegin_89 : decode cX4_canBegin 89 = .ok (.goto 4, 3) := by decide +kernel
theorem dX4_canBegin_92 : decode cX4_canBegin 92 = .ok (.iconst 0, 1) := by decide +kernel
theorem dX4_canBegin_93 : decode cX4_canBegin 93 = .ok (.ireturn, 1) := by decide +kernel
theorem dX4_canBegin_94 : decode cX4_canBegin 94 = .ok (.iconst 0, 1) := by decide +kernel
theorem dX4_canBegin_95 : decode cX4_canBegin 95 = .ok (.ireturn, 1) := by decide +kernel
set_option maxRecDepth 20000 in
theorem ggX4_readNumbers_X4_readNumber : GoodIn wsX4_readNumbers wsX4_readNumber := goodIn_r _ [7, 8, 9, 2, 10, 11, 12, 6, 13, 14, 15, 16, 17, 18, 19, 20, 21, 22, 23, 24, 25, 26, 27, 28, 29, 30, 31, 32, 33, 34, 35, 36, 37, 38, 39, 40, 41, 42, 43, 44, 45, 46, 47, 48, 49, 50, 51, 52, 53, 54, 55, 56, 57, 58, 59, 60, 61, 62, 63, 64, 65, 66, 67, 68, 69, 70, 71, 72, 73, 74, 75, 76, 77, 78, 79, 80, 81, 82, 83, 84, 85, 86, 87, 88, 89, 90, 91, 92, 93, 94, 95, 96, 97, 98, 99, 100, 101, 102, 103, 104, 117, 118] (by decide +kernel) (by decide +kernel)
set_option maxRecDepth 20000 in
theorem gX4_readNumbers_X4_readNumber : GoodIn wsX4_readNumbers (wsV RX4 73 RX4 yX4_readNumber wsX4_readNumber) := goodIn_app (goodIn_of _ (by decide +kernel)) ggX4_readNumbers_X4_readNumber
theorem dX4_readNumbers_0 : decode cX4_readNumbers 0 = .ok (.aload_n 0, 1) := by decide +kernel
theorem dX4_readNumbers_1 : decode cX4_readNumbers 1 = .ok (.getfield 12, 3) := by decide +kernel
theorem dX4_readNumbers_4 : decode cX4_readNumbers 4 = .ok (.getfield 70, 3) := by decide +kernel
theorem dX4_readNumbers_7 : decode cX4_readNumbers 7 = .ok (.iconst 1, 1) := by decide +kernel
theorem dX4_readNumbers_8 : decode cX4_readNumbers 8 = .ok (.isub, 1) := by decide +kernel
theorem dX4_readNumbers_9 : decode cX4_readNumbers 9 = .ok (.istore_n 2, 1) := by decide +kernel
theorem dX4_readNumbers_10 : decode cX4_readNumbers 10 = .ok (.iload_n 1, 1) := by decide +kernel
theorem dX4_readNumbers_11 : decode cX4_readNumbers 11 = .ok (.tableswitch 175 4 7 #[29, 38, 90, 116], 29) := by decide +kernel
theorem dX4_readNumbers_40 : decode cX4_readNumbers 40 = .ok (.aload_n 0, 1) := by decide +kernel
theorem dX4_readNumbers_41 : decode cX4_readNumbers 41 = .ok (.iconst 0, 1) := by decide +kernel
theorem dX4_readNumbers_42 : decode cX4_readNumbers 42 = .ok (.iconst 2, 1) := by decide +kernel
theorem dX4_readNumbers_43 : decode cX4_readNumbers 43 = .ok (.bipush 6, 2) := by decide +kernel
theorem dX4_readNumbers_45 : decode cX4_readNumbers 45 = .ok (.invokevirtual 73, 3) := by decide +kernel
theorem dX4_readNumbers_48 : decode cX4_readNumbers 48 = .ok (.ireturn, 1) := by decide +kernel
theorem dX4_readNumbers_49 : decode cX4_readNumbers 49 = .ok (.aload_n 0, 1) := by decide +kernel
theorem dX4_readNumbers_50 : decode cX4_readNumbers 50 = .ok (.iconst 0, 1) := by decide +kernel
theorem dX4_readNumbers_51 : decode cX4_readNumbers 51 = .ok (.iconst 0, 1) := by decide +kernel
theorem dX4_readNumbers_52 : decode cX4_readNumbers 52 = .ok (.iload_n 2, 1) := by decide +kernel
theorem dX4_readNumbers_53 : decode cX4_readNumbers 53 = .ok (.invokevirtual 73, 3) := by decide +kernel
theorem dX4_readNumbers_56 : decode cX4_readNumbers 56 = .ok (.ifCond .eq 43, 3) := by decide +kernel
theorem dX4_readNumbers_59 : decode cX4_readNumbers 59 = .ok (.aload_n 0, 1) := by decide +kernel
theorem dX4_readNumbers_60 : decode cX4_readNumbers 60 = .ok (.iconst 1, 1) := by decide +kernel
theorem dX4_readNumbers_61 : decode cX4_readNumbers 61 = .ok (.iconst 0, 1) := by decide +kernel
theorem dX4_readNumbers_62 : decode cX4_readNumbers 62 = .ok (.iload_n 2, 1) := by decide +kernel
theorem dX4_readNumbers_63 : decode cX4_readNumbers 63 = .ok (.invokevirtual 73, 3) := by decide +kernel
theorem dX4_readNumbers_66 : decode cX4_readNumbers 66 = .ok (.ifCond .eq 33, 3) := by decide +kernel
theorem dX4_readNumbers_69 : decode cX4_readNumbers 69 = .ok (.aload_n 0, 1) := by decide +kernel
theorem dX4_readNumbers_70 : decode cX4_readNumbers 70 = .ok (.getfield 31, 3) := by decide +kernel
theorem dX4_readNumbers_73 : decode cX4_readNumbers 73 = .ok (.iconst 1, 1) := by decide +kernel
theorem dX4_readNumbers_74 : decode cX4_readNumbers 74 = .ok (.iaload, 1) := by decide +kernel
theorem dX4_readNumbers_75 : decode cX4_readNumbers 75 = .ok (.aload_n 0, 1) := by decide +kernel
theorem dX4_readNumbers_76 : decode cX4_readNumbers 76 = .ok (.getfield 31, 3) := by decide +kernel
theorem dX4_readNumbers_79 : decode cX4_readNumbers 79 = .ok (.iconst 0, 1) := by decide +kernel
theorem dX4_readNumbers_80 : decode cX4_readNumbers 80 = .ok (.iaload, 1) := by decide +kernel
theorem dX4_readNumbers_81 : decode cX4_readNumbers 81 = .ok (.if_icmp .eq 18, 3) := by decide +kernel
theorem dX4_readNumbers_84 : decode cX4_readNumbers 84 = .ok (.aload_n 0, 1) := by decide +kernel
theorem dX4_readNumbers_85 : decode cX4_readNumbers 85 = .ok (.iconst 2, 1) := by decide +kernel
theorem dX4_readNumbers_86 : decode cX4_readNumbers 86 = .ok (.iconst 0, 1) := by decide +kernel
theorem dX4_readNumbers_87 : decode cX4_readNumbers 87 = .ok (.bipush 9, 2) := by decide +kernel
theorem dX4_readNumbers_89 : decode cX4_readNumbers 89 = .ok (.invokevirtual 73, 3) := by decide +kernel
theorem dX4_readNumbers_92 : decode cX4_readNumbers 92 = .ok (.ifCond .eq 7, 3) := by decide +kernel
theorem dX4_readNumbers_95 : decode cX4_readNumbers 95 = .ok (.iconst 1, 1) := by decide +kernel
theorem dX4_readNumbers_96 : decode cX4_readNumbers 96 = .ok (.goto 4, 3) := by decide +kernel
theorem dX4_readNumbers_99 : decode cX4_readNumbers 99 = .ok (.iconst 0, 1) := by decide +kernel
theorem dX4_readNumbers_100 : decode cX4_readNumbers 100 = .ok (.ireturn, 1) := by decide +kernel
theorem dX4_readNumbers_101 : decode cX4_readNumbers 101 = .ok (.aload_n 0, 1) := by decide +kernel
theorem dX4_readNumbers_102 : decode cX4_readNumbers 102 = .ok (.iconst 0, 1) := by decide +kernel
theorem dX4_readNumbers_103 : decode cX4_readNumbers 103 = .ok (.iconst 1, 1) := by decide +kernel
theorem dX4_readNumbers_104 : decode cX4_readNumbers 104 = .ok (.iconst 3, 1) := by decide +kernel
theorem dX4_readNumbers_105 : decode cX4_readNumbers 105 = .ok (.invokevirtual 73, 3) := by decide +kernel
theorem dX4_readNumbers_108 : decode cX4_readNumbers 108 = .ok (.ifCond .eq 17, 3) := by decide +kernel
theorem dX4_readNumbers_111 : decode cX4_readNumbers 111 = .ok (.aload_n 0, 1) := by decide +kernel
theorem dX4_readNumbers_112 : decode cX4_readNumbers 112 = .ok (.iconst 1, 1) := by decide +kernel
theorem dX4_readNumbers_113 : decode cX4_readNumbers 113 = .ok (.iconst 1, 1) := by decide +kernel
theorem dX4_readNumbers_114 : decode cX4_readNumbers 114 = .ok (.iconst 2, 1) := by decide +kernel
theorem dX4_readNumbers_115 : decode cX4_readNumbers 115 = .ok (.invokevirtual 73, 3) := by decide +kernel
theorem dX4_readNumbers_118 : decode cX4_readNumbers 118 = .ok (.ifCond .eq 7, 3) := by decide +kernel
theorem dX4_readNumbers_121 : decode cX4_readNumbers 121 = .ok (.iconst 1, 1) := by decide +kernel
theorem dX4_readNumbers_122 : decode cX4_readNumbers 122 = .ok (.goto 4, 3) := by decide +kernel
theorem dX4_readNumbers_125 : decode cX4_readNumbers 125 = .ok (.iconst 0, 1) := by decide +kernel
theorem dX4_readNumbers_126 : decode cX4_readNumbers 126 = .ok (.ireturn, 1) := by decide +kernel
theorem dX4_readNumbers_127 : decode cX4_readNumbers 127 = .ok (.aload_n 0, 1) := by decide +kernel
theorem dX4_readNumbers_128 : decode cX4_readNumbers 128 = .ok (.iconst 0, 1) := by decide +kernel
theorem dX4_readNumbers_129 : decode cX4_readNumbers 129 = .ok (.iconst 0, 1) := by decide +kernel
theorem dX4_readNumbers_130 : decode cX4_readNumbers 130 = .ok (.aload_n 0, 1) := by decide +kernel
theorem dX4_readNumbers_131 : decode cX4_readNumbers 131 = .ok (.getfield 12, 3) := by decide +kernel
theorem dX4_readNumbers_134 : decode cX4_readNumbers 134 = .ok (.getfield 64, 3) := by decide +kernel
theorem dX4_readNumbers_137 : decode cX4_readNumbers 137 = .ok (.iconst 1, 1) := by decide +kernel
theorem dX4_readNumbers_138 : decode cX4_readNumbers 138 = .ok (.isub, 1) := by decide +kernel
theorem dX4_readNumbers_139 : decode cX4_readNumbers 139 = .ok (.invokevirtual 73, 3) := by decide +kernel
theorem dX4_readNumbers_142 : decode cX4_readNumbers 142 = .ok (.ifCond .eq 42, 3) := by decide +kernel
theorem dX4_readNumbers_145 : decode cX4_readNumbers 145 = .ok (.aload_n 0, 1) := by decide +kernel
theorem dX4_readNumbers_146 : decode cX4_readNumbers 146 = .ok (.iconst 1, 1) := by decide +kernel
theorem dX4_readNumbers_147 : decode cX4_readNumbers 147 = .ok (.iconst 0, 1) := by decide +kernel
theorem dX4_readNumbers_148 : decode cX4_readNumbers 148 = .ok (.iload_n 2, 1) := by decide +kernel
theorem dX4_readNumbers_149 : decode cX4_readNumbers 149 = .ok (.invokevirtual 73, 3) := by decide +kernel
theorem dX4_readNumbers_152 : decode cX4_readNumbers 152 = .ok (.ifCond .eq 32, 3) := by decide +kernel
theorem dX4_readNumbers_155 : decode cX4_readNumbers 155 = .ok (.aload_n 0, 1) := by decide +kernel
theorem dX4_readNumbers_156 : decode cX4_readNumbers 156 = .ok (.iconst 2, 1) := by decide +kernel
theorem dX4_readNumbers_157 : decode cX4_readNumbers 157 = .ok (.iconst 0, 1) := by decide +kernel
theorem dX4_readNumbers_158 : decode cX4_readNumbers 158 = .ok (.iload_n 2, 1) := by decide +kernel
theorem dX4_readNumbers_159 : decode cX4_readNumbers 159 = .ok (.invokevirtual 73, 3) := by decide +kernel
theorem dX4_readNumbers_162 : decode cX4_readNumbers 162 = .ok (.ifCond .eq 22, 3) := by decide +kernel
theorem dX4_readNumbers_165 : decode cX4_readNumbers 165 = .ok (.aload_n 0, 1) := by decide +kernel
theorem dX4_readNumbers_166 : decode cX4_readNumbers 166 = .ok (.getfield 31, 3) := by decide +kernel
theorem dX4_readNumbers_169 : decode cX4_readNumbers 169 = .ok (.iconst 2, 1) := by decide +kernel
theorem dX4_readNumbers_170 : decode cX4_readNumbers 170 = .ok (.iaload, 1) := by decide +kernel
theorem dX4_readNumbers_171 : decode cX4_readNumbers 171 = .ok (.aload_n 0, 1) := by decide +kernel
theorem dX4_readNumbers_172 : decode cX4_readNumbers 172 = .ok (.getfield 31, 3) := by decide +kernel
theorem dX4_readNumbers_175 : decode cX4_readNumbers 175 = .ok (.iconst 1, 1) := by decide +kernel
theorem dX4_readNumbers_176 : decode cX4_readNumbers 176 = .ok (.iaload, 1) := by decide +kernel
theorem dX4_readNumbers_177 : decode cX4_readNumbers 177 = .ok (.if_icmp .eq 7, 3) := by decide +kernel
theorem dX4_readNumbers_180 : decode cX4_readNumbers 180 = .ok (.iconst 1, 1) := by decide +kernel
theorem dX4_readNumbers_181 : decode cX4_readNumbers 181 = .ok (.goto 4, 3) := by decide +kernel
theorem dX4_readNumbers_184 : decode cX4_readNumbers 184 = .ok (.iconst 0, 1) := by decide +kernel
theorem dX4_readNumbers_185 : decode cX4_readNumbers 185 = .ok (.ireturn, 1) := by decide +kernel
theorem dX4_readNumbers_186 : decode cX4_readNumbers 186 = .ok (.iconst 0, 1) := by decide +kernel
theorem dX4_readNumbers_187 : decode cX4_readNumbers 187 = .ok (.ireturn, 1) := by decide +kernel
set_option maxRecDepth 20000 in
theorem ggX4_addItem_X2_addPlank : GoodIn wsX4_addItem wsX2_addPlank := goodIn_r _ [7, 8, 9, 10, 11, 34, 35, 36, 37, 38, 39, 40, 41, 42, 43, 44, 45] (by decide +kernel) (by decide +kernel)
set_option maxRecDepth 20000 in
theorem gX4_addItem_X2_addPlank : GoodIn wsX4_addItem (wsV RX4 77 RX2 yX2_addPlank wsX2_addPlank) := goodIn_app (goodIn_of _ (by decide +kernel)) ggX4_addItem_X2_addPlank
set_option maxRecDepth 20000 in
theorem ggX4_addItem_X2_addPerson : GoodIn wsX4_addItem wsX2_addPerson := goodIn_r _ [15, 16, 17, 18, 34, 35, 36, 37, 38, 39, 40, 41, 42, 43, 44, 45] (by decide +kernel) (by decide +kernel)
set_option maxRecDepth 20000 in
theorem gX4_addItem_X2_addPerson : GoodIn wsX4_addItem (wsV RX4 81 RX2 yX2_addPerson wsX2_addPerson) := goodIn_app (goodIn_of _ (by decide +kernel)) ggX4_addItem_X2_addPerson
set_option maxRecDepth 20000 in
theorem ggX4_addItem_X2_addErrand : GoodIn wsX4_addItem wsX2_addErrand := goodIn_r _ [22, 23, 24, 25, 26, 34, 35, 36, 37, 38, 39, 40, 41, 42, 43, 44, 45] (by decide +kernel) (by decide +kernel)
set_option maxRecDepth 20000 in
theorem gX4_addItem_X2_addErrand : GoodIn wsX4_addItem (wsV RX4 85 RX2 yX2_addErrand wsX2_addErrand) := goodIn_app (goodIn_of _ (by decide +kernel)) ggX4_addItem_X2_addErrand
theorem dX4_addItem_0 : decode cX4_addItem 0 = .ok (.iload_n 1, 1) := by decide +kernel
theorem dX4_addItem_1 : decode cX4_addItem 1 = .ok (.iconst 4, 1) := by decide +kernel
theorem dX4_addItem_2 : decode cX4_addItem 2 = .ok (.if_icmp .ne 19, 3) := by decide +kernel
theorem dX4_addItem_5 : decode cX4_addItem 5 = .ok (.aload_n 0, 1) := by decide +kernel
theorem dX4_addItem_6 : decode cX4_addItem 6 = .ok (.getfield 12, 3) := by decide +kernel
theorem dX4_addItem_9 : decode cX4_addItem 9 = .ok (.aload_n 0, 1) := by decide +kernel
theorem dX4_addItem_10 : decode cX4_addItem 10 = .ok (.getfield 31, 3) := by decide +kernel
theorem dX4_addItem_13 : decode cX4_addItem 13 = .ok (.iconst 0, 1) := by decide +kernel
theorem dX4_addItem_14 : decode cX4_addItem 14 = .ok (.iaload, 1) := by decide +kernel
theorem dX4_addItem_15 : decode cX4_addItem 15 = .ok (.putfield 70, 3) := by decide +kernel
theorem dX4_addItem_18 : decode cX4_addItem 18 = .ok (.goto 95, 3) := by decide +kernel
theorem dX4_addItem_21 : decode cX4_addItem 21 = .ok (.iload_n 1, 1) := by decide +kernel
theorem dX4_addItem_22 : decode cX4_addItem 22 = .ok (.iconst 5, 1) := by decide +kernel
theorem dX4_addItem_23 : decode cX4_addItem 23 = .ok (.if_icmp .ne 31, 3) := by decide +kernel
theorem dX4_addItem_26 : decode cX4_addItem 26 = .ok (.aload_n 0, 1) := by decide +kernel
theorem dX4_addItem_27 : decode cX4_addItem 27 = .ok (.getfield 12, 3) := by decide +kernel
theorem dX4_addItem_30 : decode cX4_addItem 30 = .ok (.aload_n 0, 1) := by decide +kernel
theorem dX4_addItem_31 : decode cX4_addItem 31 = .ok (.getfield 31, 3) := by decide +kernel
theorem dX4_addItem_34 : decode cX4_addItem 34 = .ok (.iconst 0, 1) := by decide +kernel
theorem dX4_addItem_35 : decode cX4_addItem 35 = .ok (.iaload, 1) := by decide +kernel
theorem dX4_addItem_36 : decode cX4_addItem 36 = .ok (.aload_n 0, 1) := by decide +kernel
theorem dX4_addItem_37 : decode cX4_addItem 37 = .ok (.getfield 31, 3) := by decide +kernel
theorem dX4_addItem_40 : decode cX4_addItem 40 = .ok (.iconst 1, 1) := by decide +kernel
theorem dX4_addItem_41 : decode cX4_addItem 41 = .ok (.iaload, 1) := by decide +kernel
theorem dX4_addItem_42 : decode cX4_addItem 42 = .ok (.aload_n 0, 1) := by decide +kernel
theorem dX4_addItem_43 : decode cX4_addItem 43 = .ok (.getfield 31, 3) := by decide +kernel
theorem dX4_addItem_46 : decode cX4_addItem 46 = .ok (.iconst 2, 1) := by decide +kernel
theorem dX4_addItem_47 : decode cX4_addItem 47 = .ok (.iaload, 1) := by decide +kernel
theorem dX4_addItem_48 : decode cX4_addItem 48 = .ok (.invokevirtual 77, 3) := by decide +kernel
theorem dX4_addItem_51 : decode cX4_addItem 51 = .ok (.goto 62, 3) := by decide +kernel
theorem dX4_addItem_54 : decode cX4_addItem 54 = .ok (.iload_n 1, 1) := by decide +kernel
theorem dX4_addItem_55 : decode cX4_addItem 55 = .ok (.bipush 6, 2) := by decide +kernel
theorem dX4_addItem_57 : decode cX4_addItem 57 = .ok (.if_icmp .ne 25, 3) := by decide +kernel
theorem dX4_addItem_60 : decode cX4_addItem 60 = .ok (.aload_n 0, 1) := by decide +kernel
theorem dX4_addItem_61 : decode cX4_addItem 61 = .ok (.getfield 12, 3) := by decide +kernel
theorem dX4_addItem_64 : decode cX4_addItem 64 = .ok (.aload_n 0, 1) := by decide +kernel
theorem dX4_addItem_65 : decode cX4_addItem 65 = .ok (.getfield 31, 3) := by decide +kernel
theorem dX4_addItem_68 : decode cX4_addItem 68 = .ok (.iconst 0, 1) := by decide +kernel
theorem dX4_addItem_69 : decode cX4_addItem 69 = .ok (.iaload, 1) := by decide +kernel
theorem dX4_addItem_70 : decode cX4_addItem 70 = .ok (.aload_n 0, 1) := by decide +kernel
theorem dX4_addItem_71 : decode cX4_addItem 71 = .ok (.getfield 31, 3) := by decide +kernel
theorem dX4_addItem_74 : decode cX4_addItem 74 = .ok (.iconst 1, 1) := by decide +kernel
theorem dX4_addItem_75 : decode cX4_addItem 75 = .ok (.iaload, 1) := by decide +kernel
theorem dX4_addItem_76 : decode cX4_addItem 76 = .ok (.invokevirtual 81, 3) := by decide +kernel
theorem dX4_addItem_79 : decode cX4_addItem 79 = .ok (.goto 34, 3) := by decide +kernel
theorem dX4_addItem_82 : decode cX4_addItem 82 = .ok (.iload_n 1, 1) := by decide +kernel
theorem dX4_addItem_83 : decode cX4_addItem 83 = .ok (.bipush 7, 2) := by decide +kernel
theorem dX4_addItem_85 : decode cX4_addItem 85 = .ok (.if_icmp .ne 28, 3) := by decide +kernel
theorem dX4_addItem_88 : decode cX4_addItem 88 = .ok (.aload_n 0, 1) := by decide +kernel
theorem dX4_addItem_89 : decode cX4_addItem 89 = .ok (.getfield 12, 3) := by decide +kernel
theorem dX4_addItem_92 : decode cX4_addItem 92 = .ok (.aload_n 0, 1) := by decide +kernel
theorem dX4_addItem_93 : decode cX4_addItem 93 = .ok (.getfield 31, 3) := by decide +kernel
theorem dX4_addItem_96 : decode cX4_addItem 96 = .ok (.iconst 0, 1) := by decide +kernel
theorem dX4_addItem_97 : decode cX4_addItem 97 = .ok (.iaload, 1) := by decide +kernel
theorem dX4_addItem_98 : decode cX4_addItem 98 = .ok (.aload_n 0, 1) := by decide +kernel
theorem dX4_addItem_99 : decode cX4_addItem 99 = .ok (.getfield 31, 3) := by decide +kernel
theorem dX4_addItem_102 : decode cX4_addItem 102 = .ok (.iconst 1, 1) := by decide +kernel
theorem dX4_addItem_103 : decode cX4_addItem 103 = .ok (.iaload, 1) := by decide +kernel
theorem dX4_addItem_104 : decode cX4_addItem 104 = .ok (.aload_n 0, 1) := by decide +kernel
theorem dX4_addItem_105 : decode cX4_addItem 105 = .ok (.getfield 31, 3) := by decide +kernel
theorem dX4_addItem_108 : decode cX4_addItem 108 = .ok (.iconst 2, 1) := by decide +kernel
theorem dX4_addItem_109 : decode cX4_addItem 109 = .ok (.iaload, 1) := by decide +kernel
theorem dX4_addItem_110 : decode cX4_addItem 110 = .ok (.invokevirtual 85, 3) := by decide +kernel
theorem dX4_addItem_113 : decode cX4_addItem 113 = .ok (.return_, 1) := by decide +kernel
set_option maxRecDepth 20000 in
theorem ggX4_readNumber_X4_readToken : GoodIn wsX4_readNumber wsX4_readToken := goodIn_r _ [8, 9, 10, 11, 1, 12, 13, 14, 15, 16, 17, 18, 19, 20, 7, 21, 22, 23, 24, 25, 2, 26, 27, 28, 29, 30, 31, 32, 33, 34, 35, 36, 37, 38, 39, 40, 41, 42, 43, 44, 45, 46, 47, 48, 49, 50, 51, 52, 53, 54, 55, 56, 57, 58, 59, 60, 61, 62, 63, 64, 65, 66, 67, 68, 69, 70, 71, 72, 73, 74, 75, 76, 77, 78, 79, 80, 81, 82, 83, 84, 85, 86, 87, 88, 89, 93, 94, 95, 96, 97, 98, 99, 100, 101] (by decide +kernel) (by decide +kernel)
set_option maxRecDepth 20000 in
theorem gX4_readNumber_X4_readToken : GoodIn wsX4_readNumber (wsV RX4 42 RX4 yX4_readToken wsX4_readToken) := goodIn_app (goodIn_of _ (by decide +kernel)) ggX4_readNumber_X4_readToken
set_option maxRecDepth 20000 in
theorem ggX4_readNumber_X9_isWithin : GoodIn wsX4_readNumber wsX9_isWithin := goodIn_r _ [92] (by decide +kernel) (by decide +kernel)
set_option maxRecDepth 20000 in
theorem gX4_readNumber_X9_isWithin_n88 : GoodIn wsX4_readNumber (wsX9_isWithin) := ggX4_readNumber_X9_isWithin
theorem dX4_readNumber_0 : decode cX4_readNumber 0 = .ok (.aload_n 0, 1) := by decide +kernel
theorem dX4_readNumber_1 : decode cX4_readNumber 1 = .ok (.invokevirtual 42, 3) := by decide +kernel
theorem dX4_readNumber_4 : decode cX4_readNumber 4 = .ok (.aload_n 0, 1) := by decide +kernel
theorem dX4_readNumber_5 : decode cX4_readNumber 5 = .ok (.getfield 18, 3) := by decide +kernel
theorem dX4_readNumber_8 : decode cX4_readNumber 8 = .ok (.iconst 3, 1) := by decide +kernel
theorem dX4_readNumber_9 : decode cX4_readNumber 9 = .ok (.if_icmp .ne 24, 3) := by decide +kernel
theorem dX4_readNumber_12 : decode cX4_readNumber 12 = .ok (.aload_n 0, 1) := by decide +kernel
theorem dX4_readNumber_13 : decode cX4_readNumber 13 = .ok (.getfield 28, 3) := by decide +kernel
theorem dX4_readNumber_16 : decode cX4_readNumber 16 = .ok (.iload_n 2, 1) := by decide +kernel
theorem dX4_readNumber_17 : decode cX4_readNumber 17 = .ok (.iload_n 3, 1) := by decide +kernel
theorem dX4_readNumber_18 : decode cX4_readNumber 18 = .ok (.invokestatic 88, 3) := by decide +kernel
theorem dX4_readNumber_21 : decode cX4_readNumber 21 = .ok (.ifCond .eq 12, 3) := by decide +kernel
theorem dX4_readNumber_24 : decode cX4_readNumber 24 = .ok (.iload_n 1, 1) := by decide +kernel
theorem dX4_readNumber_25 : decode cX4_readNumber 25 = .ok (.iconst 0, 1) := by decide +kernel
theorem dX4_readNumber_26 : decode cX4_readNumber 26 = .ok (.iconst 2, 1) := by decide +kernel
theorem dX4_readNumber_27 : decode cX4_readNumber 27 = .ok (.invokestatic 88, 3) := by decide +kernel
theorem dX4_readNumber_30 : decode cX4_readNumber 30 = .ok (.ifCond .ne 5, 3) := by decide +kernel
theorem dX4_readNumber_33 : decode cX4_readNumber 33 = .ok (.iconst 0, 1) := by decide +kernel
theorem dX4_readNumber_34 : decode cX4_readNumber 34 = .ok (.ireturn, 1) := by decide +kernel
theorem dX4_readNumber_35 : decode cX4_readNumber 35 = .ok (.aload_n 0, 1) := by decide +kernel
theorem dX4_readNumber_36 : decode cX4_readNumber 36 = .ok (.getfield 31, 3) := by decide +kernel
theorem dX4_readNumber_39 : decode cX4_readNumber 39 = .ok (.iload_n 1, 1) := by decide +kernel
theorem dX4_readNumber_40 : decode cX4_readNumber 40 = .ok (.aload_n 0, 1) := by decide +kernel
theorem dX4_readNumber_41 : decode cX4_readNumber 41 = .ok (.getfield 28, 3) := by decide +kernel
theorem dX4_readNumber_44 : decode cX4_readNumber 44 = .ok (.iastore, 1) := by decide +kernel
theorem dX4_readNumber_45 : decode cX4_readNumber 45 = .ok (.iconst 1, 1) := by decide +kernel
theorem dX4_readNumber_46 : decode cX4_readNumber 46 = .ok (.ireturn, 1) := by decide +kernel
set_option maxRecDepth 20000 in
theorem ggX4_readSemicolon_X4_readToken : GoodIn wsX4_readSemicolon wsX4_readToken := goodIn_r _ [6, 7, 8, 9, 1, 10, 11, 12, 13, 14, 15, 16, 17, 18, 5, 19, 20, 21, 22, 23, 24, 25, 26, 27, 28, 29, 30, 31, 32, 33, 34, 35, 36, 37, 38, 39, 40, 41, 42, 43, 44, 45, 46, 47, 48, 49, 50, 51, 52, 53, 54, 55, 56, 57, 58, 59, 60, 61, 62, 63, 64, 65, 66, 67, 68, 69, 70, 71, 72, 73, 74, 75, 76, 77, 78, 79, 80, 81, 82, 83, 84, 85, 86, 87, 88, 89, 90, 91, 92, 93, 94, 95, 96, 97] (by decide +kernel) (by decide +kernel)
set_option maxRecDepth 20000 in
theorem gX4_readSemicolon_X4_readToken : GoodIn wsX4_readSemicolon (wsV RX4 42 RX4 yX4_readToken wsX4_readToken) := goodIn_app (goodIn_of _ (by decide +kernel)) ggX4_readSemicolon_X4_readToken
theorem dX4_readSemicolon_0 : decode cX4_readSemicolon 0 = .ok (.aload_n 0, 1) := by decide +kernel
theorem dX4_readSemicolon_1 : decode cX4_readSemicolon 1 = .ok (.invokevirtual 42, 3) := by decide +kernel
theorem dX4_readSemicolon_4 : decode cX4_readSemicolon 4 = .ok (.aload_n 0, 1) := by decide +kernel
theorem dX4_readSemicolon_5 : decode cX4_readSemicolon 5 = .ok (.getfield 18, 3) := by decide +kernel
theorem dX4_readSemicolon_8 : decode cX4_readSemicolon 8 = .ok (.iconst 2, 1) := by decide +kernel
theorem dX4_readSemicolon_9 : decode cX4_readSemicolon 9 = .ok (.if_icmp .ne 7, 3) := by decide +kernel
theorem dX4_readSemicolon_12 : decode cX4_readSemicolon 12 = .ok (.iconst 1, 1) := by decide +kernel
theorem dX4_readSemicolon_13 : decode cX4_readSemicolon 13 = .ok (.goto 4, 3) := by decide +kernel
theorem dX4_readSemicolon_16 : decode cX4_readSemicolon 16 = .ok (.iconst 0, 1) := by decide +kernel
theorem dX4_readSemicolon_17 : decode cX4_readSemicolon 17 = .ok (.ireturn, 1) := by decide +kernel
set_option maxRecDepth 20000 in
theorem ggX4_readToken_X7_byteAt : GoodIn wsX4_readToken wsX7_byteAt := goodIn_r _ [9, 10, 11, 92, 93] (by decide +kernel) (by decide +kernel)
set_option maxRecDepth 20000 in
theorem gX4_readToken_X7_byteAt : GoodIn wsX4_readToken (wsV RX4 96 RX7 yX7_byteAt wsX7_byteAt) := goodIn_app (goodIn_of _ (by decide +kernel)) ggX4_readToken_X7_byteAt
set_option maxRecDepth 20000 in
theorem ggX4_readToken_X4_isDigit : GoodIn wsX4_readToken wsX4_isDigit := goodIn_r _ [15] (by decide +kernel) (by decide +kernel)
set_option maxRecDepth 20000 in
theorem gX4_readToken_X4_isDigit : GoodIn wsX4_readToken (va_wsS RX4 100 yX4_isDigit wsX4_isDigit) := goodIn_app (goodIn_of _ (by decide +kernel)) ggX4_readToken_X4_isDigit
set_option maxRecDepth 20000 in
theorem ggX4_readToken_X4_digitsToken : GoodIn wsX4_readToken wsX4_digitsToken := goodIn_r _ [19, 3, 2, 20, 1, 21, 22, 23, 24, 5, 6, 7, 8, 9, 10, 11, 12, 13, 14, 15, 85, 86, 87, 88, 89, 90, 91, 92, 93] (by decide +kernel) (by decide +kernel)
set_option maxRecDepth 20000 in
theorem gX4_readToken_X4_digitsToken : GoodIn wsX4_readToken (wsV RX4 103 RX4 yX4_digitsToken wsX4_digitsToken) := goodIn_app (goodIn_of _ (by decide +kernel)) ggX4_readToken_X4_digitsToken
set_option maxRecDepth 20000 in
theorem ggX4_readToken_X4_isLetter : GoodIn wsX4_readToken wsX4_isLetter := goodIn_r _ [27] (by decide +kernel) (by decide +kernel)
set_option maxRecDepth 20000 in
theorem gX4_readToken_X4_isLetter : GoodIn wsX4_readToken (va_wsS RX4 107 yX4_isLetter wsX4_isLetter) := goodIn_app (goodIn_of _ (by decide +kernel)) ggX4_readToken_X4_isLetter
set_option maxRecDepth 20000 in
theorem ggX4_readToken_X4_lettersToken : GoodIn wsX4_readToken wsX4_lettersToken := goodIn_r _ [31, 1, 3, 5, 6, 7, 8, 9, 10, 11, 25, 26, 14, 27, 32, 33, 34, 35, 2, 36, 37, 38, 39, 40, 41, 42, 43, 44, 45, 46, 47, 48, 49, 50, 51, 52, 53, 54, 55, 56, 57, 58, 59, 60, 61, 62, 63, 64, 65, 66, 67, 68, 69, 70, 71, 72, 73, 74, 75, 76, 77, 78, 79, 80, 81, 82, 83, 84, 85, 86, 87, 88, 89, 90, 91, 92, 93] (by decide +kernel) (by decide +kernel)
set_option maxRecDepth 20000 in
theorem gX4_readToken_X4_lettersToken : GoodIn wsX4_readToken (wsV RX4 110 RX4 yX4_lettersToken wsX4_lettersToken) := goodIn_app (goodIn_of _ (by decide +kernel)) ggX4_readToken_X4_lettersToken
theorem dX4_readToken_0 : decode cX4_readToken 0 = .ok (.aload_n 0, 1) := by decide +kernel
theorem dX4_readToken_1 : decode cX4_readToken 1 = .ok (.aload_n 0, 1) := by decide +kernel
theorem dX4_readToken_2 : decode cX4_readToken 2 = .ok (.getfield 25, 3) := by decide +kernel
theorem dX4_readToken_5 : decode cX4_readToken 5 = .ok (.putfield 22, 3) := by decide +kernel
theorem dX4_readToken_8 : decode cX4_readToken 8 = .ok (.aload_n 0, 1) := by decide +kernel
theorem dX4_readToken_9 : decode cX4_readToken 9 = .ok (.getfield 22, 3) := by decide +kernel
theorem dX4_readToken_12 : decode cX4_readToken 12 = .ok (.aload_n 0, 1) := by decide +kernel
theorem dX4_readToken_13 : decode cX4_readToken 13 = .ok (.getfield 35, 3) := by decide +kernel
theorem dX4_readToken_16 : decode cX4_readToken 16 = .ok (.getfield 91, 3) := by decide +kernel
theorem dX4_readToken_19 : decode cX4_readToken 19 = .ok (.if_icmp .ge 32, 3) := by decide +kernel
theorem dX4_readToken_22 : decode cX4_readToken 22 = .ok (.aload_n 0, 1) := by decide +kernel
theorem dX4_readToken_23 : decode cX4_readToken 23 = .ok (.getfield 35, 3) := by decide +kernel
theorem dX4_readToken_26 : decode cX4_readToken 26 = .ok (.aload_n 0, 1) := by decide +kernel
theorem dX4_readToken_27 : decode cX4_readToken 27 = .ok (.getfield 22, 3) := by decide +kernel
theorem dX4_readToken_30 : decode cX4_readToken 30 = .ok (.invokevirtual 96, 3) := by decide +kernel
theorem dX4_readToken_33 : decode cX4_readToken 33 = .ok (.bipush 32, 2) := by decide +kernel
theorem dX4_readToken_35 : decode cX4_readToken 35 = .ok (.if_icmp .ne 16, 3) := by decide +kernel
theorem dX4_readToken_38 : decode cX4_readToken 38 = .ok (.aload_n 0, 1) := by decide +kernel
theorem dX4_readToken_39 : decode cX4_readToken 39 = .ok (.dup, 1) := by decide +kernel
theorem dX4_readToken_40 : decode cX4_readToken 40 = .ok (.getfield 22, 3) := by decide +kernel
theorem dX4_readToken_43 : decode cX4_readToken 43 = .ok (.iconst 1, 1) := by decide +kernel
theorem dX4_readToken_44 : decode cX4_readToken 44 = .ok (.iadd, 1) := by decide +kernel
theorem dX4_readToken_45 : decode cX4_readToken 45 = .ok (.putfield 22, 3) := by decide +kernel
theorem dX4_readToken_48 : decode cX4_readToken 48 = .ok (.goto (-40), 3) := by decide +kernel
theorem dX4_readToken_51 : decode cX4_readToken 51 = .ok (.aload_n 0, 1) := by decide +kernel
theorem dX4_readToken_52 : decode cX4_readToken 52 = .ok (.getfield 35, 3) := by decide +kernel
theorem dX4_readToken_55 : decode cX4_readToken 55 = .ok (.aload_n 0, 1) := by decide +kernel
theorem dX4_readToken_56 : decode cX4_readToken 56 = .ok (.getfield 22, 3) := by decide +kernel
theorem dX4_readToken_59 : decode cX4_readToken 59 = .ok (.invokevirtual 96, 3) := by decide +kernel
theorem dX4_readToken_62 : decode cX4_readToken 62 = .ok (.istore_n 1, 1) := by decide +kernel
theorem dX4_readToken_63 : decode cX4_readToken 63 = .ok (.aload_n 0, 1) := by decide +kernel
theorem dX4_readToken_64 : decode cX4_readToken 64 = .ok (.aload_n 0, 1) := by decide +kernel
theorem dX4_readToken_65 : decode cX4_readToken 65 = .ok (.getfield 22, 3) := by decide +kernel
theorem dX4_readToken_68 : decode cX4_readToken 68 = .ok (.iconst 1, 1) := by decide +kernel
theorem dX4_readToken_69 : decode cX4_readToken 69 = .ok (.iadd, 1) := by decide +kernel
theorem dX4_readToken_70 : decode cX4_readToken 70 = .ok (.putfield 25, 3) := by decide +kernel
theorem dX4_readToken_73 : decode cX4_readToken 73 = .ok (.iload_n 1, 1) := by decide +kernel
theorem dX4_readToken_74 : decode cX4_readToken 74 = .ok (.iconst (-1), 1) := by decide +kernel
theorem dX4_readToken_75 : decode cX4_readToken 75 = .ok (.if_icmp .ne 11, 3) := by decide +kernel
theorem dX4_readToken_78 : decode cX4_readToken 78 = .ok (.aload_n 0, 1) := by decide +kernel
theorem dX4_readToken_79 : decode cX4_readToken 79 = .ok (.iconst 1, 1) := by decide +kernel
theorem dX4_readToken_80 : decode cX4_readToken 80 = .ok (.putfield 18, 3) := by decide +kernel
theorem dX4_readToken_83 : decode cX4_readToken 83 = .ok (.goto 58, 3) := by decide +kernel
theorem dX4_readToken_86 : decode cX4_readToken 86 = .ok (.iload_n 1, 1) := by decide +kernel
theorem dX4_readToken_87 : decode cX4_readToken 87 = .ok (.bipush 59, 2) := by decide +kernel
theorem dX4_readToken_89 : decode cX4_readToken 89 = .ok (.if_icmp .ne 11, 3) := by decide +kernel
theorem dX4_readToken_92 : decode cX4_readToken 92 = .ok (.aload_n 0, 1) := by decide +kernel
theorem dX4_readToken_93 : decode cX4_readToken 93 = .ok (.iconst 2, 1) := by decide +kernel
theorem dX4_readToken_94 : decode cX4_readToken 94 = .ok (.putfield 18, 3) := by decide +kernel
theorem dX4_readToken_97 : decode cX4_readToken 97 = .ok (.goto 44, 3) := by decide +kernel
theorem dX4_readToken_100 : decode cX4_readToken 100 = .ok (.iload_n 1, 1) := by decide +kernel
theorem dX4_readToken_101 : decode cX4_readToken 101 = .ok (.invokestatic 100, 3) := by decide +kernel
theorem dX4_readToken_104 : decode cX4_readToken 104 = .ok (.ifCond .eq 14, 3) := by decide +kernel
theorem dX4_readToken_107 : decode cX4_readToken 107 = .ok (.aload_n 0, 1) := by decide +kernel
theorem dX4_readToken_108 : decode cX4_readToken 108 = .ok (.aload_n 0, 1) := by decide +kernel
theorem dX4_readToken_109 : decode cX4_readToken 109 = .ok (.invokevirtual 103, 3) := by decide +kernel
theorem dX4_readToken_112 : decode cX4_readToken 112 = .ok (.putfield 18, 3) := by decide +kernel
theorem dX4_readToken_115 : decode cX4_readToken 115 = .ok (.goto 26, 3) := by decide +kernel
theorem dX4_readToken_118 : decode cX4_readToken 118 = .ok (.iload_n 1, 1) := by decide +kernel
theorem dX4_readToken_119 : decode cX4_readToken 119 = .ok (.invokestatic 107, 3) := by decide +kernel
theorem dX4_readToken_122 : decode cX4_readToken 122 = .ok (.ifCond .eq 14, 3) := by decide +kernel
theorem dX4_readToken_125 : decode cX4_readToken 125 = .ok (.aload_n 0, 1) := by decide +kernel
theorem dX4_readToken_126 : decode cX4_readToken 126 = .ok (.aload_n 0, 1) := by decide +kernel
theorem dX4_readToken_127 : decode cX4_readToken 127 = .ok (.invokevirtual 110, 3) := by decide +kernel
theorem dX4_readToken_130 : decode cX4_readToken 130 = .ok (.putfield 18, 3) := by decide +kernel
theorem dX4_readToken_133 : decode cX4_readToken 133 = .ok (.goto 8, 3) := by decide +kernel
theorem dX4_readToken_136 : decode cX4_readToken 136 = .ok (.aload_n 0, 1) := by decide +kernel
theorem dX4_readToken_137 : decode cX4_readToken 137 = .ok (.iconst 0, 1) := by decide +kernel
theorem dX4_readToken_138 : decode cX4_readToken 138 = .ok (.putfield 18, 3) := by decide +kernel
theorem dX4_readToken_141 : decode cX4_readToken 141 = .ok (.return_, 1) := by decide +kernel
set_option maxRecDepth 20000 in
theorem ggX4_digitsToken_X7_byteAt : GoodIn wsX4_digitsToken wsX7_byteAt := goodIn_r _ [13, 14, 15, 27, 28] (by decide +kernel) (by decide +kernel)
set_option maxRecDepth 20000 in
theorem gX4_digitsToken_X7_byteAt : GoodIn wsX4_digitsToken (wsV RX4 96 RX7 yX7_byteAt wsX7_byteAt) := goodIn_app (goodIn_of _ (by decide +kernel)) ggX4_digitsToken_X7_byteAt
set_option maxRecDepth 20000 in
theorem ggX4_digitsToken_X4_isDigit : GoodIn wsX4_digitsToken wsX4_isDigit := goodIn_r _ [19] (by decide +kernel) (by decide +kernel)
set_option maxRecDepth 20000 in
theorem gX4_digitsToken_X4_isDigit : GoodIn wsX4_digitsToken (va_wsS RX4 100 yX4_isDigit wsX4_isDigit) := goodIn_app (goodIn_of _ (by decide +kernel)) ggX4_digitsToken_X4_isDigit
theorem dX4_digitsToken_0 : decode cX4_digitsToken 0 = .ok (.aload_n 0, 1) := by decide +kernel
theorem dX4_digitsToken_1 : decode cX4_digitsToken 1 = .ok (.aload_n 0, 1) := by decide +kernel
theorem dX4_digitsToken_2 : decode cX4_digitsToken 2 = .ok (.getfield 35, 3) := by decide +kernel
theorem dX4_digitsToken_5 : decode cX4_digitsToken 5 = .ok (.aload_n 0, 1) := by decide +kernel
theorem dX4_digitsToken_6 : decode cX4_digitsToken 6 = .ok (.getfield 22, 3) := by decide +kernel
theorem dX4_digitsToken_9 : decode cX4_digitsToken 9 = .ok (.invokevirtual 96, 3) := by decide +kernel
theorem dX4_digitsToken_12 : decode cX4_digitsToken 12 = .ok (.bipush 48, 2) := by decide +kernel
theorem dX4_digitsToken_14 : decode cX4_digitsToken 14 = .ok (.isub, 1) := by decide +kernel
theorem dX4_digitsToken_15 : decode cX4_digitsToken 15 = .ok (.putfield 28, 3) := by decide +kernel
theorem dX4_digitsToken_18 : decode cX4_digitsToken 18 = .ok (.aload_n 0, 1) := by decide +kernel
theorem dX4_digitsToken_19 : decode cX4_digitsToken 19 = .ok (.getfield 25, 3) := by decide +kernel
theorem dX4_digitsToken_22 : decode cX4_digitsToken 22 = .ok (.aload_n 0, 1) := by decide +kernel
theorem dX4_digitsToken_23 : decode cX4_digitsToken 23 = .ok (.getfield 35, 3) := by decide +kernel
theorem dX4_digitsToken_26 : decode cX4_digitsToken 26 = .ok (.getfield 91, 3) := by decide +kernel
theorem dX4_digitsToken_29 : decode cX4_digitsToken 29 = .ok (.if_icmp .ge 64, 3) := by decide +kernel
theorem dX4_digitsToken_32 : decode cX4_digitsToken 32 = .ok (.aload_n 0, 1) := by decide +kernel
theorem dX4_digitsToken_33 : decode cX4_digitsToken 33 = .ok (.getfield 35, 3) := by decide +kernel
theorem dX4_digitsToken_36 : decode cX4_digitsToken 36 = .ok (.aload_n 0, 1) := by decide +kernel
theorem dX4_digitsToken_37 : decode cX4_digitsToken 37 = .ok (.getfield 25, 3) := by decide +kernel
theorem dX4_digitsToken_40 : decode cX4_digitsToken 40 = .ok (.invokevirtual 96, 3) := by decide +kernel
theorem dX4_digitsToken_43 : decode cX4_digitsToken 43 = .ok (.invokestatic 100, 3) := by decide +kernel
theorem dX4_digitsToken_46 : decode cX4_digitsToken 46 = .ok (.ifCond .eq 47, 3) := by decide +kernel
theorem dX4_digitsToken_49 : decode cX4_digitsToken 49 = .ok (.aload_n 0, 1) := by decide +kernel
theorem dX4_digitsToken_50 : decode cX4_digitsToken 50 = .ok (.bipush 10, 2) := by decide +kernel
theorem dX4_digitsToken_52 : decode cX4_digitsToken 52 = .ok (.aload_n 0, 1) := by decide +kernel
theorem dX4_digitsToken_53 : decode cX4_digitsToken 53 = .ok (.getfield 28, 3) := by decide +kernel
theorem dX4_digitsToken_56 : decode cX4_digitsToken 56 = .ok (.imul, 1) := by decide +kernel
theorem dX4_digitsToken_57 : decode cX4_digitsToken 57 = .ok (.aload_n 0, 1) := by decide +kernel
theorem dX4_digitsToken_58 : decode cX4_digitsToken 58 = .ok (.getfield 35, 3) := by decide +kernel
theorem dX4_digitsToken_61 : decode cX4_digitsToken 61 = .ok (.aload_n 0, 1) := by decide +kernel
theorem dX4_digitsToken_62 : decode cX4_digitsToken 62 = .ok (.getfield 25, 3) := by decide +kernel
theorem dX4_digitsToken_65 : decode cX4_digitsToken 65 = .ok (.invokevirtual 96, 3) := by decide +kernel
theorem dX4_digitsToken_68 : decode cX4_digitsToken 68 = .ok (.iadd, 1) := by decide +kernel
theorem dX4_digitsToken_69 : decode cX4_digitsToken 69 = .ok (.bipush 48, 2) := by decide +kernel
theorem dX4_digitsToken_71 : decode cX4_digitsToken 71 = .ok (.isub, 1) := by decide +kernel
theorem dX4_digitsToken_72 : decode cX4_digitsToken 72 = .ok (.bipush 100, 2) := by decide +kernel
theorem dX4_digitsToken_74 : decode cX4_digitsToken 74 = .ok (.invokestatic 113, 3) := by decide +kernel
theorem dX4_digitsToken_77 : decode cX4_digitsToken 77 = .ok (.putfield 28, 3) := by decide +kernel
theorem dX4_digitsToken_80 : decode cX4_digitsToken 80 = .ok (.aload_n 0, 1) := by decide +kernel
theorem dX4_digitsToken_81 : decode cX4_digitsToken 81 = .ok (.dup, 1) := by decide +kernel
theorem dX4_digitsToken_82 : decode cX4_digitsToken 82 = .ok (.getfield 25, 3) := by decide +kernel
theorem dX4_digitsToken_85 : decode cX4_digitsToken 85 = .ok (.iconst 1, 1) := by decide +kernel
theorem dX4_digitsToken_86 : decode cX4_digitsToken 86 = .ok (.iadd, 1) := by decide +kernel
theorem dX4_digitsToken_87 : decode cX4_digitsToken 87 = .ok (.putfield 25, 3) := by decide +kernel
theorem dX4_digitsToken_90 : decode cX4_digitsToken 90 = .ok (.goto (-72), 3) := by decide +kernel
theorem dX4_digitsToken_93 : decode cX4_digitsToken 93 = .ok (.aload_n 0, 1) := by decide +kernel
theorem dX4_digitsToken_94 : decode cX4_digitsToken 94 = .ok (.getfield 35, 3) := by decide +kernel
theorem dX4_digitsToken_97 : decode cX4_digitsToken 97 = .ok (.aload_n 0, 1) := by decide +kernel
theorem dX4_digitsToken_98 : decode cX4_digitsToken 98 = .ok (.getfield 22, 3) := by decide +kernel
theorem dX4_digitsToken_101 : decode cX4_digitsToken 101 = .ok (.invokevirtual 96, 3) := by decide +kernel
theorem dX4_digitsToken_104 : decode cX4_digitsToken 104 = .ok (.bipush 48, 2) := by decide +kernel
theorem dX4_digitsToken_106 : decode cX4_digitsToken 106 = .ok (.if_icmp .ne 20, 3) := by decide +kernel
theorem dX4_digitsToken_109 : decode cX4_digitsToken 109 = .ok (.aload_n 0, 1) := by decide +kernel
theorem dX4_digitsToken_110 : decode cX4_digitsToken 110 = .ok (.getfield 25, 3) := by decide +kernel
theorem dX4_digitsToken_113 : decode cX4_digitsToken 113 = .ok (.aload_n 0, 1) := by decide +kernel
theorem dX4_digitsToken_114 : decode cX4_digitsToken 114 = .ok (.getfield 22, 3) := by decide +kernel
theorem dX4_digitsToken_117 : decode cX4_digitsToken 117 = .ok (.isub, 1) := by decide +kernel
theorem dX4_digitsToken_118 : decode cX4_digitsToken 118 = .ok (.iconst 1, 1) := by decide +kernel
theorem dX4_digitsToken_119 : decode cX4_digitsToken 119 = .ok (.if_icmp .le 7, 3) := by decide +kernel
theorem dX4_digitsToken_122 : decode cX4_digitsToken 122 = .ok (.iconst 1, 1) := by decide +kernel
theorem dX4_digitsToken_123 : decode cX4_digitsToken 123 = .ok (.goto 4, 3) := by decide +kernel
theorem dX4_digitsToken_126 : decode cX4_digitsToken 126 = .ok (.iconst 0, 1) := by decide +kernel
theorem dX4_digitsToken_127 : decode cX4_digitsToken 127 = .ok (.istore_n 1, 1) := by decide +kernel
theorem dX4_digitsToken_128 : decode cX4_digitsToken 128 = .ok (.iload_n 1, 1) := by decide +kernel
theorem dX4_digitsToken_129 : decode cX4_digitsToken 129 = .ok (.ifCond .ne 12, 3) := by decide +kernel
theorem dX4_digitsToken_132 : decode cX4_digitsToken 132 = .ok (.aload_n 0, 1) := by decide +kernel
theorem dX4_digitsToken_133 : decode cX4_digitsToken 133 = .ok (.getfield 28, 3) := by decide +kernel
theorem dX4_digitsToken_136 : decode cX4_digitsToken 136 = .ok (.bipush 99, 2) := by decide +kernel
theorem dX4_digitsToken_138 : decode cX4_digitsToken 138 = .ok (.if_icmp .le 7, 3) := by decide +kernel
theorem dX4_digitsToken_141 : decode cX4_digitsToken 141 = .ok (.iconst 0, 1) := by decide +kernel
theorem dX4_digitsToken_142 : decode cX4_digitsToken 142 = .ok (.goto 4, 3) := by decide +kernel
theorem dX4_digitsToken_145 : decode cX4_digitsToken 145 = .ok (.iconst 3, 1) := by decide +kernel
theorem dX4_digitsToken_146 : decode cX4_digitsToken 146 = .ok (.ireturn, 1) := by decide +kernel
set_option maxRecDepth 20000 in
theorem ggX4_lettersToken_X7_byteAt : GoodIn wsX4_lettersToken wsX7_byteAt := goodIn_r _ [7, 8, 9, 75, 76] (by decide +kernel) (by decide +kernel)
set_option maxRecDepth 20000 in
theorem gX4_lettersToken_X7_byteAt : GoodIn wsX4_lettersToken (wsV RX4 96 RX7 yX7_byteAt wsX7_byteAt) := goodIn_app (goodIn_of _ (by decide +kernel)) ggX4_lettersToken_X7_byteAt
set_option maxRecDepth 20000 in
theorem ggX4_lettersToken_X4_isLetter : GoodIn wsX4_lettersToken wsX4_isLetter := goodIn_r _ [13] (by decide +kernel) (by decide +kernel)
set_option maxRecDepth 20000 in
theorem gX4_lettersToken_X4_isLetter : GoodIn wsX4_lettersToken (va_wsS RX4 107 yX4_isLetter wsX4_isLetter) := goodIn_app (goodIn_of _ (by decide +kernel)) ggX4_lettersToken_X4_isLetter
set_option maxRecDepth 20000 in
theorem ggX4_lettersToken_X4_isWord : GoodIn wsX4_lettersToken wsX4_isWord := goodIn_r _ [17, 1, 18, 2, 19, 20, 21, 22, 23, 24, 25, 26, 27, 28, 29, 30, 3, 4, 5, 6, 7, 8, 9, 31, 32, 33, 34, 35, 36, 37, 38, 39, 40, 41, 42, 43, 44, 45, 46, 47, 48, 49, 50, 51, 52, 53, 54, 55, 56, 57, 58, 59, 60, 61, 62, 63, 64, 65, 66, 67, 68, 69, 70, 71, 72, 73, 74, 75, 76] (by decide +kernel) (by decide +kernel)
set_option maxRecDepth 20000 in
theorem gX4_lettersToken_X4_isWord : GoodIn wsX4_lettersToken (wsV RX4 121 RX4 yX4_isWord wsX4_isWord) := goodIn_app (goodIn_of _ (by decide +kernel)) ggX4_lettersToken_X4_isWord
theorem dX4_lettersToken_0 : decode cX4_lettersToken 0 = .ok (.aload_n 0, 1) := by decide +kernel
theorem dX4_lettersToken_1 : decode cX4_lettersToken 1 = .ok (.getfield 25, 3) := by decide +kernel
theorem dX4_lettersToken_4 : decode cX4_lettersToken 4 = .ok (.aload_n 0, 1) := by decide +kernel
theorem dX4_lettersToken_5 : decode cX4_lettersToken 5 = .ok (.getfield 35, 3) := by decide +kernel
theorem dX4_lettersToken_8 : decode cX4_lettersToken 8 = .ok (.getfield 91, 3) := by decide +kernel
theorem dX4_lettersToken_11 : decode cX4_lettersToken 11 = .ok (.if_icmp .ge 33, 3) := by decide +kernel
theorem dX4_lettersToken_14 : decode cX4_lettersToken 14 = .ok (.aload_n 0, 1) := by decide +kernel
theorem dX4_lettersToken_15 : decode cX4_lettersToken 15 = .ok (.getfield 35, 3) := by decide +kernel
theorem dX4_lettersToken_18 : decode cX4_lettersToken 18 = .ok (.aload_n 0, 1) := by decide +kernel
theorem dX4_lettersToken_19 : decode cX4_lettersToken 19 = .ok (.getfield 25, 3) := by decide +kernel
theorem dX4_lettersToken_22 : decode cX4_lettersToken 22 = .ok (.invokevirtual 96, 3) := by decide +kernel
theorem dX4_lettersToken_25 : decode cX4_lettersToken 25 = .ok (.invokestatic 107, 3) := by decide +kernel
theorem dX4_lettersToken_28 : decode cX4_lettersToken 28 = .ok (.ifCond .eq 16, 3) := by decide +kernel
theorem dX4_lettersToken_31 : decode cX4_lettersToken 31 = .ok (.aload_n 0, 1) := by decide +kernel
theorem dX4_lettersToken_32 : decode cX4_lettersToken 32 = .ok (.dup, 1) := by decide +kernel
theorem dX4_lettersToken_33 : decode cX4_lettersToken 33 = .ok (.getfield 25, 3) := by decide +kernel
theorem dX4_lettersToken_36 : decode cX4_lettersToken 36 = .ok (.iconst 1, 1) := by decide +kernel
theorem dX4_lettersToken_37 : decode cX4_lettersToken 37 = .ok (.iadd, 1) := by decide +kernel
theorem dX4_lettersToken_38 : decode cX4_lettersToken 38 = .ok (.putfield 25, 3) := by decide +kernel
theorem dX4_lettersToken_41 : decode cX4_lettersToken 41 = .ok (.goto (-41), 3) := by decide +kernel
theorem dX4_lettersToken_44 : decode cX4_lettersToken 44 = .ok (.aload_n 0, 1) := by decide +kernel
theorem dX4_lettersToken_45 : decode cX4_lettersToken 45 = .ok (.ldc 119, 2) := by decide +kernel
theorem dX4_lettersToken_47 : decode cX4_lettersToken 47 = .ok (.invokevirtual 121, 3) := by decide +kernel
theorem dX4_lettersToken_50 : decode cX4_lettersToken 50 = .ok (.ifCond .eq 5, 3) := by decide +kernel
theorem dX4_lettersToken_53 : decode cX4_lettersToken 53 = .ok (.iconst 4, 1) := by decide +kernel
theorem dX4_lettersToken_54 : decode cX4_lettersToken 54 = .ok (.ireturn, 1) := by decide +kernel
theorem dX4_lettersToken_55 : decode cX4_lettersToken 55 = .ok (.aload_n 0, 1) := by decide +kernel
theorem dX4_lettersToken_56 : decode cX4_lettersToken 56 = .ok (.ldc 125, 2) := by decide +kernel
theorem dX4_lettersToken_58 : decode cX4_lettersToken 58 = .ok (.invokevirtual 121, 3) := by decide +kernel
theorem dX4_lettersToken_61 : decode cX4_lettersToken 61 = .ok (.ifCond .eq 5, 3) := by decide +kernel
theorem dX4_lettersToken_64 : decode cX4_lettersToken 64 = .ok (.iconst 5, 1) := by decide +kernel
theorem dX4_lettersToken_65 : decode cX4_lettersToken 65 = .ok (.ireturn, 1) := by decide +kernel
theorem dX4_lettersToken_66 : decode cX4_lettersToken 66 = .ok (.aload_n 0, 1) := by decide +kernel
theorem dX4_lettersToken_67 : decode cX4_lettersToken 67 = .ok (.ldc 127, 2) := by decide +kernel
theorem dX4_lettersToken_69 : decode cX4_lettersToken 69 = .ok (.invokevirtual 121, 3) := by decide +kernel
theorem dX4_lettersToken_72 : decode cX4_lettersToken 72 = .ok (.ifCond .eq 6, 3) := by decide +kernel
theorem dX4_lettersToken_75 : decode cX4_lettersToken 75 = .ok (.bipush 6, 2) := by decide +kernel
theorem dX4_lettersToken_77 : decode cX4_lettersToken 77 = .ok (.ireturn, 1) := by decide +kernel
theorem dX4_lettersToken_78 : decode cX4_lettersToken 78 = .ok (.aload_n 0, 1) := by decide +kernel
theorem dX4_lettersToken_79 : decode cX4_lettersToken 79 = .ok (.ldc 129, 2) := by decide +kernel
theorem dX4_lettersToken_81 : decode cX4_lettersToken 81 = .ok (.invokevirtual 121, 3) := by decide +kernel
theorem dX4_lettersToken_84 : decode cX4_lettersToken 84 = .ok (.ifCond .eq 8, 3) := by decide +kernel
theorem dX4_lettersToken_87 : decode cX4_lettersToken 87 = .ok (.bipush 7, 2) := by decide +kernel
theorem dX4_lettersToken_89 : decode cX4_lettersToken 89 = .ok (.goto 4, 3) := by decide +kernel
theorem dX4_lettersToken_92 : decode cX4_lettersToken 92 = .ok (.iconst 0, 1) := by decide +kernel
theorem dX4_lettersToken_93 : decode cX4_lettersToken 93 = .ok (.ireturn, 1) := by decide +kernel
set_option maxRecDepth 20000 in
theorem ggX4_isWord_J0_length_8abf5 : GoodIn wsX4_isWord wsJ0_length_8abf5 := goodIn_r _ [8, 9, 10, 11, 12, 7, 13, 14, 15] (by decide +kernel) (by decide +kernel)
set_option maxRecDepth 20000 in
theorem gX4_isWord_J0_length_8abf5 : GoodIn wsX4_isWord (wsV RX4 131 RJ0 yJ0_length_8abf5 wsJ0_length_8abf5) := goodIn_app (goodIn_of _ (by decide +kernel)) ggX4_isWord_J0_length_8abf5
set_option maxRecDepth 20000 in
theorem ggX4_isWord_X7_byteAt : GoodIn wsX4_isWord wsX7_byteAt := goodIn_r _ [20, 21, 22, 67, 68] (by decide +kernel) (by decide +kernel)
set_option maxRecDepth 20000 in
theorem gX4_isWord_X7_byteAt : GoodIn wsX4_isWord (wsV RX4 96 RX7 yX7_byteAt wsX7_byteAt) := goodIn_app (goodIn_of _ (by decide +kernel)) ggX4_isWord_X7_byteAt
set_option maxRecDepth 20000 in
theorem ggX4_isWord_J0_charAt_5068e : GoodIn wsX4_isWord wsJ0_charAt_5068e := goodIn_r _ [26, 9, 27, 28, 29, 7, 30, 14, 15, 31, 32, 33, 34, 35, 36, 37, 38, 39, 40, 41, 42, 43, 44, 45, 46, 47, 48, 49, 50, 51, 52, 53, 54, 55, 56, 57, 58, 59] (by decide +kernel) (by decide +kernel)
set_option maxRecDepth 20000 in
theorem gX4_isWord_J0_charAt_5068e : GoodIn wsX4_isWord (wsV RX4 135 RJ0 yJ0_charAt_5068e wsJ0_charAt_5068e) := goodIn_app (goodIn_of _ (by decide +kernel)) ggX4_isWord_J0_charAt_5068e
theorem dX4_isWord_0 : decode cX4_isWord 0 = .ok (.aload_n 0, 1) := by decide +kernel
theorem dX4_isWord_1 : decode cX4_isWord 1 = .ok (.getfield 25, 3) := by decide +kernel
theorem dX4_isWord_4 : decode cX4_isWord 4 = .ok (.aload_n 0, 1) := by decide +kernel
theorem dX4_isWord_5 : decode cX4_isWord 5 = .ok (.getfield 22, 3) := by decide +kernel
theorem dX4_isWord_8 : decode cX4_isWord 8 = .ok (.isub, 1) := by decide +kernel
theorem dX4_isWord_9 : decode cX4_isWord 9 = .ok (.aload_n 1, 1) := by decide +kernel
theorem dX4_isWord_10 : decode cX4_isWord 10 = .ok (.invokevirtual 131, 3) := by decide +kernel
theorem dX4_isWord_13 : decode cX4_isWord 13 = .ok (.if_icmp .eq 5, 3) := by decide +kernel
theorem dX4_isWord_16 : decode cX4_isWord 16 = .ok (.iconst 0, 1) := by decide +kernel
theorem dX4_isWord_17 : decode cX4_isWord 17 = .ok (.ireturn, 1) := by decide +kernel
theorem dX4_isWord_18 : decode cX4_isWord 18 = .ok (.iconst 0, 1) := by decide +kernel
theorem dX4_isWord_19 : decode cX4_isWord 19 = .ok (.istore_n 2, 1) := by decide +kernel
theorem dX4_isWord_20 : decode cX4_isWord 20 = .ok (.iload_n 2, 1) := by decide +kernel
theorem dX4_isWord_21 : decode cX4_isWord 21 = .ok (.aload_n 1, 1) := by decide +kernel
theorem dX4_isWord_22 : decode cX4_isWord 22 = .ok (.invokevirtual 131, 3) := by decide +kernel
theorem dX4_isWord_25 : decode cX4_isWord 25 = .ok (.if_icmp .ge 32, 3) := by decide +kernel
theorem dX4_isWord_28 : decode cX4_isWord 28 = .ok (.aload_n 0, 1) := by decide +kernel
theorem dX4_isWord_29 : decode cX4_isWord 29 = .ok (.getfield 35, 3) := by decide +kernel
theorem dX4_isWord_32 : decode cX4_isWord 32 = .ok (.aload_n 0, 1) := by decide +kernel
theorem dX4_isWord_33 : decode cX4_isWord 33 = .ok (.getfield 22, 3) := by decide +kernel
theorem dX4_isWord_36 : decode cX4_isWord 36 = .ok (.iload_n 2, 1) := by decide +kernel
theorem dX4_isWord_37 : decode cX4_isWord 37 = .ok (.iadd, 1) := by decide +kernel
theorem dX4_isWord_38 : decode cX4_isWord 38 = .ok (.invokevirtual 96, 3) := by decide +kernel
theorem dX4_isWord_41 : decode cX4_isWord 41 = .ok (.aload_n 1, 1) := by decide +kernel
theorem dX4_isWord_42 : decode cX4_isWord 42 = .ok (.iload_n 2, 1) := by decide +kernel
theorem dX4_isWord_43 : decode cX4_isWord 43 = .ok (.invokevirtual 135, 3) := by decide +kernel
theorem dX4_isWord_46 : decode cX4_isWord 46 = .ok (.if_icmp .eq 5, 3) := by decide +kernel
theorem dX4_isWord_49 : decode cX4_isWord 49 = .ok (.iconst 0, 1) := by decide +kernel
theorem dX4_isWord_50 : decode cX4_isWord 50 = .ok (.ireturn, 1) := by decide +kernel
theorem dX4_isWord_51 : decode cX4_isWord 51 = .ok (.iinc 2 1, 3) := by decide +kernel
theorem dX4_isWord_54 : decode cX4_isWord 54 = .ok (.goto (-34), 3) := by decide +kernel
theorem dX4_isWord_57 : decode cX4_isWord 57 = .ok (.iconst 1, 1) := by decide +kernel
theorem dX4_isWord_58 : decode cX4_isWord 58 = .ok (.ireturn, 1) := by decide +kernel
theorem dX4_isDigit_0 : decode cX4_isDigit 0 = .ok (.iload_n 0, 1) := by decide +kernel
theorem dX4_isDigit_1 : decode cX4_isDigit 1 = .ok (.bipush 48, 2) := by decide +kernel
theorem dX4_isDigit_3 : decode cX4_isDigit 3 = .ok (.if_icmp .lt 13, 3) := by decide +kernel
theorem dX4_isDigit_6 : decode cX4_isDigit 6 = .ok (.iload_n 0, 1) := by decide +kernel
theorem dX4_isDigit_7 : decode cX4_isDigit 7 = .ok (.bipush 57, 2) := by decide +kernel
theorem dX4_isDigit_9 : decode cX4_isDigit 9 = .ok (.if_icmp .gt 7, 3) := by decide +kernel
theorem dX4_isDigit_12 : decode cX4_isDigit 12 = .ok (.iconst 1, 1) := by decide +kernel
theorem dX4_isDigit_13 : decode cX4_isDigit 13 = .ok (.goto 4, 3) := by decide +kernel
theorem dX4_isDigit_16 : decode cX4_isDigit 16 = .ok (.iconst 0, 1) := by decide +kernel
theorem dX4_isDigit_17 : decode cX4_isDigit 17 = .ok (.ireturn, 1) := by decide +kernel
theorem dX4_isLetter_0 : decode cX4_isLetter 0 = .ok (.iload_n 0, 1) := by decide +kernel
theorem dX4_isLetter_1 : decode cX4_isLetter 1 = .ok (.bipush 97, 2) := by decide +kernel
theorem dX4_isLetter_3 : decode cX4_isLetter 3 = .ok (.if_icmp .lt 13, 3) := by decide +kernel
theorem dX4_isLetter_6 : decode cX4_isLetter 6 = .ok (.iload_n 0, 1) := by decide +kernel
theorem dX4_isLetter_7 : decode cX4_isLetter 7 = .ok (.bipush 122, 2) := by decide +kernel
theorem dX4_isLetter_9 : decode cX4_isLetter 9 = .ok (.if_icmp .gt 7, 3) := by decide +kernel
theorem dX4_isLetter_12 : decode cX4_isLetter 12 = .ok (.iconst 1, 1) := by decide +kernel
theorem dX4_isLetter_13 : decode cX4_isLetter 13 = .ok (.goto 4, 3) := by decide +kernel
theorem dX4_isLetter_16 : decode cX4_isLetter 16 = .ok (.iconst 0, 1) := by decide +kernel
theorem dX4_isLetter_17 : decode cX4_isLetter 17 = .ok (.ireturn, 1) := by decide +kernel
theorem dX5_init_0 : decode cX5_init 0 = .ok (.aload_n 0, 1) := by decide +kernel
theorem dX5_init_1 : decode cX5_init 1 = .ok (.invokespecial 3, 3) := by decide +kernel
theorem dX5_init_4 : decode cX5_init 4 = .ok (.aload_n 0, 1) := by decide +kernel
theorem dX5_init_5 : decode cX5_init 5 = .ok (.bipush (-9), 2) := by decide +kernel
theorem dX5_init_7 : decode cX5_init 7 = .ok (.putfield 9, 3) := by decide +kernel
theorem dX5_init_10 : decode cX5_init 10 = .ok (.aload_n 0, 1) := by decide +kernel
theorem dX5_init_11 : decode cX5_init 11 = .ok (.aload_n 1, 1) := by decide +kernel
theorem dX5_init_12 : decode cX5_init 12 = .ok (.putfield 15, 3) := by decide +kernel
theorem dX5_init_15 : decode cX5_init 15 = .ok (.aload_n 0, 1) := by decide +kernel
theorem dX5_init_16 : decode cX5_init 16 = .ok (.aload_n 2, 1) := by decide +kernel
theorem dX5_init_17 : decode cX5_init 17 = .ok (.putfield 19, 3) := by decide +kernel
theorem dX5_init_20 : decode cX5_init 20 = .ok (.return_, 1) := by decide +kernel
set_option maxRecDepth 20000 in
theorem ggX5_mostLeft_X3_borneByAll : GoodIn wsX5_mostLeft wsX3_borneByAll := goodIn_r _ [7, 8, 46, 47, 48, 49] (by decide +kernel) (by decide +kernel)
set_option maxRecDepth 20000 in
theorem gX5_mostLeft_X3_borneByAll : GoodIn wsX5_mostLeft (wsV RX5 23 RX3 yX3_borneByAll wsX3_borneByAll) := goodIn_app (goodIn_of _ (by decide +kernel)) ggX5_mostLeft_X3_borneByAll
set_option maxRecDepth 20000 in
theorem ggX5_mostLeft_X5_beginErrand : GoodIn wsX5_mostLeft wsX5_beginErrand := goodIn_r _ [13, 14, 1, 15, 16, 17, 18, 19, 20, 21, 12, 22, 2, 9, 10, 11, 23, 24, 25, 26, 27, 28, 29, 30, 31, 32, 33, 34, 35, 36, 37, 38, 39, 40, 41, 6, 42, 8, 43, 44, 45, 50, 51, 52, 53, 54, 55, 56, 57, 58, 59, 60, 61, 46, 47, 48, 49] (by decide +kernel) (by decide +kernel)
set_option maxRecDepth 20000 in
theorem gX5_mostLeft_X5_beginErrand : GoodIn wsX5_mostLeft (wsV RX5 29 RX5 yX5_beginErrand wsX5_beginErrand) := goodIn_app (goodIn_of _ (by decide +kernel)) ggX5_mostLeft_X5_beginErrand
theorem dX5_mostLeft_0 : decode cX5_mostLeft 0 = .ok (.aload_n 0, 1) := by decide +kernel
theorem dX5_mostLeft_1 : decode cX5_mostLeft 1 = .ok (.bipush (-9), 2) := by decide +kernel
theorem dX5_mostLeft_3 : decode cX5_mostLeft 3 = .ok (.putfield 9, 3) := by decide +kernel
theorem dX5_mostLeft_6 : decode cX5_mostLeft 6 = .ok (.aload_n 0, 1) := by decide +kernel
theorem dX5_mostLeft_7 : decode cX5_mostLeft 7 = .ok (.iconst 0, 1) := by decide +kernel
theorem dX5_mostLeft_8 : decode cX5_mostLeft 8 = .ok (.aload_n 0, 1) := by decide +kernel
theorem dX5_mostLeft_9 : decode cX5_mostLeft 9 = .ok (.getfield 19, 3) := by decide +kernel
theorem dX5_mostLeft_12 : decode cX5_mostLeft 12 = .ok (.invokevirtual 23, 3) := by decide +kernel
theorem dX5_mostLeft_15 : decode cX5_mostLeft 15 = .ok (.invokevirtual 29, 3) := by decide +kernel
theorem dX5_mostLeft_18 : decode cX5_mostLeft 18 = .ok (.aload_n 0, 1) := by decide +kernel
theorem dX5_mostLeft_19 : decode cX5_mostLeft 19 = .ok (.getfield 9, 3) := by decide +kernel
theorem dX5_mostLeft_22 : decode cX5_mostLeft 22 = .ok (.ireturn, 1) := by decide +kernel
set_option maxRecDepth 20000 in
theorem ggX5_beginErrand_X5_goOn : GoodIn wsX5_beginErrand wsX5_goOn := goodIn_r _ [11, 2, 1, 12, 13, 14, 15, 10, 16, 17, 18, 19, 20, 21, 22, 23, 24, 25, 26, 27, 28, 29, 30, 31, 32, 33, 34, 35, 36, 37, 7, 8, 9, 0, 3, 4, 5, 6, 38, 39, 40, 41, 42, 43, 44, 45, 46, 47, 48, 49, 50, 51, 52, 53, 54, 55, 56] (by decide +kernel) (by decide +kernel)
set_option maxRecDepth 20000 in
theorem gX5_beginErrand_X5_goOn : GoodIn wsX5_beginErrand (wsV RX5 48 RX5 yX5_goOn wsX5_goOn) := goodIn_app (goodIn_of _ (by decide +kernel)) ggX5_beginErrand_X5_goOn
theorem dX5_beginErrand_0 : decode cX5_beginErrand 0 = .ok (.iload_n 1, 1) := by decide +kernel
theorem dX5_beginErrand_1 : decode cX5_beginErrand 1 = .ok (.aload_n 0, 1) := by decide +kernel
theorem dX5_beginErrand_2 : decode cX5_beginErrand 2 = .ok (.getfield 15, 3) := by decide +kernel
theorem dX5_beginErrand_5 : decode cX5_beginErrand 5 = .ok (.getfield 33, 3) := by decide +kernel
theorem dX5_beginErrand_8 : decode cX5_beginErrand 8 = .ok (.if_icmp .lt 16, 3) := by decide +kernel
theorem dX5_beginErrand_11 : decode cX5_beginErrand 11 = .ok (.aload_n 0, 1) := by decide +kernel
theorem dX5_beginErrand_12 : decode cX5_beginErrand 12 = .ok (.aload_n 0, 1) := by decide +kernel
theorem dX5_beginErrand_13 : decode cX5_beginErrand 13 = .ok (.getfield 9, 3) := by decide +kernel
theorem dX5_beginErrand_16 : decode cX5_beginErrand 16 = .ok (.iload_n 2, 1) := by decide +kernel
theorem dX5_beginErrand_17 : decode cX5_beginErrand 17 = .ok (.invokestatic 38, 3) := by decide +kernel
theorem dX5_beginErrand_20 : decode cX5_beginErrand 20 = .ok (.putfield 9, 3) := by decide +kernel
theorem dX5_beginErrand_23 : decode cX5_beginErrand 23 = .ok (.return_, 1) := by decide +kernel
theorem dX5_beginErrand_24 : decode cX5_beginErrand 24 = .ok (.aload_n 0, 1) := by decide +kernel
theorem dX5_beginErrand_25 : decode cX5_beginErrand 25 = .ok (.iload_n 1, 1) := by decide +kernel
theorem dX5_beginErrand_26 : decode cX5_beginErrand 26 = .ok (.aload_n 0, 1) := by decide +kernel
theorem dX5_beginErrand_27 : decode cX5_beginErrand 27 = .ok (.getfield 15, 3) := by decide +kernel
theorem dX5_beginErrand_30 : decode cX5_beginErrand 30 = .ok (.getfield 44, 3) := by decide +kernel
theorem dX5_beginErrand_33 : decode cX5_beginErrand 33 = .ok (.iload_n 1, 1) := by decide +kernel
theorem dX5_beginErrand_34 : decode cX5_beginErrand 34 = .ok (.iaload, 1) := by decide +kernel
theorem dX5_beginErrand_35 : decode cX5_beginErrand 35 = .ok (.iconst 0, 1) := by decide +kernel
theorem dX5_beginErrand_36 : decode cX5_beginErrand 36 = .ok (.iconst 1, 1) := by decide +kernel
theorem dX5_beginErrand_37 : decode cX5_beginErrand 37 = .ok (.aload_n 0, 1) := by decide +kernel
theorem dX5_beginErrand_38 : decode cX5_beginErrand 38 = .ok (.getfield 15, 3) := by decide +kernel
theorem dX5_beginErrand_41 : decode cX5_beginErrand 41 = .ok (.getfield 44, 3) := by decide +kernel
theorem dX5_beginErrand_44 : decode cX5_beginErrand 44 = .ok (.iload_n 1, 1) := by decide +kernel
theorem dX5_beginErrand_45 : decode cX5_beginErrand 45 = .ok (.iaload, 1) := by decide +kernel
theorem dX5_beginErrand_46 : decode cX5_beginErrand 46 = .ok (.ishl, 1) := by decide +kernel
theorem dX5_beginErrand_47 : decode cX5_beginErrand 47 = .ok (.iload_n 2, 1) := by decide +kernel
theorem dX5_beginErrand_48 : decode cX5_beginErrand 48 = .ok (.invokevirtual 48, 3) := by decide +kernel
theorem dX5_beginErrand_51 : decode cX5_beginErrand 51 = .ok (.return_, 1) := by decide +kernel
set_option maxRecDepth 20000 in
theorem ggX5_goOn_X5_beginErrand : GoodIn wsX5_goOn wsX5_beginErrand := goodIn_r _ [33, 2, 1, 34, 35, 36, 37, 30, 31, 32, 7, 0, 3, 4, 5, 6, 8, 9, 10, 11, 12, 13, 14, 15, 16, 17, 18, 19, 20, 21, 22, 23, 24, 25, 26, 27, 28, 29, 38, 39, 40, 41, 42, 43, 44, 45, 46, 47, 48, 49, 50, 51, 52, 53, 54, 55, 56] (by decide +kernel) (by decide +kernel)
set_option maxRecDepth 20000 in
theorem gX5_goOn_X5_beginErrand : GoodIn wsX5_goOn (wsV RX5 29 RX5 yX5_beginErrand wsX5_beginErrand) := goodIn_app (goodIn_of _ (by decide +kernel)) ggX5_goOn_X5_beginErrand
set_option maxRecDepth 20000 in
theorem ggX5_goOn_X2_takes : GoodIn wsX5_goOn wsX2_takes := goodIn_r _ [12, 13, 14, 41, 42, 43, 44, 45, 46, 47, 48, 49, 50, 51, 52] (by decide +kernel) (by decide +kernel)
set_option maxRecDepth 20000 in
theorem gX5_goOn_X2_takes : GoodIn wsX5_goOn (wsV RX5 58 RX2 yX2_takes wsX2_takes) := goodIn_app (goodIn_of _ (by decide +kernel)) ggX5_goOn_X2_takes
set_option maxRecDepth 20000 in
theorem ggX5_goOn_X2_across : GoodIn wsX5_goOn wsX2_across := goodIn_r _ [18, 19, 20, 21, 22, 23, 41, 42, 43, 44, 45, 46, 47, 48, 49, 50, 51, 52] (by decide +kernel) (by decide +kernel)
set_option maxRecDepth 20000 in
theorem gX5_goOn_X2_across : GoodIn wsX5_goOn (wsV RX5 64 RX2 yX2_across wsX2_across) := goodIn_app (goodIn_of _ (by decide +kernel)) ggX5_goOn_X2_across
set_option maxRecDepth 20000 in
theorem ggX5_goOn_X3_canTake : GoodIn wsX5_goOn wsX3_canTake := goodIn_r _ [28, 29, 53, 54, 55, 56] (by decide +kernel) (by decide +kernel)
set_option maxRecDepth 20000 in
theorem gX5_goOn_X3_canTake : GoodIn wsX5_goOn (wsV RX5 68 RX3 yX3_canTake wsX3_canTake) := goodIn_app (goodIn_of _ (by decide +kernel)) ggX5_goOn_X3_canTake
set_option maxRecDepth 20000 in
theorem ggX5_goOn_X5_goOn : GoodIn wsX5_goOn wsX5_goOn := goodIn_r _ [0, 1, 2, 3, 4, 5, 6, 7, 8, 9, 10, 11, 12, 13, 14, 15, 16, 17, 18, 19, 20, 21, 22, 23, 24, 25, 26, 27, 28, 29, 30, 31, 32, 33, 34, 35, 36, 37, 38, 39, 40, 41, 42, 43, 44, 45, 46, 47, 48, 49, 50, 51, 52, 53, 54, 55, 56] (by decide +kernel) (by decide +kernel)
set_option maxRecDepth 20000 in
theorem gX5_goOn_X5_goOn : GoodIn wsX5_goOn (wsV RX5 48 RX5 yX5_goOn wsX5_goOn) := goodIn_app (goodIn_of _ (by decide +kernel)) ggX5_goOn_X5_goOn
theorem dX5_goOn_0 : decode cX5_goOn 0 = .ok (.iload 5, 2) := by decide +kernel
theorem dX5_goOn_2 : decode cX5_goOn 2 = .ok (.aload_n 0, 1) := by decide +kernel
theorem dX5_goOn_3 : decode cX5_goOn 3 = .ok (.getfield 9, 3) := by decide +kernel
theorem dX5_goOn_6 : decode cX5_goOn 6 = .ok (.if_icmp .gt 4, 3) := by decide +kernel
theorem dX5_goOn_9 : decode cX5_goOn 9 = .ok (.return_, 1) := by decide +kernel
theorem dX5_goOn_10 : decode cX5_goOn 10 = .ok (.iload_n 2, 1) := by decide +kernel
theorem dX5_goOn_11 : decode cX5_goOn 11 = .ok (.aload_n 0, 1) := by decide +kernel
theorem dX5_goOn_12 : decode cX5_goOn 12 = .ok (.getfield 15, 3) := by decide +kernel
theorem dX5_goOn_15 : decode cX5_goOn 15 = .ok (.getfield 52, 3) := by decide +kernel
theorem dX5_goOn_18 : decode cX5_goOn 18 = .ok (.iload_n 1, 1) := by decide +kernel
theorem dX5_goOn_19 : decode cX5_goOn 19 = .ok (.iaload, 1) := by decide +kernel
theorem dX5_goOn_20 : decode cX5_goOn 20 = .ok (.if_icmp .ne 13, 3) := by decide +kernel
theorem dX5_goOn_23 : decode cX5_goOn 23 = .ok (.aload_n 0, 1) := by decide +kernel
theorem dX5_goOn_24 : decode cX5_goOn 24 = .ok (.iload_n 1, 1) := by decide +kernel
theorem dX5_goOn_25 : decode cX5_goOn 25 = .ok (.iconst 1, 1) := by decide +kernel
theorem dX5_goOn_26 : decode cX5_goOn 26 = .ok (.iadd, 1) := by decide +kernel
theorem dX5_goOn_27 : decode cX5_goOn 27 = .ok (.iload 5, 2) := by decide +kernel
theorem dX5_goOn_29 : decode cX5_goOn 29 = .ok (.invokevirtual 29, 3) := by decide +kernel
theorem dX5_goOn_32 : decode cX5_goOn 32 = .ok (.return_, 1) := by decide +kernel
theorem dX5_goOn_33 : decode cX5_goOn 33 = .ok (.iload_n 3, 1) := by decide +kernel
theorem dX5_goOn_34 : decode cX5_goOn 34 = .ok (.iconst 5, 1) := by decide +kernel
theorem dX5_goOn_35 : decode cX5_goOn 35 = .ok (.if_icmp .lt 4, 3) := by decide +kernel
theorem dX5_goOn_38 : decode cX5_goOn 38 = .ok (.return_, 1) := by decide +kernel
theorem dX5_goOn_39 : decode cX5_goOn 39 = .ok (.aload_n 0, 1) := by decide +kernel
theorem dX5_goOn_40 : decode cX5_goOn 40 = .ok (.getfield 15, 3) := by decide +kernel
theorem dX5_goOn_43 : decode cX5_goOn 43 = .ok (.aload_n 0, 1) := by decide +kernel
theorem dX5_goOn_44 : decode cX5_goOn 44 = .ok (.getfield 15, 3) := by decide +kernel
theorem dX5_goOn_47 : decode cX5_goOn 47 = .ok (.getfield 55, 3) := by decide +kernel
theorem dX5_goOn_50 : decode cX5_goOn 50 = .ok (.iload_n 1, 1) := by decide +kernel
theorem dX5_goOn_51 : decode cX5_goOn 51 = .ok (.iaload, 1) := by decide +kernel
theorem dX5_goOn_52 : decode cX5_goOn 52 = .ok (.iload_n 3, 1) := by decide +kernel
theorem dX5_goOn_53 : decode cX5_goOn 53 = .ok (.invokevirtual 58, 3) := by decide +kernel
theorem dX5_goOn_56 : decode cX5_goOn 56 = .ok (.istore 6, 2) := by decide +kernel
theorem dX5_goOn_58 : decode cX5_goOn 58 = .ok (.iconst 0, 1) := by decide +kernel
theorem dX5_goOn_59 : decode cX5_goOn 59 = .ok (.istore 7, 2) := by decide +kernel
theorem dX5_goOn_61 : decode cX5_goOn 61 = .ok (.iload 7, 2) := by decide +kernel
theorem dX5_goOn_63 : decode cX5_goOn 63 = .ok (.aload_n 0, 1) := by decide +kernel
theorem dX5_goOn_64 : decode cX5_goOn 64 = .ok (.getfield 15, 3) := by decide +kernel
theorem dX5_goOn_67 : decode cX5_goOn 67 = .ok (.getfield 61, 3) := by decide +kernel
theorem dX5_goOn_70 : decode cX5_goOn 70 = .ok (.if_icmp .ge 98, 3) := by decide +kernel
theorem dX5_goOn_73 : decode cX5_goOn 73 = .ok (.aload_n 0, 1) := by decide +kernel
theorem dX5_goOn_74 : decode cX5_goOn 74 = .ok (.getfield 15, 3) := by decide +kernel
theorem dX5_goOn_77 : decode cX5_goOn 77 = .ok (.iload 7, 2) := by decide +kernel
theorem dX5_goOn_79 : decode cX5_goOn 79 = .ok (.iload_n 2, 1) := by decide +kernel
theorem dX5_goOn_80 : decode cX5_goOn 80 = .ok (.iload 4, 2) := by decide +kernel
theorem dX5_goOn_82 : decode cX5_goOn 82 = .ok (.invokevirtual 64, 3) := by decide +kernel
theorem dX5_goOn_85 : decode cX5_goOn 85 = .ok (.istore 8, 2) := by decide +kernel
theorem dX5_goOn_87 : decode cX5_goOn 87 = .ok (.iload 8, 2) := by decide +kernel
theorem dX5_goOn_89 : decode cX5_goOn 89 = .ok (.iconst (-1), 1) := by decide +kernel
theorem dX5_goOn_90 : decode cX5_goOn 90 = .ok (.if_icmp .eq 72, 3) := by decide +kernel
theorem dX5_goOn_93 : decode cX5_goOn 93 = .ok (.aload_n 0, 1) := by decide +kernel
theorem dX5_goOn_94 : decode cX5_goOn 94 = .ok (.getfield 19, 3) := by decide +kernel
theorem dX5_goOn_97 : decode cX5_goOn 97 = .ok (.iload 7, 2) := by decide +kernel
theorem dX5_goOn_99 : decode cX5_goOn 99 = .ok (.iload 6, 2) := by decide +kernel
theorem dX5_goOn_101 : decode cX5_goOn 101 = .ok (.invokevirtual 68, 3) := by decide +kernel
theorem dX5_goOn_104 : decode cX5_goOn 104 = .ok (.ifCond .ne 6, 3) := by decide +kernel
theorem dX5_goOn_107 : decode cX5_goOn 107 = .ok (.goto 55, 3) := by decide +kernel
theorem dX5_goOn_110 : decode cX5_goOn 110 = .ok (.aload_n 0, 1) := by decide +kernel
theorem dX5_goOn_111 : decode cX5_goOn 111 = .ok (.getfield 19, 3) := by decide +kernel
theorem dX5_goOn_114 : decode cX5_goOn 114 = .ok (.getfield 72, 3) := by decide +kernel
theorem dX5_goOn_117 : decode cX5_goOn 117 = .ok (.iload 7, 2) := by decide +kernel
theorem dX5_goOn_119 : decode cX5_goOn 119 = .ok (.dup2, 1) := by decide +kernel
theorem dX5_goOn_120 : decode cX5_goOn 120 = .ok (.iaload, 1) := by decide +kernel
theorem dX5_goOn_121 : decode cX5_goOn 121 = .ok (.iload 6, 2) := by decide +kernel
theorem dX5_goOn_123 : decode cX5_goOn 123 = .ok (.isub, 1) := by decide +kernel
theorem dX5_goOn_124 : decode cX5_goOn 124 = .ok (.iastore, 1) := by decide +kernel
theorem dX5_goOn_125 : decode cX5_goOn 125 = .ok (.aload_n 0, 1) := by decide +kernel
theorem dX5_goOn_126 : decode cX5_goOn 126 = .ok (.iload_n 1, 1) := by decide +kernel
theorem dX5_goOn_127 : decode cX5_goOn 127 = .ok (.iload 8, 2) := by decide +kernel
theorem dX5_goOn_129 : decode cX5_goOn 129 = .ok (.iload_n 3, 1) := by decide +kernel
theorem dX5_goOn_130 : decode cX5_goOn 130 = .ok (.iconst 1, 1) := by decide +kernel
theorem dX5_goOn_131 : decode cX5_goOn 131 = .ok (.iadd, 1) := by decide +kernel
theorem dX5_goOn_132 : decode cX5_goOn 132 = .ok (.iload 4, 2) := by decide +kernel
theorem dX5_goOn_134 : decode cX5_goOn 134 = .ok (.iconst 1, 1) := by decide +kernel
theorem dX5_goOn_135 : decode cX5_goOn 135 = .ok (.iload 8, 2) := by decide +kernel
theorem dX5_goOn_137 : decode cX5_goOn 137 = .ok (.ishl, 1) := by decide +kernel
theorem dX5_goOn_138 : decode cX5_goOn 138 = .ok (.ior, 1) := by decide +kernel
theorem dX5_goOn_139 : decode cX5_goOn 139 = .ok (.iload 5, 2) := by decide +kernel
theorem dX5_goOn_141 : decode cX5_goOn 141 = .ok (.iload 6, 2) := by decide +kernel
theorem dX5_goOn_143 : decode cX5_goOn 143 = .ok (.isub, 1) := by decide +kernel
theorem dX5_goOn_144 : decode cX5_goOn 144 = .ok (.invokevirtual 48, 3) := by decide +kernel
theorem dX5_goOn_147 : decode cX5_goOn 147 = .ok (.aload_n 0, 1) := by decide +kernel
theorem dX5_goOn_148 : decode cX5_goOn 148 = .ok (.getfield 19, 3) := by decide +kernel
theorem dX5_goOn_151 : decode cX5_goOn 151 = .ok (.getfield 72, 3) := by decide +kernel
theorem dX5_goOn_154 : decode cX5_goOn 154 = .ok (.iload 7, 2) := by decide +kernel
theorem dX5_goOn_156 : decode cX5_goOn 156 = .ok (.dup2, 1) := by decide +kernel
theorem dX5_goOn_157 : decode cX5_goOn 157 = .ok (.iaload, 1) := by decide +kernel
theorem dX5_goOn_158 : decode cX5_goOn 158 = .ok (.iload 6, 2) := by decide +kernel
theorem dX5_goOn_160 : decode cX5_goOn 160 = .ok (.iadd, 1) := by decide +kernel
theorem dX5_goOn_161 : decode cX5_goOn 161 = .ok (.iastore, 1) := by decide +kernel
theorem dX5_goOn_162 : decode cX5_goOn 162 = .ok (.iinc 7 1, 3) := by decide +kernel
theorem dX5_goOn_165 : decode cX5_goOn 165 = .ok (.goto (-104), 3) := by decide +kernel
theorem dX5_goOn_168 : decode cX5_goOn 168 = .ok (.return_, 1) := by decide +kernel
theorem dX6_init_0 : decode cX6_init 0 = .ok (.aload_n 0, 1) := by decide +kernel
theorem dX6_init_1 : decode cX6_init 1 = .ok (.invokespecial 3, 3) := by decide +kernel
theorem dX6_init_4 : decode cX6_init 4 = .ok (.aload_n 0, 1) := by decide +kernel
theorem dX6_init_5 : decode cX6_init 5 = .ok (.bipush 10, 2) := by decide +kernel
theorem dX6_init_7 : decode cX6_init 7 = .ok (.newarray .int, 2) := by decide +kernel
theorem dX6_init_9 : decode cX6_init 9 = .ok (.putfield 9, 3) := by decide +kernel
theorem dX6_init_12 : decode cX6_init 12 = .ok (.aload_n 0, 1) := by decide +kernel
theorem dX6_init_13 : decode cX6_init 13 = .ok (.aload_n 1, 1) := by decide +kernel
theorem dX6_init_14 : decode cX6_init 14 = .ok (.putfield 15, 3) := by decide +kernel
theorem dX6_init_17 : decode cX6_init 17 = .ok (.aload_n 0, 1) := by decide +kernel
theorem dX6_init_18 : decode cX6_init 18 = .ok (.aload_n 2, 1) := by decide +kernel
theorem dX6_init_19 : decode cX6_init 19 = .ok (.putfield 19, 3) := by decide +kernel
theorem dX6_init_22 : decode cX6_init 22 = .ok (.return_, 1) := by decide +kernel
theorem dX6_spentBy_0 : decode cX6_spentBy 0 = .ok (.iconst 0, 1) := by decide +kernel
theorem dX6_spentBy_1 : decode cX6_spentBy 1 = .ok (.aload_n 1, 1) := by decide +kernel
theorem dX6_spentBy_2 : decode cX6_spentBy 2 = .ok (.getfield 23, 3) := by decide +kernel
theorem dX6_spentBy_5 : decode cX6_spentBy 5 = .ok (.iload_n 2, 1) := by decide +kernel
theorem dX6_spentBy_6 : decode cX6_spentBy 6 = .ok (.iaload, 1) := by decide +kernel
theorem dX6_spentBy_7 : decode cX6_spentBy 7 = .ok (.aload_n 0, 1) := by decide +kernel
theorem dX6_spentBy_8 : decode cX6_spentBy 8 = .ok (.getfield 19, 3) := by decide +kernel
theorem dX6_spentBy_11 : decode cX6_spentBy 11 = .ok (.getfield 23, 3) := by decide +kernel
theorem dX6_spentBy_14 : decode cX6_spentBy 14 = .ok (.iload_n 2, 1) := by decide +kernel
theorem dX6_spentBy_15 : decode cX6_spentBy 15 = .ok (.iaload, 1) := by decide +kernel
theorem dX6_spentBy_16 : decode cX6_spentBy 16 = .ok (.isub, 1) := by decide +kernel
theorem dX6_spentBy_17 : decode cX6_spentBy 17 = .ok (.invokestatic 28, 3) := by decide +kernel
theorem dX6_spentBy_20 : decode cX6_spentBy 20 = .ok (.ireturn, 1) := by decide +kernel
set_option maxRecDepth 20000 in
theorem ggX6_spentByAll_X6_spentBy : GoodIn wsX6_spentByAll wsX6_spentBy := goodIn_r _ [6, 7, 8, 9, 10, 11, 27, 28, 29, 30, 12, 13, 14] (by decide +kernel) (by decide +kernel)
set_option maxRecDepth 20000 in
theorem gX6_spentByAll_X6_spentBy : GoodIn wsX6_spentByAll (wsV RX6 40 RX6 yX6_spentBy wsX6_spentBy) := goodIn_app (goodIn_of _ (by decide +kernel)) ggX6_spentByAll_X6_spentBy
theorem dX6_spentByAll_0 : decode cX6_spentByAll 0 = .ok (.iconst 0, 1) := by decide +kernel
theorem dX6_spentByAll_1 : decode cX6_spentByAll 1 = .ok (.istore_n 2, 1) := by decide +kernel
theorem dX6_spentByAll_2 : decode cX6_spentByAll 2 = .ok (.iconst 0, 1) := by decide +kernel
theorem dX6_spentByAll_3 : decode cX6_spentByAll 3 = .ok (.istore_n 3, 1) := by decide +kernel
theorem dX6_spentByAll_4 : decode cX6_spentByAll 4 = .ok (.iload_n 3, 1) := by decide +kernel
theorem dX6_spentByAll_5 : decode cX6_spentByAll 5 = .ok (.aload_n 0, 1) := by decide +kernel
theorem dX6_spentByAll_6 : decode cX6_spentByAll 6 = .ok (.getfield 15, 3) := by decide +kernel
theorem dX6_spentByAll_9 : decode cX6_spentByAll 9 = .ok (.getfield 34, 3) := by decide +kernel
theorem dX6_spentByAll_12 : decode cX6_spentByAll 12 = .ok (.if_icmp .ge 18, 3) := by decide +kernel
theorem dX6_spentByAll_15 : decode cX6_spentByAll 15 = .ok (.iload_n 2, 1) := by decide +kernel
theorem dX6_spentByAll_16 : decode cX6_spentByAll 16 = .ok (.aload_n 0, 1) := by decide +kernel
theorem dX6_spentByAll_17 : decode cX6_spentByAll 17 = .ok (.aload_n 1, 1) := by decide +kernel
theorem dX6_spentByAll_18 : decode cX6_spentByAll 18 = .ok (.iload_n 3, 1) := by decide +kernel
theorem dX6_spentByAll_19 : decode cX6_spentByAll 19 = .ok (.invokevirtual 40, 3) := by decide +kernel
theorem dX6_spentByAll_22 : decode cX6_spentByAll 22 = .ok (.iadd, 1) := by decide +kernel
theorem dX6_spentByAll_23 : decode cX6_spentByAll 23 = .ok (.istore_n 2, 1) := by decide +kernel
theorem dX6_spentByAll_24 : decode cX6_spentByAll 24 = .ok (.iinc 3 1, 3) := by decide +kernel
theorem dX6_spentByAll_27 : decode cX6_spentByAll 27 = .ok (.goto (-23), 3) := by decide +kernel
theorem dX6_spentByAll_30 : decode cX6_spentByAll 30 = .ok (.iload_n 2, 1) := by decide +kernel
theorem dX6_spentByAll_31 : decode cX6_spentByAll 31 = .ok (.ireturn, 1) := by decide +kernel
set_option maxRecDepth 20000 in
theorem ggX6_waysToTell_X6_countWays : GoodIn wsX6_waysToTell wsX6_countWays := goodIn_r _ [7, 2, 1, 17, 18, 19, 20, 21, 22, 23, 24, 25, 26, 27, 28, 29, 30, 31] (by decide +kernel) (by decide +kernel)
set_option maxRecDepth 20000 in
theorem gX6_waysToTell_X6_countWays : GoodIn wsX6_waysToTell (wsV RX6 44 RX6 yX6_countWays wsX6_countWays) := goodIn_app (goodIn_of _ (by decide +kernel)) ggX6_waysToTell_X6_countWays
set_option maxRecDepth 20000 in
theorem ggX6_waysToTell_X6_spentBy : GoodIn wsX6_waysToTell wsX6_spentBy := goodIn_r _ [11, 12, 13, 14, 15, 16, 32, 33, 34, 35, 17, 18, 19] (by decide +kernel) (by decide +kernel)
set_option maxRecDepth 20000 in
theorem gX6_waysToTell_X6_spentBy : GoodIn wsX6_waysToTell (wsV RX6 40 RX6 yX6_spentBy wsX6_spentBy) := goodIn_app (goodIn_of _ (by decide +kernel)) ggX6_waysToTell_X6_spentBy
theorem dX6_waysToTell_0 : decode cX6_waysToTell 0 = .ok (.aload_n 0, 1) := by decide +kernel
theorem dX6_waysToTell_1 : decode cX6_waysToTell 1 = .ok (.invokevirtual 44, 3) := by decide +kernel
theorem dX6_waysToTell_4 : decode cX6_waysToTell 4 = .ok (.lconst 1, 1) := by decide +kernel
theorem dX6_waysToTell_5 : decode cX6_waysToTell 5 = .ok (.lstore_n 2, 1) := by decide +kernel
theorem dX6_waysToTell_6 : decode cX6_waysToTell 6 = .ok (.iconst 0, 1) := by decide +kernel
theorem dX6_waysToTell_7 : decode cX6_waysToTell 7 = .ok (.istore 4, 2) := by decide +kernel
theorem dX6_waysToTell_9 : decode cX6_waysToTell 9 = .ok (.iload 4, 2) := by decide +kernel
theorem dX6_waysToTell_11 : decode cX6_waysToTell 11 = .ok (.aload_n 0, 1) := by decide +kernel
theorem dX6_waysToTell_12 : decode cX6_waysToTell 12 = .ok (.getfield 15, 3) := by decide +kernel
theorem dX6_waysToTell_15 : decode cX6_waysToTell 15 = .ok (.getfield 34, 3) := by decide +kernel
theorem dX6_waysToTell_18 : decode cX6_waysToTell 18 = .ok (.if_icmp .ge 40, 3) := by decide +kernel
theorem dX6_waysToTell_21 : decode cX6_waysToTell 21 = .ok (.aload_n 0, 1) := by decide +kernel
theorem dX6_waysToTell_22 : decode cX6_waysToTell 22 = .ok (.aload_n 1, 1) := by decide +kernel
theorem dX6_waysToTell_23 : decode cX6_waysToTell 23 = .ok (.iload 4, 2) := by decide +kernel
theorem dX6_waysToTell_25 : decode cX6_waysToTell 25 = .ok (.invokevirtual 40, 3) := by decide +kernel
theorem dX6_waysToTell_28 : decode cX6_waysToTell 28 = .ok (.istore 5, 2) := by decide +kernel
theorem dX6_waysToTell_30 : decode cX6_waysToTell 30 = .ok (.lload_n 2, 1) := by decide +kernel
theorem dX6_waysToTell_31 : decode cX6_waysToTell 31 = .ok (.iload 5, 2) := by decide +kernel
theorem dX6_waysToTell_33 : decode cX6_waysToTell 33 = .ok (.bipush 9, 2) := by decide +kernel
theorem dX6_waysToTell_35 : decode cX6_waysToTell 35 = .ok (.if_icmp .gt 14, 3) := by decide +kernel
theorem dX6_waysToTell_38 : decode cX6_waysToTell 38 = .ok (.aload_n 0, 1) := by decide +kernel
theorem dX6_waysToTell_39 : decode cX6_waysToTell 39 = .ok (.getfield 9, 3) := by decide +kernel
theorem dX6_waysToTell_42 : decode cX6_waysToTell 42 = .ok (.iload 5, 2) := by decide +kernel
theorem dX6_waysToTell_44 : decode cX6_waysToTell 44 = .ok (.iaload, 1) := by decide +kernel
theorem dX6_waysToTell_45 : decode cX6_waysToTell 45 = .ok (.i2l, 1) := by decide +kernel
theorem dX6_waysToTell_46 : decode cX6_waysToTell 46 = .ok (.goto 4, 3) := by decide +kernel
theorem dX6_waysToTell_49 : decode cX6_waysToTell 49 = .ok (.lconst 0, 1) := by decide +kernel
theorem dX6_waysToTell_50 : decode cX6_waysToTell 50 = .ok (.lmul, 1) := by decide +kernel
theorem dX6_waysToTell_51 : decode cX6_waysToTell 51 = .ok (.lstore_n 2, 1) := by decide +kernel
theorem dX6_waysToTell_52 : decode cX6_waysToTell 52 = .ok (.iinc 4 1, 3) := by decide +kernel
theorem dX6_waysToTell_55 : decode cX6_waysToTell 55 = .ok (.goto (-46), 3) := by decide +kernel
theorem dX6_waysToTell_58 : decode cX6_waysToTell 58 = .ok (.lload_n 2, 1) := by decide +kernel
theorem dX6_waysToTell_59 : decode cX6_waysToTell 59 = .ok (.lreturn, 1) := by decide +kernel
theorem dX6_countWays_0 : decode cX6_countWays 0 = .ok (.aload_n 0, 1) := by decide +kernel
theorem dX6_countWays_1 : decode cX6_countWays 1 = .ok (.getfield 9, 3) := by decide +kernel
theorem dX6_countWays_4 : decode cX6_countWays 4 = .ok (.iconst 0, 1) := by decide +kernel
theorem dX6_countWays_5 : decode cX6_countWays 5 = .ok (.iconst 1, 1) := by decide +kernel
theorem dX6_countWays_6 : decode cX6_countWays 6 = .ok (.iastore, 1) := by decide +kernel
theorem dX6_countWays_7 : decode cX6_countWays 7 = .ok (.iconst 1, 1) := by decide +kernel
theorem dX6_countWays_8 : decode cX6_countWays 8 = .ok (.istore_n 1, 1) := by decide +kernel
theorem dX6_countWays_9 : decode cX6_countWays 9 = .ok (.iload_n 1, 1) := by decide +kernel
theorem dX6_countWays_10 : decode cX6_countWays 10 = .ok (.bipush 9, 2) := by decide +kernel
theorem dX6_countWays_12 : decode cX6_countWays 12 = .ok (.if_icmp .gt 16, 3) := by decide +kernel
theorem dX6_countWays_15 : decode cX6_countWays 15 = .ok (.aload_n 0, 1) := by decide +kernel
theorem dX6_countWays_16 : decode cX6_countWays 16 = .ok (.getfield 9, 3) := by decide +kernel
theorem dX6_countWays_19 : decode cX6_countWays 19 = .ok (.iload_n 1, 1) := by decide +kernel
theorem dX6_countWays_20 : decode cX6_countWays 20 = .ok (.iconst 0, 1) := by decide +kernel
theorem dX6_countWays_21 : decode cX6_countWays 21 = .ok (.iastore, 1) := by decide +kernel
theorem dX6_countWays_22 : decode cX6_countWays 22 = .ok (.iinc 1 1, 3) := by decide +kernel
theorem dX6_countWays_25 : decode cX6_countWays 25 = .ok (.goto (-16), 3) := by decide +kernel
theorem dX6_countWays_28 : decode cX6_countWays 28 = .ok (.iconst 0, 1) := by decide +kernel
theorem dX6_countWays_29 : decode cX6_countWays 29 = .ok (.istore_n 1, 1) := by decide +kernel
theorem dX6_countWays_30 : decode cX6_countWays 30 = .ok (.iload_n 1, 1) := by decide +kernel
theorem dX6_countWays_31 : decode cX6_countWays 31 = .ok (.aload_n 0, 1) := by decide +kernel
theorem dX6_countWays_32 : decode cX6_countWays 32 = .ok (.getfield 15, 3) := by decide +kernel
theorem dX6_countWays_35 : decode cX6_countWays 35 = .ok (.getfield 47, 3) := by decide +kernel
theorem dX6_countWays_38 : decode cX6_countWays 38 = .ok (.if_icmp .ge 50, 3) := by decide +kernel
theorem dX6_countWays_41 : decode cX6_countWays 41 = .ok (.aload_n 0, 1) := by decide +kernel
theorem dX6_countWays_42 : decode cX6_countWays 42 = .ok (.getfield 15, 3) := by decide +kernel
theorem dX6_countWays_45 : decode cX6_countWays 45 = .ok (.getfield 50, 3) := by decide +kernel
theorem dX6_countWays_48 : decode cX6_countWays 48 = .ok (.iload_n 1, 1) := by decide +kernel
theorem dX6_countWays_49 : decode cX6_countWays 49 = .ok (.iaload, 1) := by decide +kernel
theorem dX6_countWays_50 : decode cX6_countWays 50 = .ok (.istore_n 2, 1) := by decide +kernel
theorem dX6_countWays_51 : decode cX6_countWays 51 = .ok (.iload_n 2, 1) := by decide +kernel
theorem dX6_countWays_52 : decode cX6_countWays 52 = .ok (.istore_n 3, 1) := by decide +kernel
theorem dX6_countWays_53 : decode cX6_countWays 53 = .ok (.iload_n 3, 1) := by decide +kernel
theorem dX6_countWays_54 : decode cX6_countWays 54 = .ok (.bipush 9, 2) := by decide +kernel
theorem dX6_countWays_56 : decode cX6_countWays 56 = .ok (.if_icmp .gt 26, 3) := by decide +kernel
theorem dX6_countWays_59 : decode cX6_countWays 59 = .ok (.aload_n 0, 1) := by decide +kernel
theorem dX6_countWays_60 : decode cX6_countWays 60 = .ok (.getfield 9, 3) := by decide +kernel
theorem dX6_countWays_63 : decode cX6_countWays 63 = .ok (.iload_n 3, 1) := by decide +kernel
theorem dX6_countWays_64 : decode cX6_countWays 64 = .ok (.dup2, 1) := by decide +kernel
theorem dX6_countWays_65 : decode cX6_countWays 65 = .ok (.iaload, 1) := by decide +kernel
theorem dX6_countWays_66 : decode cX6_countWays 66 = .ok (.aload_n 0, 1) := by decide +kernel
theorem dX6_countWays_67 : decode cX6_countWays 67 = .ok (.getfield 9, 3) := by decide +kernel
theorem dX6_countWays_70 : decode cX6_countWays 70 = .ok (.iload_n 3, 1) := by decide +kernel
theorem dX6_countWays_71 : decode cX6_countWays 71 = .ok (.iload_n 2, 1) := by decide +kernel
theorem dX6_countWays_72 : decode cX6_countWays 72 = .ok (.isub, 1) := by decide +kernel
theorem dX6_countWays_73 : decode cX6_countWays 73 = .ok (.iaload, 1) := by decide +kernel
theorem dX6_countWays_74 : decode cX6_countWays 74 = .ok (.iadd, 1) := by decide +kernel
theorem dX6_countWays_75 : decode cX6_countWays 75 = .ok (.iastore, 1) := by decide +kernel
theorem dX6_countWays_76 : decode cX6_countWays 76 = .ok (.iinc 3 1, 3) := by decide +kernel
theorem dX6_countWays_79 : decode cX6_countWays 79 = .ok (.goto (-26), 3) := by decide +kernel
theorem dX6_countWays_82 : decode cX6_countWays 82 = .ok (.iinc 1 1, 3) := by decide +kernel
theorem dX6_countWays_85 : decode cX6_countWays 85 = .ok (.goto (-55), 3) := by decide +kernel
theorem dX6_countWays_88 : decode cX6_countWays 88 = .ok (.return_, 1) := by decide +kernel
theorem dX7_init_0 : decode cX7_init 0 = .ok (.aload_n 0, 1) := by decide +kernel
theorem dX7_init_1 : decode cX7_init 1 = .ok (.invokespecial 3, 3) := by decide +kernel
theorem dX7_init_4 : decode cX7_init 4 = .ok (.aload_n 0, 1) := by decide +kernel
theorem dX7_init_5 : decode cX7_init 5 = .ok (.sipush 300, 3) := by decide +kernel
theorem dX7_init_8 : decode cX7_init 8 = .ok (.newarray .byte, 2) := by decide +kernel
theorem dX7_init_10 : decode cX7_init 10 = .ok (.putfield 9, 3) := by decide +kernel
theorem dX7_init_13 : decode cX7_init 13 = .ok (.aload_n 0, 1) := by decide +kernel
theorem dX7_init_14 : decode cX7_init 14 = .ok (.iconst 0, 1) := by decide +kernel
theorem dX7_init_15 : decode cX7_init 15 = .ok (.putfield 15, 3) := by decide +kernel
theorem dX7_init_18 : decode cX7_init 18 = .ok (.return_, 1) := by decide +kernel
theorem dX7_hasRoomFor_0 : decode cX7_hasRoomFor 0 = .ok (.iload_n 1, 1) := by decide +kernel
theorem dX7_hasRoomFor_1 : decode cX7_hasRoomFor 1 = .ok (.sipush 300, 3) := by decide +kernel
theorem dX7_hasRoomFor_4 : decode cX7_hasRoomFor 4 = .ok (.aload_n 0, 1) := by decide +kernel
theorem dX7_hasRoomFor_5 : decode cX7_hasRoomFor 5 = .ok (.getfield 15, 3) := by decide +kernel
theorem dX7_hasRoomFor_8 : decode cX7_hasRoomFor 8 = .ok (.isub, 1) := by decide +kernel
theorem dX7_hasRoomFor_9 : decode cX7_hasRoomFor 9 = .ok (.if_icmp .gt 7, 3) := by decide +kernel
theorem dX7_hasRoomFor_12 : decode cX7_hasRoomFor 12 = .ok (.iconst 1, 1) := by decide +kernel
theorem dX7_hasRoomFor_13 : decode cX7_hasRoomFor 13 = .ok (.goto 4, 3) := by decide +kernel
theorem dX7_hasRoomFor_16 : decode cX7_hasRoomFor 16 = .ok (.iconst 0, 1) := by decide +kernel
theorem dX7_hasRoomFor_17 : decode cX7_hasRoomFor 17 = .ok (.ireturn, 1) := by decide +kernel
theorem dX7_add_0 : decode cX7_add 0 = .ok (.iload_n 3, 1) := by decide +kernel
theorem dX7_add_1 : decode cX7_add 1 = .ok (.iconst 1, 1) := by decide +kernel
theorem dX7_add_2 : decode cX7_add 2 = .ok (.isub, 1) := by decide +kernel
theorem dX7_add_3 : decode cX7_add 3 = .ok (.istore 4, 2) := by decide +kernel
theorem dX7_add_5 : decode cX7_add 5 = .ok (.iload 4, 2) := by decide +kernel
theorem dX7_add_7 : decode cX7_add 7 = .ok (.ifCond .lt 47, 3) := by decide +kernel
theorem dX7_add_10 : decode cX7_add 10 = .ok (.aload_n 0, 1) := by decide +kernel
theorem dX7_add_11 : decode cX7_add 11 = .ok (.getfield 15, 3) := by decide +kernel
theorem dX7_add_14 : decode cX7_add 14 = .ok (.sipush 300, 3) := by decide +kernel
theorem dX7_add_17 : decode cX7_add 17 = .ok (.if_icmp .ge 37, 3) := by decide +kernel
theorem dX7_add_20 : decode cX7_add 20 = .ok (.aload_n 0, 1) := by decide +kernel
theorem dX7_add_21 : decode cX7_add 21 = .ok (.getfield 9, 3) := by decide +kernel
theorem dX7_add_24 : decode cX7_add 24 = .ok (.aload_n 0, 1) := by decide +kernel
theorem dX7_add_25 : decode cX7_add 25 = .ok (.getfield 15, 3) := by decide +kernel
theorem dX7_add_28 : decode cX7_add 28 = .ok (.lload_n 1, 1) := by decide +kernel
theorem dX7_add_29 : decode cX7_add 29 = .ok (.bipush 8, 2) := by decide +kernel
theorem dX7_add_31 : decode cX7_add 31 = .ok (.iload 4, 2) := by decide +kernel
theorem dX7_add_33 : decode cX7_add 33 = .ok (.imul, 1) := by decide +kernel
theorem dX7_add_34 : decode cX7_add 34 = .ok (.lshr, 1) := by decide +kernel
theorem dX7_add_35 : decode cX7_add 35 = .ok (.l2i, 1) := by decide +kernel
theorem dX7_add_36 : decode cX7_add 36 = .ok (.i2b, 1) := by decide +kernel
theorem dX7_add_37 : decode cX7_add 37 = .ok (.bastore, 1) := by decide +kernel
theorem dX7_add_38 : decode cX7_add 38 = .ok (.aload_n 0, 1) := by decide +kernel
theorem dX7_add_39 : decode cX7_add 39 = .ok (.dup, 1) := by decide +kernel
theorem dX7_add_40 : decode cX7_add 40 = .ok (.getfield 15, 3) := by decide +kernel
theorem dX7_add_43 : decode cX7_add 43 = .ok (.iconst 1, 1) := by decide +kernel
theorem dX7_add_44 : decode cX7_add 44 = .ok (.iadd, 1) := by decide +kernel
theorem dX7_add_45 : decode cX7_add 45 = .ok (.putfield 15, 3) := by decide +kernel
theorem dX7_add_48 : decode cX7_add 48 = .ok (.iinc 4 (-1), 3) := by decide +kernel
theorem dX7_add_51 : decode cX7_add 51 = .ok (.goto (-46), 3) := by decide +kernel
theorem dX7_add_54 : decode cX7_add 54 = .ok (.return_, 1) := by decide +kernel
theorem dX7_byteAt_0 : decode cX7_byteAt 0 = .ok (.iload_n 1, 1) := by decide +kernel
theorem dX7_byteAt_1 : decode cX7_byteAt 1 = .ok (.ifCond .lt 24, 3) := by decide +kernel
theorem dX7_byteAt_4 : decode cX7_byteAt 4 = .ok (.iload_n 1, 1) := by decide +kernel
theorem dX7_byteAt_5 : decode cX7_byteAt 5 = .ok (.aload_n 0, 1) := by decide +kernel
theorem dX7_byteAt_6 : decode cX7_byteAt 6 = .ok (.getfield 15, 3) := by decide +kernel
theorem dX7_byteAt_9 : decode cX7_byteAt 9 = .ok (.if_icmp .ge 16, 3) := by decide +kernel
theorem dX7_byteAt_12 : decode cX7_byteAt 12 = .ok (.aload_n 0, 1) := by decide +kernel
theorem dX7_byteAt_13 : decode cX7_byteAt 13 = .ok (.getfield 9, 3) := by decide +kernel
theorem dX7_byteAt_16 : decode cX7_byteAt 16 = .ok (.iload_n 1, 1) := by decide +kernel
theorem dX7_byteAt_17 : decode cX7_byteAt 17 = .ok (.baload, 1) := by decide +kernel
theorem dX7_byteAt_18 : decode cX7_byteAt 18 = .ok (.sipush 255, 3) := by decide +kernel
theorem dX7_byteAt_21 : decode cX7_byteAt 21 = .ok (.iand, 1) := by decide +kernel
theorem dX7_byteAt_22 : decode cX7_byteAt 22 = .ok (.goto 4, 3) := by decide +kernel
theorem dX7_byteAt_25 : decode cX7_byteAt 25 = .ok (.iconst (-1), 1) := by decide +kernel
theorem dX7_byteAt_26 : decode cX7_byteAt 26 = .ok (.ireturn, 1) := by decide +kernel
theorem dX8_init_0 : decode cX8_init 0 = .ok (.aload_n 0, 1) := by decide +kernel
theorem dX8_init_1 : decode cX8_init 1 = .ok (.invokespecial 3, 3) := by decide +kernel
theorem dX8_init_4 : decode cX8_init 4 = .ok (.aload_n 0, 1) := by decide +kernel
theorem dX8_init_5 : decode cX8_init 5 = .ok (.iconst 5, 1) := by decide +kernel
theorem dX8_init_6 : decode cX8_init 6 = .ok (.newarray .int, 2) := by decide +kernel
theorem dX8_init_8 : decode cX8_init 8 = .ok (.putfield 9, 3) := by decide +kernel
theorem dX8_init_11 : decode cX8_init 11 = .ok (.aload_n 0, 1) := by decide +kernel
theorem dX8_init_12 : decode cX8_init 12 = .ok (.aload_n 1, 1) := by decide +kernel
theorem dX8_init_13 : decode cX8_init 13 = .ok (.putfield 15, 3) := by decide +kernel
theorem dX8_init_16 : decode cX8_init 16 = .ok (.aload_n 0, 1) := by decide +kernel
theorem dX8_init_17 : decode cX8_init 17 = .ok (.aload_n 2, 1) := by decide +kernel
theorem dX8_init_18 : decode cX8_init 18 = .ok (.putfield 19, 3) := by decide +kernel
theorem dX8_init_21 : decode cX8_init 21 = .ok (.return_, 1) := by decide +kernel
set_option maxRecDepth 20000 in
theorem ggX8_findFirst_X8_findFrom : GoodIn wsX8_findFirst wsX8_findFrom := goodIn_r _ [6, 1, 7, 8, 9, 10, 11, 12, 13, 14, 15, 16, 17, 18, 19, 20, 21, 22, 23, 24, 25, 26, 27, 28, 29, 30, 2, 3, 4, 5, 31, 32, 33, 34, 35, 36, 37, 38, 39, 40, 41, 42, 43, 44, 45, 46, 47, 48, 49] (by decide +kernel) (by decide +kernel)
set_option maxRecDepth 20000 in
theorem gX8_findFirst_X8_findFrom : GoodIn wsX8_findFirst (wsV RX8 29 RX8 yX8_findFrom wsX8_findFrom) := goodIn_app (goodIn_of _ (by decide +kernel)) ggX8_findFirst_X8_findFrom
theorem dX8_findFirst_0 : decode cX8_findFirst 0 = .ok (.iconst 1, 1) := by decide +kernel
theorem dX8_findFirst_1 : decode cX8_findFirst 1 = .ok (.istore 4, 2) := by decide +kernel
theorem dX8_findFirst_3 : decode cX8_findFirst 3 = .ok (.iload 4, 2) := by decide +kernel
theorem dX8_findFirst_5 : decode cX8_findFirst 5 = .ok (.aload_n 0, 1) := by decide +kernel
theorem dX8_findFirst_6 : decode cX8_findFirst 6 = .ok (.getfield 15, 3) := by decide +kernel
theorem dX8_findFirst_9 : decode cX8_findFirst 9 = .ok (.getfield 23, 3) := by decide +kernel
theorem dX8_findFirst_12 : decode cX8_findFirst 12 = .ok (.if_icmp .ge 28, 3) := by decide +kernel
theorem dX8_findFirst_15 : decode cX8_findFirst 15 = .ok (.aload_n 0, 1) := by decide +kernel
theorem dX8_findFirst_16 : decode cX8_findFirst 16 = .ok (.iload_n 1, 1) := by decide +kernel
theorem dX8_findFirst_17 : decode cX8_findFirst 17 = .ok (.iload_n 2, 1) := by decide +kernel
theorem dX8_findFirst_18 : decode cX8_findFirst 18 = .ok (.iload_n 3, 1) := by decide +kernel
theorem dX8_findFirst_19 : decode cX8_findFirst 19 = .ok (.iload 4, 2) := by decide +kernel
theorem dX8_findFirst_21 : decode cX8_findFirst 21 = .ok (.iconst 0, 1) := by decide +kernel
theorem dX8_findFirst_22 : decode cX8_findFirst 22 = .ok (.iconst 1, 1) := by decide +kernel
theorem dX8_findFirst_23 : decode cX8_findFirst 23 = .ok (.iload_n 2, 1) := by decide +kernel
theorem dX8_findFirst_24 : decode cX8_findFirst 24 = .ok (.ishl, 1) := by decide +kernel
theorem dX8_findFirst_25 : decode cX8_findFirst 25 = .ok (.invokevirtual 29, 3) := by decide +kernel
theorem dX8_findFirst_28 : decode cX8_findFirst 28 = .ok (.ifCond .eq 6, 3) := by decide +kernel
theorem dX8_findFirst_31 : decode cX8_findFirst 31 = .ok (.iload 4, 2) := by decide +kernel
theorem dX8_findFirst_33 : decode cX8_findFirst 33 = .ok (.ireturn, 1) := by decide +kernel
theorem dX8_findFirst_34 : decode cX8_findFirst 34 = .ok (.iinc 4 1, 3) := by decide +kernel
theorem dX8_findFirst_37 : decode cX8_findFirst 37 = .ok (.goto (-34), 3) := by decide +kernel
theorem dX8_findFirst_40 : decode cX8_findFirst 40 = .ok (.iconst 0, 1) := by decide +kernel
theorem dX8_findFirst_41 : decode cX8_findFirst 41 = .ok (.ireturn, 1) := by decide +kernel
set_option maxRecDepth 20000 in
theorem ggX8_findFrom_X2_takes : GoodIn wsX8_findFrom wsX2_takes := goodIn_r _ [8, 9, 10, 33, 34, 35, 36, 37, 38, 39, 40, 41, 42, 43, 44] (by decide +kernel) (by decide +kernel)
set_option maxRecDepth 20000 in
theorem gX8_findFrom_X2_takes : GoodIn wsX8_findFrom (wsV RX8 33 RX2 yX2_takes wsX2_takes) := goodIn_app (goodIn_of _ (by decide +kernel)) ggX8_findFrom_X2_takes
set_option maxRecDepth 20000 in
theorem ggX8_findFrom_X2_across : GoodIn wsX8_findFrom wsX2_across := goodIn_r _ [14, 15, 16, 17, 18, 19, 33, 34, 35, 36, 37, 38, 39, 40, 41, 42, 43, 44] (by decide +kernel) (by decide +kernel)
set_option maxRecDepth 20000 in
theorem gX8_findFrom_X2_across : GoodIn wsX8_findFrom (wsV RX8 40 RX2 yX2_across wsX2_across) := goodIn_app (goodIn_of _ (by decide +kernel)) ggX8_findFrom_X2_across
set_option maxRecDepth 20000 in
theorem ggX8_findFrom_X3_canTake : GoodIn wsX8_findFrom wsX3_canTake := goodIn_r _ [24, 25, 45, 46, 47, 48] (by decide +kernel) (by decide +kernel)
set_option maxRecDepth 20000 in
theorem gX8_findFrom_X3_canTake : GoodIn wsX8_findFrom (wsV RX8 44 RX3 yX3_canTake wsX3_canTake) := goodIn_app (goodIn_of _ (by decide +kernel)) ggX8_findFrom_X3_canTake
set_option maxRecDepth 20000 in
theorem ggX8_findFrom_X8_findFrom : GoodIn wsX8_findFrom wsX8_findFrom := goodIn_r _ [0, 1, 2, 3, 4, 5, 6, 7, 8, 9, 10, 11, 12, 13, 14, 15, 16, 17, 18, 19, 20, 21, 22, 23, 24, 25, 26, 27, 28, 29, 30, 31, 32, 33, 34, 35, 36, 37, 38, 39, 40, 41, 42, 43, 44, 45, 46, 47, 48] (by decide +kernel) (by decide +kernel)
set_option maxRecDepth 20000 in
theorem gX8_findFrom_X8_findFrom : GoodIn wsX8_findFrom (wsV RX8 29 RX8 yX8_findFrom wsX8_findFrom) := goodIn_app (goodIn_of _ (by decide +kernel)) ggX8_findFrom_X8_findFrom
theorem dX8_findFrom_0 : decode cX8_findFrom 0 = .ok (.iload_n 2, 1) := by decide +kernel
theorem dX8_findFrom_1 : decode cX8_findFrom 1 = .ok (.iload_n 3, 1) := by decide +kernel
theorem dX8_findFrom_2 : decode cX8_findFrom 2 = .ok (.if_icmp .ne 16, 3) := by decide +kernel
theorem dX8_findFrom_5 : decode cX8_findFrom 5 = .ok (.iload 5, 2) := by decide +kernel
theorem dX8_findFrom_7 : decode cX8_findFrom 7 = .ok (.iload 4, 2) := by decide +kernel
theorem dX8_findFrom_9 : decode cX8_findFrom 9 = .ok (.if_icmp .ne 7, 3) := by decide +kernel
theorem dX8_findFrom_12 : decode cX8_findFrom 12 = .ok (.iconst 1, 1) := by decide +kernel
theorem dX8_findFrom_13 : decode cX8_findFrom 13 = .ok (.goto 4, 3) := by decide +kernel
theorem dX8_findFrom_16 : decode cX8_findFrom 16 = .ok (.iconst 0, 1) := by decide +kernel
theorem dX8_findFrom_17 : decode cX8_findFrom 17 = .ok (.ireturn, 1) := by decide +kernel
theorem dX8_findFrom_18 : decode cX8_findFrom 18 = .ok (.iload 5, 2) := by decide +kernel
theorem dX8_findFrom_20 : decode cX8_findFrom 20 = .ok (.iload 4, 2) := by decide +kernel
theorem dX8_findFrom_22 : decode cX8_findFrom 22 = .ok (.if_icmp .ge 9, 3) := by decide +kernel
theorem dX8_findFrom_25 : decode cX8_findFrom 25 = .ok (.iload 5, 2) := by decide +kernel
theorem dX8_findFrom_27 : decode cX8_findFrom 27 = .ok (.iconst 5, 1) := by decide +kernel
theorem dX8_findFrom_28 : decode cX8_findFrom 28 = .ok (.if_icmp .lt 5, 3) := by decide +kernel
theorem dX8_findFrom_31 : decode cX8_findFrom 31 = .ok (.iconst 0, 1) := by decide +kernel
theorem dX8_findFrom_32 : decode cX8_findFrom 32 = .ok (.ireturn, 1) := by decide +kernel
theorem dX8_findFrom_33 : decode cX8_findFrom 33 = .ok (.aload_n 0, 1) := by decide +kernel
theorem dX8_findFrom_34 : decode cX8_findFrom 34 = .ok (.getfield 15, 3) := by decide +kernel
theorem dX8_findFrom_37 : decode cX8_findFrom 37 = .ok (.iload_n 1, 1) := by decide +kernel
theorem dX8_findFrom_38 : decode cX8_findFrom 38 = .ok (.iload 5, 2) := by decide +kernel
theorem dX8_findFrom_40 : decode cX8_findFrom 40 = .ok (.invokevirtual 33, 3) := by decide +kernel
theorem dX8_findFrom_43 : decode cX8_findFrom 43 = .ok (.istore 7, 2) := by decide +kernel
theorem dX8_findFrom_45 : decode cX8_findFrom 45 = .ok (.iconst 0, 1) := by decide +kernel
theorem dX8_findFrom_46 : decode cX8_findFrom 46 = .ok (.istore 8, 2) := by decide +kernel
theorem dX8_findFrom_48 : decode cX8_findFrom 48 = .ok (.iload 8, 2) := by decide +kernel
theorem dX8_findFrom_50 : decode cX8_findFrom 50 = .ok (.aload_n 0, 1) := by decide +kernel
theorem dX8_findFrom_51 : decode cX8_findFrom 51 = .ok (.getfield 15, 3) := by decide +kernel
theorem dX8_findFrom_54 : decode cX8_findFrom 54 = .ok (.getfield 37, 3) := by decide +kernel
theorem dX8_findFrom_57 : decode cX8_findFrom 57 = .ok (.if_icmp .ge 81, 3) := by decide +kernel
theorem dX8_findFrom_60 : decode cX8_findFrom 60 = .ok (.aload_n 0, 1) := by decide +kernel
theorem dX8_findFrom_61 : decode cX8_findFrom 61 = .ok (.getfield 15, 3) := by decide +kernel
theorem dX8_findFrom_64 : decode cX8_findFrom 64 = .ok (.iload 8, 2) := by decide +kernel
theorem dX8_findFrom_66 : decode cX8_findFrom 66 = .ok (.iload_n 2, 1) := by decide +kernel
theorem dX8_findFrom_67 : decode cX8_findFrom 67 = .ok (.iload 6, 2) := by decide +kernel
theorem dX8_findFrom_69 : decode cX8_findFrom 69 = .ok (.invokevirtual 40, 3) := by decide +kernel
theorem dX8_findFrom_72 : decode cX8_findFrom 72 = .ok (.istore 9, 2) := by decide +kernel
theorem dX8_findFrom_74 : decode cX8_findFrom 74 = .ok (.iload 9, 2) := by decide +kernel
theorem dX8_findFrom_76 : decode cX8_findFrom 76 = .ok (.iconst (-1), 1) := by decide +kernel
theorem dX8_findFrom_77 : decode cX8_findFrom 77 = .ok (.if_icmp .eq 55, 3) := by decide +kernel
theorem dX8_findFrom_80 : decode cX8_findFrom 80 = .ok (.aload_n 0, 1) := by decide +kernel
theorem dX8_findFrom_81 : decode cX8_findFrom 81 = .ok (.getfield 19, 3) := by decide +kernel
theorem dX8_findFrom_84 : decode cX8_findFrom 84 = .ok (.iload 8, 2) := by decide +kernel
theorem dX8_findFrom_86 : decode cX8_findFrom 86 = .ok (.iload 7, 2) := by decide +kernel
theorem dX8_findFrom_88 : decode cX8_findFrom 88 = .ok (.invokevirtual 44, 3) := by decide +kernel
theorem dX8_findFrom_91 : decode cX8_findFrom 91 = .ok (.ifCond .ne 6, 3) := by decide +kernel
theorem dX8_findFrom_94 : decode cX8_findFrom 94 = .ok (.goto 38, 3) := by decide +kernel
theorem dX8_findFrom_97 : decode cX8_findFrom 97 = .ok (.aload_n 0, 1) := by decide +kernel
theorem dX8_findFrom_98 : decode cX8_findFrom 98 = .ok (.getfield 9, 3) := by decide +kernel
theorem dX8_findFrom_101 : decode cX8_findFrom 101 = .ok (.iload 5, 2) := by decide +kernel
theorem dX8_findFrom_103 : decode cX8_findFrom 103 = .ok (.iload 8, 2) := by decide +kernel
theorem dX8_findFrom_105 : decode cX8_findFrom 105 = .ok (.iastore, 1) := by decide +kernel
theorem dX8_findFrom_106 : decode cX8_findFrom 106 = .ok (.aload_n 0, 1) := by decide +kernel
theorem dX8_findFrom_107 : decode cX8_findFrom 107 = .ok (.iload_n 1, 1) := by decide +kernel
theorem dX8_findFrom_108 : decode cX8_findFrom 108 = .ok (.iload 9, 2) := by decide +kernel
theorem dX8_findFrom_110 : decode cX8_findFrom 110 = .ok (.iload_n 3, 1) := by decide +kernel
theorem dX8_findFrom_111 : decode cX8_findFrom 111 = .ok (.iload 4, 2) := by decide +kernel
theorem dX8_findFrom_113 : decode cX8_findFrom 113 = .ok (.iload 5, 2) := by decide +kernel
theorem dX8_findFrom_115 : decode cX8_findFrom 115 = .ok (.iconst 1, 1) := by decide +kernel
theorem dX8_findFrom_116 : decode cX8_findFrom 116 = .ok (.iadd, 1) := by decide +kernel
theorem dX8_findFrom_117 : decode cX8_findFrom 117 = .ok (.iload 6, 2) := by decide +kernel
theorem dX8_findFrom_119 : decode cX8_findFrom 119 = .ok (.iconst 1, 1) := by decide +kernel
theorem dX8_findFrom_120 : decode cX8_findFrom 120 = .ok (.iload 9, 2) := by decide +kernel
theorem dX8_findFrom_122 : decode cX8_findFrom 122 = .ok (.ishl, 1) := by decide +kernel
theorem dX8_findFrom_123 : decode cX8_findFrom 123 = .ok (.ior, 1) := by decide +kernel
theorem dX8_findFrom_124 : decode cX8_findFrom 124 = .ok (.invokevirtual 29, 3) := by decide +kernel
theorem dX8_findFrom_127 : decode cX8_findFrom 127 = .ok (.ifCond .eq 5, 3) := by decide +kernel
theorem dX8_findFrom_130 : decode cX8_findFrom 130 = .ok (.iconst 1, 1) := by decide +kernel
theorem dX8_findFrom_131 : decode cX8_findFrom 131 = .ok (.ireturn, 1) := by decide +kernel
theorem dX8_findFrom_132 : decode cX8_findFrom 132 = .ok (.iinc 8 1, 3) := by decide +kernel
theorem dX8_findFrom_135 : decode cX8_findFrom 135 = .ok (.goto (-87), 3) := by decide +kernel
theorem dX8_findFrom_138 : decode cX8_findFrom 138 = .ok (.iconst 0, 1) := by decide +kernel
theorem dX8_findFrom_139 : decode cX8_findFrom 139 = .ok (.ireturn, 1) := by decide +kernel
theorem dX8_plankOnWay_0 : decode cX8_plankOnWay 0 = .ok (.iload_n 1, 1) := by decide +kernel
theorem dX8_plankOnWay_1 : decode cX8_plankOnWay 1 = .ok (.ifCond .lt 17, 3) := by decide +kernel
theorem dX8_plankOnWay_4 : decode cX8_plankOnWay 4 = .ok (.iload_n 1, 1) := by decide +kernel
theorem dX8_plankOnWay_5 : decode cX8_plankOnWay 5 = .ok (.iconst 5, 1) := by decide +kernel
theorem dX8_plankOnWay_6 : decode cX8_plankOnWay 6 = .ok (.if_icmp .ge 12, 3) := by decide +kernel
theorem dX8_plankOnWay_9 : decode cX8_plankOnWay 9 = .ok (.aload_n 0, 1) := by decide +kernel
theorem dX8_plankOnWay_10 : decode cX8_plankOnWay 10 = .ok (.getfield 9, 3) := by decide +kernel
theorem dX8_plankOnWay_13 : decode cX8_plankOnWay 13 = .ok (.iload_n 1, 1) := by decide +kernel
theorem dX8_plankOnWay_14 : decode cX8_plankOnWay 14 = .ok (.iaload, 1) := by decide +kernel
theorem dX8_plankOnWay_15 : decode cX8_plankOnWay 15 = .ok (.goto 5, 3) := by decide +kernel
theorem dX8_plankOnWay_18 : decode cX8_plankOnWay 18 = .ok (.bipush (-5), 2) := by decide +kernel
theorem dX8_plankOnWay_20 : decode cX8_plankOnWay 20 = .ok (.ireturn, 1) := by decide +kernel
set_option maxRecDepth 20000 in
theorem ggX8_walkFound_X2_takes : GoodIn wsX8_walkFound wsX2_takes := goodIn_r _ [8, 9, 10, 23, 24, 25, 26, 27, 28, 29, 30, 31, 32, 33, 34] (by decide +kernel) (by decide +kernel)
set_option maxRecDepth 20000 in
theorem gX8_walkFound_X2_takes : GoodIn wsX8_walkFound (wsV RX8 33 RX2 yX2_takes wsX2_takes) := goodIn_app (goodIn_of _ (by decide +kernel)) ggX8_walkFound_X2_takes
set_option maxRecDepth 20000 in
theorem ggX8_walkFound_X3_take : GoodIn wsX8_walkFound wsX3_take := goodIn_r _ [15, 16, 17, 18, 19, 35, 36, 37, 38] (by decide +kernel) (by decide +kernel)
set_option maxRecDepth 20000 in
theorem gX8_walkFound_X3_take : GoodIn wsX8_walkFound (wsV RX8 50 RX3 yX3_take wsX3_take) := goodIn_app (goodIn_of _ (by decide +kernel)) ggX8_walkFound_X3_take
theorem dX8_walkFound_0 : decode cX8_walkFound 0 = .ok (.iconst 0, 1) := by decide +kernel
theorem dX8_walkFound_1 : decode cX8_walkFound 1 = .ok (.istore_n 3, 1) := by decide +kernel
theorem dX8_walkFound_2 : decode cX8_walkFound 2 = .ok (.iconst 0, 1) := by decide +kernel
theorem dX8_walkFound_3 : decode cX8_walkFound 3 = .ok (.istore 4, 2) := by decide +kernel
theorem dX8_walkFound_5 : decode cX8_walkFound 5 = .ok (.iload 4, 2) := by decide +kernel
theorem dX8_walkFound_7 : decode cX8_walkFound 7 = .ok (.iload_n 2, 1) := by decide +kernel
theorem dX8_walkFound_8 : decode cX8_walkFound 8 = .ok (.if_icmp .ge 46, 3) := by decide +kernel
theorem dX8_walkFound_11 : decode cX8_walkFound 11 = .ok (.iload 4, 2) := by decide +kernel
theorem dX8_walkFound_13 : decode cX8_walkFound 13 = .ok (.iconst 5, 1) := by decide +kernel
theorem dX8_walkFound_14 : decode cX8_walkFound 14 = .ok (.if_icmp .ge 40, 3) := by decide +kernel
theorem dX8_walkFound_17 : decode cX8_walkFound 17 = .ok (.aload_n 0, 1) := by decide +kernel
theorem dX8_walkFound_18 : decode cX8_walkFound 18 = .ok (.getfield 19, 3) := by decide +kernel
theorem dX8_walkFound_21 : decode cX8_walkFound 21 = .ok (.aload_n 0, 1) := by decide +kernel
theorem dX8_walkFound_22 : decode cX8_walkFound 22 = .ok (.getfield 9, 3) := by decide +kernel
theorem dX8_walkFound_25 : decode cX8_walkFound 25 = .ok (.iload 4, 2) := by decide +kernel
theorem dX8_walkFound_27 : decode cX8_walkFound 27 = .ok (.iaload, 1) := by decide +kernel
theorem dX8_walkFound_28 : decode cX8_walkFound 28 = .ok (.aload_n 0, 1) := by decide +kernel
theorem dX8_walkFound_29 : decode cX8_walkFound 29 = .ok (.getfield 15, 3) := by decide +kernel
theorem dX8_walkFound_32 : decode cX8_walkFound 32 = .ok (.iload_n 1, 1) := by decide +kernel
theorem dX8_walkFound_33 : decode cX8_walkFound 33 = .ok (.iload 4, 2) := by decide +kernel
theorem dX8_walkFound_35 : decode cX8_walkFound 35 = .ok (.invokevirtual 33, 3) := by decide +kernel
theorem dX8_walkFound_38 : decode cX8_walkFound 38 = .ok (.iload_n 1, 1) := by decide +kernel
theorem dX8_walkFound_39 : decode cX8_walkFound 39 = .ok (.invokevirtual 50, 3) := by decide +kernel
theorem dX8_walkFound_42 : decode cX8_walkFound 42 = .ok (.ifCond .eq 6, 3) := by decide +kernel
theorem dX8_walkFound_45 : decode cX8_walkFound 45 = .ok (.iinc 3 1, 3) := by decide +kernel
theorem dX8_walkFound_48 : decode cX8_walkFound 48 = .ok (.iinc 4 1, 3) := by decide +kernel
theorem dX8_walkFound_51 : decode cX8_walkFound 51 = .ok (.goto (-46), 3) := by decide +kernel
theorem dX8_walkFound_54 : decode cX8_walkFound 54 = .ok (.iload_n 3, 1) := by decide +kernel
theorem dX8_walkFound_55 : decode cX8_walkFound 55 = .ok (.ireturn, 1) := by decide +kernel
set_option maxRecDepth 20000 in
theorem ggX8_runErrands_X8_findFirst : GoodIn wsX8_runErrands wsX8_findFirst := goodIn_r _ [6, 1, 7, 8, 9, 5, 10, 11, 12, 13, 14, 15, 16, 17, 18, 19, 20, 21, 22, 23, 24, 25, 26, 27, 28, 29, 30, 31, 32, 33, 34, 46, 47, 48, 49, 50, 51, 52, 53, 54, 55, 56, 57, 58, 59, 60, 61, 62, 63, 64] (by decide +kernel) (by decide +kernel)
set_option maxRecDepth 20000 in
theorem gX8_runErrands_X8_findFirst : GoodIn wsX8_runErrands (wsV RX8 66 RX8 yX8_findFirst wsX8_findFirst) := goodIn_app (goodIn_of _ (by decide +kernel)) ggX8_runErrands_X8_findFirst
set_option maxRecDepth 20000 in
theorem ggX8_runErrands_X8_walkFound : GoodIn wsX8_runErrands wsX8_walkFound := goodIn_r _ [38, 11, 12, 1, 13, 14, 15, 16, 17, 18, 19, 39, 40, 41, 32, 42, 34, 43, 44, 45, 46, 47, 48, 49, 50, 51, 52, 53, 54, 55, 56, 57, 58, 59, 60, 61, 62, 63, 64] (by decide +kernel) (by decide +kernel)
set_option maxRecDepth 20000 in
theorem gX8_runErrands_X8_walkFound : GoodIn wsX8_runErrands (wsV RX8 69 RX8 yX8_walkFound wsX8_walkFound) := goodIn_app (goodIn_of _ (by decide +kernel)) ggX8_runErrands_X8_walkFound
theorem dX8_runErrands_0 : decode cX8_runErrands 0 = .ok (.iconst 0, 1) := by decide +kernel
theorem dX8_runErrands_1 : decode cX8_runErrands 1 = .ok (.istore_n 1, 1) := by decide +kernel
theorem dX8_runErrands_2 : decode cX8_runErrands 2 = .ok (.iconst 0, 1) := by decide +kernel
theorem dX8_runErrands_3 : decode cX8_runErrands 3 = .ok (.istore_n 2, 1) := by decide +kernel
theorem dX8_runErrands_4 : decode cX8_runErrands 4 = .ok (.iload_n 2, 1) := by decide +kernel
theorem dX8_runErrands_5 : decode cX8_runErrands 5 = .ok (.aload_n 0, 1) := by decide +kernel
theorem dX8_runErrands_6 : decode cX8_runErrands 6 = .ok (.getfield 15, 3) := by decide +kernel
theorem dX8_runErrands_9 : decode cX8_runErrands 9 = .ok (.getfield 54, 3) := by decide +kernel
theorem dX8_runErrands_12 : decode cX8_runErrands 12 = .ok (.if_icmp .ge 63, 3) := by decide +kernel
theorem dX8_runErrands_15 : decode cX8_runErrands 15 = .ok (.aload_n 0, 1) := by decide +kernel
theorem dX8_runErrands_16 : decode cX8_runErrands 16 = .ok (.getfield 15, 3) := by decide +kernel
theorem dX8_runErrands_19 : decode cX8_runErrands 19 = .ok (.getfield 57, 3) := by decide +kernel
theorem dX8_runErrands_22 : decode cX8_runErrands 22 = .ok (.iload_n 2, 1) := by decide +kernel
theorem dX8_runErrands_23 : decode cX8_runErrands 23 = .ok (.iaload, 1) := by decide +kernel
theorem dX8_runErrands_24 : decode cX8_runErrands 24 = .ok (.istore_n 3, 1) := by decide +kernel
theorem dX8_runErrands_25 : decode cX8_runErrands 25 = .ok (.aload_n 0, 1) := by decide +kernel
theorem dX8_runErrands_26 : decode cX8_runErrands 26 = .ok (.iload_n 3, 1) := by decide +kernel
theorem dX8_runErrands_27 : decode cX8_runErrands 27 = .ok (.aload_n 0, 1) := by decide +kernel
theorem dX8_runErrands_28 : decode cX8_runErrands 28 = .ok (.getfield 15, 3) := by decide +kernel
theorem dX8_runErrands_31 : decode cX8_runErrands 31 = .ok (.getfield 60, 3) := by decide +kernel
theorem dX8_runErrands_34 : decode cX8_runErrands 34 = .ok (.iload_n 2, 1) := by decide +kernel
theorem dX8_runErrands_35 : decode cX8_runErrands 35 = .ok (.iaload, 1) := by decide +kernel
theorem dX8_runErrands_36 : decode cX8_runErrands 36 = .ok (.aload_n 0, 1) := by decide +kernel
theorem dX8_runErrands_37 : decode cX8_runErrands 37 = .ok (.getfield 15, 3) := by decide +kernel
theorem dX8_runErrands_40 : decode cX8_runErrands 40 = .ok (.getfield 63, 3) := by decide +kernel
theorem dX8_runErrands_43 : decode cX8_runErrands 43 = .ok (.iload_n 2, 1) := by decide +kernel
theorem dX8_runErrands_44 : decode cX8_runErrands 44 = .ok (.iaload, 1) := by decide +kernel
theorem dX8_runErrands_45 : decode cX8_runErrands 45 = .ok (.invokevirtual 66, 3) := by decide +kernel
theorem dX8_runErrands_48 : decode cX8_runErrands 48 = .ok (.istore 4, 2) := by decide +kernel
theorem dX8_runErrands_50 : decode cX8_runErrands 50 = .ok (.iload 4, 2) := by decide +kernel
theorem dX8_runErrands_52 : decode cX8_runErrands 52 = .ok (.ifCond .ne 9, 3) := by decide +kernel
theorem dX8_runErrands_55 : decode cX8_runErrands 55 = .ok (.iinc 1 1, 3) := by decide +kernel
theorem dX8_runErrands_58 : decode cX8_runErrands 58 = .ok (.goto 11, 3) := by decide +kernel
theorem dX8_runErrands_61 : decode cX8_runErrands 61 = .ok (.aload_n 0, 1) := by decide +kernel
theorem dX8_runErrands_62 : decode cX8_runErrands 62 = .ok (.iload_n 3, 1) := by decide +kernel
theorem dX8_runErrands_63 : decode cX8_runErrands 63 = .ok (.iload 4, 2) := by decide +kernel
theorem dX8_runErrands_65 : decode cX8_runErrands 65 = .ok (.invokevirtual 69, 3) := by decide +kernel
theorem dX8_runErrands_68 : decode cX8_runErrands 68 = .ok (.pop, 1) := by decide +kernel
theorem dX8_runErrands_69 : decode cX8_runErrands 69 = .ok (.iinc 2 1, 3) := by decide +kernel
theorem dX8_runErrands_72 : decode cX8_runErrands 72 = .ok (.goto (-68), 3) := by decide +kernel
theorem dX8_runErrands_75 : decode cX8_runErrands 75 = .ok (.iload_n 1, 1) := by decide +kernel
theorem dX8_runErrands_76 : decode cX8_runErrands 76 = .ok (.ireturn, 1) := by decide +kernel
set_option maxRecDepth 20000 in
theorem ggX9_init_X7_init : GoodIn wsX9_init wsX7_init := goodIn_r _ [44, 45, 2, 3, 46, 47, 48, 122, 123] (by decide +kernel) (by decide +kernel)
set_option maxRecDepth 20000 in
theorem gX9_init_X7_init_n11 : GoodIn wsX9_init (wsX7_init) := ggX9_init_X7_init
set_option maxRecDepth 20000 in
theorem ggX9_init_X2_init : GoodIn wsX9_init wsX2_init := goodIn_r _ [50, 51, 2, 3, 52, 53, 54, 55, 56, 57, 58, 59, 60, 61, 62, 63, 64, 135, 136, 137, 138, 139, 140, 141, 142, 143, 144, 145, 146] (by decide +kernel) (by decide +kernel)
set_option maxRecDepth 20000 in
theorem gX9_init_X2_init_n18 : GoodIn wsX9_init (wsX2_init) := ggX9_init_X2_init
set_option maxRecDepth 20000 in
theorem ggX9_init_X4_init : GoodIn wsX9_init wsX4_init := goodIn_r _ [67, 68, 2, 3, 69, 9, 10, 70, 71, 72, 73, 74, 56, 75, 76, 49, 50, 51, 52, 53, 54, 55, 57, 58, 59, 60, 61, 62, 63, 64, 135, 136, 137, 138, 139, 140, 141, 142, 143, 144, 145, 146, 147, 148, 149, 150, 151, 152, 153] (by decide +kernel) (by decide +kernel)
set_option maxRecDepth 20000 in
theorem gX9_init_X4_init : GoodIn wsX9_init (wsX4_init) := ggX9_init_X4_init
set_option maxRecDepth 20000 in
theorem ggX9_init_X3_init : GoodIn wsX9_init wsX3_init := goodIn_r _ [78, 79, 2, 3, 56, 80, 81, 82, 83, 154, 155, 156, 157] (by decide +kernel) (by decide +kernel)
set_option maxRecDepth 20000 in
theorem gX9_init_X3_init_n34 : GoodIn wsX9_init (wsX3_init) := ggX9_init_X3_init
set_option maxRecDepth 20000 in
theorem ggX9_init_X8_init : GoodIn wsX9_init wsX8_init := goodIn_r _ [86, 87, 2, 3, 56, 88, 89, 90, 158, 159, 160] (by decide +kernel) (by decide +kernel)
set_option maxRecDepth 20000 in
theorem gX9_init_X8_init : GoodIn wsX9_init (wsX8_init) := ggX9_init_X8_init
set_option maxRecDepth 20000 in
theorem ggX9_init_X5_init : GoodIn wsX9_init wsX5_init := goodIn_r _ [93, 94, 2, 3, 95, 96, 97, 161, 162, 163] (by decide +kernel) (by decide +kernel)
set_option maxRecDepth 20000 in
theorem gX9_init_X5_init : GoodIn wsX9_init (wsX5_init) := ggX9_init_X5_init
set_option maxRecDepth 20000 in
theorem ggX9_init_X0_init : GoodIn wsX9_init wsX0_init := goodIn_r _ [100, 101, 2, 3, 102, 103, 104, 105, 106, 107, 164, 165, 166, 167, 168, 169] (by decide +kernel) (by decide +kernel)
set_option maxRecDepth 20000 in
theorem gX9_init_X0_init : GoodIn wsX9_init (wsX0_init) := ggX9_init_X0_init
set_option maxRecDepth 20000 in
theorem ggX9_init_X6_init : GoodIn wsX9_init wsX6_init := goodIn_r _ [110, 111, 2, 3, 56, 112, 113, 114, 170, 171, 172] (by decide +kernel) (by decide +kernel)
set_option maxRecDepth 20000 in
theorem gX9_init_X6_init : GoodIn wsX9_init (wsX6_init) := ggX9_init_X6_init
set_option maxRecDepth 20000 in
theorem ggX9_init_X1_init : GoodIn wsX9_init wsX1_init := goodIn_r _ [117, 118, 2, 3, 119, 120, 121, 173, 174, 175] (by decide +kernel) (by decide +kernel)
set_option maxRecDepth 20000 in
theorem gX9_init_X1_init : GoodIn wsX9_init (wsX1_init) := ggX9_init_X1_init
