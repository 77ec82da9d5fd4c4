theorem dX10_steps_0 : decode cX10_steps 0 = .ok (.aload_n 0, 1) := by decide +kernel
theorem dX10_steps_1 : decode cX10_steps 1 = .ok (.iconst 0, 1) := by decide +kernel
theorem dX10_steps_2 : decode cX10_steps 2 = .ok (.putfield 69, 3) := by decide +kernel
theorem dX10_steps_5 : decode cX10_steps 5 = .ok (.aload_n 0, 1) := by decide +kernel
theorem dX10_steps_6 : decode cX10_steps 6 = .ok (.iload_n 1, 1) := by decide +kernel
theorem dX10_steps_7 : decode cX10_steps 7 = .ok (.invokevirtual 161, 3) := by decide +kernel
theorem dX10_steps_10 : decode cX10_steps 10 = .ok (.ifCond .eq 11, 3) := by decide +kernel
theorem dX10_steps_13 : decode cX10_steps 13 = .ok (.aload_n 0, 1) := by decide +kernel
theorem dX10_steps_14 : decode cX10_steps 14 = .ok (.iload_n 2, 1) := by decide +kernel
theorem dX10_steps_15 : decode cX10_steps 15 = .ok (.invokevirtual 157, 3) := by decide +kernel
theorem dX10_steps_18 : decode cX10_steps 18 = .ok (.ifCond .ne 5, 3) := by decide +kernel
theorem dX10_steps_21 : decode cX10_steps 21 = .ok (.iconst (-1), 1) := by decide +kernel
theorem dX10_steps_22 : decode cX10_steps 22 = .ok (.ireturn, 1) := by decide +kernel
theorem dX10_steps_23 : decode cX10_steps 23 = .ok (.aload_n 0, 1) := by decide +kernel
theorem dX10_steps_24 : decode cX10_steps 24 = .ok (.getfield 31, 3) := by decide +kernel
theorem dX10_steps_27 : decode cX10_steps 27 = .ok (.iload_n 2, 1) := by decide +kernel
theorem dX10_steps_28 : decode cX10_steps 28 = .ok (.iaload, 1) := by decide +kernel
theorem dX10_steps_29 : decode cX10_steps 29 = .ok (.aload_n 0, 1) := by decide +kernel
theorem dX10_steps_30 : decode cX10_steps 30 = .ok (.getfield 22, 3) := by decide +kernel
theorem dX10_steps_33 : decode cX10_steps 33 = .ok (.iload_n 1, 1) := by decide +kernel
theorem dX10_steps_34 : decode cX10_steps 34 = .ok (.iaload, 1) := by decide +kernel
theorem dX10_steps_35 : decode cX10_steps 35 = .ok (.if_icmp .ge 6, 3) := by decide +kernel
theorem dX10_steps_38 : decode cX10_steps 38 = .ok (.bipush (-2), 2) := by decide +kernel
theorem dX10_steps_40 : decode cX10_steps 40 = .ok (.ireturn, 1) := by decide +kernel
theorem dX10_steps_41 : decode cX10_steps 41 = .ok (.aload_n 0, 1) := by decide +kernel
theorem dX10_steps_42 : decode cX10_steps 42 = .ok (.iload_n 1, 1) := by decide +kernel
theorem dX10_steps_43 : decode cX10_steps 43 = .ok (.iload_n 2, 1) := by decide +kernel
theorem dX10_steps_44 : decode cX10_steps 44 = .ok (.aload_n 0, 1) := by decide +kernel
theorem dX10_steps_45 : decode cX10_steps 45 = .ok (.getfield 22, 3) := by decide +kernel
theorem dX10_steps_48 : decode cX10_steps 48 = .ok (.iload_n 1, 1) := by decide +kernel
theorem dX10_steps_49 : decode cX10_steps 49 = .ok (.iaload, 1) := by decide +kernel
theorem dX10_steps_50 : decode cX10_steps 50 = .ok (.invokevirtual 181, 3) := by decide +kernel
theorem dX10_steps_53 : decode cX10_steps 53 = .ok (.pop, 1) := by decide +kernel
theorem dX10_steps_54 : decode cX10_steps 54 = .ok (.aload_n 0, 1) := by decide +kernel
theorem dX10_steps_55 : decode cX10_steps 55 = .ok (.getfield 31, 3) := by decide +kernel
theorem dX10_steps_58 : decode cX10_steps 58 = .ok (.iload_n 2, 1) := by decide +kernel
theorem dX10_steps_59 : decode cX10_steps 59 = .ok (.iaload, 1) := by decide +kernel
theorem dX10_steps_60 : decode cX10_steps 60 = .ok (.ireturn, 1) := by decide +kernel
set_option maxRecDepth 20000 in
theorem ggX10_days_X10_in : GoodIn wsX10_days wsX10_in := goodIn_r _ [7] (by decide +kernel) (by decide +kernel)
set_option maxRecDepth 20000 in
theorem gX10_days_X10_in : GoodIn wsX10_days (va_wsS RX10 72 yX10_in wsX10_in) := goodIn_app (goodIn_of _ (by decide +kernel)) ggX10_days_X10_in
set_option maxRecDepth 20000 in
theorem ggX10_days_X10_firstWay : GoodIn wsX10_days wsX10_firstWay := goodIn_r _ [11, 12, 13, 14, 15, 16, 17, 18, 19, 6, 20, 21, 22, 23, 24, 25, 26, 27, 28, 29, 30, 31, 32, 41, 42, 43, 44, 45, 46, 47, 48, 49, 50, 51, 52, 53, 54, 55, 56, 57, 58, 59, 60, 61, 62, 63, 64, 65, 66, 67, 68, 69, 70, 71, 72, 73, 74] (by decide +kernel) (by decide +kernel)
set_option maxRecDepth 20000 in
theorem gX10_days_X10_firstWay : GoodIn wsX10_days (wsV RX10 178 RX10 yX10_firstWay wsX10_firstWay) := goodIn_app (goodIn_of _ (by decide +kernel)) ggX10_days_X10_firstWay
set_option maxRecDepth 20000 in
theorem ggX10_days_X10_goesBy : GoodIn wsX10_days wsX10_goesBy := goodIn_r _ [36, 16, 27, 28, 29, 6, 30, 31, 32, 37, 38, 39, 40, 15, 41, 42, 43, 44, 45, 46, 47, 48, 49, 50, 51, 52, 53, 54, 55, 56, 57, 58, 59, 60, 61, 62, 63, 64, 65, 66, 67, 68, 69, 70, 71, 72, 73, 74] (by decide +kernel) (by decide +kernel)
set_option maxRecDepth 20000 in
theorem gX10_days_X10_goesBy : GoodIn wsX10_days (wsV RX10 184 RX10 yX10_goesBy wsX10_goesBy) := goodIn_app (goodIn_of _ (by decide +kernel)) ggX10_days_X10_goesBy
theorem dX10_days_0 : decode cX10_days 0 = .ok (.aload_n 0, 1) := by decide +kernel
theorem dX10_days_1 : decode cX10_days 1 = .ok (.iconst 0, 1) := by decide +kernel
theorem dX10_days_2 : decode cX10_days 2 = .ok (.putfield 69, 3) := by decide +kernel
theorem dX10_days_5 : decode cX10_days 5 = .ok (.iload_n 1, 1) := by decide +kernel
theorem dX10_days_6 : decode cX10_days 6 = .ok (.iconst 1, 1) := by decide +kernel
theorem dX10_days_7 : decode cX10_days 7 = .ok (.bipush 9, 2) := by decide +kernel
theorem dX10_days_9 : decode cX10_days 9 = .ok (.invokestatic 72, 3) := by decide +kernel
theorem dX10_days_12 : decode cX10_days 12 = .ok (.ifCond .ne 5, 3) := by decide +kernel
theorem dX10_days_15 : decode cX10_days 15 = .ok (.iconst (-1), 1) := by decide +kernel
theorem dX10_days_16 : decode cX10_days 16 = .ok (.ireturn, 1) := by decide +kernel
theorem dX10_days_17 : decode cX10_days 17 = .ok (.iconst 0, 1) := by decide +kernel
theorem dX10_days_18 : decode cX10_days 18 = .ok (.istore_n 2, 1) := by decide +kernel
theorem dX10_days_19 : decode cX10_days 19 = .ok (.iconst 0, 1) := by decide +kernel
theorem dX10_days_20 : decode cX10_days 20 = .ok (.istore_n 3, 1) := by decide +kernel
theorem dX10_days_21 : decode cX10_days 21 = .ok (.iload_n 3, 1) := by decide +kernel
theorem dX10_days_22 : decode cX10_days 22 = .ok (.iload_n 1, 1) := by decide +kernel
theorem dX10_days_23 : decode cX10_days 23 = .ok (.if_icmp .ge 93, 3) := by decide +kernel
theorem dX10_days_26 : decode cX10_days 26 = .ok (.iconst 0, 1) := by decide +kernel
theorem dX10_days_27 : decode cX10_days 27 = .ok (.istore 4, 2) := by decide +kernel
theorem dX10_days_29 : decode cX10_days 29 = .ok (.iload 4, 2) := by decide +kernel
theorem dX10_days_31 : decode cX10_days 31 = .ok (.aload_n 0, 1) := by decide +kernel
theorem dX10_days_32 : decode cX10_days 32 = .ok (.getfield 154, 3) := by decide +kernel
theorem dX10_days_35 : decode cX10_days 35 = .ok (.if_icmp .ge 75, 3) := by decide +kernel
theorem dX10_days_38 : decode cX10_days 38 = .ok (.aload_n 0, 1) := by decide +kernel
theorem dX10_days_39 : decode cX10_days 39 = .ok (.aload_n 0, 1) := by decide +kernel
theorem dX10_days_40 : decode cX10_days 40 = .ok (.getfield 28, 3) := by decide +kernel
theorem dX10_days_43 : decode cX10_days 43 = .ok (.iconst 3, 1) := by decide +kernel
theorem dX10_days_44 : decode cX10_days 44 = .ok (.iload 4, 2) := by decide +kernel
theorem dX10_days_46 : decode cX10_days 46 = .ok (.imul, 1) := by decide +kernel
theorem dX10_days_47 : decode cX10_days 47 = .ok (.iaload, 1) := by decide +kernel
theorem dX10_days_48 : decode cX10_days 48 = .ok (.aload_n 0, 1) := by decide +kernel
theorem dX10_days_49 : decode cX10_days 49 = .ok (.getfield 28, 3) := by decide +kernel
theorem dX10_days_52 : decode cX10_days 52 = .ok (.iconst 3, 1) := by decide +kernel
theorem dX10_days_53 : decode cX10_days 53 = .ok (.iload 4, 2) := by decide +kernel
theorem dX10_days_55 : decode cX10_days 55 = .ok (.imul, 1) := by decide +kernel
theorem dX10_days_56 : decode cX10_days 56 = .ok (.iconst 1, 1) := by decide +kernel
theorem dX10_days_57 : decode cX10_days 57 = .ok (.iadd, 1) := by decide +kernel
theorem dX10_days_58 : decode cX10_days 58 = .ok (.iaload, 1) := by decide +kernel
theorem dX10_days_59 : decode cX10_days 59 = .ok (.aload_n 0, 1) := by decide +kernel
theorem dX10_days_60 : decode cX10_days 60 = .ok (.getfield 28, 3) := by decide +kernel
theorem dX10_days_63 : decode cX10_days 63 = .ok (.iconst 3, 1) := by decide +kernel
theorem dX10_days_64 : decode cX10_days 64 = .ok (.iload 4, 2) := by decide +kernel
theorem dX10_days_66 : decode cX10_days 66 = .ok (.imul, 1) := by decide +kernel
theorem dX10_days_67 : decode cX10_days 67 = .ok (.iconst 2, 1) := by decide +kernel
theorem dX10_days_68 : decode cX10_days 68 = .ok (.iadd, 1) := by decide +kernel
theorem dX10_days_69 : decode cX10_days 69 = .ok (.iaload, 1) := by decide +kernel
theorem dX10_days_70 : decode cX10_days 70 = .ok (.invokevirtual 178, 3) := by decide +kernel
theorem dX10_days_73 : decode cX10_days 73 = .ok (.istore 5, 2) := by decide +kernel
theorem dX10_days_75 : decode cX10_days 75 = .ok (.iload 5, 2) := by decide +kernel
theorem dX10_days_77 : decode cX10_days 77 = .ok (.bipush (-9), 2) := by decide +kernel
theorem dX10_days_79 : decode cX10_days 79 = .ok (.if_icmp .ne 9, 3) := by decide +kernel
theorem dX10_days_82 : decode cX10_days 82 = .ok (.iinc 2 1, 3) := by decide +kernel
theorem dX10_days_85 : decode cX10_days 85 = .ok (.goto 19, 3) := by decide +kernel
theorem dX10_days_88 : decode cX10_days 88 = .ok (.aload_n 0, 1) := by decide +kernel
theorem dX10_days_89 : decode cX10_days 89 = .ok (.aload_n 0, 1) := by decide +kernel
theorem dX10_days_90 : decode cX10_days 90 = .ok (.getfield 28, 3) := by decide +kernel
theorem dX10_days_93 : decode cX10_days 93 = .ok (.iconst 3, 1) := by decide +kernel
theorem dX10_days_94 : decode cX10_days 94 = .ok (.iload 4, 2) := by decide +kernel
theorem dX10_days_96 : decode cX10_days 96 = .ok (.imul, 1) := by decide +kernel
theorem dX10_days_97 : decode cX10_days 97 = .ok (.iaload, 1) := by decide +kernel
theorem dX10_days_98 : decode cX10_days 98 = .ok (.iload 5, 2) := by decide +kernel
theorem dX10_days_100 : decode cX10_days 100 = .ok (.invokevirtual 184, 3) := by decide +kernel
theorem dX10_days_103 : decode cX10_days 103 = .ok (.pop, 1) := by decide +kernel
theorem dX10_days_104 : decode cX10_days 104 = .ok (.iinc 4 1, 3) := by decide +kernel
theorem dX10_days_107 : decode cX10_days 107 = .ok (.goto (-78), 3) := by decide +kernel
theorem dX10_days_110 : decode cX10_days 110 = .ok (.iinc 3 1, 3) := by decide +kernel
theorem dX10_days_113 : decode cX10_days 113 = .ok (.goto (-92), 3) := by decide +kernel
theorem dX10_days_116 : decode cX10_days 116 = .ok (.iload_n 2, 1) := by decide +kernel
theorem dX10_days_117 : decode cX10_days 117 = .ok (.ireturn, 1) := by decide +kernel
set_option maxRecDepth 20000 in
theorem ggX10_went_X10_in : GoodIn wsX10_went wsX10_in := goodIn_r _ [6] (by decide +kernel) (by decide +kernel)
set_option maxRecDepth 20000 in
theorem gX10_went_X10_in : GoodIn wsX10_went (va_wsS RX10 72 yX10_in wsX10_in) := goodIn_app (goodIn_of _ (by decide +kernel)) ggX10_went_X10_in
theorem dX10_went_0 : decode cX10_went 0 = .ok (.aload_n 0, 1) := by decide +kernel
theorem dX10_went_1 : decode cX10_went 1 = .ok (.iconst 0, 1) := by decide +kernel
theorem dX10_went_2 : decode cX10_went 2 = .ok (.putfield 69, 3) := by decide +kernel
theorem dX10_went_5 : decode cX10_went 5 = .ok (.iload_n 1, 1) := by decide +kernel
theorem dX10_went_6 : decode cX10_went 6 = .ok (.ifCond .lt 12, 3) := by decide +kernel
theorem dX10_went_9 : decode cX10_went 9 = .ok (.iload_n 2, 1) := by decide +kernel
theorem dX10_went_10 : decode cX10_went 10 = .ok (.iconst 0, 1) := by decide +kernel
theorem dX10_went_11 : decode cX10_went 11 = .ok (.iconst 1, 1) := by decide +kernel
theorem dX10_went_12 : decode cX10_went 12 = .ok (.invokestatic 72, 3) := by decide +kernel
theorem dX10_went_15 : decode cX10_went 15 = .ok (.ifCond .ne 5, 3) := by decide +kernel
theorem dX10_went_18 : decode cX10_went 18 = .ok (.iconst (-1), 1) := by decide +kernel
theorem dX10_went_19 : decode cX10_went 19 = .ok (.ireturn, 1) := by decide +kernel
theorem dX10_went_20 : decode cX10_went 20 = .ok (.iload_n 1, 1) := by decide +kernel
theorem dX10_went_21 : decode cX10_went 21 = .ok (.aload_n 0, 1) := by decide +kernel
theorem dX10_went_22 : decode cX10_went 22 = .ok (.getfield 31, 3) := by decide +kernel
theorem dX10_went_25 : decode cX10_went 25 = .ok (.bipush 9, 2) := by decide +kernel
theorem dX10_went_27 : decode cX10_went 27 = .ok (.iaload, 1) := by decide +kernel
theorem dX10_went_28 : decode cX10_went 28 = .ok (.if_icmp .ge 19, 3) := by decide +kernel
theorem dX10_went_31 : decode cX10_went 31 = .ok (.aload_n 0, 1) := by decide +kernel
theorem dX10_went_32 : decode cX10_went 32 = .ok (.getfield 31, 3) := by decide +kernel
theorem dX10_went_35 : decode cX10_went 35 = .ok (.bipush 10, 2) := by decide +kernel
theorem dX10_went_37 : decode cX10_went 37 = .ok (.iconst 2, 1) := by decide +kernel
theorem dX10_went_38 : decode cX10_went 38 = .ok (.iload_n 1, 1) := by decide +kernel
theorem dX10_went_39 : decode cX10_went 39 = .ok (.imul, 1) := by decide +kernel
theorem dX10_went_40 : decode cX10_went 40 = .ok (.iadd, 1) := by decide +kernel
theorem dX10_went_41 : decode cX10_went 41 = .ok (.iload_n 2, 1) := by decide +kernel
theorem dX10_went_42 : decode cX10_went 42 = .ok (.iadd, 1) := by decide +kernel
theorem dX10_went_43 : decode cX10_went 43 = .ok (.iaload, 1) := by decide +kernel
theorem dX10_went_44 : decode cX10_went 44 = .ok (.goto 5, 3) := by decide +kernel
theorem dX10_went_47 : decode cX10_went 47 = .ok (.bipush (-5), 2) := by decide +kernel
theorem dX10_went_49 : decode cX10_went 49 = .ok (.ireturn, 1) := by decide +kernel
set_option maxRecDepth 20000 in
theorem ggX10_frost_X10_in : GoodIn wsX10_frost wsX10_in := goodIn_r _ [7] (by decide +kernel) (by decide +kernel)
set_option maxRecDepth 20000 in
theorem gX10_frost_X10_in : GoodIn wsX10_frost (va_wsS RX10 72 yX10_in wsX10_in) := goodIn_app (goodIn_of _ (by decide +kernel)) ggX10_frost_X10_in
theorem dX10_frost_0 : decode cX10_frost 0 = .ok (.aload_n 0, 1) := by decide +kernel
theorem dX10_frost_1 : decode cX10_frost 1 = .ok (.iconst 0, 1) := by decide +kernel
theorem dX10_frost_2 : decode cX10_frost 2 = .ok (.putfield 69, 3) := by decide +kernel
theorem dX10_frost_5 : decode cX10_frost 5 = .ok (.iconst 0, 1) := by decide +kernel
theorem dX10_frost_6 : decode cX10_frost 6 = .ok (.istore_n 1, 1) := by decide +kernel
theorem dX10_frost_7 : decode cX10_frost 7 = .ok (.iconst 0, 1) := by decide +kernel
theorem dX10_frost_8 : decode cX10_frost 8 = .ok (.istore_n 2, 1) := by decide +kernel
theorem dX10_frost_9 : decode cX10_frost 9 = .ok (.iload_n 2, 1) := by decide +kernel
theorem dX10_frost_10 : decode cX10_frost 10 = .ok (.aload_n 0, 1) := by decide +kernel
theorem dX10_frost_11 : decode cX10_frost 11 = .ok (.getfield 148, 3) := by decide +kernel
theorem dX10_frost_14 : decode cX10_frost 14 = .ok (.if_icmp .ge 52, 3) := by decide +kernel
theorem dX10_frost_17 : decode cX10_frost 17 = .ok (.aload_n 0, 1) := by decide +kernel
theorem dX10_frost_18 : decode cX10_frost 18 = .ok (.getfield 31, 3) := by decide +kernel
theorem dX10_frost_21 : decode cX10_frost 21 = .ok (.iload_n 2, 1) := by decide +kernel
theorem dX10_frost_22 : decode cX10_frost 22 = .ok (.iaload, 1) := by decide +kernel
theorem dX10_frost_23 : decode cX10_frost 23 = .ok (.iconst 1, 1) := by decide +kernel
theorem dX10_frost_24 : decode cX10_frost 24 = .ok (.bipush 8, 2) := by decide +kernel
theorem dX10_frost_26 : decode cX10_frost 26 = .ok (.invokestatic 72, 3) := by decide +kernel
theorem dX10_frost_29 : decode cX10_frost 29 = .ok (.istore_n 3, 1) := by decide +kernel
theorem dX10_frost_30 : decode cX10_frost 30 = .ok (.aload_n 0, 1) := by decide +kernel
theorem dX10_frost_31 : decode cX10_frost 31 = .ok (.getfield 31, 3) := by decide +kernel
theorem dX10_frost_34 : decode cX10_frost 34 = .ok (.iload_n 2, 1) := by decide +kernel
theorem dX10_frost_35 : decode cX10_frost 35 = .ok (.dup2, 1) := by decide +kernel
theorem dX10_frost_36 : decode cX10_frost 36 = .ok (.iaload, 1) := by decide +kernel
theorem dX10_frost_37 : decode cX10_frost 37 = .ok (.iload_n 3, 1) := by decide +kernel
theorem dX10_frost_38 : decode cX10_frost 38 = .ok (.ifCond .eq 7, 3) := by decide +kernel
theorem dX10_frost_41 : decode cX10_frost 41 = .ok (.iconst 1, 1) := by decide +kernel
theorem dX10_frost_42 : decode cX10_frost 42 = .ok (.goto 4, 3) := by decide +kernel
theorem dX10_frost_45 : decode cX10_frost 45 = .ok (.iconst 0, 1) := by decide +kernel
theorem dX10_frost_46 : decode cX10_frost 46 = .ok (.iadd, 1) := by decide +kernel
theorem dX10_frost_47 : decode cX10_frost 47 = .ok (.iastore, 1) := by decide +kernel
theorem dX10_frost_48 : decode cX10_frost 48 = .ok (.iload_n 1, 1) := by decide +kernel
theorem dX10_frost_49 : decode cX10_frost 49 = .ok (.iload_n 3, 1) := by decide +kernel
theorem dX10_frost_50 : decode cX10_frost 50 = .ok (.ifCond .eq 7, 3) := by decide +kernel
theorem dX10_frost_53 : decode cX10_frost 53 = .ok (.iconst 1, 1) := by decide +kernel
theorem dX10_frost_54 : decode cX10_frost 54 = .ok (.goto 4, 3) := by decide +kernel
theorem dX10_frost_57 : decode cX10_frost 57 = .ok (.iconst 0, 1) := by decide +kernel
theorem dX10_frost_58 : decode cX10_frost 58 = .ok (.iadd, 1) := by decide +kernel
theorem dX10_frost_59 : decode cX10_frost 59 = .ok (.istore_n 1, 1) := by decide +kernel
theorem dX10_frost_60 : decode cX10_frost 60 = .ok (.iinc 2 1, 3) := by decide +kernel
theorem dX10_frost_63 : decode cX10_frost 63 = .ok (.goto (-54), 3) := by decide +kernel
theorem dX10_frost_66 : decode cX10_frost 66 = .ok (.iload_n 1, 1) := by decide +kernel
theorem dX10_frost_67 : decode cX10_frost 67 = .ok (.ireturn, 1) := by decide +kernel
set_option maxRecDepth 20000 in
theorem ggX10_cart_X10_isPlank : GoodIn wsX10_cart wsX10_isPlank := goodIn_r _ [7, 8, 9, 10, 6, 11, 12, 13, 14, 15, 16, 17, 18, 19, 20, 21, 22, 23, 24, 25, 26, 27, 28, 29, 30, 31, 32, 33, 34, 35, 36, 37, 38, 39, 40, 41, 42, 43, 44, 45] (by decide +kernel) (by decide +kernel)
set_option maxRecDepth 20000 in
theorem gX10_cart_X10_isPlank : GoodIn wsX10_cart (wsV RX10 157 RX10 yX10_isPlank wsX10_isPlank) := goodIn_app (goodIn_of _ (by decide +kernel)) ggX10_cart_X10_isPlank
theorem dX10_cart_0 : decode cX10_cart 0 = .ok (.aload_n 0, 1) := by decide +kernel
theorem dX10_cart_1 : decode cX10_cart 1 = .ok (.iconst 0, 1) := by decide +kernel
theorem dX10_cart_2 : decode cX10_cart 2 = .ok (.putfield 69, 3) := by decide +kernel
theorem dX10_cart_5 : decode cX10_cart 5 = .ok (.aload_n 0, 1) := by decide +kernel
theorem dX10_cart_6 : decode cX10_cart 6 = .ok (.iload_n 1, 1) := by decide +kernel
theorem dX10_cart_7 : decode cX10_cart 7 = .ok (.invokevirtual 157, 3) := by decide +kernel
theorem dX10_cart_10 : decode cX10_cart 10 = .ok (.ifCond .ne 5, 3) := by decide +kernel
theorem dX10_cart_13 : decode cX10_cart 13 = .ok (.iconst (-1), 1) := by decide +kernel
theorem dX10_cart_14 : decode cX10_cart 14 = .ok (.ireturn, 1) := by decide +kernel
theorem dX10_cart_15 : decode cX10_cart 15 = .ok (.aload_n 0, 1) := by decide +kernel
theorem dX10_cart_16 : decode cX10_cart 16 = .ok (.getfield 31, 3) := by decide +kernel
theorem dX10_cart_19 : decode cX10_cart 19 = .ok (.iload_n 1, 1) := by decide +kernel
theorem dX10_cart_20 : decode cX10_cart 20 = .ok (.iaload, 1) := by decide +kernel
theorem dX10_cart_21 : decode cX10_cart 21 = .ok (.istore_n 2, 1) := by decide +kernel
theorem dX10_cart_22 : decode cX10_cart 22 = .ok (.aload_n 0, 1) := by decide +kernel
theorem dX10_cart_23 : decode cX10_cart 23 = .ok (.getfield 31, 3) := by decide +kernel
theorem dX10_cart_26 : decode cX10_cart 26 = .ok (.iload_n 1, 1) := by decide +kernel
theorem dX10_cart_27 : decode cX10_cart 27 = .ok (.bipush 9, 2) := by decide +kernel
theorem dX10_cart_29 : decode cX10_cart 29 = .ok (.iastore, 1) := by decide +kernel
theorem dX10_cart_30 : decode cX10_cart 30 = .ok (.iload_n 2, 1) := by decide +kernel
theorem dX10_cart_31 : decode cX10_cart 31 = .ok (.ireturn, 1) := by decide +kernel
theorem dX10_changes_0 : decode cX10_changes 0 = .ok (.aload_n 0, 1) := by decide +kernel
theorem dX10_changes_1 : decode cX10_changes 1 = .ok (.getfield 31, 3) := by decide +kernel
theorem dX10_changes_4 : decode cX10_changes 4 = .ok (.iload_n 1, 1) := by decide +kernel
theorem dX10_changes_5 : decode cX10_changes 5 = .ok (.iaload, 1) := by decide +kernel
theorem dX10_changes_6 : decode cX10_changes 6 = .ok (.istore_n 3, 1) := by decide +kernel
theorem dX10_changes_7 : decode cX10_changes 7 = .ok (.aload_n 0, 1) := by decide +kernel
theorem dX10_changes_8 : decode cX10_changes 8 = .ok (.getfield 31, 3) := by decide +kernel
theorem dX10_changes_11 : decode cX10_changes 11 = .ok (.iload_n 1, 1) := by decide +kernel
theorem dX10_changes_12 : decode cX10_changes 12 = .ok (.aload_n 0, 1) := by decide +kernel
theorem dX10_changes_13 : decode cX10_changes 13 = .ok (.getfield 31, 3) := by decide +kernel
theorem dX10_changes_16 : decode cX10_changes 16 = .ok (.iload_n 2, 1) := by decide +kernel
theorem dX10_changes_17 : decode cX10_changes 17 = .ok (.iaload, 1) := by decide +kernel
theorem dX10_changes_18 : decode cX10_changes 18 = .ok (.iastore, 1) := by decide +kernel
theorem dX10_changes_19 : decode cX10_changes 19 = .ok (.aload_n 0, 1) := by decide +kernel
theorem dX10_changes_20 : decode cX10_changes 20 = .ok (.getfield 31, 3) := by decide +kernel
theorem dX10_changes_23 : decode cX10_changes 23 = .ok (.iload_n 2, 1) := by decide +kernel
theorem dX10_changes_24 : decode cX10_changes 24 = .ok (.iload_n 3, 1) := by decide +kernel
theorem dX10_changes_25 : decode cX10_changes 25 = .ok (.iastore, 1) := by decide +kernel
theorem dX10_changes_26 : decode cX10_changes 26 = .ok (.return_, 1) := by decide +kernel
set_option maxRecDepth 20000 in
theorem ggX10_exchange_X10_isPlank : GoodIn wsX10_exchange wsX10_isPlank := goodIn_r _ [6, 7, 8, 9, 5, 10, 16, 17, 18, 19, 20, 21, 22, 23, 24, 25, 26, 27, 28, 29, 30, 31, 32, 33, 34, 35, 36, 37, 38, 39, 40, 41, 42, 43, 44, 45, 46, 47, 48, 49] (by decide +kernel) (by decide +kernel)
set_option maxRecDepth 20000 in
theorem gX10_exchange_X10_isPlank : GoodIn wsX10_exchange (wsV RX10 157 RX10 yX10_isPlank wsX10_isPlank) := goodIn_app (goodIn_of _ (by decide +kernel)) ggX10_exchange_X10_isPlank
set_option maxRecDepth 20000 in
theorem ggX10_exchange_X10_changes : GoodIn wsX10_exchange wsX10_changes := goodIn_r _ [14, 15, 16, 17, 18, 19, 20, 21, 22, 23, 24, 25, 26, 27, 28, 29, 30, 31, 32, 33, 34, 35, 36, 37, 38, 39, 40, 41, 42, 43, 44, 45, 46, 47, 48, 49] (by decide +kernel) (by decide +kernel)
set_option maxRecDepth 20000 in
theorem gX10_exchange_X10_changes : GoodIn wsX10_exchange (wsV RX10 187 RX10 yX10_changes wsX10_changes) := goodIn_app (goodIn_of _ (by decide +kernel)) ggX10_exchange_X10_changes
theorem dX10_exchange_0 : decode cX10_exchange 0 = .ok (.aload_n 0, 1) := by decide +kernel
theorem dX10_exchange_1 : decode cX10_exchange 1 = .ok (.iconst 0, 1) := by decide +kernel
theorem dX10_exchange_2 : decode cX10_exchange 2 = .ok (.putfield 69, 3) := by decide +kernel
theorem dX10_exchange_5 : decode cX10_exchange 5 = .ok (.aload_n 0, 1) := by decide +kernel
theorem dX10_exchange_6 : decode cX10_exchange 6 = .ok (.iload_n 1, 1) := by decide +kernel
theorem dX10_exchange_7 : decode cX10_exchange 7 = .ok (.invokevirtual 157, 3) := by decide +kernel
theorem dX10_exchange_10 : decode cX10_exchange 10 = .ok (.ifCond .eq 16, 3) := by decide +kernel
theorem dX10_exchange_13 : decode cX10_exchange 13 = .ok (.aload_n 0, 1) := by decide +kernel
theorem dX10_exchange_14 : decode cX10_exchange 14 = .ok (.iload_n 2, 1) := by decide +kernel
theorem dX10_exchange_15 : decode cX10_exchange 15 = .ok (.invokevirtual 157, 3) := by decide +kernel
theorem dX10_exchange_18 : decode cX10_exchange 18 = .ok (.ifCond .eq 8, 3) := by decide +kernel
theorem dX10_exchange_21 : decode cX10_exchange 21 = .ok (.iload_n 1, 1) := by decide +kernel
theorem dX10_exchange_22 : decode cX10_exchange 22 = .ok (.iload_n 2, 1) := by decide +kernel
theorem dX10_exchange_23 : decode cX10_exchange 23 = .ok (.if_icmp .ne 5, 3) := by decide +kernel
theorem dX10_exchange_26 : decode cX10_exchange 26 = .ok (.iconst (-1), 1) := by decide +kernel
theorem dX10_exchange_27 : decode cX10_exchange 27 = .ok (.ireturn, 1) := by decide +kernel
theorem dX10_exchange_28 : decode cX10_exchange 28 = .ok (.aload_n 0, 1) := by decide +kernel
theorem dX10_exchange_29 : decode cX10_exchange 29 = .ok (.iload_n 1, 1) := by decide +kernel
theorem dX10_exchange_30 : decode cX10_exchange 30 = .ok (.iload_n 2, 1) := by decide +kernel
theorem dX10_exchange_31 : decode cX10_exchange 31 = .ok (.invokevirtual 187, 3) := by decide +kernel
theorem dX10_exchange_34 : decode cX10_exchange 34 = .ok (.iconst 1, 1) := by decide +kernel
theorem dX10_exchange_35 : decode cX10_exchange 35 = .ok (.ireturn, 1) := by decide +kernel
set_option maxRecDepth 20000 in
theorem ggX10_listsWays_X10_nextPlank : GoodIn wsX10_listsWays wsX10_nextPlank := goodIn_r _ [13, 4, 2, 14, 15, 16, 12, 17, 18, 19, 26, 27, 28, 29, 30, 31, 32, 33, 34, 35, 36, 37, 38, 39, 40, 41, 42, 43, 44, 45, 46, 47, 48, 49, 50, 51, 52, 53, 54, 55, 56, 57, 58, 59] (by decide +kernel) (by decide +kernel)
set_option maxRecDepth 20000 in
theorem gX10_listsWays_X10_nextPlank : GoodIn wsX10_listsWays (wsV RX10 167 RX10 yX10_nextPlank wsX10_nextPlank) := goodIn_app (goodIn_of _ (by decide +kernel)) ggX10_listsWays_X10_nextPlank
set_option maxRecDepth 20000 in
theorem ggX10_listsWays_X10_takenBy : GoodIn wsX10_listsWays wsX10_takenBy := goodIn_r _ [23, 24, 25, 26, 27, 28, 29, 30, 31, 32, 33, 34, 35, 36, 37, 38, 39, 40, 41, 42, 43, 44, 45, 46, 47, 48, 49, 50, 51, 52, 53, 54, 55, 56, 57, 58, 59] (by decide +kernel) (by decide +kernel)
set_option maxRecDepth 20000 in
theorem gX10_listsWays_X10_takenBy : GoodIn wsX10_listsWays (wsV RX10 171 RX10 yX10_takenBy wsX10_takenBy) := goodIn_app (goodIn_of _ (by decide +kernel)) ggX10_listsWays_X10_takenBy
set_option maxRecDepth 20000 in
theorem ggX10_listsWays_X10_across : GoodIn wsX10_listsWays wsX10_across := goodIn_r _ [17, 18, 19, 26, 27, 28, 29, 30, 31, 32, 33, 34, 35, 36, 37, 38, 39, 40, 41, 42, 43, 44, 45, 46, 47, 48, 49, 50, 51, 52, 53, 54, 55, 56, 57, 58, 59] (by decide +kernel) (by decide +kernel)
set_option maxRecDepth 20000 in
theorem gX10_listsWays_X10_across : GoodIn wsX10_listsWays (wsV RX10 164 RX10 yX10_across wsX10_across) := goodIn_app (goodIn_of _ (by decide +kernel)) ggX10_listsWays_X10_across
theorem dX10_listsWays_0 : decode cX10_listsWays 0 = .ok (.aload_n 0, 1) := by decide +kernel
theorem dX10_listsWays_1 : decode cX10_listsWays 1 = .ok (.getfield 28, 3) := by decide +kernel
theorem dX10_listsWays_4 : decode cX10_listsWays 4 = .ok (.iconst 3, 1) := by decide +kernel
theorem dX10_listsWays_5 : decode cX10_listsWays 5 = .ok (.iload_n 1, 1) := by decide +kernel
theorem dX10_listsWays_6 : decode cX10_listsWays 6 = .ok (.imul, 1) := by decide +kernel
theorem dX10_listsWays_7 : decode cX10_listsWays 7 = .ok (.iaload, 1) := by decide +kernel
theorem dX10_listsWays_8 : decode cX10_listsWays 8 = .ok (.istore_n 2, 1) := by decide +kernel
theorem dX10_listsWays_9 : decode cX10_listsWays 9 = .ok (.iconst 0, 1) := by decide +kernel
theorem dX10_listsWays_10 : decode cX10_listsWays 10 = .ok (.istore_n 3, 1) := by decide +kernel
theorem dX10_listsWays_11 : decode cX10_listsWays 11 = .ok (.iconst 0, 1) := by decide +kernel
theorem dX10_listsWays_12 : decode cX10_listsWays 12 = .ok (.istore 4, 2) := by decide +kernel
theorem dX10_listsWays_14 : decode cX10_listsWays 14 = .ok (.aload_n 0, 1) := by decide +kernel
theorem dX10_listsWays_15 : decode cX10_listsWays 15 = .ok (.getfield 44, 3) := by decide +kernel
theorem dX10_listsWays_18 : decode cX10_listsWays 18 = .ok (.iconst 0, 1) := by decide +kernel
theorem dX10_listsWays_19 : decode cX10_listsWays 19 = .ok (.aload_n 0, 1) := by decide +kernel
theorem dX10_listsWays_20 : decode cX10_listsWays 20 = .ok (.getfield 28, 3) := by decide +kernel
theorem dX10_listsWays_23 : decode cX10_listsWays 23 = .ok (.iconst 3, 1) := by decide +kernel
theorem dX10_listsWays_24 : decode cX10_listsWays 24 = .ok (.iload_n 1, 1) := by decide +kernel
theorem dX10_listsWays_25 : decode cX10_listsWays 25 = .ok (.imul, 1) := by decide +kernel
theorem dX10_listsWays_26 : decode cX10_listsWays 26 = .ok (.iconst 1, 1) := by decide +kernel
theorem dX10_listsWays_27 : decode cX10_listsWays 27 = .ok (.iadd, 1) := by decide +kernel
theorem dX10_listsWays_28 : decode cX10_listsWays 28 = .ok (.iaload, 1) := by decide +kernel
theorem dX10_listsWays_29 : decode cX10_listsWays 29 = .ok (.iastore, 1) := by decide +kernel
theorem dX10_listsWays_30 : decode cX10_listsWays 30 = .ok (.aload_n 0, 1) := by decide +kernel
theorem dX10_listsWays_31 : decode cX10_listsWays 31 = .ok (.getfield 41, 3) := by decide +kernel
theorem dX10_listsWays_34 : decode cX10_listsWays 34 = .ok (.iconst 0, 1) := by decide +kernel
theorem dX10_listsWays_35 : decode cX10_listsWays 35 = .ok (.iconst (-1), 1) := by decide +kernel
theorem dX10_listsWays_36 : decode cX10_listsWays 36 = .ok (.iastore, 1) := by decide +kernel
theorem dX10_listsWays_37 : decode cX10_listsWays 37 = .ok (.iload 4, 2) := by decide +kernel
theorem dX10_listsWays_39 : decode cX10_listsWays 39 = .ok (.ifCond .lt 237, 3) := by decide +kernel
theorem dX10_listsWays_42 : decode cX10_listsWays 42 = .ok (.aload_n 0, 1) := by decide +kernel
theorem dX10_listsWays_43 : decode cX10_listsWays 43 = .ok (.getfield 41, 3) := by decide +kernel
theorem dX10_listsWays_46 : decode cX10_listsWays 46 = .ok (.iload 4, 2) := by decide +kernel
theorem dX10_listsWays_48 : decode cX10_listsWays 48 = .ok (.aload_n 0, 1) := by decide +kernel
theorem dX10_listsWays_49 : decode cX10_listsWays 49 = .ok (.aload_n 0, 1) := by decide +kernel
theorem dX10_listsWays_50 : decode cX10_listsWays 50 = .ok (.getfield 44, 3) := by decide +kernel
theorem dX10_listsWays_53 : decode cX10_listsWays 53 = .ok (.iload 4, 2) := by decide +kernel
theorem dX10_listsWays_55 : decode cX10_listsWays 55 = .ok (.iaload, 1) := by decide +kernel
theorem dX10_listsWays_56 : decode cX10_listsWays 56 = .ok (.aload_n 0, 1) := by decide +kernel
theorem dX10_listsWays_57 : decode cX10_listsWays 57 = .ok (.getfield 41, 3) := by decide +kernel
theorem dX10_listsWays_60 : decode cX10_listsWays 60 = .ok (.iload 4, 2) := by decide +kernel
theorem dX10_listsWays_62 : decode cX10_listsWays 62 = .ok (.iaload, 1) := by decide +kernel
theorem dX10_listsWays_63 : decode cX10_listsWays 63 = .ok (.iload 4, 2) := by decide +kernel
theorem dX10_listsWays_65 : decode cX10_listsWays 65 = .ok (.invokevirtual 167, 3) := by decide +kernel
theorem dX10_listsWays_68 : decode cX10_listsWays 68 = .ok (.iastore, 1) := by decide +kernel
theorem dX10_listsWays_69 : decode cX10_listsWays 69 = .ok (.aload_n 0, 1) := by decide +kernel
theorem dX10_listsWays_70 : decode cX10_listsWays 70 = .ok (.getfield 41, 3) := by decide +kernel
theorem dX10_listsWays_73 : decode cX10_listsWays 73 = .ok (.iload 4, 2) := by decide +kernel
theorem dX10_listsWays_75 : decode cX10_listsWays 75 = .ok (.iaload, 1) := by decide +kernel
theorem dX10_listsWays_76 : decode cX10_listsWays 76 = .ok (.istore 5, 2) := by decide +kernel
theorem dX10_listsWays_78 : decode cX10_listsWays 78 = .ok (.iload 5, 2) := by decide +kernel
theorem dX10_listsWays_80 : decode cX10_listsWays 80 = .ok (.aload_n 0, 1) := by decide +kernel
theorem dX10_listsWays_81 : decode cX10_listsWays 81 = .ok (.getfield 148, 3) := by decide +kernel
theorem dX10_listsWays_84 : decode cX10_listsWays 84 = .ok (.if_icmp .ne 9, 3) := by decide +kernel
theorem dX10_listsWays_87 : decode cX10_listsWays 87 = .ok (.iinc 4 (-1), 3) := by decide +kernel
theorem dX10_listsWays_90 : decode cX10_listsWays 90 = .ok (.goto 183, 3) := by decide +kernel
theorem dX10_listsWays_93 : decode cX10_listsWays 93 = .ok (.aload_n 0, 1) := by decide +kernel
theorem dX10_listsWays_94 : decode cX10_listsWays 94 = .ok (.getfield 31, 3) := by decide +kernel
theorem dX10_listsWays_97 : decode cX10_listsWays 97 = .ok (.iload 5, 2) := by decide +kernel
theorem dX10_listsWays_99 : decode cX10_listsWays 99 = .ok (.iaload, 1) := by decide +kernel
theorem dX10_listsWays_100 : decode cX10_listsWays 100 = .ok (.ifCond .le 173, 3) := by decide +kernel
theorem dX10_listsWays_103 : decode cX10_listsWays 103 = .ok (.aload_n 0, 1) := by decide +kernel
theorem dX10_listsWays_104 : decode cX10_listsWays 104 = .ok (.getfield 31, 3) := by decide +kernel
theorem dX10_listsWays_107 : decode cX10_listsWays 107 = .ok (.iload 5, 2) := by decide +kernel
theorem dX10_listsWays_109 : decode cX10_listsWays 109 = .ok (.iaload, 1) := by decide +kernel
theorem dX10_listsWays_110 : decode cX10_listsWays 110 = .ok (.aload_n 0, 1) := by decide +kernel
theorem dX10_listsWays_111 : decode cX10_listsWays 111 = .ok (.iload_n 2, 1) := by decide +kernel
theorem dX10_listsWays_112 : decode cX10_listsWays 112 = .ok (.iload 4, 2) := by decide +kernel
theorem dX10_listsWays_114 : decode cX10_listsWays 114 = .ok (.invokevirtual 171, 3) := by decide +kernel
theorem dX10_listsWays_117 : decode cX10_listsWays 117 = .ok (.if_icmp .lt 156, 3) := by decide +kernel
theorem dX10_listsWays_120 : decode cX10_listsWays 120 = .ok (.aload_n 0, 1) := by decide +kernel
theorem dX10_listsWays_121 : decode cX10_listsWays 121 = .ok (.getfield 44, 3) := by decide +kernel
theorem dX10_listsWays_124 : decode cX10_listsWays 124 = .ok (.iload 4, 2) := by decide +kernel
theorem dX10_listsWays_126 : decode cX10_listsWays 126 = .ok (.iconst 1, 1) := by decide +kernel
theorem dX10_listsWays_127 : decode cX10_listsWays 127 = .ok (.iadd, 1) := by decide +kernel
theorem dX10_listsWays_128 : decode cX10_listsWays 128 = .ok (.aload_n 0, 1) := by decide +kernel
theorem dX10_listsWays_129 : decode cX10_listsWays 129 = .ok (.iload 5, 2) := by decide +kernel
theorem dX10_listsWays_131 : decode cX10_listsWays 131 = .ok (.aload_n 0, 1) := by decide +kernel
theorem dX10_listsWays_132 : decode cX10_listsWays 132 = .ok (.getfield 44, 3) := by decide +kernel
theorem dX10_listsWays_135 : decode cX10_listsWays 135 = .ok (.iload 4, 2) := by decide +kernel
theorem dX10_listsWays_137 : decode cX10_listsWays 137 = .ok (.iaload, 1) := by decide +kernel
theorem dX10_listsWays_138 : decode cX10_listsWays 138 = .ok (.invokevirtual 164, 3) := by decide +kernel
theorem dX10_listsWays_141 : decode cX10_listsWays 141 = .ok (.iastore, 1) := by decide +kernel
theorem dX10_listsWays_142 : decode cX10_listsWays 142 = .ok (.aload_n 0, 1) := by decide +kernel
theorem dX10_listsWays_143 : decode cX10_listsWays 143 = .ok (.getfield 44, 3) := by decide +kernel
theorem dX10_listsWays_146 : decode cX10_listsWays 146 = .ok (.iload 4, 2) := by decide +kernel
theorem dX10_listsWays_148 : decode cX10_listsWays 148 = .ok (.iconst 1, 1) := by decide +kernel
theorem dX10_listsWays_149 : decode cX10_listsWays 149 = .ok (.iadd, 1) := by decide +kernel
theorem dX10_listsWays_150 : decode cX10_listsWays 150 = .ok (.iaload, 1) := by decide +kernel
theorem dX10_listsWays_151 : decode cX10_listsWays 151 = .ok (.aload_n 0, 1) := by decide +kernel
theorem dX10_listsWays_152 : decode cX10_listsWays 152 = .ok (.getfield 28, 3) := by decide +kernel
theorem dX10_listsWays_155 : decode cX10_listsWays 155 = .ok (.iconst 3, 1) := by decide +kernel
theorem dX10_listsWays_156 : decode cX10_listsWays 156 = .ok (.iload_n 1, 1) := by decide +kernel
theorem dX10_listsWays_157 : decode cX10_listsWays 157 = .ok (.imul, 1) := by decide +kernel
theorem dX10_listsWays_158 : decode cX10_listsWays 158 = .ok (.iconst 2, 1) := by decide +kernel
theorem dX10_listsWays_159 : decode cX10_listsWays 159 = .ok (.iadd, 1) := by decide +kernel
theorem dX10_listsWays_160 : decode cX10_listsWays 160 = .ok (.iaload, 1) := by decide +kernel
theorem dX10_listsWays_161 : decode cX10_listsWays 161 = .ok (.if_icmp .ne 101, 3) := by decide +kernel
theorem dX10_listsWays_164 : decode cX10_listsWays 164 = .ok (.iconst 0, 1) := by decide +kernel
theorem dX10_listsWays_165 : decode cX10_listsWays 165 = .ok (.istore 6, 2) := by decide +kernel
theorem dX10_listsWays_167 : decode cX10_listsWays 167 = .ok (.iconst 0, 1) := by decide +kernel
theorem dX10_listsWays_168 : decode cX10_listsWays 168 = .ok (.istore 7, 2) := by decide +kernel
theorem dX10_listsWays_170 : decode cX10_listsWays 170 = .ok (.iconst 0, 1) := by decide +kernel
theorem dX10_listsWays_171 : decode cX10_listsWays 171 = .ok (.istore 8, 2) := by decide +kernel
theorem dX10_listsWays_173 : decode cX10_listsWays 173 = .ok (.iload 8, 2) := by decide +kernel
theorem dX10_listsWays_175 : decode cX10_listsWays 175 = .ok (.iload 4, 2) := by decide +kernel
theorem dX10_listsWays_177 : decode cX10_listsWays 177 = .ok (.if_icmp .gt 51, 3) := by decide +kernel
theorem dX10_listsWays_180 : decode cX10_listsWays 180 = .ok (.iload 6, 2) := by decide +kernel
theorem dX10_listsWays_182 : decode cX10_listsWays 182 = .ok (.iconst 1, 1) := by decide +kernel
theorem dX10_listsWays_183 : decode cX10_listsWays 183 = .ok (.aload_n 0, 1) := by decide +kernel
theorem dX10_listsWays_184 : decode cX10_listsWays 184 = .ok (.getfield 41, 3) := by decide +kernel
theorem dX10_listsWays_187 : decode cX10_listsWays 187 = .ok (.iload 8, 2) := by decide +kernel
theorem dX10_listsWays_189 : decode cX10_listsWays 189 = .ok (.iaload, 1) := by decide +kernel
theorem dX10_listsWays_190 : decode cX10_listsWays 190 = .ok (.ishl, 1) := by decide +kernel
theorem dX10_listsWays_191 : decode cX10_listsWays 191 = .ok (.ior, 1) := by decide +kernel
theorem dX10_listsWays_192 : decode cX10_listsWays 192 = .ok (.istore 6, 2) := by decide +kernel
theorem dX10_listsWays_194 : decode cX10_listsWays 194 = .ok (.iload 7, 2) := by decide +kernel
theorem dX10_listsWays_196 : decode cX10_listsWays 196 = .ok (.aload_n 0, 1) := by decide +kernel
theorem dX10_listsWays_197 : decode cX10_listsWays 197 = .ok (.iload_n 2, 1) := by decide +kernel
theorem dX10_listsWays_198 : decode cX10_listsWays 198 = .ok (.iload 8, 2) := by decide +kernel
theorem dX10_listsWays_200 : decode cX10_listsWays 200 = .ok (.invokevirtual 171, 3) := by decide +kernel
theorem dX10_listsWays_203 : decode cX10_listsWays 203 = .ok (.ifCond .le 15, 3) := by decide +kernel
theorem dX10_listsWays_206 : decode cX10_listsWays 206 = .ok (.iconst 1, 1) := by decide +kernel
theorem dX10_listsWays_207 : decode cX10_listsWays 207 = .ok (.aload_n 0, 1) := by decide +kernel
theorem dX10_listsWays_208 : decode cX10_listsWays 208 = .ok (.getfield 41, 3) := by decide +kernel
theorem dX10_listsWays_211 : decode cX10_listsWays 211 = .ok (.iload 8, 2) := by decide +kernel
theorem dX10_listsWays_213 : decode cX10_listsWays 213 = .ok (.iaload, 1) := by decide +kernel
theorem dX10_listsWays_214 : decode cX10_listsWays 214 = .ok (.ishl, 1) := by decide +kernel
theorem dX10_listsWays_215 : decode cX10_listsWays 215 = .ok (.goto 4, 3) := by decide +kernel
theorem dX10_listsWays_218 : decode cX10_listsWays 218 = .ok (.iconst 0, 1) := by decide +kernel
theorem dX10_listsWays_219 : decode cX10_listsWays 219 = .ok (.ior, 1) := by decide +kernel
theorem dX10_listsWays_220 : decode cX10_listsWays 220 = .ok (.istore 7, 2) := by decide +kernel
theorem dX10_listsWays_222 : decode cX10_listsWays 222 = .ok (.iinc 8 1, 3) := by decide +kernel
theorem dX10_listsWays_225 : decode cX10_listsWays 225 = .ok (.goto (-52), 3) := by decide +kernel
theorem dX10_listsWays_228 : decode cX10_listsWays 228 = .ok (.aload_n 0, 1) := by decide +kernel
theorem dX10_listsWays_229 : decode cX10_listsWays 229 = .ok (.getfield 50, 3) := by decide +kernel
theorem dX10_listsWays_232 : decode cX10_listsWays 232 = .ok (.sipush 1000, 3) := by decide +kernel
theorem dX10_listsWays_235 : decode cX10_listsWays 235 = .ok (.iload_n 1, 1) := by decide +kernel
theorem dX10_listsWays_236 : decode cX10_listsWays 236 = .ok (.imul, 1) := by decide +kernel
theorem dX10_listsWays_237 : decode cX10_listsWays 237 = .ok (.iload_n 3, 1) := by decide +kernel
theorem dX10_listsWays_238 : decode cX10_listsWays 238 = .ok (.iadd, 1) := by decide +kernel
theorem dX10_listsWays_239 : decode cX10_listsWays 239 = .ok (.iload 6, 2) := by decide +kernel
theorem dX10_listsWays_241 : decode cX10_listsWays 241 = .ok (.iastore, 1) := by decide +kernel
theorem dX10_listsWays_242 : decode cX10_listsWays 242 = .ok (.aload_n 0, 1) := by decide +kernel
theorem dX10_listsWays_243 : decode cX10_listsWays 243 = .ok (.getfield 53, 3) := by decide +kernel
theorem dX10_listsWays_246 : decode cX10_listsWays 246 = .ok (.sipush 1000, 3) := by decide +kernel
theorem dX10_listsWays_249 : decode cX10_listsWays 249 = .ok (.iload_n 1, 1) := by decide +kernel
theorem dX10_listsWays_250 : decode cX10_listsWays 250 = .ok (.imul, 1) := by decide +kernel
theorem dX10_listsWays_251 : decode cX10_listsWays 251 = .ok (.iload_n 3, 1) := by decide +kernel
theorem dX10_listsWays_252 : decode cX10_listsWays 252 = .ok (.iadd, 1) := by decide +kernel
theorem dX10_listsWays_253 : decode cX10_listsWays 253 = .ok (.iload 7, 2) := by decide +kernel
theorem dX10_listsWays_255 : decode cX10_listsWays 255 = .ok (.iastore, 1) := by decide +kernel
theorem dX10_listsWays_256 : decode cX10_listsWays 256 = .ok (.iinc 3 1, 3) := by decide +kernel
theorem dX10_listsWays_259 : decode cX10_listsWays 259 = .ok (.goto 14, 3) := by decide +kernel
theorem dX10_listsWays_262 : decode cX10_listsWays 262 = .ok (.iinc 4 1, 3) := by decide +kernel
theorem dX10_listsWays_265 : decode cX10_listsWays 265 = .ok (.aload_n 0, 1) := by decide +kernel
theorem dX10_listsWays_266 : decode cX10_listsWays 266 = .ok (.getfield 41, 3) := by decide +kernel
theorem dX10_listsWays_269 : decode cX10_listsWays 269 = .ok (.iload 4, 2) := by decide +kernel
theorem dX10_listsWays_271 : decode cX10_listsWays 271 = .ok (.iconst (-1), 1) := by decide +kernel
theorem dX10_listsWays_272 : decode cX10_listsWays 272 = .ok (.iastore, 1) := by decide +kernel
theorem dX10_listsWays_273 : decode cX10_listsWays 273 = .ok (.goto (-236), 3) := by decide +kernel
theorem dX10_listsWays_276 : decode cX10_listsWays 276 = .ok (.aload_n 0, 1) := by decide +kernel
theorem dX10_listsWays_277 : decode cX10_listsWays 277 = .ok (.getfield 56, 3) := by decide +kernel
theorem dX10_listsWays_280 : decode cX10_listsWays 280 = .ok (.iload_n 1, 1) := by decide +kernel
theorem dX10_listsWays_281 : decode cX10_listsWays 281 = .ok (.iload_n 3, 1) := by decide +kernel
theorem dX10_listsWays_282 : decode cX10_listsWays 282 = .ok (.iastore, 1) := by decide +kernel
theorem dX10_listsWays_283 : decode cX10_listsWays 283 = .ok (.return_, 1) := by decide +kernel
theorem dX10_isBorne_0 : decode cX10_isBorne 0 = .ok (.iconst 1, 1) := by decide +kernel
theorem dX10_isBorne_1 : decode cX10_isBorne 1 = .ok (.istore_n 3, 1) := by decide +kernel
theorem dX10_isBorne_2 : decode cX10_isBorne 2 = .ok (.aload_n 0, 1) := by decide +kernel
theorem dX10_isBorne_3 : decode cX10_isBorne 3 = .ok (.getfield 22, 3) := by decide +kernel
theorem dX10_isBorne_6 : decode cX10_isBorne 6 = .ok (.aload_n 0, 1) := by decide +kernel
theorem dX10_isBorne_7 : decode cX10_isBorne 7 = .ok (.getfield 28, 3) := by decide +kernel
theorem dX10_isBorne_10 : decode cX10_isBorne 10 = .ok (.iconst 3, 1) := by decide +kernel
theorem dX10_isBorne_11 : decode cX10_isBorne 11 = .ok (.iload_n 1, 1) := by decide +kernel
theorem dX10_isBorne_12 : decode cX10_isBorne 12 = .ok (.imul, 1) := by decide +kernel
theorem dX10_isBorne_13 : decode cX10_isBorne 13 = .ok (.iaload, 1) := by decide +kernel
theorem dX10_isBorne_14 : decode cX10_isBorne 14 = .ok (.iaload, 1) := by decide +kernel
theorem dX10_isBorne_15 : decode cX10_isBorne 15 = .ok (.istore 4, 2) := by decide +kernel
theorem dX10_isBorne_17 : decode cX10_isBorne 17 = .ok (.iconst 0, 1) := by decide +kernel
theorem dX10_isBorne_18 : decode cX10_isBorne 18 = .ok (.istore 5, 2) := by decide +kernel
theorem dX10_isBorne_20 : decode cX10_isBorne 20 = .ok (.iload 5, 2) := by decide +kernel
theorem dX10_isBorne_22 : decode cX10_isBorne 22 = .ok (.aload_n 0, 1) := by decide +kernel
theorem dX10_isBorne_23 : decode cX10_isBorne 23 = .ok (.getfield 148, 3) := by decide +kernel
theorem dX10_isBorne_26 : decode cX10_isBorne 26 = .ok (.if_icmp .ge 107, 3) := by decide +kernel
theorem dX10_isBorne_29 : decode cX10_isBorne 29 = .ok (.aload_n 0, 1) := by decide +kernel
theorem dX10_isBorne_30 : decode cX10_isBorne 30 = .ok (.getfield 50, 3) := by decide +kernel
theorem dX10_isBorne_33 : decode cX10_isBorne 33 = .ok (.sipush 1000, 3) := by decide +kernel
theorem dX10_isBorne_36 : decode cX10_isBorne 36 = .ok (.iload_n 1, 1) := by decide +kernel
theorem dX10_isBorne_37 : decode cX10_isBorne 37 = .ok (.imul, 1) := by decide +kernel
theorem dX10_isBorne_38 : decode cX10_isBorne 38 = .ok (.iload_n 2, 1) := by decide +kernel
theorem dX10_isBorne_39 : decode cX10_isBorne 39 = .ok (.iadd, 1) := by decide +kernel
theorem dX10_isBorne_40 : decode cX10_isBorne 40 = .ok (.iaload, 1) := by decide +kernel
theorem dX10_isBorne_41 : decode cX10_isBorne 41 = .ok (.iload 5, 2) := by decide +kernel
theorem dX10_isBorne_43 : decode cX10_isBorne 43 = .ok (.ishr, 1) := by decide +kernel
theorem dX10_isBorne_44 : decode cX10_isBorne 44 = .ok (.iconst 1, 1) := by decide +kernel
theorem dX10_isBorne_45 : decode cX10_isBorne 45 = .ok (.iand, 1) := by decide +kernel
theorem dX10_isBorne_46 : decode cX10_isBorne 46 = .ok (.iconst 1, 1) := by decide +kernel
theorem dX10_isBorne_47 : decode cX10_isBorne 47 = .ok (.if_icmp .ne 80, 3) := by decide +kernel
theorem dX10_isBorne_50 : decode cX10_isBorne 50 = .ok (.aload_n 0, 1) := by decide +kernel
theorem dX10_isBorne_51 : decode cX10_isBorne 51 = .ok (.getfield 53, 3) := by decide +kernel
theorem dX10_isBorne_54 : decode cX10_isBorne 54 = .ok (.sipush 1000, 3) := by decide +kernel
theorem dX10_isBorne_57 : decode cX10_isBorne 57 = .ok (.iload_n 1, 1) := by decide +kernel
theorem dX10_isBorne_58 : decode cX10_isBorne 58 = .ok (.imul, 1) := by decide +kernel
theorem dX10_isBorne_59 : decode cX10_isBorne 59 = .ok (.iload_n 2, 1) := by decide +kernel
theorem dX10_isBorne_60 : decode cX10_isBorne 60 = .ok (.iadd, 1) := by decide +kernel
theorem dX10_isBorne_61 : decode cX10_isBorne 61 = .ok (.iaload, 1) := by decide +kernel
theorem dX10_isBorne_62 : decode cX10_isBorne 62 = .ok (.iload 5, 2) := by decide +kernel
theorem dX10_isBorne_64 : decode cX10_isBorne 64 = .ok (.ishr, 1) := by decide +kernel
theorem dX10_isBorne_65 : decode cX10_isBorne 65 = .ok (.iconst 1, 1) := by decide +kernel
theorem dX10_isBorne_66 : decode cX10_isBorne 66 = .ok (.iand, 1) := by decide +kernel
theorem dX10_isBorne_67 : decode cX10_isBorne 67 = .ok (.iconst 1, 1) := by decide +kernel
theorem dX10_isBorne_68 : decode cX10_isBorne 68 = .ok (.if_icmp .ne 8, 3) := by decide +kernel
theorem dX10_isBorne_71 : decode cX10_isBorne 71 = .ok (.iload 4, 2) := by decide +kernel
theorem dX10_isBorne_73 : decode cX10_isBorne 73 = .ok (.goto 4, 3) := by decide +kernel
theorem dX10_isBorne_76 : decode cX10_isBorne 76 = .ok (.iconst 0, 1) := by decide +kernel
theorem dX10_isBorne_77 : decode cX10_isBorne 77 = .ok (.istore 6, 2) := by decide +kernel
theorem dX10_isBorne_79 : decode cX10_isBorne 79 = .ok (.iload_n 3, 1) := by decide +kernel
theorem dX10_isBorne_80 : decode cX10_isBorne 80 = .ok (.ifCond .eq 45, 3) := by decide +kernel
theorem dX10_isBorne_83 : decode cX10_isBorne 83 = .ok (.aload_n 0, 1) := by decide +kernel
theorem dX10_isBorne_84 : decode cX10_isBorne 84 = .ok (.getfield 31, 3) := by decide +kernel
theorem dX10_isBorne_87 : decode cX10_isBorne 87 = .ok (.iload 5, 2) := by decide +kernel
theorem dX10_isBorne_89 : decode cX10_isBorne 89 = .ok (.iaload, 1) := by decide +kernel
theorem dX10_isBorne_90 : decode cX10_isBorne 90 = .ok (.aload_n 0, 1) := by decide +kernel
theorem dX10_isBorne_91 : decode cX10_isBorne 91 = .ok (.getfield 59, 3) := by decide +kernel
theorem dX10_isBorne_94 : decode cX10_isBorne 94 = .ok (.iload 5, 2) := by decide +kernel
theorem dX10_isBorne_96 : decode cX10_isBorne 96 = .ok (.iaload, 1) := by decide +kernel
theorem dX10_isBorne_97 : decode cX10_isBorne 97 = .ok (.isub, 1) := by decide +kernel
theorem dX10_isBorne_98 : decode cX10_isBorne 98 = .ok (.ifCond .le 27, 3) := by decide +kernel
theorem dX10_isBorne_101 : decode cX10_isBorne 101 = .ok (.aload_n 0, 1) := by decide +kernel
theorem dX10_isBorne_102 : decode cX10_isBorne 102 = .ok (.getfield 31, 3) := by decide +kernel
theorem dX10_isBorne_105 : decode cX10_isBorne 105 = .ok (.iload 5, 2) := by decide +kernel
theorem dX10_isBorne_107 : decode cX10_isBorne 107 = .ok (.iaload, 1) := by decide +kernel
theorem dX10_isBorne_108 : decode cX10_isBorne 108 = .ok (.aload_n 0, 1) := by decide +kernel
theorem dX10_isBorne_109 : decode cX10_isBorne 109 = .ok (.getfield 59, 3) := by decide +kernel
theorem dX10_isBorne_112 : decode cX10_isBorne 112 = .ok (.iload 5, 2) := by decide +kernel
theorem dX10_isBorne_114 : decode cX10_isBorne 114 = .ok (.iaload, 1) := by decide +kernel
theorem dX10_isBorne_115 : decode cX10_isBorne 115 = .ok (.isub, 1) := by decide +kernel
theorem dX10_isBorne_116 : decode cX10_isBorne 116 = .ok (.iload 6, 2) := by decide +kernel
theorem dX10_isBorne_118 : decode cX10_isBorne 118 = .ok (.if_icmp .lt 7, 3) := by decide +kernel
theorem dX10_isBorne_121 : decode cX10_isBorne 121 = .ok (.iconst 1, 1) := by decide +kernel
theorem dX10_isBorne_122 : decode cX10_isBorne 122 = .ok (.goto 4, 3) := by decide +kernel
theorem dX10_isBorne_125 : decode cX10_isBorne 125 = .ok (.iconst 0, 1) := by decide +kernel
theorem dX10_isBorne_126 : decode cX10_isBorne 126 = .ok (.istore_n 3, 1) := by decide +kernel
theorem dX10_isBorne_127 : decode cX10_isBorne 127 = .ok (.iinc 5 1, 3) := by decide +kernel
theorem dX10_isBorne_130 : decode cX10_isBorne 130 = .ok (.goto (-110), 3) := by decide +kernel
theorem dX10_isBorne_133 : decode cX10_isBorne 133 = .ok (.iload_n 3, 1) := by decide +kernel
theorem dX10_isBorne_134 : decode cX10_isBorne 134 = .ok (.ireturn, 1) := by decide +kernel
theorem dX10_loads_0 : decode cX10_loads 0 = .ok (.iconst 0, 1) := by decide +kernel
theorem dX10_loads_1 : decode cX10_loads 1 = .ok (.istore 4, 2) := by decide +kernel
theorem dX10_loads_3 : decode cX10_loads 3 = .ok (.iload 4, 2) := by decide +kernel
theorem dX10_loads_5 : decode cX10_loads 5 = .ok (.aload_n 0, 1) := by decide +kernel
theorem dX10_loads_6 : decode cX10_loads 6 = .ok (.getfield 148, 3) := by decide +kernel
theorem dX10_loads_9 : decode cX10_loads 9 = .ok (.if_icmp .ge 59, 3) := by decide +kernel
theorem dX10_loads_12 : decode cX10_loads 12 = .ok (.aload_n 0, 1) := by decide +kernel
theorem dX10_loads_13 : decode cX10_loads 13 = .ok (.getfield 59, 3) := by decide +kernel
theorem dX10_loads_16 : decode cX10_loads 16 = .ok (.iload 4, 2) := by decide +kernel
theorem dX10_loads_18 : decode cX10_loads 18 = .ok (.dup2, 1) := by decide +kernel
theorem dX10_loads_19 : decode cX10_loads 19 = .ok (.iaload, 1) := by decide +kernel
theorem dX10_loads_20 : decode cX10_loads 20 = .ok (.aload_n 0, 1) := by decide +kernel
theorem dX10_loads_21 : decode cX10_loads 21 = .ok (.getfield 53, 3) := by decide +kernel
theorem dX10_loads_24 : decode cX10_loads 24 = .ok (.sipush 1000, 3) := by decide +kernel
theorem dX10_loads_27 : decode cX10_loads 27 = .ok (.iload_n 1, 1) := by decide +kernel
theorem dX10_loads_28 : decode cX10_loads 28 = .ok (.imul, 1) := by decide +kernel
theorem dX10_loads_29 : decode cX10_loads 29 = .ok (.iload_n 2, 1) := by decide +kernel
theorem dX10_loads_30 : decode cX10_loads 30 = .ok (.iadd, 1) := by decide +kernel
theorem dX10_loads_31 : decode cX10_loads 31 = .ok (.iaload, 1) := by decide +kernel
theorem dX10_loads_32 : decode cX10_loads 32 = .ok (.iload 4, 2) := by decide +kernel
theorem dX10_loads_34 : decode cX10_loads 34 = .ok (.ishr, 1) := by decide +kernel
theorem dX10_loads_35 : decode cX10_loads 35 = .ok (.iconst 1, 1) := by decide +kernel
theorem dX10_loads_36 : decode cX10_loads 36 = .ok (.iand, 1) := by decide +kernel
theorem dX10_loads_37 : decode cX10_loads 37 = .ok (.iconst 1, 1) := by decide +kernel
theorem dX10_loads_38 : decode cX10_loads 38 = .ok (.if_icmp .ne 21, 3) := by decide +kernel
theorem dX10_loads_41 : decode cX10_loads 41 = .ok (.iload_n 3, 1) := by decide +kernel
theorem dX10_loads_42 : decode cX10_loads 42 = .ok (.aload_n 0, 1) := by decide +kernel
theorem dX10_loads_43 : decode cX10_loads 43 = .ok (.getfield 22, 3) := by decide +kernel
theorem dX10_loads_46 : decode cX10_loads 46 = .ok (.aload_n 0, 1) := by decide +kernel
theorem dX10_loads_47 : decode cX10_loads 47 = .ok (.getfield 28, 3) := by decide +kernel
theorem dX10_loads_50 : decode cX10_loads 50 = .ok (.iconst 3, 1) := by decide +kernel
theorem dX10_loads_51 : decode cX10_loads 51 = .ok (.iload_n 1, 1) := by decide +kernel
theorem dX10_loads_52 : decode cX10_loads 52 = .ok (.imul, 1) := by decide +kernel
theorem dX10_loads_53 : decode cX10_loads 53 = .ok (.iaload, 1) := by decide +kernel
theorem dX10_loads_54 : decode cX10_loads 54 = .ok (.iaload, 1) := by decide +kernel
theorem dX10_loads_55 : decode cX10_loads 55 = .ok (.imul, 1) := by decide +kernel
theorem dX10_loads_56 : decode cX10_loads 56 = .ok (.goto 4, 3) := by decide +kernel
theorem dX10_loads_59 : decode cX10_loads 59 = .ok (.iconst 0, 1) := by decide +kernel
theorem dX10_loads_60 : decode cX10_loads 60 = .ok (.iadd, 1) := by decide +kernel
theorem dX10_loads_61 : decode cX10_loads 61 = .ok (.iastore, 1) := by decide +kernel
theorem dX10_loads_62 : decode cX10_loads 62 = .ok (.iinc 4 1, 3) := by decide +kernel
theorem dX10_loads_65 : decode cX10_loads 65 = .ok (.goto (-62), 3) := by decide +kernel
theorem dX10_loads_68 : decode cX10_loads 68 = .ok (.return_, 1) := by decide +kernel
theorem dX10_bornNow_0 : decode cX10_bornNow 0 = .ok (.iconst 0, 1) := by decide +kernel
theorem dX10_bornNow_1 : decode cX10_bornNow 1 = .ok (.istore_n 1, 1) := by decide +kernel
theorem dX10_bornNow_2 : decode cX10_bornNow 2 = .ok (.iconst 0, 1) := by decide +kernel
theorem dX10_bornNow_3 : decode cX10_bornNow 3 = .ok (.istore_n 2, 1) := by decide +kernel
theorem dX10_bornNow_4 : decode cX10_bornNow 4 = .ok (.iload_n 2, 1) := by decide +kernel
theorem dX10_bornNow_5 : decode cX10_bornNow 5 = .ok (.aload_n 0, 1) := by decide +kernel
theorem dX10_bornNow_6 : decode cX10_bornNow 6 = .ok (.getfield 148, 3) := by decide +kernel
theorem dX10_bornNow_9 : decode cX10_bornNow 9 = .ok (.if_icmp .ge 18, 3) := by decide +kernel
theorem dX10_bornNow_12 : decode cX10_bornNow 12 = .ok (.iload_n 1, 1) := by decide +kernel
theorem dX10_bornNow_13 : decode cX10_bornNow 13 = .ok (.aload_n 0, 1) := by decide +kernel
theorem dX10_bornNow_14 : decode cX10_bornNow 14 = .ok (.getfield 31, 3) := by decide +kernel
theorem dX10_bornNow_17 : decode cX10_bornNow 17 = .ok (.iload_n 2, 1) := by decide +kernel
theorem dX10_bornNow_18 : decode cX10_bornNow 18 = .ok (.iaload, 1) := by decide +kernel
theorem dX10_bornNow_19 : decode cX10_bornNow 19 = .ok (.iadd, 1) := by decide +kernel
theorem dX10_bornNow_20 : decode cX10_bornNow 20 = .ok (.istore_n 1, 1) := by decide +kernel
theorem dX10_bornNow_21 : decode cX10_bornNow 21 = .ok (.iinc 2 1, 3) := by decide +kernel
theorem dX10_bornNow_24 : decode cX10_bornNow 24 = .ok (.goto (-20), 3) := by decide +kernel
theorem dX10_bornNow_27 : decode cX10_bornNow 27 = .ok (.iload_n 1, 1) := by decide +kernel
theorem dX10_bornNow_28 : decode cX10_bornNow 28 = .ok (.ireturn, 1) := by decide +kernel
theorem dX10_loaded_0 : decode cX10_loaded 0 = .ok (.iconst 0, 1) := by decide +kernel
theorem dX10_loaded_1 : decode cX10_loaded 1 = .ok (.istore_n 1, 1) := by decide +kernel
theorem dX10_loaded_2 : decode cX10_loaded 2 = .ok (.iconst 0, 1) := by decide +kernel
theorem dX10_loaded_3 : decode cX10_loaded 3 = .ok (.istore_n 2, 1) := by decide +kernel
theorem dX10_loaded_4 : decode cX10_loaded 4 = .ok (.iload_n 2, 1) := by decide +kernel
theorem dX10_loaded_5 : decode cX10_loaded 5 = .ok (.aload_n 0, 1) := by decide +kernel
theorem dX10_loaded_6 : decode cX10_loaded 6 = .ok (.getfield 148, 3) := by decide +kernel
theorem dX10_loaded_9 : decode cX10_loaded 9 = .ok (.if_icmp .ge 18, 3) := by decide +kernel
theorem dX10_loaded_12 : decode cX10_loaded 12 = .ok (.iload_n 1, 1) := by decide +kernel
theorem dX10_loaded_13 : decode cX10_loaded 13 = .ok (.aload_n 0, 1) := by decide +kernel
theorem dX10_loaded_14 : decode cX10_loaded 14 = .ok (.getfield 59, 3) := by decide +kernel
theorem dX10_loaded_17 : decode cX10_loaded 17 = .ok (.iload_n 2, 1) := by decide +kernel
theorem dX10_loaded_18 : decode cX10_loaded 18 = .ok (.iaload, 1) := by decide +kernel
theorem dX10_loaded_19 : decode cX10_loaded 19 = .ok (.iadd, 1) := by decide +kernel
theorem dX10_loaded_20 : decode cX10_loaded 20 = .ok (.istore_n 1, 1) := by decide +kernel
theorem dX10_loaded_21 : decode cX10_loaded 21 = .ok (.iinc 2 1, 3) := by decide +kernel
theorem dX10_loaded_24 : decode cX10_loaded 24 = .ok (.goto (-20), 3) := by decide +kernel
theorem dX10_loaded_27 : decode cX10_loaded 27 = .ok (.iload_n 1, 1) := by decide +kernel
theorem dX10_loaded_28 : decode cX10_loaded 28 = .ok (.ireturn, 1) := by decide +kernel
set_option maxRecDepth 20000 in
theorem ggX10_leastTaken_X10_listsWays : GoodIn wsX10_leastTaken wsX10_listsWays := goodIn_r _ [9, 10, 11, 12, 13, 14, 15, 16, 4, 17, 18, 19, 8, 20, 21, 22, 23, 24, 25, 26, 27, 28, 29, 30, 31, 32, 45, 46, 47, 48, 49, 50, 51, 52, 53, 54, 55, 56, 57, 58, 59, 60, 61, 62, 63, 64, 65, 66, 67, 68, 69, 70, 71, 72, 73, 74, 75, 76, 77, 78] (by decide +kernel) (by decide +kernel)
set_option maxRecDepth 20000 in
theorem gX10_leastTaken_X10_listsWays : GoodIn wsX10_leastTaken (wsV RX10 191 RX10 yX10_listsWays wsX10_listsWays) := goodIn_app (goodIn_of _ (by decide +kernel)) ggX10_leastTaken_X10_listsWays
set_option maxRecDepth 20000 in
theorem ggX10_leastTaken_X10_loads : GoodIn wsX10_leastTaken wsX10_loads := goodIn_r _ [36, 13, 1, 16, 32, 10, 45, 46, 47, 48, 49, 50, 51, 52, 53, 54, 55, 56, 57, 58, 59, 60, 61, 62, 63, 64, 65, 66, 67, 68, 69, 70, 71, 72, 73, 74, 75, 76, 77, 78] (by decide +kernel) (by decide +kernel)
set_option maxRecDepth 20000 in
theorem gX10_leastTaken_X10_loads : GoodIn wsX10_leastTaken (wsV RX10 194 RX10 yX10_loads wsX10_loads) := goodIn_app (goodIn_of _ (by decide +kernel)) ggX10_leastTaken_X10_loads
set_option maxRecDepth 20000 in
theorem ggX10_leastTaken_X10_isBorne : GoodIn wsX10_leastTaken wsX10_isBorne := goodIn_r _ [40, 32, 10, 13, 15, 16, 14, 1, 45, 46, 47, 48, 49, 50, 51, 52, 53, 54, 55, 56, 57, 58, 59, 60, 61, 62, 63, 64, 65, 66, 67, 68, 69, 70, 71, 72, 73, 74, 75, 76, 77, 78] (by decide +kernel) (by decide +kernel)
set_option maxRecDepth 20000 in
theorem gX10_leastTaken_X10_isBorne : GoodIn wsX10_leastTaken (wsV RX10 198 RX10 yX10_isBorne wsX10_isBorne) := goodIn_app (goodIn_of _ (by decide +kernel)) ggX10_leastTaken_X10_isBorne
set_option maxRecDepth 20000 in
theorem ggX10_leastTaken_X10_loaded : GoodIn wsX10_leastTaken wsX10_loaded := goodIn_r _ [44, 13, 1, 45, 46, 47, 48, 49, 50, 51, 52, 53, 54, 55, 56, 57, 58, 59, 60, 61, 62, 63, 64, 65, 66, 67, 68, 69, 70, 71, 72, 73, 74, 75, 76, 77, 78] (by decide +kernel) (by decide +kernel)
set_option maxRecDepth 20000 in
theorem gX10_leastTaken_X10_loaded : GoodIn wsX10_leastTaken (wsV RX10 201 RX10 yX10_loaded wsX10_loaded) := goodIn_app (goodIn_of _ (by decide +kernel)) ggX10_leastTaken_X10_loaded
theorem dX10_leastTaken_0 : decode cX10_leastTaken 0 = .ok (.iconst 0, 1) := by decide +kernel
theorem dX10_leastTaken_1 : decode cX10_leastTaken 1 = .ok (.istore_n 1, 1) := by decide +kernel
theorem dX10_leastTaken_2 : decode cX10_leastTaken 2 = .ok (.iload_n 1, 1) := by decide +kernel
theorem dX10_leastTaken_3 : decode cX10_leastTaken 3 = .ok (.bipush 9, 2) := by decide +kernel
theorem dX10_leastTaken_5 : decode cX10_leastTaken 5 = .ok (.if_icmp .ge 16, 3) := by decide +kernel
theorem dX10_leastTaken_8 : decode cX10_leastTaken 8 = .ok (.aload_n 0, 1) := by decide +kernel
theorem dX10_leastTaken_9 : decode cX10_leastTaken 9 = .ok (.getfield 59, 3) := by decide +kernel
theorem dX10_leastTaken_12 : decode cX10_leastTaken 12 = .ok (.iload_n 1, 1) := by decide +kernel
theorem dX10_leastTaken_13 : decode cX10_leastTaken 13 = .ok (.iconst 0, 1) := by decide +kernel
theorem dX10_leastTaken_14 : decode cX10_leastTaken 14 = .ok (.iastore, 1) := by decide +kernel
theorem dX10_leastTaken_15 : decode cX10_leastTaken 15 = .ok (.iinc 1 1, 3) := by decide +kernel
theorem dX10_leastTaken_18 : decode cX10_leastTaken 18 = .ok (.goto (-16), 3) := by decide +kernel
theorem dX10_leastTaken_21 : decode cX10_leastTaken 21 = .ok (.iconst 0, 1) := by decide +kernel
theorem dX10_leastTaken_22 : decode cX10_leastTaken 22 = .ok (.istore_n 1, 1) := by decide +kernel
theorem dX10_leastTaken_23 : decode cX10_leastTaken 23 = .ok (.iload_n 1, 1) := by decide +kernel
theorem dX10_leastTaken_24 : decode cX10_leastTaken 24 = .ok (.aload_n 0, 1) := by decide +kernel
theorem dX10_leastTaken_25 : decode cX10_leastTaken 25 = .ok (.getfield 154, 3) := by decide +kernel
theorem dX10_leastTaken_28 : decode cX10_leastTaken 28 = .ok (.if_icmp .ge 14, 3) := by decide +kernel
theorem dX10_leastTaken_31 : decode cX10_leastTaken 31 = .ok (.aload_n 0, 1) := by decide +kernel
theorem dX10_leastTaken_32 : decode cX10_leastTaken 32 = .ok (.iload_n 1, 1) := by decide +kernel
theorem dX10_leastTaken_33 : decode cX10_leastTaken 33 = .ok (.invokevirtual 191, 3) := by decide +kernel
theorem dX10_leastTaken_36 : decode cX10_leastTaken 36 = .ok (.iinc 1 1, 3) := by decide +kernel
theorem dX10_leastTaken_39 : decode cX10_leastTaken 39 = .ok (.goto (-16), 3) := by decide +kernel
theorem dX10_leastTaken_42 : decode cX10_leastTaken 42 = .ok (.aload_n 0, 1) := by decide +kernel
theorem dX10_leastTaken_43 : decode cX10_leastTaken 43 = .ok (.getfield 47, 3) := by decide +kernel
theorem dX10_leastTaken_46 : decode cX10_leastTaken 46 = .ok (.astore_n 1, 1) := by decide +kernel
theorem dX10_leastTaken_47 : decode cX10_leastTaken 47 = .ok (.aload_n 0, 1) := by decide +kernel
theorem dX10_leastTaken_48 : decode cX10_leastTaken 48 = .ok (.getfield 154, 3) := by decide +kernel
theorem dX10_leastTaken_51 : decode cX10_leastTaken 51 = .ok (.ifCond .ne 7, 3) := by decide +kernel
theorem dX10_leastTaken_54 : decode cX10_leastTaken 54 = .ok (.iconst 0, 1) := by decide +kernel
theorem dX10_leastTaken_55 : decode cX10_leastTaken 55 = .ok (.goto 5, 3) := by decide +kernel
theorem dX10_leastTaken_58 : decode cX10_leastTaken 58 = .ok (.bipush (-9), 2) := by decide +kernel
theorem dX10_leastTaken_60 : decode cX10_leastTaken 60 = .ok (.istore_n 2, 1) := by decide +kernel
theorem dX10_leastTaken_61 : decode cX10_leastTaken 61 = .ok (.aload_n 0, 1) := by decide +kernel
theorem dX10_leastTaken_62 : decode cX10_leastTaken 62 = .ok (.getfield 154, 3) := by decide +kernel
theorem dX10_leastTaken_65 : decode cX10_leastTaken 65 = .ok (.ifCond .ne 7, 3) := by decide +kernel
theorem dX10_leastTaken_68 : decode cX10_leastTaken 68 = .ok (.iconst (-1), 1) := by decide +kernel
theorem dX10_leastTaken_69 : decode cX10_leastTaken 69 = .ok (.goto 4, 3) := by decide +kernel
theorem dX10_leastTaken_72 : decode cX10_leastTaken 72 = .ok (.iconst 0, 1) := by decide +kernel
theorem dX10_leastTaken_73 : decode cX10_leastTaken 73 = .ok (.istore_n 3, 1) := by decide +kernel
theorem dX10_leastTaken_74 : decode cX10_leastTaken 74 = .ok (.aload_n 1, 1) := by decide +kernel
theorem dX10_leastTaken_75 : decode cX10_leastTaken 75 = .ok (.iconst 0, 1) := by decide +kernel
theorem dX10_leastTaken_76 : decode cX10_leastTaken 76 = .ok (.iconst (-1), 1) := by decide +kernel
theorem dX10_leastTaken_77 : decode cX10_leastTaken 77 = .ok (.iastore, 1) := by decide +kernel
theorem dX10_leastTaken_78 : decode cX10_leastTaken 78 = .ok (.iload_n 3, 1) := by decide +kernel
theorem dX10_leastTaken_79 : decode cX10_leastTaken 79 = .ok (.ifCond .lt 135, 3) := by decide +kernel
theorem dX10_leastTaken_82 : decode cX10_leastTaken 82 = .ok (.aload_n 1, 1) := by decide +kernel
theorem dX10_leastTaken_83 : decode cX10_leastTaken 83 = .ok (.iload_n 3, 1) := by decide +kernel
theorem dX10_leastTaken_84 : decode cX10_leastTaken 84 = .ok (.iaload, 1) := by decide +kernel
theorem dX10_leastTaken_85 : decode cX10_leastTaken 85 = .ok (.ifCond .lt 12, 3) := by decide +kernel
theorem dX10_leastTaken_88 : decode cX10_leastTaken 88 = .ok (.aload_n 0, 1) := by decide +kernel
theorem dX10_leastTaken_89 : decode cX10_leastTaken 89 = .ok (.iload_n 3, 1) := by decide +kernel
theorem dX10_leastTaken_90 : decode cX10_leastTaken 90 = .ok (.aload_n 1, 1) := by decide +kernel
theorem dX10_leastTaken_91 : decode cX10_leastTaken 91 = .ok (.iload_n 3, 1) := by decide +kernel
theorem dX10_leastTaken_92 : decode cX10_leastTaken 92 = .ok (.iaload, 1) := by decide +kernel
theorem dX10_leastTaken_93 : decode cX10_leastTaken 93 = .ok (.iconst (-1), 1) := by decide +kernel
theorem dX10_leastTaken_94 : decode cX10_leastTaken 94 = .ok (.invokevirtual 194, 3) := by decide +kernel
theorem dX10_leastTaken_97 : decode cX10_leastTaken 97 = .ok (.aload_n 1, 1) := by decide +kernel
theorem dX10_leastTaken_98 : decode cX10_leastTaken 98 = .ok (.iload_n 3, 1) := by decide +kernel
theorem dX10_leastTaken_99 : decode cX10_leastTaken 99 = .ok (.dup2, 1) := by decide +kernel
theorem dX10_leastTaken_100 : decode cX10_leastTaken 100 = .ok (.iaload, 1) := by decide +kernel
theorem dX10_leastTaken_101 : decode cX10_leastTaken 101 = .ok (.iconst 1, 1) := by decide +kernel
theorem dX10_leastTaken_102 : decode cX10_leastTaken 102 = .ok (.iadd, 1) := by decide +kernel
theorem dX10_leastTaken_103 : decode cX10_leastTaken 103 = .ok (.iastore, 1) := by decide +kernel
theorem dX10_leastTaken_104 : decode cX10_leastTaken 104 = .ok (.aload_n 1, 1) := by decide +kernel
theorem dX10_leastTaken_105 : decode cX10_leastTaken 105 = .ok (.iload_n 3, 1) := by decide +kernel
theorem dX10_leastTaken_106 : decode cX10_leastTaken 106 = .ok (.iaload, 1) := by decide +kernel
theorem dX10_leastTaken_107 : decode cX10_leastTaken 107 = .ok (.aload_n 0, 1) := by decide +kernel
theorem dX10_leastTaken_108 : decode cX10_leastTaken 108 = .ok (.getfield 56, 3) := by decide +kernel
theorem dX10_leastTaken_111 : decode cX10_leastTaken 111 = .ok (.iload_n 3, 1) := by decide +kernel
theorem dX10_leastTaken_112 : decode cX10_leastTaken 112 = .ok (.iaload, 1) := by decide +kernel
theorem dX10_leastTaken_113 : decode cX10_leastTaken 113 = .ok (.if_icmp .ge 24, 3) := by decide +kernel
theorem dX10_leastTaken_116 : decode cX10_leastTaken 116 = .ok (.aload_n 0, 1) := by decide +kernel
theorem dX10_leastTaken_117 : decode cX10_leastTaken 117 = .ok (.iload_n 3, 1) := by decide +kernel
theorem dX10_leastTaken_118 : decode cX10_leastTaken 118 = .ok (.aload_n 1, 1) := by decide +kernel
theorem dX10_leastTaken_119 : decode cX10_leastTaken 119 = .ok (.iload_n 3, 1) := by decide +kernel
theorem dX10_leastTaken_120 : decode cX10_leastTaken 120 = .ok (.iaload, 1) := by decide +kernel
theorem dX10_leastTaken_121 : decode cX10_leastTaken 121 = .ok (.invokevirtual 198, 3) := by decide +kernel
theorem dX10_leastTaken_124 : decode cX10_leastTaken 124 = .ok (.ifCond .ne 13, 3) := by decide +kernel
theorem dX10_leastTaken_127 : decode cX10_leastTaken 127 = .ok (.aload_n 1, 1) := by decide +kernel
theorem dX10_leastTaken_128 : decode cX10_leastTaken 128 = .ok (.iload_n 3, 1) := by decide +kernel
theorem dX10_leastTaken_129 : decode cX10_leastTaken 129 = .ok (.dup2, 1) := by decide +kernel
theorem dX10_leastTaken_130 : decode cX10_leastTaken 130 = .ok (.iaload, 1) := by decide +kernel
theorem dX10_leastTaken_131 : decode cX10_leastTaken 131 = .ok (.iconst 1, 1) := by decide +kernel
theorem dX10_leastTaken_132 : decode cX10_leastTaken 132 = .ok (.iadd, 1) := by decide +kernel
theorem dX10_leastTaken_133 : decode cX10_leastTaken 133 = .ok (.iastore, 1) := by decide +kernel
theorem dX10_leastTaken_134 : decode cX10_leastTaken 134 = .ok (.goto (-30), 3) := by decide +kernel
theorem dX10_leastTaken_137 : decode cX10_leastTaken 137 = .ok (.aload_n 1, 1) := by decide +kernel
theorem dX10_leastTaken_138 : decode cX10_leastTaken 138 = .ok (.iload_n 3, 1) := by decide +kernel
theorem dX10_leastTaken_139 : decode cX10_leastTaken 139 = .ok (.iaload, 1) := by decide +kernel
theorem dX10_leastTaken_140 : decode cX10_leastTaken 140 = .ok (.aload_n 0, 1) := by decide +kernel
theorem dX10_leastTaken_141 : decode cX10_leastTaken 141 = .ok (.getfield 56, 3) := by decide +kernel
theorem dX10_leastTaken_144 : decode cX10_leastTaken 144 = .ok (.iload_n 3, 1) := by decide +kernel
theorem dX10_leastTaken_145 : decode cX10_leastTaken 145 = .ok (.iaload, 1) := by decide +kernel
theorem dX10_leastTaken_146 : decode cX10_leastTaken 146 = .ok (.if_icmp .ne 13, 3) := by decide +kernel
theorem dX10_leastTaken_149 : decode cX10_leastTaken 149 = .ok (.aload_n 1, 1) := by decide +kernel
theorem dX10_leastTaken_150 : decode cX10_leastTaken 150 = .ok (.iload_n 3, 1) := by decide +kernel
theorem dX10_leastTaken_151 : decode cX10_leastTaken 151 = .ok (.iconst (-1), 1) := by decide +kernel
theorem dX10_leastTaken_152 : decode cX10_leastTaken 152 = .ok (.iastore, 1) := by decide +kernel
theorem dX10_leastTaken_153 : decode cX10_leastTaken 153 = .ok (.iinc 3 (-1), 3) := by decide +kernel
theorem dX10_leastTaken_156 : decode cX10_leastTaken 156 = .ok (.goto (-78), 3) := by decide +kernel
theorem dX10_leastTaken_159 : decode cX10_leastTaken 159 = .ok (.aload_n 0, 1) := by decide +kernel
theorem dX10_leastTaken_160 : decode cX10_leastTaken 160 = .ok (.iload_n 3, 1) := by decide +kernel
theorem dX10_leastTaken_161 : decode cX10_leastTaken 161 = .ok (.aload_n 1, 1) := by decide +kernel
theorem dX10_leastTaken_162 : decode cX10_leastTaken 162 = .ok (.iload_n 3, 1) := by decide +kernel
theorem dX10_leastTaken_163 : decode cX10_leastTaken 163 = .ok (.iaload, 1) := by decide +kernel
theorem dX10_leastTaken_164 : decode cX10_leastTaken 164 = .ok (.iconst 1, 1) := by decide +kernel
theorem dX10_leastTaken_165 : decode cX10_leastTaken 165 = .ok (.invokevirtual 194, 3) := by decide +kernel
theorem dX10_leastTaken_168 : decode cX10_leastTaken 168 = .ok (.iload_n 3, 1) := by decide +kernel
theorem dX10_leastTaken_169 : decode cX10_leastTaken 169 = .ok (.aload_n 0, 1) := by decide +kernel
theorem dX10_leastTaken_170 : decode cX10_leastTaken 170 = .ok (.getfield 154, 3) := by decide +kernel
theorem dX10_leastTaken_173 : decode cX10_leastTaken 173 = .ok (.iconst 1, 1) := by decide +kernel
theorem dX10_leastTaken_174 : decode cX10_leastTaken 174 = .ok (.isub, 1) := by decide +kernel
theorem dX10_leastTaken_175 : decode cX10_leastTaken 175 = .ok (.if_icmp .ne 29, 3) := by decide +kernel
theorem dX10_leastTaken_178 : decode cX10_leastTaken 178 = .ok (.iload_n 2, 1) := by decide +kernel
theorem dX10_leastTaken_179 : decode cX10_leastTaken 179 = .ok (.bipush (-9), 2) := by decide +kernel
theorem dX10_leastTaken_181 : decode cX10_leastTaken 181 = .ok (.if_icmp .eq 11, 3) := by decide +kernel
theorem dX10_leastTaken_184 : decode cX10_leastTaken 184 = .ok (.aload_n 0, 1) := by decide +kernel
theorem dX10_leastTaken_185 : decode cX10_leastTaken 185 = .ok (.invokevirtual 201, 3) := by decide +kernel
theorem dX10_leastTaken_188 : decode cX10_leastTaken 188 = .ok (.iload_n 2, 1) := by decide +kernel
theorem dX10_leastTaken_189 : decode cX10_leastTaken 189 = .ok (.if_icmp .ge 10, 3) := by decide +kernel
theorem dX10_leastTaken_192 : decode cX10_leastTaken 192 = .ok (.aload_n 0, 1) := by decide +kernel
theorem dX10_leastTaken_193 : decode cX10_leastTaken 193 = .ok (.invokevirtual 201, 3) := by decide +kernel
theorem dX10_leastTaken_196 : decode cX10_leastTaken 196 = .ok (.goto 4, 3) := by decide +kernel
theorem dX10_leastTaken_199 : decode cX10_leastTaken 199 = .ok (.iload_n 2, 1) := by decide +kernel
theorem dX10_leastTaken_200 : decode cX10_leastTaken 200 = .ok (.istore_n 2, 1) := by decide +kernel
theorem dX10_leastTaken_201 : decode cX10_leastTaken 201 = .ok (.goto (-123), 3) := by decide +kernel
theorem dX10_leastTaken_204 : decode cX10_leastTaken 204 = .ok (.iinc 3 1, 3) := by decide +kernel
theorem dX10_leastTaken_207 : decode cX10_leastTaken 207 = .ok (.aload_n 1, 1) := by decide +kernel
theorem dX10_leastTaken_208 : decode cX10_leastTaken 208 = .ok (.iload_n 3, 1) := by decide +kernel
theorem dX10_leastTaken_209 : decode cX10_leastTaken 209 = .ok (.iconst (-1), 1) := by decide +kernel
theorem dX10_leastTaken_210 : decode cX10_leastTaken 210 = .ok (.iastore, 1) := by decide +kernel
theorem dX10_leastTaken_211 : decode cX10_leastTaken 211 = .ok (.goto (-133), 3) := by decide +kernel
theorem dX10_leastTaken_214 : decode cX10_leastTaken 214 = .ok (.iload_n 2, 1) := by decide +kernel
theorem dX10_leastTaken_215 : decode cX10_leastTaken 215 = .ok (.ireturn, 1) := by decide +kernel
set_option maxRecDepth 20000 in
theorem ggX10_all_X10_in : GoodIn wsX10_all wsX10_in := goodIn_r _ [5] (by decide +kernel) (by decide +kernel)
set_option maxRecDepth 20000 in
theorem gX10_all_X10_in : GoodIn wsX10_all (va_wsS RX10 72 yX10_in wsX10_in) := goodIn_app (goodIn_of _ (by decide +kernel)) ggX10_all_X10_in
set_option maxRecDepth 20000 in
theorem ggX10_all_X10_leastTaken : GoodIn wsX10_all wsX10_leastTaken := goodIn_r _ [9, 10, 11, 12, 13, 14, 15, 16, 4, 17, 18, 19, 20, 21, 22, 23, 24, 25, 26, 27, 28, 29, 30, 31, 32, 33, 34, 35, 36, 37, 38, 39, 40, 41, 42, 43, 44, 45, 46, 47, 48, 49, 50, 51, 52, 57, 58, 59, 60, 61, 62, 63, 64, 65, 66, 67, 68, 69, 70, 71, 72, 73, 74, 75, 76, 77, 78, 79, 80, 81, 82, 83, 84, 85, 86, 87, 88, 89, 90] (by decide +kernel) (by decide +kernel)
set_option maxRecDepth 20000 in
theorem gX10_all_X10_leastTaken : GoodIn wsX10_all (wsV RX10 205 RX10 yX10_leastTaken wsX10_leastTaken) := goodIn_app (goodIn_of _ (by decide +kernel)) ggX10_all_X10_leastTaken
set_option maxRecDepth 20000 in
theorem ggX10_all_X10_bornNow : GoodIn wsX10_all wsX10_bornNow := goodIn_r _ [56, 21, 22, 57, 58, 59, 60, 61, 62, 63, 64, 65, 66, 67, 68, 69, 70, 71, 72, 73, 74, 75, 76, 77, 78, 79, 80, 81, 82, 83, 84, 85, 86, 87, 88, 89, 90] (by decide +kernel) (by decide +kernel)
set_option maxRecDepth 20000 in
theorem gX10_all_X10_bornNow : GoodIn wsX10_all (wsV RX10 208 RX10 yX10_bornNow wsX10_bornNow) := goodIn_app (goodIn_of _ (by decide +kernel)) ggX10_all_X10_bornNow
theorem dX10_all_0 : decode cX10_all 0 = .ok (.aload_n 0, 1) := by decide +kernel
theorem dX10_all_1 : decode cX10_all 1 = .ok (.iconst 0, 1) := by decide +kernel
theorem dX10_all_2 : decode cX10_all 2 = .ok (.putfield 69, 3) := by decide +kernel
theorem dX10_all_5 : decode cX10_all 5 = .ok (.iload_n 1, 1) := by decide +kernel
theorem dX10_all_6 : decode cX10_all 6 = .ok (.iconst 0, 1) := by decide +kernel
theorem dX10_all_7 : decode cX10_all 7 = .ok (.iconst 1, 1) := by decide +kernel
theorem dX10_all_8 : decode cX10_all 8 = .ok (.invokestatic 72, 3) := by decide +kernel
theorem dX10_all_11 : decode cX10_all 11 = .ok (.ifCond .ne 5, 3) := by decide +kernel
theorem dX10_all_14 : decode cX10_all 14 = .ok (.iconst (-1), 1) := by decide +kernel
theorem dX10_all_15 : decode cX10_all 15 = .ok (.ireturn, 1) := by decide +kernel
theorem dX10_all_16 : decode cX10_all 16 = .ok (.aload_n 0, 1) := by decide +kernel
theorem dX10_all_17 : decode cX10_all 17 = .ok (.invokevirtual 205, 3) := by decide +kernel
theorem dX10_all_20 : decode cX10_all 20 = .ok (.istore_n 2, 1) := by decide +kernel
theorem dX10_all_21 : decode cX10_all 21 = .ok (.iload_n 1, 1) := by decide +kernel
theorem dX10_all_22 : decode cX10_all 22 = .ok (.ifCond .ne 17, 3) := by decide +kernel
theorem dX10_all_25 : decode cX10_all 25 = .ok (.iload_n 2, 1) := by decide +kernel
theorem dX10_all_26 : decode cX10_all 26 = .ok (.bipush (-9), 2) := by decide +kernel
theorem dX10_all_28 : decode cX10_all 28 = .ok (.if_icmp .ne 7, 3) := by decide +kernel
theorem dX10_all_31 : decode cX10_all 31 = .ok (.iconst 0, 1) := by decide +kernel
theorem dX10_all_32 : decode cX10_all 32 = .ok (.goto 24, 3) := by decide +kernel
theorem dX10_all_35 : decode cX10_all 35 = .ok (.iconst 1, 1) := by decide +kernel
theorem dX10_all_36 : decode cX10_all 36 = .ok (.goto 20, 3) := by decide +kernel
theorem dX10_all_39 : decode cX10_all 39 = .ok (.iload_n 2, 1) := by decide +kernel
theorem dX10_all_40 : decode cX10_all 40 = .ok (.bipush (-9), 2) := by decide +kernel
theorem dX10_all_42 : decode cX10_all 42 = .ok (.if_icmp .ne 8, 3) := by decide +kernel
theorem dX10_all_45 : decode cX10_all 45 = .ok (.bipush (-9), 2) := by decide +kernel
theorem dX10_all_47 : decode cX10_all 47 = .ok (.goto 9, 3) := by decide +kernel
theorem dX10_all_50 : decode cX10_all 50 = .ok (.aload_n 0, 1) := by decide +kernel
theorem dX10_all_51 : decode cX10_all 51 = .ok (.invokevirtual 208, 3) := by decide +kernel
theorem dX10_all_54 : decode cX10_all 54 = .ok (.iload_n 2, 1) := by decide +kernel
theorem dX10_all_55 : decode cX10_all 55 = .ok (.isub, 1) := by decide +kernel
theorem dX10_all_56 : decode cX10_all 56 = .ok (.ireturn, 1) := by decide +kernel
theorem dX10_areApart_0 : decode cX10_areApart 0 = .ok (.iconst 1, 1) := by decide +kernel
theorem dX10_areApart_1 : decode cX10_areApart 1 = .ok (.iload_n 1, 1) := by decide +kernel
theorem dX10_areApart_2 : decode cX10_areApart 2 = .ok (.ishl, 1) := by decide +kernel
theorem dX10_areApart_3 : decode cX10_areApart 3 = .ok (.istore 4, 2) := by decide +kernel
theorem dX10_areApart_5 : decode cX10_areApart 5 = .ok (.iconst 0, 1) := by decide +kernel
theorem dX10_areApart_6 : decode cX10_areApart 6 = .ok (.istore 5, 2) := by decide +kernel
theorem dX10_areApart_8 : decode cX10_areApart 8 = .ok (.iload 5, 2) := by decide +kernel
theorem dX10_areApart_10 : decode cX10_areApart 10 = .ok (.aload_n 0, 1) := by decide +kernel
theorem dX10_areApart_11 : decode cX10_areApart 11 = .ok (.getfield 65, 3) := by decide +kernel
theorem dX10_areApart_14 : decode cX10_areApart 14 = .ok (.if_icmp .ge 108, 3) := by decide +kernel
theorem dX10_areApart_17 : decode cX10_areApart 17 = .ok (.iconst 0, 1) := by decide +kernel
theorem dX10_areApart_18 : decode cX10_areApart 18 = .ok (.istore 6, 2) := by decide +kernel
theorem dX10_areApart_20 : decode cX10_areApart 20 = .ok (.iload 6, 2) := by decide +kernel
theorem dX10_areApart_22 : decode cX10_areApart 22 = .ok (.aload_n 0, 1) := by decide +kernel
theorem dX10_areApart_23 : decode cX10_areApart 23 = .ok (.getfield 148, 3) := by decide +kernel
theorem dX10_areApart_26 : decode cX10_areApart 26 = .ok (.if_icmp .ge 90, 3) := by decide +kernel
theorem dX10_areApart_29 : decode cX10_areApart 29 = .ok (.iload_n 3, 1) := by decide +kernel
theorem dX10_areApart_30 : decode cX10_areApart 30 = .ok (.iload 6, 2) := by decide +kernel
theorem dX10_areApart_32 : decode cX10_areApart 32 = .ok (.ishr, 1) := by decide +kernel
theorem dX10_areApart_33 : decode cX10_areApart 33 = .ok (.iconst 1, 1) := by decide +kernel
theorem dX10_areApart_34 : decode cX10_areApart 34 = .ok (.iand, 1) := by decide +kernel
theorem dX10_areApart_35 : decode cX10_areApart 35 = .ok (.ifCond .ne 39, 3) := by decide +kernel
theorem dX10_areApart_38 : decode cX10_areApart 38 = .ok (.iload 4, 2) := by decide +kernel
theorem dX10_areApart_40 : decode cX10_areApart 40 = .ok (.aload_n 0, 1) := by decide +kernel
theorem dX10_areApart_41 : decode cX10_areApart 41 = .ok (.getfield 13, 3) := by decide +kernel
theorem dX10_areApart_44 : decode cX10_areApart 44 = .ok (.iload 6, 2) := by decide +kernel
theorem dX10_areApart_46 : decode cX10_areApart 46 = .ok (.iaload, 1) := by decide +kernel
theorem dX10_areApart_47 : decode cX10_areApart 47 = .ok (.ishr, 1) := by decide +kernel
theorem dX10_areApart_48 : decode cX10_areApart 48 = .ok (.iconst 1, 1) := by decide +kernel
theorem dX10_areApart_49 : decode cX10_areApart 49 = .ok (.iand, 1) := by decide +kernel
theorem dX10_areApart_50 : decode cX10_areApart 50 = .ok (.iconst 1, 1) := by decide +kernel
theorem dX10_areApart_51 : decode cX10_areApart 51 = .ok (.if_icmp .eq 19, 3) := by decide +kernel
theorem dX10_areApart_54 : decode cX10_areApart 54 = .ok (.iload 4, 2) := by decide +kernel
theorem dX10_areApart_56 : decode cX10_areApart 56 = .ok (.aload_n 0, 1) := by decide +kernel
theorem dX10_areApart_57 : decode cX10_areApart 57 = .ok (.getfield 16, 3) := by decide +kernel
theorem dX10_areApart_60 : decode cX10_areApart 60 = .ok (.iload 6, 2) := by decide +kernel
theorem dX10_areApart_62 : decode cX10_areApart 62 = .ok (.iaload, 1) := by decide +kernel
theorem dX10_areApart_63 : decode cX10_areApart 63 = .ok (.ishr, 1) := by decide +kernel
theorem dX10_areApart_64 : decode cX10_areApart 64 = .ok (.iconst 1, 1) := by decide +kernel
theorem dX10_areApart_65 : decode cX10_areApart 65 = .ok (.iand, 1) := by decide +kernel
theorem dX10_areApart_66 : decode cX10_areApart 66 = .ok (.iconst 1, 1) := by decide +kernel
theorem dX10_areApart_67 : decode cX10_areApart 67 = .ok (.if_icmp .ne 7, 3) := by decide +kernel
theorem dX10_areApart_70 : decode cX10_areApart 70 = .ok (.iconst 1, 1) := by decide +kernel
theorem dX10_areApart_71 : decode cX10_areApart 71 = .ok (.goto 4, 3) := by decide +kernel
theorem dX10_areApart_74 : decode cX10_areApart 74 = .ok (.iconst 0, 1) := by decide +kernel
theorem dX10_areApart_75 : decode cX10_areApart 75 = .ok (.istore 7, 2) := by decide +kernel
theorem dX10_areApart_77 : decode cX10_areApart 77 = .ok (.iload 4, 2) := by decide +kernel
theorem dX10_areApart_79 : decode cX10_areApart 79 = .ok (.iload 7, 2) := by decide +kernel
theorem dX10_areApart_81 : decode cX10_areApart 81 = .ok (.ifCond .eq 25, 3) := by decide +kernel
theorem dX10_areApart_84 : decode cX10_areApart 84 = .ok (.iconst 1, 1) := by decide +kernel
theorem dX10_areApart_85 : decode cX10_areApart 85 = .ok (.aload_n 0, 1) := by decide +kernel
theorem dX10_areApart_86 : decode cX10_areApart 86 = .ok (.getfield 13, 3) := by decide +kernel
theorem dX10_areApart_89 : decode cX10_areApart 89 = .ok (.iload 6, 2) := by decide +kernel
theorem dX10_areApart_91 : decode cX10_areApart 91 = .ok (.iaload, 1) := by decide +kernel
theorem dX10_areApart_92 : decode cX10_areApart 92 = .ok (.ishl, 1) := by decide +kernel
theorem dX10_areApart_93 : decode cX10_areApart 93 = .ok (.iconst 1, 1) := by decide +kernel
theorem dX10_areApart_94 : decode cX10_areApart 94 = .ok (.aload_n 0, 1) := by decide +kernel
theorem dX10_areApart_95 : decode cX10_areApart 95 = .ok (.getfield 16, 3) := by decide +kernel
theorem dX10_areApart_98 : decode cX10_areApart 98 = .ok (.iload 6, 2) := by decide +kernel
theorem dX10_areApart_100 : decode cX10_areApart 100 = .ok (.iaload, 1) := by decide +kernel
theorem dX10_areApart_101 : decode cX10_areApart 101 = .ok (.ishl, 1) := by decide +kernel
theorem dX10_areApart_102 : decode cX10_areApart 102 = .ok (.ior, 1) := by decide +kernel
theorem dX10_areApart_103 : decode cX10_areApart 103 = .ok (.goto 4, 3) := by decide +kernel
theorem dX10_areApart_106 : decode cX10_areApart 106 = .ok (.iconst 0, 1) := by decide +kernel
theorem dX10_areApart_107 : decode cX10_areApart 107 = .ok (.ior, 1) := by decide +kernel
theorem dX10_areApart_108 : decode cX10_areApart 108 = .ok (.istore 4, 2) := by decide +kernel
theorem dX10_areApart_110 : decode cX10_areApart 110 = .ok (.iinc 6 1, 3) := by decide +kernel
theorem dX10_areApart_113 : decode cX10_areApart 113 = .ok (.goto (-93), 3) := by decide +kernel
theorem dX10_areApart_116 : decode cX10_areApart 116 = .ok (.iinc 5 1, 3) := by decide +kernel
theorem dX10_areApart_119 : decode cX10_areApart 119 = .ok (.goto (-111), 3) := by decide +kernel
theorem dX10_areApart_122 : decode cX10_areApart 122 = .ok (.iload 4, 2) := by decide +kernel
theorem dX10_areApart_124 : decode cX10_areApart 124 = .ok (.iload_n 2, 1) := by decide +kernel
theorem dX10_areApart_125 : decode cX10_areApart 125 = .ok (.ishr, 1) := by decide +kernel
theorem dX10_areApart_126 : decode cX10_areApart 126 = .ok (.iconst 1, 1) := by decide +kernel
theorem dX10_areApart_127 : decode cX10_areApart 127 = .ok (.iand, 1) := by decide +kernel
theorem dX10_areApart_128 : decode cX10_areApart 128 = .ok (.ifCond .ne 7, 3) := by decide +kernel
theorem dX10_areApart_131 : decode cX10_areApart 131 = .ok (.iconst 1, 1) := by decide +kernel
theorem dX10_areApart_132 : decode cX10_areApart 132 = .ok (.goto 4, 3) := by decide +kernel
theorem dX10_areApart_135 : decode cX10_areApart 135 = .ok (.iconst 0, 1) := by decide +kernel
theorem dX10_areApart_136 : decode cX10_areApart 136 = .ok (.ireturn, 1) := by decide +kernel
theorem dX10_oftenBy_0 : decode cX10_oftenBy 0 = .ok (.iconst 0, 1) := by decide +kernel
theorem dX10_oftenBy_1 : decode cX10_oftenBy 1 = .ok (.istore_n 3, 1) := by decide +kernel
theorem dX10_oftenBy_2 : decode cX10_oftenBy 2 = .ok (.iconst 0, 1) := by decide +kernel
theorem dX10_oftenBy_3 : decode cX10_oftenBy 3 = .ok (.istore 4, 2) := by decide +kernel
theorem dX10_oftenBy_5 : decode cX10_oftenBy 5 = .ok (.iload 4, 2) := by decide +kernel
theorem dX10_oftenBy_7 : decode cX10_oftenBy 7 = .ok (.aload_n 0, 1) := by decide +kernel
theorem dX10_oftenBy_8 : decode cX10_oftenBy 8 = .ok (.getfield 148, 3) := by decide +kernel
theorem dX10_oftenBy_11 : decode cX10_oftenBy 11 = .ok (.if_icmp .ge 35, 3) := by decide +kernel
theorem dX10_oftenBy_14 : decode cX10_oftenBy 14 = .ok (.iload_n 3, 1) := by decide +kernel
theorem dX10_oftenBy_15 : decode cX10_oftenBy 15 = .ok (.iload_n 1, 1) := by decide +kernel
theorem dX10_oftenBy_16 : decode cX10_oftenBy 16 = .ok (.iload 4, 2) := by decide +kernel
theorem dX10_oftenBy_18 : decode cX10_oftenBy 18 = .ok (.ishr, 1) := by decide +kernel
theorem dX10_oftenBy_19 : decode cX10_oftenBy 19 = .ok (.iconst 1, 1) := by decide +kernel
theorem dX10_oftenBy_20 : decode cX10_oftenBy 20 = .ok (.iand, 1) := by decide +kernel
theorem dX10_oftenBy_21 : decode cX10_oftenBy 21 = .ok (.iconst 1, 1) := by decide +kernel
theorem dX10_oftenBy_22 : decode cX10_oftenBy 22 = .ok (.if_icmp .ne 15, 3) := by decide +kernel
theorem dX10_oftenBy_25 : decode cX10_oftenBy 25 = .ok (.aload_n 0, 1) := by decide +kernel
theorem dX10_oftenBy_26 : decode cX10_oftenBy 26 = .ok (.getfield 31, 3) := by decide +kernel
theorem dX10_oftenBy_29 : decode cX10_oftenBy 29 = .ok (.iload 4, 2) := by decide +kernel
theorem dX10_oftenBy_31 : decode cX10_oftenBy 31 = .ok (.iaload, 1) := by decide +kernel
theorem dX10_oftenBy_32 : decode cX10_oftenBy 32 = .ok (.iload_n 2, 1) := by decide +kernel
theorem dX10_oftenBy_33 : decode cX10_oftenBy 33 = .ok (.idiv, 1) := by decide +kernel
theorem dX10_oftenBy_34 : decode cX10_oftenBy 34 = .ok (.goto 4, 3) := by decide +kernel
theorem dX10_oftenBy_37 : decode cX10_oftenBy 37 = .ok (.iconst 0, 1) := by decide +kernel
theorem dX10_oftenBy_38 : decode cX10_oftenBy 38 = .ok (.iadd, 1) := by decide +kernel
theorem dX10_oftenBy_39 : decode cX10_oftenBy 39 = .ok (.istore_n 3, 1) := by decide +kernel
theorem dX10_oftenBy_40 : decode cX10_oftenBy 40 = .ok (.iinc 4 1, 3) := by decide +kernel
theorem dX10_oftenBy_43 : decode cX10_oftenBy 43 = .ok (.goto (-38), 3) := by decide +kernel
theorem dX10_oftenBy_46 : decode cX10_oftenBy 46 = .ok (.iload_n 3, 1) := by decide +kernel
theorem dX10_oftenBy_47 : decode cX10_oftenBy 47 = .ok (.ireturn, 1) := by decide +kernel
set_option maxRecDepth 20000 in
theorem ggX10_cutOf_X10_oftenBy : GoodIn wsX10_cutOf wsX10_oftenBy := goodIn_r _ [6, 1, 7, 15, 16, 17, 18, 19, 20, 21, 22, 23, 24, 25, 26, 27, 28, 29, 30, 31, 32, 33, 34, 35, 36, 37, 38, 39, 40, 41, 42, 43, 44, 45, 46, 47, 48] (by decide +kernel) (by decide +kernel)
set_option maxRecDepth 20000 in
theorem gX10_cutOf_X10_oftenBy : GoodIn wsX10_cutOf (wsV RX10 211 RX10 yX10_oftenBy wsX10_oftenBy) := goodIn_app (goodIn_of _ (by decide +kernel)) ggX10_cutOf_X10_oftenBy
set_option maxRecDepth 20000 in
theorem ggX10_cutOf_X10_areApart : GoodIn wsX10_cutOf wsX10_areApart := goodIn_r _ [11, 12, 1, 13, 14, 15, 16, 17, 18, 19, 20, 21, 22, 23, 24, 25, 26, 27, 28, 29, 30, 31, 32, 33, 34, 35, 36, 37, 38, 39, 40, 41, 42, 43, 44, 45, 46, 47, 48] (by decide +kernel) (by decide +kernel)
set_option maxRecDepth 20000 in
theorem gX10_cutOf_X10_areApart : GoodIn wsX10_cutOf (wsV RX10 214 RX10 yX10_areApart wsX10_areApart) := goodIn_app (goodIn_of _ (by decide +kernel)) ggX10_cutOf_X10_areApart
theorem dX10_cutOf_0 : decode cX10_cutOf 0 = .ok (.bipush (-9), 2) := by decide +kernel
theorem dX10_cutOf_2 : decode cX10_cutOf 2 = .ok (.istore 4, 2) := by decide +kernel
theorem dX10_cutOf_4 : decode cX10_cutOf 4 = .ok (.iconst 0, 1) := by decide +kernel
theorem dX10_cutOf_5 : decode cX10_cutOf 5 = .ok (.istore 5, 2) := by decide +kernel
theorem dX10_cutOf_7 : decode cX10_cutOf 7 = .ok (.iload 5, 2) := by decide +kernel
theorem dX10_cutOf_9 : decode cX10_cutOf 9 = .ok (.iconst 1, 1) := by decide +kernel
theorem dX10_cutOf_10 : decode cX10_cutOf 10 = .ok (.aload_n 0, 1) := by decide +kernel
theorem dX10_cutOf_11 : decode cX10_cutOf 11 = .ok (.getfield 148, 3) := by decide +kernel
theorem dX10_cutOf_14 : decode cX10_cutOf 14 = .ok (.ishl, 1) := by decide +kernel
theorem dX10_cutOf_15 : decode cX10_cutOf 15 = .ok (.if_icmp .ge 65, 3) := by decide +kernel
theorem dX10_cutOf_18 : decode cX10_cutOf 18 = .ok (.iload 4, 2) := by decide +kernel
theorem dX10_cutOf_20 : decode cX10_cutOf 20 = .ok (.bipush (-9), 2) := by decide +kernel
theorem dX10_cutOf_22 : decode cX10_cutOf 22 = .ok (.if_icmp .eq 20, 3) := by decide +kernel
theorem dX10_cutOf_25 : decode cX10_cutOf 25 = .ok (.aload_n 0, 1) := by decide +kernel
theorem dX10_cutOf_26 : decode cX10_cutOf 26 = .ok (.iload 5, 2) := by decide +kernel
theorem dX10_cutOf_28 : decode cX10_cutOf 28 = .ok (.iload_n 1, 1) := by decide +kernel
theorem dX10_cutOf_29 : decode cX10_cutOf 29 = .ok (.invokevirtual 211, 3) := by decide +kernel
theorem dX10_cutOf_32 : decode cX10_cutOf 32 = .ok (.aload_n 0, 1) := by decide +kernel
theorem dX10_cutOf_33 : decode cX10_cutOf 33 = .ok (.iload 4, 2) := by decide +kernel
theorem dX10_cutOf_35 : decode cX10_cutOf 35 = .ok (.iload_n 1, 1) := by decide +kernel
theorem dX10_cutOf_36 : decode cX10_cutOf 36 = .ok (.invokevirtual 211, 3) := by decide +kernel
theorem dX10_cutOf_39 : decode cX10_cutOf 39 = .ok (.if_icmp .ge 7, 3) := by decide +kernel
theorem dX10_cutOf_42 : decode cX10_cutOf 42 = .ok (.iconst 1, 1) := by decide +kernel
theorem dX10_cutOf_43 : decode cX10_cutOf 43 = .ok (.goto 4, 3) := by decide +kernel
theorem dX10_cutOf_46 : decode cX10_cutOf 46 = .ok (.iconst 0, 1) := by decide +kernel
theorem dX10_cutOf_47 : decode cX10_cutOf 47 = .ok (.istore 6, 2) := by decide +kernel
theorem dX10_cutOf_49 : decode cX10_cutOf 49 = .ok (.iload 6, 2) := by decide +kernel
theorem dX10_cutOf_51 : decode cX10_cutOf 51 = .ok (.ifCond .eq 19, 3) := by decide +kernel
theorem dX10_cutOf_54 : decode cX10_cutOf 54 = .ok (.aload_n 0, 1) := by decide +kernel
theorem dX10_cutOf_55 : decode cX10_cutOf 55 = .ok (.iload_n 2, 1) := by decide +kernel
theorem dX10_cutOf_56 : decode cX10_cutOf 56 = .ok (.iload_n 3, 1) := by decide +kernel
theorem dX10_cutOf_57 : decode cX10_cutOf 57 = .ok (.iload 5, 2) := by decide +kernel
theorem dX10_cutOf_59 : decode cX10_cutOf 59 = .ok (.invokevirtual 214, 3) := by decide +kernel
theorem dX10_cutOf_62 : decode cX10_cutOf 62 = .ok (.ifCond .eq 8, 3) := by decide +kernel
theorem dX10_cutOf_65 : decode cX10_cutOf 65 = .ok (.iload 5, 2) := by decide +kernel
theorem dX10_cutOf_67 : decode cX10_cutOf 67 = .ok (.goto 5, 3) := by decide +kernel
theorem dX10_cutOf_70 : decode cX10_cutOf 70 = .ok (.iload 4, 2) := by decide +kernel
theorem dX10_cutOf_72 : decode cX10_cutOf 72 = .ok (.istore 4, 2) := by decide +kernel
theorem dX10_cutOf_74 : decode cX10_cutOf 74 = .ok (.iinc 5 1, 3) := by decide +kernel
theorem dX10_cutOf_77 : decode cX10_cutOf 77 = .ok (.goto (-70), 3) := by decide +kernel
theorem dX10_cutOf_80 : decode cX10_cutOf 80 = .ok (.iload 4, 2) := by decide +kernel
theorem dX10_cutOf_82 : decode cX10_cutOf 82 = .ok (.ireturn, 1) := by decide +kernel
set_option maxRecDepth 20000 in
theorem ggX10_often_X10_in : GoodIn wsX10_often wsX10_in := goodIn_r _ [5] (by decide +kernel) (by decide +kernel)
set_option maxRecDepth 20000 in
theorem gX10_often_X10_in : GoodIn wsX10_often (va_wsS RX10 72 yX10_in wsX10_in) := goodIn_app (goodIn_of _ (by decide +kernel)) ggX10_often_X10_in
set_option maxRecDepth 20000 in
theorem ggX10_often_X10_arePlaces : GoodIn wsX10_often wsX10_arePlaces := goodIn_r _ [9, 10, 2, 3, 4, 5, 27, 28, 29, 30, 31, 32, 33, 34, 35, 36, 37, 38, 39, 40, 41, 42, 43, 44, 45, 46, 47, 48, 49, 50, 51, 52, 53, 54, 55, 56, 57, 58, 59, 60] (by decide +kernel) (by decide +kernel)
set_option maxRecDepth 20000 in
theorem gX10_often_X10_arePlaces : GoodIn wsX10_often (wsV RX10 174 RX10 yX10_arePlaces wsX10_arePlaces) := goodIn_app (goodIn_of _ (by decide +kernel)) ggX10_often_X10_arePlaces
set_option maxRecDepth 20000 in
theorem ggX10_often_X10_cutOf : GoodIn wsX10_often wsX10_cutOf := goodIn_r _ [14, 15, 16, 17, 18, 4, 19, 20, 21, 22, 23, 24, 10, 25, 26, 27, 28, 29, 30, 31, 32, 33, 34, 35, 36, 37, 38, 39, 40, 41, 42, 43, 44, 45, 46, 47, 48, 49, 50, 51, 52, 53, 54, 55, 56, 57, 58, 59, 60] (by decide +kernel) (by decide +kernel)
set_option maxRecDepth 20000 in
theorem gX10_often_X10_cutOf : GoodIn wsX10_often (wsV RX10 217 RX10 yX10_cutOf wsX10_cutOf) := goodIn_app (goodIn_of _ (by decide +kernel)) ggX10_often_X10_cutOf
set_option maxRecDepth 20000 in
theorem ggX10_often_X10_oftenBy : GoodIn wsX10_often wsX10_oftenBy := goodIn_r _ [19, 15, 20, 27, 28, 29, 30, 31, 32, 33, 34, 35, 36, 37, 38, 39, 40, 41, 42, 43, 44, 45, 46, 47, 48, 49, 50, 51, 52, 53, 54, 55, 56, 57, 58, 59, 60] (by decide +kernel) (by decide +kernel)
set_option maxRecDepth 20000 in
theorem gX10_often_X10_oftenBy : GoodIn wsX10_often (wsV RX10 211 RX10 yX10_oftenBy wsX10_oftenBy) := goodIn_app (goodIn_of _ (by decide +kernel)) ggX10_often_X10_oftenBy
theorem dX10_often_0 : decode cX10_often 0 = .ok (.aload_n 0, 1) := by decide +kernel
theorem dX10_often_1 : decode cX10_often 1 = .ok (.iconst 0, 1) := by decide +kernel
theorem dX10_often_2 : decode cX10_often 2 = .ok (.putfield 69, 3) := by decide +kernel
theorem dX10_often_5 : decode cX10_often 5 = .ok (.iload_n 1, 1) := by decide +kernel
theorem dX10_often_6 : decode cX10_often 6 = .ok (.iconst 1, 1) := by decide +kernel
theorem dX10_often_7 : decode cX10_often 7 = .ok (.iconst 3, 1) := by decide +kernel
theorem dX10_often_8 : decode cX10_often 8 = .ok (.invokestatic 72, 3) := by decide +kernel
theorem dX10_often_11 : decode cX10_often 11 = .ok (.ifCond .eq 22, 3) := by decide +kernel
theorem dX10_often_14 : decode cX10_often 14 = .ok (.aload_n 0, 1) := by decide +kernel
theorem dX10_often_15 : decode cX10_often 15 = .ok (.iload_n 2, 1) := by decide +kernel
theorem dX10_often_16 : decode cX10_often 16 = .ok (.iload_n 3, 1) := by decide +kernel
theorem dX10_often_17 : decode cX10_often 17 = .ok (.invokevirtual 174, 3) := by decide +kernel
theorem dX10_often_20 : decode cX10_often 20 = .ok (.ifCond .eq 13, 3) := by decide +kernel
theorem dX10_often_23 : decode cX10_often 23 = .ok (.iload 4, 2) := by decide +kernel
theorem dX10_often_25 : decode cX10_often 25 = .ok (.iconst 0, 1) := by decide +kernel
theorem dX10_often_26 : decode cX10_often 26 = .ok (.iconst 1, 1) := by decide +kernel
theorem dX10_often_27 : decode cX10_often 27 = .ok (.invokestatic 72, 3) := by decide +kernel
theorem dX10_often_30 : decode cX10_often 30 = .ok (.ifCond .ne 5, 3) := by decide +kernel
theorem dX10_often_33 : decode cX10_often 33 = .ok (.iconst (-1), 1) := by decide +kernel
theorem dX10_often_34 : decode cX10_often 34 = .ok (.ireturn, 1) := by decide +kernel
theorem dX10_often_35 : decode cX10_often 35 = .ok (.aload_n 0, 1) := by decide +kernel
theorem dX10_often_36 : decode cX10_often 36 = .ok (.iload_n 1, 1) := by decide +kernel
theorem dX10_often_37 : decode cX10_often 37 = .ok (.iload_n 2, 1) := by decide +kernel
theorem dX10_often_38 : decode cX10_often 38 = .ok (.iload_n 3, 1) := by decide +kernel
theorem dX10_often_39 : decode cX10_often 39 = .ok (.invokevirtual 217, 3) := by decide +kernel
theorem dX10_often_42 : decode cX10_often 42 = .ok (.istore 5, 2) := by decide +kernel
theorem dX10_often_44 : decode cX10_often 44 = .ok (.iload 4, 2) := by decide +kernel
theorem dX10_often_46 : decode cX10_often 46 = .ok (.iconst 1, 1) := by decide +kernel
theorem dX10_often_47 : decode cX10_often 47 = .ok (.if_icmp .ne 8, 3) := by decide +kernel
theorem dX10_often_50 : decode cX10_often 50 = .ok (.iload 5, 2) := by decide +kernel
theorem dX10_often_52 : decode cX10_often 52 = .ok (.goto 10, 3) := by decide +kernel
theorem dX10_often_55 : decode cX10_often 55 = .ok (.aload_n 0, 1) := by decide +kernel
theorem dX10_often_56 : decode cX10_often 56 = .ok (.iload 5, 2) := by decide +kernel
theorem dX10_often_58 : decode cX10_often 58 = .ok (.iload_n 1, 1) := by decide +kernel
theorem dX10_often_59 : decode cX10_often 59 = .ok (.invokevirtual 211, 3) := by decide +kernel
theorem dX10_often_62 : decode cX10_often 62 = .ok (.ireturn, 1) := by decide +kernel
set_option maxRecDepth 20000 in
theorem ggX10_better_X10_in : GoodIn wsX10_better wsX10_in := goodIn_r _ [6] (by decide +kernel) (by decide +kernel)
set_option maxRecDepth 20000 in
theorem gX10_better_X10_in : GoodIn wsX10_better (va_wsS RX10 72 yX10_in wsX10_in) := goodIn_app (goodIn_of _ (by decide +kernel)) ggX10_better_X10_in
set_option maxRecDepth 20000 in
theorem ggX10_better_X10_arePlaces : GoodIn wsX10_better wsX10_arePlaces := goodIn_r _ [10, 11, 3, 4, 5, 6, 31, 32, 33, 34, 35, 36, 37, 38, 39, 40, 41, 42, 43, 44, 45, 46, 47, 48, 49, 50, 51, 52, 53, 54, 55, 56, 57, 58, 59, 60, 61, 62, 63, 64] (by decide +kernel) (by decide +kernel)
set_option maxRecDepth 20000 in
theorem gX10_better_X10_arePlaces : GoodIn wsX10_better (wsV RX10 174 RX10 yX10_arePlaces wsX10_arePlaces) := goodIn_app (goodIn_of _ (by decide +kernel)) ggX10_better_X10_arePlaces
set_option maxRecDepth 20000 in
theorem ggX10_better_X10_changes : GoodIn wsX10_better wsX10_changes := goodIn_r _ [15, 16, 31, 32, 33, 34, 35, 36, 37, 38, 39, 40, 41, 42, 43, 44, 45, 46, 47, 48, 49, 50, 51, 52, 53, 54, 55, 56, 57, 58, 59, 60, 61, 62, 63, 64] (by decide +kernel) (by decide +kernel)
set_option maxRecDepth 20000 in
theorem gX10_better_X10_changes : GoodIn wsX10_better (wsV RX10 187 RX10 yX10_changes wsX10_changes) := goodIn_app (goodIn_of _ (by decide +kernel)) ggX10_better_X10_changes
set_option maxRecDepth 20000 in
theorem ggX10_better_X10_cutOf : GoodIn wsX10_better wsX10_cutOf := goodIn_r _ [20, 2, 21, 22, 23, 5, 24, 16, 25, 26, 27, 28, 11, 29, 30, 31, 32, 33, 34, 35, 36, 37, 38, 39, 40, 41, 42, 43, 44, 45, 46, 47, 48, 49, 50, 51, 52, 53, 54, 55, 56, 57, 58, 59, 60, 61, 62, 63, 64] (by decide +kernel) (by decide +kernel)
set_option maxRecDepth 20000 in
theorem gX10_better_X10_cutOf : GoodIn wsX10_better (wsV RX10 217 RX10 yX10_cutOf wsX10_cutOf) := goodIn_app (goodIn_of _ (by decide +kernel)) ggX10_better_X10_cutOf
set_option maxRecDepth 20000 in
theorem ggX10_better_X10_oftenBy : GoodIn wsX10_better wsX10_oftenBy := goodIn_r _ [24, 2, 16, 31, 32, 33, 34, 35, 36, 37, 38, 39, 40, 41, 42, 43, 44, 45, 46, 47, 48, 49, 50, 51, 52, 53, 54, 55, 56, 57, 58, 59, 60, 61, 62, 63, 64] (by decide +kernel) (by decide +kernel)
set_option maxRecDepth 20000 in
theorem gX10_better_X10_oftenBy : GoodIn wsX10_better (wsV RX10 211 RX10 yX10_oftenBy wsX10_oftenBy) := goodIn_app (goodIn_of _ (by decide +kernel)) ggX10_better_X10_oftenBy
theorem dX10_better_0 : decode cX10_better 0 = .ok (.aload_n 0, 1) := by decide +kernel
theorem dX10_better_1 : decode cX10_better 1 = .ok (.iconst 0, 1) := by decide +kernel
theorem dX10_better_2 : decode cX10_better 2 = .ok (.putfield 69, 3) := by decide +kernel
theorem dX10_better_5 : decode cX10_better 5 = .ok (.iload_n 1, 1) := by decide +kernel
theorem dX10_better_6 : decode cX10_better 6 = .ok (.iconst 1, 1) := by decide +kernel
theorem dX10_better_7 : decode cX10_better 7 = .ok (.iconst 3, 1) := by decide +kernel
theorem dX10_better_8 : decode cX10_better 8 = .ok (.invokestatic 72, 3) := by decide +kernel
theorem dX10_better_11 : decode cX10_better 11 = .ok (.ifCond .eq 22, 3) := by decide +kernel
theorem dX10_better_14 : decode cX10_better 14 = .ok (.aload_n 0, 1) := by decide +kernel
theorem dX10_better_15 : decode cX10_better 15 = .ok (.iload_n 2, 1) := by decide +kernel
theorem dX10_better_16 : decode cX10_better 16 = .ok (.iload_n 3, 1) := by decide +kernel
theorem dX10_better_17 : decode cX10_better 17 = .ok (.invokevirtual 174, 3) := by decide +kernel
theorem dX10_better_20 : decode cX10_better 20 = .ok (.ifCond .eq 13, 3) := by decide +kernel
theorem dX10_better_23 : decode cX10_better 23 = .ok (.iload 4, 2) := by decide +kernel
theorem dX10_better_25 : decode cX10_better 25 = .ok (.iconst 0, 1) := by decide +kernel
theorem dX10_better_26 : decode cX10_better 26 = .ok (.iconst 1, 1) := by decide +kernel
theorem dX10_better_27 : decode cX10_better 27 = .ok (.invokestatic 72, 3) := by decide +kernel
theorem dX10_better_30 : decode cX10_better 30 = .ok (.ifCond .ne 5, 3) := by decide +kernel
theorem dX10_better_33 : decode cX10_better 33 = .ok (.iconst (-1), 1) := by decide +kernel
theorem dX10_better_34 : decode cX10_better 34 = .ok (.ireturn, 1) := by decide +kernel
theorem dX10_better_35 : decode cX10_better 35 = .ok (.bipush (-9), 2) := by decide +kernel
theorem dX10_better_37 : decode cX10_better 37 = .ok (.istore 5, 2) := by decide +kernel
theorem dX10_better_39 : decode cX10_better 39 = .ok (.bipush (-9), 2) := by decide +kernel
theorem dX10_better_41 : decode cX10_better 41 = .ok (.istore 6, 2) := by decide +kernel
theorem dX10_better_43 : decode cX10_better 43 = .ok (.iconst 0, 1) := by decide +kernel
theorem dX10_better_44 : decode cX10_better 44 = .ok (.istore 7, 2) := by decide +kernel
theorem dX10_better_46 : decode cX10_better 46 = .ok (.iload 7, 2) := by decide +kernel
theorem dX10_better_48 : decode cX10_better 48 = .ok (.aload_n 0, 1) := by decide +kernel
theorem dX10_better_49 : decode cX10_better 49 = .ok (.getfield 148, 3) := by decide +kernel
theorem dX10_better_52 : decode cX10_better 52 = .ok (.if_icmp .ge 111, 3) := by decide +kernel
theorem dX10_better_55 : decode cX10_better 55 = .ok (.iload 7, 2) := by decide +kernel
theorem dX10_better_57 : decode cX10_better 57 = .ok (.iconst 1, 1) := by decide +kernel
theorem dX10_better_58 : decode cX10_better 58 = .ok (.iadd, 1) := by decide +kernel
theorem dX10_better_59 : decode cX10_better 59 = .ok (.istore 8, 2) := by decide +kernel
theorem dX10_better_61 : decode cX10_better 61 = .ok (.iload 8, 2) := by decide +kernel
theorem dX10_better_63 : decode cX10_better 63 = .ok (.aload_n 0, 1) := by decide +kernel
theorem dX10_better_64 : decode cX10_better 64 = .ok (.getfield 148, 3) := by decide +kernel
theorem dX10_better_67 : decode cX10_better 67 = .ok (.if_icmp .ge 90, 3) := by decide +kernel
theorem dX10_better_70 : decode cX10_better 70 = .ok (.aload_n 0, 1) := by decide +kernel
theorem dX10_better_71 : decode cX10_better 71 = .ok (.iload 7, 2) := by decide +kernel
theorem dX10_better_73 : decode cX10_better 73 = .ok (.iload 8, 2) := by decide +kernel
theorem dX10_better_75 : decode cX10_better 75 = .ok (.invokevirtual 187, 3) := by decide +kernel
theorem dX10_better_78 : decode cX10_better 78 = .ok (.aload_n 0, 1) := by decide +kernel
theorem dX10_better_79 : decode cX10_better 79 = .ok (.aload_n 0, 1) := by decide +kernel
theorem dX10_better_80 : decode cX10_better 80 = .ok (.iload_n 1, 1) := by decide +kernel
theorem dX10_better_81 : decode cX10_better 81 = .ok (.iload_n 2, 1) := by decide +kernel
theorem dX10_better_82 : decode cX10_better 82 = .ok (.iload_n 3, 1) := by decide +kernel
theorem dX10_better_83 : decode cX10_better 83 = .ok (.invokevirtual 217, 3) := by decide +kernel
theorem dX10_better_86 : decode cX10_better 86 = .ok (.iload_n 1, 1) := by decide +kernel
theorem dX10_better_87 : decode cX10_better 87 = .ok (.invokevirtual 211, 3) := by decide +kernel
theorem dX10_better_90 : decode cX10_better 90 = .ok (.istore 9, 2) := by decide +kernel
theorem dX10_better_92 : decode cX10_better 92 = .ok (.aload_n 0, 1) := by decide +kernel
theorem dX10_better_93 : decode cX10_better 93 = .ok (.iload 7, 2) := by decide +kernel
theorem dX10_better_95 : decode cX10_better 95 = .ok (.iload 8, 2) := by decide +kernel
theorem dX10_better_97 : decode cX10_better 97 = .ok (.invokevirtual 187, 3) := by decide +kernel
theorem dX10_better_100 : decode cX10_better 100 = .ok (.iload 5, 2) := by decide +kernel
theorem dX10_better_102 : decode cX10_better 102 = .ok (.bipush (-9), 2) := by decide +kernel
theorem dX10_better_104 : decode cX10_better 104 = .ok (.if_icmp .eq 10, 3) := by decide +kernel
theorem dX10_better_107 : decode cX10_better 107 = .ok (.iload 9, 2) := by decide +kernel
theorem dX10_better_109 : decode cX10_better 109 = .ok (.iload 6, 2) := by decide +kernel
theorem dX10_better_111 : decode cX10_better 111 = .ok (.if_icmp .le 14, 3) := by decide +kernel
theorem dX10_better_114 : decode cX10_better 114 = .ok (.bipush 10, 2) := by decide +kernel
theorem dX10_better_116 : decode cX10_better 116 = .ok (.iload 7, 2) := by decide +kernel
theorem dX10_better_118 : decode cX10_better 118 = .ok (.imul, 1) := by decide +kernel
theorem dX10_better_119 : decode cX10_better 119 = .ok (.iload 8, 2) := by decide +kernel
theorem dX10_better_121 : decode cX10_better 121 = .ok (.iadd, 1) := by decide +kernel
theorem dX10_better_122 : decode cX10_better 122 = .ok (.goto 5, 3) := by decide +kernel
theorem dX10_better_125 : decode cX10_better 125 = .ok (.iload 5, 2) := by decide +kernel
theorem dX10_better_127 : decode cX10_better 127 = .ok (.istore 5, 2) := by decide +kernel
theorem dX10_better_129 : decode cX10_better 129 = .ok (.iload 5, 2) := by decide +kernel
theorem dX10_better_131 : decode cX10_better 131 = .ok (.bipush 10, 2) := by decide +kernel
theorem dX10_better_133 : decode cX10_better 133 = .ok (.iload 7, 2) := by decide +kernel
theorem dX10_better_135 : decode cX10_better 135 = .ok (.imul, 1) := by decide +kernel
theorem dX10_better_136 : decode cX10_better 136 = .ok (.iload 8, 2) := by decide +kernel
theorem dX10_better_138 : decode cX10_better 138 = .ok (.iadd, 1) := by decide +kernel
theorem dX10_better_139 : decode cX10_better 139 = .ok (.if_icmp .ne 8, 3) := by decide +kernel
theorem dX10_better_142 : decode cX10_better 142 = .ok (.iload 9, 2) := by decide +kernel
theorem dX10_better_144 : decode cX10_better 144 = .ok (.goto 5, 3) := by decide +kernel
theorem dX10_better_147 : decode cX10_better 147 = .ok (.iload 6, 2) := by decide +kernel
theorem dX10_better_149 : decode cX10_better 149 = .ok (.istore 6, 2) := by decide +kernel
theorem dX10_better_151 : decode cX10_better 151 = .ok (.iinc 8 1, 3) := by decide +kernel
theorem dX10_better_154 : decode cX10_better 154 = .ok (.goto (-93), 3) := by decide +kernel
theorem dX10_better_157 : decode cX10_better 157 = .ok (.iinc 7 1, 3) := by decide +kernel
theorem dX10_better_160 : decode cX10_better 160 = .ok (.goto (-114), 3) := by decide +kernel
theorem dX10_better_163 : decode cX10_better 163 = .ok (.iload 4, 2) := by decide +kernel
theorem dX10_better_165 : decode cX10_better 165 = .ok (.ifCond .ne 8, 3) := by decide +kernel
theorem dX10_better_168 : decode cX10_better 168 = .ok (.iload 5, 2) := by decide +kernel
theorem dX10_better_170 : decode cX10_better 170 = .ok (.goto 5, 3) := by decide +kernel
theorem dX10_better_173 : decode cX10_better 173 = .ok (.iload 6, 2) := by decide +kernel
theorem dX10_better_175 : decode cX10_better 175 = .ok (.ireturn, 1) := by decide +kernel
theorem dX10_spentOf_0 : decode cX10_spentOf 0 = .ok (.aload_n 0, 1) := by decide +kernel
theorem dX10_spentOf_1 : decode cX10_spentOf 1 = .ok (.getfield 34, 3) := by decide +kernel
theorem dX10_spentOf_4 : decode cX10_spentOf 4 = .ok (.bipush 50, 2) := by decide +kernel
theorem dX10_spentOf_6 : decode cX10_spentOf 6 = .ok (.iload_n 1, 1) := by decide +kernel
theorem dX10_spentOf_7 : decode cX10_spentOf 7 = .ok (.imul, 1) := by decide +kernel
theorem dX10_spentOf_8 : decode cX10_spentOf 8 = .ok (.iload_n 2, 1) := by decide +kernel
theorem dX10_spentOf_9 : decode cX10_spentOf 9 = .ok (.iadd, 1) := by decide +kernel
theorem dX10_spentOf_10 : decode cX10_spentOf 10 = .ok (.iaload, 1) := by decide +kernel
theorem dX10_spentOf_11 : decode cX10_spentOf 11 = .ok (.aload_n 0, 1) := by decide +kernel
theorem dX10_spentOf_12 : decode cX10_spentOf 12 = .ok (.getfield 31, 3) := by decide +kernel
theorem dX10_spentOf_15 : decode cX10_spentOf 15 = .ok (.iload_n 2, 1) := by decide +kernel
theorem dX10_spentOf_16 : decode cX10_spentOf 16 = .ok (.iaload, 1) := by decide +kernel
theorem dX10_spentOf_17 : decode cX10_spentOf 17 = .ok (.isub, 1) := by decide +kernel
theorem dX10_spentOf_18 : decode cX10_spentOf 18 = .ok (.istore_n 3, 1) := by decide +kernel
theorem dX10_spentOf_19 : decode cX10_spentOf 19 = .ok (.iload_n 3, 1) := by decide +kernel
theorem dX10_spentOf_20 : decode cX10_spentOf 20 = .ok (.ifCond .le 7, 3) := by decide +kernel
theorem dX10_spentOf_23 : decode cX10_spentOf 23 = .ok (.iload_n 3, 1) := by decide +kernel
theorem dX10_spentOf_24 : decode cX10_spentOf 24 = .ok (.goto 4, 3) := by decide +kernel
theorem dX10_spentOf_27 : decode cX10_spentOf 27 = .ok (.iconst 0, 1) := by decide +kernel
theorem dX10_spentOf_28 : decode cX10_spentOf 28 = .ok (.ireturn, 1) := by decide +kernel
set_option maxRecDepth 20000 in
theorem ggX10_spent_X10_in : GoodIn wsX10_spent wsX10_in := goodIn_r _ [7] (by decide +kernel) (by decide +kernel)
set_option maxRecDepth 20000 in
theorem gX10_spent_X10_in : GoodIn wsX10_spent (va_wsS RX10 72 yX10_in wsX10_in) := goodIn_app (goodIn_of _ (by decide +kernel)) ggX10_spent_X10_in
set_option maxRecDepth 20000 in
theorem ggX10_spent_X10_isPlank : GoodIn wsX10_spent wsX10_isPlank := goodIn_r _ [11, 3, 4, 5, 6, 7, 18, 19, 20, 21, 22, 23, 24, 25, 26, 27, 28, 29, 30, 31, 32, 33, 34, 35, 36, 37, 38, 39, 40, 41, 42, 43, 44, 45, 46, 47, 48, 49, 50, 51] (by decide +kernel) (by decide +kernel)
set_option maxRecDepth 20000 in
theorem gX10_spent_X10_isPlank : GoodIn wsX10_spent (wsV RX10 157 RX10 yX10_isPlank wsX10_isPlank) := goodIn_app (goodIn_of _ (by decide +kernel)) ggX10_spent_X10_isPlank
set_option maxRecDepth 20000 in
theorem ggX10_spent_X10_spentOf : GoodIn wsX10_spent wsX10_spentOf := goodIn_r _ [15, 16, 17, 18, 19, 20, 21, 22, 23, 24, 25, 26, 27, 28, 29, 30, 31, 32, 33, 34, 35, 36, 37, 38, 39, 40, 41, 42, 43, 44, 45, 46, 47, 48, 49, 50, 51] (by decide +kernel) (by decide +kernel)
set_option maxRecDepth 20000 in
theorem gX10_spent_X10_spentOf : GoodIn wsX10_spent (wsV RX10 220 RX10 yX10_spentOf wsX10_spentOf) := goodIn_app (goodIn_of _ (by decide +kernel)) ggX10_spent_X10_spentOf
theorem dX10_spent_0 : decode cX10_spent 0 = .ok (.aload_n 0, 1) := by decide +kernel
theorem dX10_spent_1 : decode cX10_spent 1 = .ok (.iconst 0, 1) := by decide +kernel
theorem dX10_spent_2 : decode cX10_spent 2 = .ok (.putfield 69, 3) := by decide +kernel
theorem dX10_spent_5 : decode cX10_spent 5 = .ok (.iload_n 1, 1) := by decide +kernel
theorem dX10_spent_6 : decode cX10_spent 6 = .ok (.iconst 0, 1) := by decide +kernel
theorem dX10_spent_7 : decode cX10_spent 7 = .ok (.iconst 1, 1) := by decide +kernel
theorem dX10_spent_8 : decode cX10_spent 8 = .ok (.invokestatic 72, 3) := by decide +kernel
theorem dX10_spent_11 : decode cX10_spent 11 = .ok (.ifCond .eq 16, 3) := by decide +kernel
theorem dX10_spent_14 : decode cX10_spent 14 = .ok (.iload_n 2, 1) := by decide +kernel
theorem dX10_spent_15 : decode cX10_spent 15 = .ok (.iconst (-1), 1) := by decide +kernel
theorem dX10_spent_16 : decode cX10_spent 16 = .ok (.if_icmp .eq 13, 3) := by decide +kernel
theorem dX10_spent_19 : decode cX10_spent 19 = .ok (.aload_n 0, 1) := by decide +kernel
theorem dX10_spent_20 : decode cX10_spent 20 = .ok (.iload_n 2, 1) := by decide +kernel
theorem dX10_spent_21 : decode cX10_spent 21 = .ok (.invokevirtual 157, 3) := by decide +kernel
theorem dX10_spent_24 : decode cX10_spent 24 = .ok (.ifCond .ne 5, 3) := by decide +kernel
theorem dX10_spent_27 : decode cX10_spent 27 = .ok (.iconst (-1), 1) := by decide +kernel
theorem dX10_spent_28 : decode cX10_spent 28 = .ok (.ireturn, 1) := by decide +kernel
theorem dX10_spent_29 : decode cX10_spent 29 = .ok (.aload_n 0, 1) := by decide +kernel
theorem dX10_spent_30 : decode cX10_spent 30 = .ok (.getfield 37, 3) := by decide +kernel
theorem dX10_spent_33 : decode cX10_spent 33 = .ok (.iload_n 1, 1) := by decide +kernel
theorem dX10_spent_34 : decode cX10_spent 34 = .ok (.baload, 1) := by decide +kernel
theorem dX10_spent_35 : decode cX10_spent 35 = .ok (.ifCond .ne 6, 3) := by decide +kernel
theorem dX10_spent_38 : decode cX10_spent 38 = .ok (.bipush (-2), 2) := by decide +kernel
theorem dX10_spent_40 : decode cX10_spent 40 = .ok (.ireturn, 1) := by decide +kernel
theorem dX10_spent_41 : decode cX10_spent 41 = .ok (.iconst 0, 1) := by decide +kernel
theorem dX10_spent_42 : decode cX10_spent 42 = .ok (.istore_n 3, 1) := by decide +kernel
theorem dX10_spent_43 : decode cX10_spent 43 = .ok (.iconst 0, 1) := by decide +kernel
theorem dX10_spent_44 : decode cX10_spent 44 = .ok (.istore 4, 2) := by decide +kernel
theorem dX10_spent_46 : decode cX10_spent 46 = .ok (.iload 4, 2) := by decide +kernel
theorem dX10_spent_48 : decode cX10_spent 48 = .ok (.aload_n 0, 1) := by decide +kernel
theorem dX10_spent_49 : decode cX10_spent 49 = .ok (.getfield 148, 3) := by decide +kernel
theorem dX10_spent_52 : decode cX10_spent 52 = .ok (.if_icmp .ge 34, 3) := by decide +kernel
theorem dX10_spent_55 : decode cX10_spent 55 = .ok (.iload_n 3, 1) := by decide +kernel
theorem dX10_spent_56 : decode cX10_spent 56 = .ok (.iload_n 2, 1) := by decide +kernel
theorem dX10_spent_57 : decode cX10_spent 57 = .ok (.iconst (-1), 1) := by decide +kernel
theorem dX10_spent_58 : decode cX10_spent 58 = .ok (.if_icmp .eq 9, 3) := by decide +kernel
theorem dX10_spent_61 : decode cX10_spent 61 = .ok (.iload_n 2, 1) := by decide +kernel
theorem dX10_spent_62 : decode cX10_spent 62 = .ok (.iload 4, 2) := by decide +kernel
theorem dX10_spent_64 : decode cX10_spent 64 = .ok (.if_icmp .ne 13, 3) := by decide +kernel
theorem dX10_spent_67 : decode cX10_spent 67 = .ok (.aload_n 0, 1) := by decide +kernel
theorem dX10_spent_68 : decode cX10_spent 68 = .ok (.iload_n 1, 1) := by decide +kernel
theorem dX10_spent_69 : decode cX10_spent 69 = .ok (.iload 4, 2) := by decide +kernel
theorem dX10_spent_71 : decode cX10_spent 71 = .ok (.invokevirtual 220, 3) := by decide +kernel
theorem dX10_spent_74 : decode cX10_spent 74 = .ok (.goto 4, 3) := by decide +kernel
theorem dX10_spent_77 : decode cX10_spent 77 = .ok (.iconst 0, 1) := by decide +kernel
theorem dX10_spent_78 : decode cX10_spent 78 = .ok (.iadd, 1) := by decide +kernel
theorem dX10_spent_79 : decode cX10_spent 79 = .ok (.istore_n 3, 1) := by decide +kernel
theorem dX10_spent_80 : decode cX10_spent 80 = .ok (.iinc 4 1, 3) := by decide +kernel
theorem dX10_spent_83 : decode cX10_spent 83 = .ok (.goto (-37), 3) := by decide +kernel
theorem dX10_spent_86 : decode cX10_spent 86 = .ok (.iload_n 3, 1) := by decide +kernel
theorem dX10_spent_87 : decode cX10_spent 87 = .ok (.ireturn, 1) := by decide +kernel
theorem dX10_waysToTell_0 : decode cX10_waysToTell 0 = .ok (.iconst 0, 1) := by decide +kernel
theorem dX10_waysToTell_1 : decode cX10_waysToTell 1 = .ok (.istore_n 2, 1) := by decide +kernel
theorem dX10_waysToTell_2 : decode cX10_waysToTell 2 = .ok (.iload_n 2, 1) := by decide +kernel
theorem dX10_waysToTell_3 : decode cX10_waysToTell 3 = .ok (.bipush 10, 2) := by decide +kernel
theorem dX10_waysToTell_5 : decode cX10_waysToTell 5 = .ok (.if_icmp .ge 24, 3) := by decide +kernel
theorem dX10_waysToTell_8 : decode cX10_waysToTell 8 = .ok (.aload_n 0, 1) := by decide +kernel
theorem dX10_waysToTell_9 : decode cX10_waysToTell 9 = .ok (.getfield 62, 3) := by decide +kernel
theorem dX10_waysToTell_12 : decode cX10_waysToTell 12 = .ok (.iload_n 2, 1) := by decide +kernel
theorem dX10_waysToTell_13 : decode cX10_waysToTell 13 = .ok (.iload_n 2, 1) := by decide +kernel
theorem dX10_waysToTell_14 : decode cX10_waysToTell 14 = .ok (.ifCond .ne 7, 3) := by decide +kernel
theorem dX10_waysToTell_17 : decode cX10_waysToTell 17 = .ok (.iconst 1, 1) := by decide +kernel
theorem dX10_waysToTell_18 : decode cX10_waysToTell 18 = .ok (.goto 4, 3) := by decide +kernel
theorem dX10_waysToTell_21 : decode cX10_waysToTell 21 = .ok (.iconst 0, 1) := by decide +kernel
theorem dX10_waysToTell_22 : decode cX10_waysToTell 22 = .ok (.iastore, 1) := by decide +kernel
theorem dX10_waysToTell_23 : decode cX10_waysToTell 23 = .ok (.iinc 2 1, 3) := by decide +kernel
theorem dX10_waysToTell_26 : decode cX10_waysToTell 26 = .ok (.goto (-24), 3) := by decide +kernel
theorem dX10_waysToTell_29 : decode cX10_waysToTell 29 = .ok (.iconst 0, 1) := by decide +kernel
theorem dX10_waysToTell_30 : decode cX10_waysToTell 30 = .ok (.istore_n 2, 1) := by decide +kernel
theorem dX10_waysToTell_31 : decode cX10_waysToTell 31 = .ok (.iload_n 2, 1) := by decide +kernel
theorem dX10_waysToTell_32 : decode cX10_waysToTell 32 = .ok (.aload_n 0, 1) := by decide +kernel
theorem dX10_waysToTell_33 : decode cX10_waysToTell 33 = .ok (.getfield 151, 3) := by decide +kernel
theorem dX10_waysToTell_36 : decode cX10_waysToTell 36 = .ok (.if_icmp .ge 50, 3) := by decide +kernel
theorem dX10_waysToTell_39 : decode cX10_waysToTell 39 = .ok (.aload_n 0, 1) := by decide +kernel
theorem dX10_waysToTell_40 : decode cX10_waysToTell 40 = .ok (.getfield 22, 3) := by decide +kernel
theorem dX10_waysToTell_43 : decode cX10_waysToTell 43 = .ok (.iload_n 2, 1) := by decide +kernel
theorem dX10_waysToTell_44 : decode cX10_waysToTell 44 = .ok (.iaload, 1) := by decide +kernel
theorem dX10_waysToTell_45 : decode cX10_waysToTell 45 = .ok (.istore_n 3, 1) := by decide +kernel
theorem dX10_waysToTell_46 : decode cX10_waysToTell 46 = .ok (.iload_n 3, 1) := by decide +kernel
theorem dX10_waysToTell_47 : decode cX10_waysToTell 47 = .ok (.bipush 10, 2) := by decide +kernel
theorem dX10_waysToTell_49 : decode cX10_waysToTell 49 = .ok (.if_icmp .ge 31, 3) := by decide +kernel
theorem dX10_waysToTell_52 : decode cX10_waysToTell 52 = .ok (.aload_n 0, 1) := by decide +kernel
theorem dX10_waysToTell_53 : decode cX10_waysToTell 53 = .ok (.getfield 62, 3) := by decide +kernel
theorem dX10_waysToTell_56 : decode cX10_waysToTell 56 = .ok (.iload_n 3, 1) := by decide +kernel
theorem dX10_waysToTell_57 : decode cX10_waysToTell 57 = .ok (.dup2, 1) := by decide +kernel
theorem dX10_waysToTell_58 : decode cX10_waysToTell 58 = .ok (.iaload, 1) := by decide +kernel
theorem dX10_waysToTell_59 : decode cX10_waysToTell 59 = .ok (.aload_n 0, 1) := by decide +kernel
theorem dX10_waysToTell_60 : decode cX10_waysToTell 60 = .ok (.getfield 62, 3) := by decide +kernel
theorem dX10_waysToTell_63 : decode cX10_waysToTell 63 = .ok (.iload_n 3, 1) := by decide +kernel
theorem dX10_waysToTell_64 : decode cX10_waysToTell 64 = .ok (.aload_n 0, 1) := by decide +kernel
theorem dX10_waysToTell_65 : decode cX10_waysToTell 65 = .ok (.getfield 22, 3) := by decide +kernel
theorem dX10_waysToTell_68 : decode cX10_waysToTell 68 = .ok (.iload_n 2, 1) := by decide +kernel
theorem dX10_waysToTell_69 : decode cX10_waysToTell 69 = .ok (.iaload, 1) := by decide +kernel
theorem dX10_waysToTell_70 : decode cX10_waysToTell 70 = .ok (.isub, 1) := by decide +kernel
theorem dX10_waysToTell_71 : decode cX10_waysToTell 71 = .ok (.iaload, 1) := by decide +kernel
theorem dX10_waysToTell_72 : decode cX10_waysToTell 72 = .ok (.iadd, 1) := by decide +kernel
theorem dX10_waysToTell_73 : decode cX10_waysToTell 73 = .ok (.iastore, 1) := by decide +kernel
theorem dX10_waysToTell_74 : decode cX10_waysToTell 74 = .ok (.iinc 3 1, 3) := by decide +kernel
theorem dX10_waysToTell_77 : decode cX10_waysToTell 77 = .ok (.goto (-31), 3) := by decide +kernel
theorem dX10_waysToTell_80 : decode cX10_waysToTell 80 = .ok (.iinc 2 1, 3) := by decide +kernel
theorem dX10_waysToTell_83 : decode cX10_waysToTell 83 = .ok (.goto (-52), 3) := by decide +kernel
theorem dX10_waysToTell_86 : decode cX10_waysToTell 86 = .ok (.aload_n 0, 1) := by decide +kernel
theorem dX10_waysToTell_87 : decode cX10_waysToTell 87 = .ok (.getfield 62, 3) := by decide +kernel
theorem dX10_waysToTell_90 : decode cX10_waysToTell 90 = .ok (.iload_n 1, 1) := by decide +kernel
theorem dX10_waysToTell_91 : decode cX10_waysToTell 91 = .ok (.iaload, 1) := by decide +kernel
theorem dX10_waysToTell_92 : decode cX10_waysToTell 92 = .ok (.ireturn, 1) := by decide +kernel
set_option maxRecDepth 20000 in
theorem ggX10_tell_X10_in : GoodIn wsX10_tell wsX10_in := goodIn_r _ [9] (by decide +kernel) (by decide +kernel)
set_option maxRecDepth 20000 in
theorem gX10_tell_X10_in : GoodIn wsX10_tell (va_wsS RX10 72 yX10_in wsX10_in) := goodIn_app (goodIn_of _ (by decide +kernel)) ggX10_tell_X10_in
set_option maxRecDepth 20000 in
theorem ggX10_tell_X10_spentOf : GoodIn wsX10_tell wsX10_spentOf := goodIn_r _ [13, 14, 15, 23, 24, 25, 26, 27, 28, 29, 30, 31, 32, 33, 34, 35, 36, 37, 38, 39, 40, 41, 42, 43, 44, 45, 46, 47, 48, 49, 50, 51, 52, 53, 54, 55, 56] (by decide +kernel) (by decide +kernel)
set_option maxRecDepth 20000 in
theorem gX10_tell_X10_spentOf : GoodIn wsX10_tell (wsV RX10 220 RX10 yX10_spentOf wsX10_spentOf) := goodIn_app (goodIn_of _ (by decide +kernel)) ggX10_tell_X10_spentOf
set_option maxRecDepth 20000 in
theorem ggX10_tell_X10_waysToTell : GoodIn wsX10_tell wsX10_waysToTell := goodIn_r _ [19, 20, 21, 22, 23, 24, 25, 26, 27, 28, 29, 30, 31, 32, 33, 34, 35, 36, 37, 38, 39, 40, 41, 42, 43, 44, 45, 46, 47, 48, 49, 50, 51, 52, 53, 54, 55, 56] (by decide +kernel) (by decide +kernel)
set_option maxRecDepth 20000 in
theorem gX10_tell_X10_waysToTell : GoodIn wsX10_tell (wsV RX10 227 RX10 yX10_waysToTell wsX10_waysToTell) := goodIn_app (goodIn_of _ (by decide +kernel)) ggX10_tell_X10_waysToTell
theorem dX10_tell_0 : decode cX10_tell 0 = .ok (.aload_n 0, 1) := by decide +kernel
theorem dX10_tell_1 : decode cX10_tell 1 = .ok (.iconst 0, 1) := by decide +kernel
theorem dX10_tell_2 : decode cX10_tell 2 = .ok (.putfield 69, 3) := by decide +kernel
theorem dX10_tell_5 : decode cX10_tell 5 = .ok (.iload_n 1, 1) := by decide +kernel
theorem dX10_tell_6 : decode cX10_tell 6 = .ok (.iconst 0, 1) := by decide +kernel
theorem dX10_tell_7 : decode cX10_tell 7 = .ok (.iconst 1, 1) := by decide +kernel
theorem dX10_tell_8 : decode cX10_tell 8 = .ok (.invokestatic 72, 3) := by decide +kernel
theorem dX10_tell_11 : decode cX10_tell 11 = .ok (.ifCond .ne 7, 3) := by decide +kernel
theorem dX10_tell_14 : decode cX10_tell 14 = .ok (.ldc2_w 223, 3) := by decide +kernel
theorem dX10_tell_17 : decode cX10_tell 17 = .ok (.lreturn, 1) := by decide +kernel
theorem dX10_tell_18 : decode cX10_tell 18 = .ok (.aload_n 0, 1) := by decide +kernel
theorem dX10_tell_19 : decode cX10_tell 19 = .ok (.getfield 37, 3) := by decide +kernel
theorem dX10_tell_22 : decode cX10_tell 22 = .ok (.iload_n 1, 1) := by decide +kernel
theorem dX10_tell_23 : decode cX10_tell 23 = .ok (.baload, 1) := by decide +kernel
theorem dX10_tell_24 : decode cX10_tell 24 = .ok (.ifCond .ne 7, 3) := by decide +kernel
theorem dX10_tell_27 : decode cX10_tell 27 = .ok (.ldc2_w 225, 3) := by decide +kernel
theorem dX10_tell_30 : decode cX10_tell 30 = .ok (.lreturn, 1) := by decide +kernel
theorem dX10_tell_31 : decode cX10_tell 31 = .ok (.lconst 1, 1) := by decide +kernel
theorem dX10_tell_32 : decode cX10_tell 32 = .ok (.lstore_n 2, 1) := by decide +kernel
theorem dX10_tell_33 : decode cX10_tell 33 = .ok (.iconst 0, 1) := by decide +kernel
theorem dX10_tell_34 : decode cX10_tell 34 = .ok (.istore 4, 2) := by decide +kernel
theorem dX10_tell_36 : decode cX10_tell 36 = .ok (.iload 4, 2) := by decide +kernel
theorem dX10_tell_38 : decode cX10_tell 38 = .ok (.aload_n 0, 1) := by decide +kernel
theorem dX10_tell_39 : decode cX10_tell 39 = .ok (.getfield 148, 3) := by decide +kernel
theorem dX10_tell_42 : decode cX10_tell 42 = .ok (.if_icmp .ge 24, 3) := by decide +kernel
theorem dX10_tell_45 : decode cX10_tell 45 = .ok (.lload_n 2, 1) := by decide +kernel
theorem dX10_tell_46 : decode cX10_tell 46 = .ok (.aload_n 0, 1) := by decide +kernel
theorem dX10_tell_47 : decode cX10_tell 47 = .ok (.aload_n 0, 1) := by decide +kernel
theorem dX10_tell_48 : decode cX10_tell 48 = .ok (.iload_n 1, 1) := by decide +kernel
theorem dX10_tell_49 : decode cX10_tell 49 = .ok (.iload 4, 2) := by decide +kernel
theorem dX10_tell_51 : decode cX10_tell 51 = .ok (.invokevirtual 220, 3) := by decide +kernel
theorem dX10_tell_54 : decode cX10_tell 54 = .ok (.invokevirtual 227, 3) := by decide +kernel
theorem dX10_tell_57 : decode cX10_tell 57 = .ok (.i2l, 1) := by decide +kernel
theorem dX10_tell_58 : decode cX10_tell 58 = .ok (.lmul, 1) := by decide +kernel
theorem dX10_tell_59 : decode cX10_tell 59 = .ok (.lstore_n 2, 1) := by decide +kernel
theorem dX10_tell_60 : decode cX10_tell 60 = .ok (.iinc 4 1, 3) := by decide +kernel
theorem dX10_tell_63 : decode cX10_tell 63 = .ok (.goto (-27), 3) := by decide +kernel
theorem dX10_tell_66 : decode cX10_tell 66 = .ok (.lload_n 2, 1) := by decide +kernel
theorem dX10_tell_67 : decode cX10_tell 67 = .ok (.lreturn, 1) := by decide +kernel
set_option maxRecDepth 20000 in
theorem ggX10_rate_X10_in : GoodIn wsX10_rate wsX10_in := goodIn_r _ [16] (by decide +kernel) (by decide +kernel)
set_option maxRecDepth 20000 in
theorem gX10_rate_X10_in : GoodIn wsX10_rate (va_wsS RX10 72 yX10_in wsX10_in) := goodIn_app (goodIn_of _ (by decide +kernel)) ggX10_rate_X10_in
set_option maxRecDepth 20000 in
theorem ggX10_rate_X10_isPerson : GoodIn wsX10_rate wsX10_isPerson := goodIn_r _ [20, 21, 13, 14, 15, 16, 22, 23, 24, 25, 26, 27, 28, 29, 30, 31, 32, 33, 34, 35, 36, 37, 38, 39, 40, 41, 42, 43, 44, 45, 46, 47, 48, 49, 50, 51, 52, 53, 54, 55] (by decide +kernel) (by decide +kernel)
set_option maxRecDepth 20000 in
theorem gX10_rate_X10_isPerson : GoodIn wsX10_rate (wsV RX10 161 RX10 yX10_isPerson wsX10_isPerson) := goodIn_app (goodIn_of _ (by decide +kernel)) ggX10_rate_X10_isPerson
theorem dX10_rate_0 : decode cX10_rate 0 = .ok (.aload_n 0, 1) := by decide +kernel
theorem dX10_rate_1 : decode cX10_rate 1 = .ok (.iconst 0, 1) := by decide +kernel
theorem dX10_rate_2 : decode cX10_rate 2 = .ok (.putfield 69, 3) := by decide +kernel
theorem dX10_rate_5 : decode cX10_rate 5 = .ok (.iload_n 1, 1) := by decide +kernel
theorem dX10_rate_6 : decode cX10_rate 6 = .ok (.iconst 0, 1) := by decide +kernel
theorem dX10_rate_7 : decode cX10_rate 7 = .ok (.iconst 5, 1) := by decide +kernel
theorem dX10_rate_8 : decode cX10_rate 8 = .ok (.invokestatic 72, 3) := by decide +kernel
theorem dX10_rate_11 : decode cX10_rate 11 = .ok (.ifCond .eq 11, 3) := by decide +kernel
theorem dX10_rate_14 : decode cX10_rate 14 = .ok (.aload_n 0, 1) := by decide +kernel
theorem dX10_rate_15 : decode cX10_rate 15 = .ok (.iload_n 2, 1) := by decide +kernel
theorem dX10_rate_16 : decode cX10_rate 16 = .ok (.invokevirtual 161, 3) := by decide +kernel
theorem dX10_rate_19 : decode cX10_rate 19 = .ok (.ifCond .ne 6, 3) := by decide +kernel
theorem dX10_rate_22 : decode cX10_rate 22 = .ok (.ldc 230, 2) := by decide +kernel
theorem dX10_rate_24 : decode cX10_rate 24 = .ok (.ireturn, 1) := by decide +kernel
theorem dX10_rate_25 : decode cX10_rate 25 = .ok (.aload_n 0, 1) := by decide +kernel
theorem dX10_rate_26 : decode cX10_rate 26 = .ok (.getfield 22, 3) := by decide +kernel
theorem dX10_rate_29 : decode cX10_rate 29 = .ok (.iload_n 2, 1) := by decide +kernel
theorem dX10_rate_30 : decode cX10_rate 30 = .ok (.iaload, 1) := by decide +kernel
theorem dX10_rate_31 : decode cX10_rate 31 = .ok (.istore_n 3, 1) := by decide +kernel
theorem dX10_rate_32 : decode cX10_rate 32 = .ok (.iconst 0, 1) := by decide +kernel
theorem dX10_rate_33 : decode cX10_rate 33 = .ok (.istore 4, 2) := by decide +kernel
theorem dX10_rate_35 : decode cX10_rate 35 = .ok (.iload 4, 2) := by decide +kernel
theorem dX10_rate_37 : decode cX10_rate 37 = .ok (.aload_n 0, 1) := by decide +kernel
theorem dX10_rate_38 : decode cX10_rate 38 = .ok (.getfield 148, 3) := by decide +kernel
theorem dX10_rate_41 : decode cX10_rate 41 = .ok (.if_icmp .ge 33, 3) := by decide +kernel
theorem dX10_rate_44 : decode cX10_rate 44 = .ok (.iload_n 3, 1) := by decide +kernel
theorem dX10_rate_45 : decode cX10_rate 45 = .ok (.aload_n 0, 1) := by decide +kernel
theorem dX10_rate_46 : decode cX10_rate 46 = .ok (.getfield 31, 3) := by decide +kernel
theorem dX10_rate_49 : decode cX10_rate 49 = .ok (.iload 4, 2) := by decide +kernel
theorem dX10_rate_51 : decode cX10_rate 51 = .ok (.iaload, 1) := by decide +kernel
theorem dX10_rate_52 : decode cX10_rate 52 = .ok (.aload_n 0, 1) := by decide +kernel
theorem dX10_rate_53 : decode cX10_rate 53 = .ok (.getfield 22, 3) := by decide +kernel
theorem dX10_rate_56 : decode cX10_rate 56 = .ok (.iload_n 2, 1) := by decide +kernel
theorem dX10_rate_57 : decode cX10_rate 57 = .ok (.iaload, 1) := by decide +kernel
theorem dX10_rate_58 : decode cX10_rate 58 = .ok (.if_icmp .lt 7, 3) := by decide +kernel
theorem dX10_rate_61 : decode cX10_rate 61 = .ok (.iconst 1, 1) := by decide +kernel
theorem dX10_rate_62 : decode cX10_rate 62 = .ok (.goto 4, 3) := by decide +kernel
theorem dX10_rate_65 : decode cX10_rate 65 = .ok (.iconst 0, 1) := by decide +kernel
theorem dX10_rate_66 : decode cX10_rate 66 = .ok (.iadd, 1) := by decide +kernel
theorem dX10_rate_67 : decode cX10_rate 67 = .ok (.istore_n 3, 1) := by decide +kernel
theorem dX10_rate_68 : decode cX10_rate 68 = .ok (.iinc 4 1, 3) := by decide +kernel
theorem dX10_rate_71 : decode cX10_rate 71 = .ok (.goto (-36), 3) := by decide +kernel
theorem dX10_rate_74 : decode cX10_rate 74 = .ok (.aload_n 0, 1) := by decide +kernel
theorem dX10_rate_75 : decode cX10_rate 75 = .ok (.getfield 22, 3) := by decide +kernel
theorem dX10_rate_78 : decode cX10_rate 78 = .ok (.iload_n 2, 1) := by decide +kernel
theorem dX10_rate_79 : decode cX10_rate 79 = .ok (.iaload, 1) := by decide +kernel
theorem dX10_rate_80 : decode cX10_rate 80 = .ok (.aload_n 0, 1) := by decide +kernel
theorem dX10_rate_81 : decode cX10_rate 81 = .ok (.getfield 25, 3) := by decide +kernel
theorem dX10_rate_84 : decode cX10_rate 84 = .ok (.iload_n 2, 1) := by decide +kernel
theorem dX10_rate_85 : decode cX10_rate 85 = .ok (.iaload, 1) := by decide +kernel
theorem dX10_rate_86 : decode cX10_rate 86 = .ok (.isub, 1) := by decide +kernel
theorem dX10_rate_87 : decode cX10_rate 87 = .ok (.istore 4, 2) := by decide +kernel
theorem dX10_rate_89 : decode cX10_rate 89 = .ok (.aload_n 0, 1) := by decide +kernel
theorem dX10_rate_90 : decode cX10_rate 90 = .ok (.dup, 1) := by decide +kernel
theorem dX10_rate_91 : decode cX10_rate 91 = .ok (.getfield 231, 3) := by decide +kernel
theorem dX10_rate_94 : decode cX10_rate 94 = .ok (.iload_n 1, 1) := by decide +kernel
theorem dX10_rate_95 : decode cX10_rate 95 = .ok (.ifCond .ne 7, 3) := by decide +kernel
theorem dX10_rate_98 : decode cX10_rate 98 = .ok (.lconst 1, 1) := by decide +kernel
theorem dX10_rate_99 : decode cX10_rate 99 = .ok (.goto 50, 3) := by decide +kernel
theorem dX10_rate_102 : decode cX10_rate 102 = .ok (.iload_n 1, 1) := by decide +kernel
theorem dX10_rate_103 : decode cX10_rate 103 = .ok (.iconst 1, 1) := by decide +kernel
theorem dX10_rate_104 : decode cX10_rate 104 = .ok (.if_icmp .ne 9, 3) := by decide +kernel
theorem dX10_rate_107 : decode cX10_rate 107 = .ok (.ldc2_w 235, 3) := by decide +kernel
theorem dX10_rate_110 : decode cX10_rate 110 = .ok (.goto 39, 3) := by decide +kernel
theorem dX10_rate_113 : decode cX10_rate 113 = .ok (.iload_n 1, 1) := by decide +kernel
theorem dX10_rate_114 : decode cX10_rate 114 = .ok (.iconst 2, 1) := by decide +kernel
theorem dX10_rate_115 : decode cX10_rate 115 = .ok (.if_icmp .ne 9, 3) := by decide +kernel
theorem dX10_rate_118 : decode cX10_rate 118 = .ok (.ldc2_w 237, 3) := by decide +kernel
theorem dX10_rate_121 : decode cX10_rate 121 = .ok (.goto 28, 3) := by decide +kernel
theorem dX10_rate_124 : decode cX10_rate 124 = .ok (.iload_n 1, 1) := by decide +kernel
theorem dX10_rate_125 : decode cX10_rate 125 = .ok (.iconst 3, 1) := by decide +kernel
theorem dX10_rate_126 : decode cX10_rate 126 = .ok (.if_icmp .ne 9, 3) := by decide +kernel
theorem dX10_rate_129 : decode cX10_rate 129 = .ok (.ldc2_w 239, 3) := by decide +kernel
theorem dX10_rate_132 : decode cX10_rate 132 = .ok (.goto 17, 3) := by decide +kernel
theorem dX10_rate_135 : decode cX10_rate 135 = .ok (.iload_n 1, 1) := by decide +kernel
theorem dX10_rate_136 : decode cX10_rate 136 = .ok (.iconst 4, 1) := by decide +kernel
theorem dX10_rate_137 : decode cX10_rate 137 = .ok (.if_icmp .ne 9, 3) := by decide +kernel
theorem dX10_rate_140 : decode cX10_rate 140 = .ok (.ldc2_w 241, 3) := by decide +kernel
theorem dX10_rate_143 : decode cX10_rate 143 = .ok (.goto 6, 3) := by decide +kernel
theorem dX10_rate_146 : decode cX10_rate 146 = .ok (.ldc2_w 243, 3) := by decide +kernel
theorem dX10_rate_149 : decode cX10_rate 149 = .ok (.ladd, 1) := by decide +kernel
theorem dX10_rate_150 : decode cX10_rate 150 = .ok (.putfield 231, 3) := by decide +kernel
theorem dX10_rate_153 : decode cX10_rate 153 = .ok (.iload_n 1, 1) := by decide +kernel
theorem dX10_rate_154 : decode cX10_rate 154 = .ok (.ifCond .ne 12, 3) := by decide +kernel
theorem dX10_rate_157 : decode cX10_rate 157 = .ok (.aload_n 0, 1) := by decide +kernel
theorem dX10_rate_158 : decode cX10_rate 158 = .ok (.getfield 22, 3) := by decide +kernel
theorem dX10_rate_161 : decode cX10_rate 161 = .ok (.iload_n 2, 1) := by decide +kernel
theorem dX10_rate_162 : decode cX10_rate 162 = .ok (.iaload, 1) := by decide +kernel
theorem dX10_rate_163 : decode cX10_rate 163 = .ok (.goto 59, 3) := by decide +kernel
theorem dX10_rate_166 : decode cX10_rate 166 = .ok (.iload_n 1, 1) := by decide +kernel
theorem dX10_rate_167 : decode cX10_rate 167 = .ok (.iconst 1, 1) := by decide +kernel
theorem dX10_rate_168 : decode cX10_rate 168 = .ok (.if_icmp .ne 7, 3) := by decide +kernel
theorem dX10_rate_171 : decode cX10_rate 171 = .ok (.iload_n 3, 1) := by decide +kernel
theorem dX10_rate_172 : decode cX10_rate 172 = .ok (.goto 50, 3) := by decide +kernel
theorem dX10_rate_175 : decode cX10_rate 175 = .ok (.iload_n 1, 1) := by decide +kernel
theorem dX10_rate_176 : decode cX10_rate 176 = .ok (.iconst 2, 1) := by decide +kernel
theorem dX10_rate_177 : decode cX10_rate 177 = .ok (.if_icmp .ne 8, 3) := by decide +kernel
theorem dX10_rate_180 : decode cX10_rate 180 = .ok (.iload 4, 2) := by decide +kernel
theorem dX10_rate_182 : decode cX10_rate 182 = .ok (.goto 40, 3) := by decide +kernel
theorem dX10_rate_185 : decode cX10_rate 185 = .ok (.iload_n 1, 1) := by decide +kernel
theorem dX10_rate_186 : decode cX10_rate 186 = .ok (.iconst 3, 1) := by decide +kernel
theorem dX10_rate_187 : decode cX10_rate 187 = .ok (.if_icmp .ne 9, 3) := by decide +kernel
theorem dX10_rate_190 : decode cX10_rate 190 = .ok (.iconst 2, 1) := by decide +kernel
theorem dX10_rate_191 : decode cX10_rate 191 = .ok (.iload_n 3, 1) := by decide +kernel
theorem dX10_rate_192 : decode cX10_rate 192 = .ok (.imul, 1) := by decide +kernel
theorem dX10_rate_193 : decode cX10_rate 193 = .ok (.goto 29, 3) := by decide +kernel
theorem dX10_rate_196 : decode cX10_rate 196 = .ok (.iload_n 1, 1) := by decide +kernel
theorem dX10_rate_197 : decode cX10_rate 197 = .ok (.iconst 4, 1) := by decide +kernel
theorem dX10_rate_198 : decode cX10_rate 198 = .ok (.if_icmp .ne 10, 3) := by decide +kernel
theorem dX10_rate_201 : decode cX10_rate 201 = .ok (.iload 4, 2) := by decide +kernel
theorem dX10_rate_203 : decode cX10_rate 203 = .ok (.iload_n 2, 1) := by decide +kernel
theorem dX10_rate_204 : decode cX10_rate 204 = .ok (.iadd, 1) := by decide +kernel
theorem dX10_rate_205 : decode cX10_rate 205 = .ok (.goto 17, 3) := by decide +kernel
theorem dX10_rate_208 : decode cX10_rate 208 = .ok (.aload_n 0, 1) := by decide +kernel
theorem dX10_rate_209 : decode cX10_rate 209 = .ok (.getfield 22, 3) := by decide +kernel
theorem dX10_rate_212 : decode cX10_rate 212 = .ok (.iload_n 2, 1) := by decide +kernel
theorem dX10_rate_213 : decode cX10_rate 213 = .ok (.iaload, 1) := by decide +kernel
theorem dX10_rate_214 : decode cX10_rate 214 = .ok (.aload_n 0, 1) := by decide +kernel
theorem dX10_rate_215 : decode cX10_rate 215 = .ok (.getfield 31, 3) := by decide +kernel
theorem dX10_rate_218 : decode cX10_rate 218 = .ok (.bipush 9, 2) := by decide +kernel
theorem dX10_rate_220 : decode cX10_rate 220 = .ok (.iaload, 1) := by decide +kernel
theorem dX10_rate_221 : decode cX10_rate 221 = .ok (.iadd, 1) := by decide +kernel
theorem dX10_rate_222 : decode cX10_rate 222 = .ok (.ireturn, 1) := by decide +kernel
theorem dX10_above_0 : decode cX10_above 0 = .ok (.iconst 0, 1) := by decide +kernel
theorem dX10_above_1 : decode cX10_above 1 = .ok (.istore_n 1, 1) := by decide +kernel
theorem dX10_above_2 : decode cX10_above 2 = .ok (.iconst 0, 1) := by decide +kernel
theorem dX10_above_3 : decode cX10_above 3 = .ok (.istore_n 2, 1) := by decide +kernel
theorem dX10_above_4 : decode cX10_above 4 = .ok (.iload_n 2, 1) := by decide +kernel
theorem dX10_above_5 : decode cX10_above 5 = .ok (.aload_n 0, 1) := by decide +kernel
theorem dX10_above_6 : decode cX10_above 6 = .ok (.getfield 148, 3) := by decide +kernel
theorem dX10_above_9 : decode cX10_above 9 = .ok (.if_icmp .ge 26, 3) := by decide +kernel
theorem dX10_above_12 : decode cX10_above 12 = .ok (.iload_n 1, 1) := by decide +kernel
theorem dX10_above_13 : decode cX10_above 13 = .ok (.aload_n 0, 1) := by decide +kernel
theorem dX10_above_14 : decode cX10_above 14 = .ok (.getfield 31, 3) := by decide +kernel
theorem dX10_above_17 : decode cX10_above 17 = .ok (.iload_n 2, 1) := by decide +kernel
theorem dX10_above_18 : decode cX10_above 18 = .ok (.iaload, 1) := by decide +kernel
theorem dX10_above_19 : decode cX10_above 19 = .ok (.ifCond .le 7, 3) := by decide +kernel
theorem dX10_above_22 : decode cX10_above 22 = .ok (.iconst 1, 1) := by decide +kernel
theorem dX10_above_23 : decode cX10_above 23 = .ok (.goto 4, 3) := by decide +kernel
theorem dX10_above_26 : decode cX10_above 26 = .ok (.iconst 0, 1) := by decide +kernel
theorem dX10_above_27 : decode cX10_above 27 = .ok (.iadd, 1) := by decide +kernel
theorem dX10_above_28 : decode cX10_above 28 = .ok (.istore_n 1, 1) := by decide +kernel
theorem dX10_above_29 : decode cX10_above 29 = .ok (.iinc 2 1, 3) := by decide +kernel
theorem dX10_above_32 : decode cX10_above 32 = .ok (.goto (-28), 3) := by decide +kernel
theorem dX10_above_35 : decode cX10_above 35 = .ok (.iload_n 1, 1) := by decide +kernel
theorem dX10_above_36 : decode cX10_above 36 = .ok (.ireturn, 1) := by decide +kernel
set_option maxRecDepth 20000 in
theorem ggX10_keep_X10_in : GoodIn wsX10_keep wsX10_in := goodIn_r _ [8] (by decide +kernel) (by decide +kernel)
set_option maxRecDepth 20000 in
theorem gX10_keep_X10_in : GoodIn wsX10_keep (va_wsS RX10 72 yX10_in wsX10_in) := goodIn_app (goodIn_of _ (by decide +kernel)) ggX10_keep_X10_in
set_option maxRecDepth 20000 in
theorem ggX10_keep_X10_above : GoodIn wsX10_keep wsX10_above := goodIn_r _ [12, 13, 3, 14, 15, 16, 17, 18, 19, 20, 21, 22, 23, 24, 25, 26, 27, 28, 29, 30, 31, 32, 33, 34, 35, 36, 37, 38, 39, 40, 41, 42, 43, 44, 45, 46, 47] (by decide +kernel) (by decide +kernel)
set_option maxRecDepth 20000 in
theorem gX10_keep_X10_above : GoodIn wsX10_keep (wsV RX10 245 RX10 yX10_above wsX10_above) := goodIn_app (goodIn_of _ (by decide +kernel)) ggX10_keep_X10_above
theorem dX10_keep_0 : decode cX10_keep 0 = .ok (.aload_n 0, 1) := by decide +kernel
theorem dX10_keep_1 : decode cX10_keep 1 = .ok (.iconst 0, 1) := by decide +kernel
theorem dX10_keep_2 : decode cX10_keep 2 = .ok (.putfield 69, 3) := by decide +kernel
theorem dX10_keep_5 : decode cX10_keep 5 = .ok (.iload_n 1, 1) := by decide +kernel
theorem dX10_keep_6 : decode cX10_keep 6 = .ok (.iconst 0, 1) := by decide +kernel
theorem dX10_keep_7 : decode cX10_keep 7 = .ok (.iconst 1, 1) := by decide +kernel
theorem dX10_keep_8 : decode cX10_keep 8 = .ok (.invokestatic 72, 3) := by decide +kernel
theorem dX10_keep_11 : decode cX10_keep 11 = .ok (.ifCond .ne 5, 3) := by decide +kernel
theorem dX10_keep_14 : decode cX10_keep 14 = .ok (.iconst (-1), 1) := by decide +kernel
theorem dX10_keep_15 : decode cX10_keep 15 = .ok (.ireturn, 1) := by decide +kernel
theorem dX10_keep_16 : decode cX10_keep 16 = .ok (.iconst 0, 1) := by decide +kernel
theorem dX10_keep_17 : decode cX10_keep 17 = .ok (.istore_n 2, 1) := by decide +kernel
theorem dX10_keep_18 : decode cX10_keep 18 = .ok (.iload_n 2, 1) := by decide +kernel
theorem dX10_keep_19 : decode cX10_keep 19 = .ok (.bipush 50, 2) := by decide +kernel
theorem dX10_keep_21 : decode cX10_keep 21 = .ok (.if_icmp .ge 26, 3) := by decide +kernel
theorem dX10_keep_24 : decode cX10_keep 24 = .ok (.aload_n 0, 1) := by decide +kernel
theorem dX10_keep_25 : decode cX10_keep 25 = .ok (.getfield 34, 3) := by decide +kernel
theorem dX10_keep_28 : decode cX10_keep 28 = .ok (.bipush 50, 2) := by decide +kernel
theorem dX10_keep_30 : decode cX10_keep 30 = .ok (.iload_n 1, 1) := by decide +kernel
theorem dX10_keep_31 : decode cX10_keep 31 = .ok (.imul, 1) := by decide +kernel
theorem dX10_keep_32 : decode cX10_keep 32 = .ok (.iload_n 2, 1) := by decide +kernel
theorem dX10_keep_33 : decode cX10_keep 33 = .ok (.iadd, 1) := by decide +kernel
theorem dX10_keep_34 : decode cX10_keep 34 = .ok (.aload_n 0, 1) := by decide +kernel
theorem dX10_keep_35 : decode cX10_keep 35 = .ok (.getfield 31, 3) := by decide +kernel
theorem dX10_keep_38 : decode cX10_keep 38 = .ok (.iload_n 2, 1) := by decide +kernel
theorem dX10_keep_39 : decode cX10_keep 39 = .ok (.iaload, 1) := by decide +kernel
theorem dX10_keep_40 : decode cX10_keep 40 = .ok (.iastore, 1) := by decide +kernel
theorem dX10_keep_41 : decode cX10_keep 41 = .ok (.iinc 2 1, 3) := by decide +kernel
theorem dX10_keep_44 : decode cX10_keep 44 = .ok (.goto (-26), 3) := by decide +kernel
theorem dX10_keep_47 : decode cX10_keep 47 = .ok (.aload_n 0, 1) := by decide +kernel
theorem dX10_keep_48 : decode cX10_keep 48 = .ok (.getfield 37, 3) := by decide +kernel
theorem dX10_keep_51 : decode cX10_keep 51 = .ok (.iload_n 1, 1) := by decide +kernel
theorem dX10_keep_52 : decode cX10_keep 52 = .ok (.iconst 1, 1) := by decide +kernel
theorem dX10_keep_53 : decode cX10_keep 53 = .ok (.bastore, 1) := by decide +kernel
theorem dX10_keep_54 : decode cX10_keep 54 = .ok (.aload_n 0, 1) := by decide +kernel
theorem dX10_keep_55 : decode cX10_keep 55 = .ok (.invokevirtual 245, 3) := by decide +kernel
theorem dX10_keep_58 : decode cX10_keep 58 = .ok (.ireturn, 1) := by decide +kernel
set_option maxRecDepth 20000 in
theorem ggX10_back_X10_in : GoodIn wsX10_back wsX10_in := goodIn_r _ [8] (by decide +kernel) (by decide +kernel)
set_option maxRecDepth 20000 in
theorem gX10_back_X10_in : GoodIn wsX10_back (va_wsS RX10 72 yX10_in wsX10_in) := goodIn_app (goodIn_of _ (by decide +kernel)) ggX10_back_X10_in
set_option maxRecDepth 20000 in
theorem ggX10_back_X10_above : GoodIn wsX10_back wsX10_above := goodIn_r _ [12, 13, 3, 14, 15, 16, 17, 18, 19, 20, 21, 22, 23, 24, 25, 26, 27, 28, 29, 30, 31, 32, 33, 34, 35, 36, 37, 38, 39, 40, 41, 42, 43, 44, 45, 46, 47] (by decide +kernel) (by decide +kernel)
set_option maxRecDepth 20000 in
theorem gX10_back_X10_above : GoodIn wsX10_back (wsV RX10 245 RX10 yX10_above wsX10_above) := goodIn_app (goodIn_of _ (by decide +kernel)) ggX10_back_X10_above
theorem dX10_back_0 : decode cX10_back 0 = .ok (.aload_n 0, 1) := by decide +kernel
theorem dX10_back_1 : decode cX10_back 1 = .ok (.iconst 0, 1) := by decide +kernel
theorem dX10_back_2 : decode cX10_back 2 = .ok (.putfield 69, 3) := by decide +kernel
theorem dX10_back_5 : decode cX10_back 5 = .ok (.iload_n 1, 1) := by decide +kernel
theorem dX10_back_6 : decode cX10_back 6 = .ok (.iconst 0, 1) := by decide +kernel
theorem dX10_back_7 : decode cX10_back 7 = .ok (.iconst 1, 1) := by decide +kernel
theorem dX10_back_8 : decode cX10_back 8 = .ok (.invokestatic 72, 3) := by decide +kernel
theorem dX10_back_11 : decode cX10_back 11 = .ok (.ifCond .ne 5, 3) := by decide +kernel
theorem dX10_back_14 : decode cX10_back 14 = .ok (.iconst (-1), 1) := by decide +kernel
theorem dX10_back_15 : decode cX10_back 15 = .ok (.ireturn, 1) := by decide +kernel
theorem dX10_back_16 : decode cX10_back 16 = .ok (.aload_n 0, 1) := by decide +kernel
theorem dX10_back_17 : decode cX10_back 17 = .ok (.getfield 37, 3) := by decide +kernel
theorem dX10_back_20 : decode cX10_back 20 = .ok (.iload_n 1, 1) := by decide +kernel
theorem dX10_back_21 : decode cX10_back 21 = .ok (.baload, 1) := by decide +kernel
theorem dX10_back_22 : decode cX10_back 22 = .ok (.ifCond .ne 6, 3) := by decide +kernel
theorem dX10_back_25 : decode cX10_back 25 = .ok (.bipush (-2), 2) := by decide +kernel
theorem dX10_back_27 : decode cX10_back 27 = .ok (.ireturn, 1) := by decide +kernel
theorem dX10_back_28 : decode cX10_back 28 = .ok (.iconst 0, 1) := by decide +kernel
theorem dX10_back_29 : decode cX10_back 29 = .ok (.istore_n 2, 1) := by decide +kernel
theorem dX10_back_30 : decode cX10_back 30 = .ok (.iload_n 2, 1) := by decide +kernel
theorem dX10_back_31 : decode cX10_back 31 = .ok (.bipush 50, 2) := by decide +kernel
theorem dX10_back_33 : decode cX10_back 33 = .ok (.if_icmp .ge 26, 3) := by decide +kernel
theorem dX10_back_36 : decode cX10_back 36 = .ok (.aload_n 0, 1) := by decide +kernel
theorem dX10_back_37 : decode cX10_back 37 = .ok (.getfield 31, 3) := by decide +kernel
theorem dX10_back_40 : decode cX10_back 40 = .ok (.iload_n 2, 1) := by decide +kernel
theorem dX10_back_41 : decode cX10_back 41 = .ok (.aload_n 0, 1) := by decide +kernel
theorem dX10_back_42 : decode cX10_back 42 = .ok (.getfield 34, 3) := by decide +kernel
theorem dX10_back_45 : decode cX10_back 45 = .ok (.bipush 50, 2) := by decide +kernel
theorem dX10_back_47 : decode cX10_back 47 = .ok (.iload_n 1, 1) := by decide +kernel
theorem dX10_back_48 : decode cX10_back 48 = .ok (.imul, 1) := by decide +kernel
theorem dX10_back_49 : decode cX10_back 49 = .ok (.iload_n 2, 1) := by decide +kernel
theorem dX10_back_50 : decode cX10_back 50 = .ok (.iadd, 1) := by decide +kernel
theorem dX10_back_51 : decode cX10_back 51 = .ok (.iaload, 1) := by decide +kernel
theorem dX10_back_52 : decode cX10_back 52 = .ok (.iastore, 1) := by decide +kernel
theorem dX10_back_53 : decode cX10_back 53 = .ok (.iinc 2 1, 3) := by decide +kernel
theorem dX10_back_56 : decode cX10_back 56 = .ok (.goto (-26), 3) := by decide +kernel
theorem dX10_back_59 : decode cX10_back 59 = .ok (.aload_n 0, 1) := by decide +kernel
theorem dX10_back_60 : decode cX10_back 60 = .ok (.invokevirtual 245, 3) := by decide +kernel
theorem dX10_back_63 : decode cX10_back 63 = .ok (.ireturn, 1) := by decide +kernel
set_option maxRecDepth 20000 in
theorem ggX10_count_X10_bornNow : GoodIn wsX10_count wsX10_bornNow := goodIn_r _ [12, 3, 6, 13, 14, 15, 16, 17, 18, 19, 20, 21, 22, 23, 24, 25, 26, 27, 28, 29, 30, 31, 32, 33, 34, 35, 36, 37, 38, 39, 40, 41, 42, 43, 44, 45, 46] (by decide +kernel) (by decide +kernel)
set_option maxRecDepth 20000 in
theorem gX10_count_X10_bornNow : GoodIn wsX10_count (wsV RX10 208 RX10 yX10_bornNow wsX10_bornNow) := goodIn_app (goodIn_of _ (by decide +kernel)) ggX10_count_X10_bornNow
theorem dX10_count_0 : decode cX10_count 0 = .ok (.aload_n 0, 1) := by decide +kernel
theorem dX10_count_1 : decode cX10_count 1 = .ok (.iconst 0, 1) := by decide +kernel
theorem dX10_count_2 : decode cX10_count 2 = .ok (.putfield 69, 3) := by decide +kernel
theorem dX10_count_5 : decode cX10_count 5 = .ok (.iload_n 1, 1) := by decide +kernel
theorem dX10_count_6 : decode cX10_count 6 = .ok (.iconst 4, 1) := by decide +kernel
theorem dX10_count_7 : decode cX10_count 7 = .ok (.if_icmp .ge 52, 3) := by decide +kernel
theorem dX10_count_10 : decode cX10_count 10 = .ok (.iload_n 1, 1) := by decide +kernel
theorem dX10_count_11 : decode cX10_count 11 = .ok (.ifCond .ne 10, 3) := by decide +kernel
theorem dX10_count_14 : decode cX10_count 14 = .ok (.aload_n 0, 1) := by decide +kernel
theorem dX10_count_15 : decode cX10_count 15 = .ok (.getfield 65, 3) := by decide +kernel
theorem dX10_count_18 : decode cX10_count 18 = .ok (.goto 40, 3) := by decide +kernel
theorem dX10_count_21 : decode cX10_count 21 = .ok (.iload_n 1, 1) := by decide +kernel
theorem dX10_count_22 : decode cX10_count 22 = .ok (.iconst 1, 1) := by decide +kernel
theorem dX10_count_23 : decode cX10_count 23 = .ok (.if_icmp .ne 10, 3) := by decide +kernel
theorem dX10_count_26 : decode cX10_count 26 = .ok (.aload_n 0, 1) := by decide +kernel
theorem dX10_count_27 : decode cX10_count 27 = .ok (.getfield 148, 3) := by decide +kernel
theorem dX10_count_30 : decode cX10_count 30 = .ok (.goto 28, 3) := by decide +kernel
theorem dX10_count_33 : decode cX10_count 33 = .ok (.iload_n 1, 1) := by decide +kernel
theorem dX10_count_34 : decode cX10_count 34 = .ok (.iconst 2, 1) := by decide +kernel
theorem dX10_count_35 : decode cX10_count 35 = .ok (.if_icmp .ne 10, 3) := by decide +kernel
theorem dX10_count_38 : decode cX10_count 38 = .ok (.aload_n 0, 1) := by decide +kernel
theorem dX10_count_39 : decode cX10_count 39 = .ok (.getfield 151, 3) := by decide +kernel
theorem dX10_count_42 : decode cX10_count 42 = .ok (.goto 16, 3) := by decide +kernel
theorem dX10_count_45 : decode cX10_count 45 = .ok (.iload_n 1, 1) := by decide +kernel
theorem dX10_count_46 : decode cX10_count 46 = .ok (.iconst 3, 1) := by decide +kernel
theorem dX10_count_47 : decode cX10_count 47 = .ok (.if_icmp .ne 10, 3) := by decide +kernel
theorem dX10_count_50 : decode cX10_count 50 = .ok (.aload_n 0, 1) := by decide +kernel
theorem dX10_count_51 : decode cX10_count 51 = .ok (.getfield 154, 3) := by decide +kernel
theorem dX10_count_54 : decode cX10_count 54 = .ok (.goto 4, 3) := by decide +kernel
theorem dX10_count_57 : decode cX10_count 57 = .ok (.iconst (-1), 1) := by decide +kernel
theorem dX10_count_58 : decode cX10_count 58 = .ok (.ireturn, 1) := by decide +kernel
theorem dX10_count_59 : decode cX10_count 59 = .ok (.iload_n 1, 1) := by decide +kernel
theorem dX10_count_60 : decode cX10_count 60 = .ok (.iconst 4, 1) := by decide +kernel
theorem dX10_count_61 : decode cX10_count 61 = .ok (.if_icmp .ne 13, 3) := by decide +kernel
theorem dX10_count_64 : decode cX10_count 64 = .ok (.aload_n 0, 1) := by decide +kernel
theorem dX10_count_65 : decode cX10_count 65 = .ok (.getfield 31, 3) := by decide +kernel
theorem dX10_count_68 : decode cX10_count 68 = .ok (.bipush 9, 2) := by decide +kernel
theorem dX10_count_70 : decode cX10_count 70 = .ok (.iaload, 1) := by decide +kernel
theorem dX10_count_71 : decode cX10_count 71 = .ok (.goto 29, 3) := by decide +kernel
theorem dX10_count_74 : decode cX10_count 74 = .ok (.iload_n 1, 1) := by decide +kernel
theorem dX10_count_75 : decode cX10_count 75 = .ok (.iconst 5, 1) := by decide +kernel
theorem dX10_count_76 : decode cX10_count 76 = .ok (.if_icmp .ne 10, 3) := by decide +kernel
theorem dX10_count_79 : decode cX10_count 79 = .ok (.aload_n 0, 1) := by decide +kernel
theorem dX10_count_80 : decode cX10_count 80 = .ok (.invokevirtual 208, 3) := by decide +kernel
theorem dX10_count_83 : decode cX10_count 83 = .ok (.goto 17, 3) := by decide +kernel
theorem dX10_count_86 : decode cX10_count 86 = .ok (.iload_n 1, 1) := by decide +kernel
theorem dX10_count_87 : decode cX10_count 87 = .ok (.bipush 6, 2) := by decide +kernel
theorem dX10_count_89 : decode cX10_count 89 = .ok (.if_icmp .ne 10, 3) := by decide +kernel
theorem dX10_count_92 : decode cX10_count 92 = .ok (.aload_n 0, 1) := by decide +kernel
theorem dX10_count_93 : decode cX10_count 93 = .ok (.getfield 76, 3) := by decide +kernel
theorem dX10_count_96 : decode cX10_count 96 = .ok (.goto 4, 3) := by decide +kernel
theorem dX10_count_99 : decode cX10_count 99 = .ok (.iconst (-1), 1) := by decide +kernel
theorem dX10_count_100 : decode cX10_count 100 = .ok (.ireturn, 1) := by decide +kernel
theorem dX10_trace_0 : decode cX10_trace 0 = .ok (.aload_n 0, 1) := by decide +kernel
theorem dX10_trace_1 : decode cX10_trace 1 = .ok (.iconst 0, 1) := by decide +kernel
theorem dX10_trace_2 : decode cX10_trace 2 = .ok (.putfield 69, 3) := by decide +kernel
theorem dX10_trace_5 : decode cX10_trace 5 = .ok (.aload_n 0, 1) := by decide +kernel
theorem dX10_trace_6 : decode cX10_trace 6 = .ok (.getfield 231, 3) := by decide +kernel
theorem dX10_trace_9 : decode cX10_trace 9 = .ok (.lreturn, 1) := by decide +kernel
