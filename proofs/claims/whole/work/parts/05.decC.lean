theorem dX10_init_0 : decode cX10_init 0 = .ok (.aload_n 0, 1) := by decide +kernel
theorem dX10_init_1 : decode cX10_init 1 = .ok (.invokespecial 1, 3) := by decide +kernel
theorem dX10_init_4 : decode cX10_init 4 = .ok (.aload_n 0, 1) := by decide +kernel
theorem dX10_init_5 : decode cX10_init 5 = .ok (.sipush 300, 3) := by decide +kernel
theorem dX10_init_8 : decode cX10_init 8 = .ok (.newarray .int, 2) := by decide +kernel
theorem dX10_init_10 : decode cX10_init 10 = .ok (.putfield 7, 3) := by decide +kernel
theorem dX10_init_13 : decode cX10_init 13 = .ok (.aload_n 0, 1) := by decide +kernel
theorem dX10_init_14 : decode cX10_init 14 = .ok (.bipush 18, 2) := by decide +kernel
theorem dX10_init_16 : decode cX10_init 16 = .ok (.newarray .int, 2) := by decide +kernel
theorem dX10_init_18 : decode cX10_init 18 = .ok (.putfield 13, 3) := by decide +kernel
theorem dX10_init_21 : decode cX10_init 21 = .ok (.aload_n 0, 1) := by decide +kernel
theorem dX10_init_22 : decode cX10_init 22 = .ok (.bipush 18, 2) := by decide +kernel
theorem dX10_init_24 : decode cX10_init 24 = .ok (.newarray .int, 2) := by decide +kernel
theorem dX10_init_26 : decode cX10_init 26 = .ok (.putfield 16, 3) := by decide +kernel
theorem dX10_init_29 : decode cX10_init 29 = .ok (.aload_n 0, 1) := by decide +kernel
theorem dX10_init_30 : decode cX10_init 30 = .ok (.bipush 18, 2) := by decide +kernel
theorem dX10_init_32 : decode cX10_init 32 = .ok (.newarray .int, 2) := by decide +kernel
theorem dX10_init_34 : decode cX10_init 34 = .ok (.putfield 19, 3) := by decide +kernel
theorem dX10_init_37 : decode cX10_init 37 = .ok (.aload_n 0, 1) := by decide +kernel
theorem dX10_init_38 : decode cX10_init 38 = .ok (.bipush 8, 2) := by decide +kernel
theorem dX10_init_40 : decode cX10_init 40 = .ok (.newarray .int, 2) := by decide +kernel
theorem dX10_init_42 : decode cX10_init 42 = .ok (.putfield 22, 3) := by decide +kernel
theorem dX10_init_45 : decode cX10_init 45 = .ok (.aload_n 0, 1) := by decide +kernel
theorem dX10_init_46 : decode cX10_init 46 = .ok (.bipush 8, 2) := by decide +kernel
theorem dX10_init_48 : decode cX10_init 48 = .ok (.newarray .int, 2) := by decide +kernel
theorem dX10_init_50 : decode cX10_init 50 = .ok (.putfield 25, 3) := by decide +kernel
theorem dX10_init_53 : decode cX10_init 53 = .ok (.aload_n 0, 1) := by decide +kernel
theorem dX10_init_54 : decode cX10_init 54 = .ok (.bipush 18, 2) := by decide +kernel
theorem dX10_init_56 : decode cX10_init 56 = .ok (.newarray .int, 2) := by decide +kernel
theorem dX10_init_58 : decode cX10_init 58 = .ok (.putfield 28, 3) := by decide +kernel
theorem dX10_init_61 : decode cX10_init 61 = .ok (.aload_n 0, 1) := by decide +kernel
theorem dX10_init_62 : decode cX10_init 62 = .ok (.bipush 50, 2) := by decide +kernel
theorem dX10_init_64 : decode cX10_init 64 = .ok (.newarray .int, 2) := by decide +kernel
theorem dX10_init_66 : decode cX10_init 66 = .ok (.putfield 31, 3) := by decide +kernel
theorem dX10_init_69 : decode cX10_init 69 = .ok (.aload_n 0, 1) := by decide +kernel
theorem dX10_init_70 : decode cX10_init 70 = .ok (.bipush 100, 2) := by decide +kernel
theorem dX10_init_72 : decode cX10_init 72 = .ok (.newarray .int, 2) := by decide +kernel
theorem dX10_init_74 : decode cX10_init 74 = .ok (.putfield 34, 3) := by decide +kernel
theorem dX10_init_77 : decode cX10_init 77 = .ok (.aload_n 0, 1) := by decide +kernel
theorem dX10_init_78 : decode cX10_init 78 = .ok (.iconst 2, 1) := by decide +kernel
theorem dX10_init_79 : decode cX10_init 79 = .ok (.newarray .boolean, 2) := by decide +kernel
theorem dX10_init_81 : decode cX10_init 81 = .ok (.putfield 37, 3) := by decide +kernel
theorem dX10_init_84 : decode cX10_init 84 = .ok (.aload_n 0, 1) := by decide +kernel
theorem dX10_init_85 : decode cX10_init 85 = .ok (.bipush 6, 2) := by decide +kernel
theorem dX10_init_87 : decode cX10_init 87 = .ok (.newarray .int, 2) := by decide +kernel
theorem dX10_init_89 : decode cX10_init 89 = .ok (.putfield 41, 3) := by decide +kernel
theorem dX10_init_92 : decode cX10_init 92 = .ok (.aload_n 0, 1) := by decide +kernel
theorem dX10_init_93 : decode cX10_init 93 = .ok (.bipush 7, 2) := by decide +kernel
theorem dX10_init_95 : decode cX10_init 95 = .ok (.newarray .int, 2) := by decide +kernel
theorem dX10_init_97 : decode cX10_init 97 = .ok (.putfield 44, 3) := by decide +kernel
theorem dX10_init_100 : decode cX10_init 100 = .ok (.aload_n 0, 1) := by decide +kernel
theorem dX10_init_101 : decode cX10_init 101 = .ok (.bipush 6, 2) := by decide +kernel
theorem dX10_init_103 : decode cX10_init 103 = .ok (.newarray .int, 2) := by decide +kernel
theorem dX10_init_105 : decode cX10_init 105 = .ok (.putfield 47, 3) := by decide +kernel
theorem dX10_init_108 : decode cX10_init 108 = .ok (.aload_n 0, 1) := by decide +kernel
theorem dX10_init_109 : decode cX10_init 109 = .ok (.sipush 3000, 3) := by decide +kernel
theorem dX10_init_112 : decode cX10_init 112 = .ok (.newarray .int, 2) := by decide +kernel
theorem dX10_init_114 : decode cX10_init 114 = .ok (.putfield 50, 3) := by decide +kernel
theorem dX10_init_117 : decode cX10_init 117 = .ok (.aload_n 0, 1) := by decide +kernel
theorem dX10_init_118 : decode cX10_init 118 = .ok (.sipush 3000, 3) := by decide +kernel
theorem dX10_init_121 : decode cX10_init 121 = .ok (.newarray .int, 2) := by decide +kernel
theorem dX10_init_123 : decode cX10_init 123 = .ok (.putfield 53, 3) := by decide +kernel
theorem dX10_init_126 : decode cX10_init 126 = .ok (.aload_n 0, 1) := by decide +kernel
theorem dX10_init_127 : decode cX10_init 127 = .ok (.iconst 3, 1) := by decide +kernel
theorem dX10_init_128 : decode cX10_init 128 = .ok (.newarray .int, 2) := by decide +kernel
theorem dX10_init_130 : decode cX10_init 130 = .ok (.putfield 56, 3) := by decide +kernel
theorem dX10_init_133 : decode cX10_init 133 = .ok (.aload_n 0, 1) := by decide +kernel
theorem dX10_init_134 : decode cX10_init 134 = .ok (.bipush 9, 2) := by decide +kernel
theorem dX10_init_136 : decode cX10_init 136 = .ok (.newarray .int, 2) := by decide +kernel
theorem dX10_init_138 : decode cX10_init 138 = .ok (.putfield 59, 3) := by decide +kernel
theorem dX10_init_141 : decode cX10_init 141 = .ok (.aload_n 0, 1) := by decide +kernel
theorem dX10_init_142 : decode cX10_init 142 = .ok (.bipush 10, 2) := by decide +kernel
theorem dX10_init_144 : decode cX10_init 144 = .ok (.newarray .int, 2) := by decide +kernel
theorem dX10_init_146 : decode cX10_init 146 = .ok (.putfield 62, 3) := by decide +kernel
theorem dX10_init_149 : decode cX10_init 149 = .ok (.aload_n 0, 1) := by decide +kernel
theorem dX10_init_150 : decode cX10_init 150 = .ok (.iconst 4, 1) := by decide +kernel
theorem dX10_init_151 : decode cX10_init 151 = .ok (.putfield 65, 3) := by decide +kernel
theorem dX10_init_154 : decode cX10_init 154 = .ok (.return_, 1) := by decide +kernel
theorem dX10_in_0 : decode cX10_in 0 = .ok (.iload_n 0, 1) := by decide +kernel
theorem dX10_in_1 : decode cX10_in 1 = .ok (.iload_n 1, 1) := by decide +kernel
theorem dX10_in_2 : decode cX10_in 2 = .ok (.if_icmp .lt 12, 3) := by decide +kernel
theorem dX10_in_5 : decode cX10_in 5 = .ok (.iload_n 0, 1) := by decide +kernel
theorem dX10_in_6 : decode cX10_in 6 = .ok (.iload_n 2, 1) := by decide +kernel
theorem dX10_in_7 : decode cX10_in 7 = .ok (.if_icmp .gt 7, 3) := by decide +kernel
theorem dX10_in_10 : decode cX10_in 10 = .ok (.iconst 1, 1) := by decide +kernel
theorem dX10_in_11 : decode cX10_in 11 = .ok (.goto 4, 3) := by decide +kernel
theorem dX10_in_14 : decode cX10_in 14 = .ok (.iconst 0, 1) := by decide +kernel
theorem dX10_in_15 : decode cX10_in 15 = .ok (.ireturn, 1) := by decide +kernel
set_option maxRecDepth 20000 in
theorem ggX10_type_X10_in : GoodIn wsX10_type wsX10_in := goodIn_r _ [8] (by decide +kernel) (by decide +kernel)
set_option maxRecDepth 20000 in
theorem gX10_type_X10_in : GoodIn wsX10_type (va_wsS RX10 72 yX10_in wsX10_in) := goodIn_app (goodIn_of _ (by decide +kernel)) ggX10_type_X10_in
theorem dX10_type_0 : decode cX10_type 0 = .ok (.aload_n 0, 1) := by decide +kernel
theorem dX10_type_1 : decode cX10_type 1 = .ok (.iconst 0, 1) := by decide +kernel
theorem dX10_type_2 : decode cX10_type 2 = .ok (.putfield 69, 3) := by decide +kernel
theorem dX10_type_5 : decode cX10_type 5 = .ok (.iload_n 3, 1) := by decide +kernel
theorem dX10_type_6 : decode cX10_type 6 = .ok (.iconst 1, 1) := by decide +kernel
theorem dX10_type_7 : decode cX10_type 7 = .ok (.bipush 8, 2) := by decide +kernel
theorem dX10_type_9 : decode cX10_type 9 = .ok (.invokestatic 72, 3) := by decide +kernel
theorem dX10_type_12 : decode cX10_type 12 = .ok (.ifCond .ne 5, 3) := by decide +kernel
theorem dX10_type_15 : decode cX10_type 15 = .ok (.iconst (-1), 1) := by decide +kernel
theorem dX10_type_16 : decode cX10_type 16 = .ok (.ireturn, 1) := by decide +kernel
theorem dX10_type_17 : decode cX10_type 17 = .ok (.aload_n 0, 1) := by decide +kernel
theorem dX10_type_18 : decode cX10_type 18 = .ok (.getfield 76, 3) := by decide +kernel
theorem dX10_type_21 : decode cX10_type 21 = .ok (.iload_n 3, 1) := by decide +kernel
theorem dX10_type_22 : decode cX10_type 22 = .ok (.iadd, 1) := by decide +kernel
theorem dX10_type_23 : decode cX10_type 23 = .ok (.sipush 300, 3) := by decide +kernel
theorem dX10_type_26 : decode cX10_type 26 = .ok (.if_icmp .le 6, 3) := by decide +kernel
theorem dX10_type_29 : decode cX10_type 29 = .ok (.bipush (-3), 2) := by decide +kernel
theorem dX10_type_31 : decode cX10_type 31 = .ok (.ireturn, 1) := by decide +kernel
theorem dX10_type_32 : decode cX10_type 32 = .ok (.iload_n 3, 1) := by decide +kernel
theorem dX10_type_33 : decode cX10_type 33 = .ok (.iconst 1, 1) := by decide +kernel
theorem dX10_type_34 : decode cX10_type 34 = .ok (.isub, 1) := by decide +kernel
theorem dX10_type_35 : decode cX10_type 35 = .ok (.istore 4, 2) := by decide +kernel
theorem dX10_type_37 : decode cX10_type 37 = .ok (.iload 4, 2) := by decide +kernel
theorem dX10_type_39 : decode cX10_type 39 = .ok (.ifCond .lt 40, 3) := by decide +kernel
theorem dX10_type_42 : decode cX10_type 42 = .ok (.aload_n 0, 1) := by decide +kernel
theorem dX10_type_43 : decode cX10_type 43 = .ok (.getfield 7, 3) := by decide +kernel
theorem dX10_type_46 : decode cX10_type 46 = .ok (.aload_n 0, 1) := by decide +kernel
theorem dX10_type_47 : decode cX10_type 47 = .ok (.getfield 76, 3) := by decide +kernel
theorem dX10_type_50 : decode cX10_type 50 = .ok (.lload_n 1, 1) := by decide +kernel
theorem dX10_type_51 : decode cX10_type 51 = .ok (.bipush 8, 2) := by decide +kernel
theorem dX10_type_53 : decode cX10_type 53 = .ok (.iload 4, 2) := by decide +kernel
theorem dX10_type_55 : decode cX10_type 55 = .ok (.imul, 1) := by decide +kernel
theorem dX10_type_56 : decode cX10_type 56 = .ok (.lshr, 1) := by decide +kernel
theorem dX10_type_57 : decode cX10_type 57 = .ok (.ldc2_w 79, 3) := by decide +kernel
theorem dX10_type_60 : decode cX10_type 60 = .ok (.land, 1) := by decide +kernel
theorem dX10_type_61 : decode cX10_type 61 = .ok (.l2i, 1) := by decide +kernel
theorem dX10_type_62 : decode cX10_type 62 = .ok (.iastore, 1) := by decide +kernel
theorem dX10_type_63 : decode cX10_type 63 = .ok (.aload_n 0, 1) := by decide +kernel
theorem dX10_type_64 : decode cX10_type 64 = .ok (.dup, 1) := by decide +kernel
theorem dX10_type_65 : decode cX10_type 65 = .ok (.getfield 76, 3) := by decide +kernel
theorem dX10_type_68 : decode cX10_type 68 = .ok (.iconst 1, 1) := by decide +kernel
theorem dX10_type_69 : decode cX10_type 69 = .ok (.iadd, 1) := by decide +kernel
theorem dX10_type_70 : decode cX10_type 70 = .ok (.putfield 76, 3) := by decide +kernel
theorem dX10_type_73 : decode cX10_type 73 = .ok (.iinc 4 (-1), 3) := by decide +kernel
theorem dX10_type_76 : decode cX10_type 76 = .ok (.goto (-39), 3) := by decide +kernel
theorem dX10_type_79 : decode cX10_type 79 = .ok (.aload_n 0, 1) := by decide +kernel
theorem dX10_type_80 : decode cX10_type 80 = .ok (.getfield 76, 3) := by decide +kernel
theorem dX10_type_83 : decode cX10_type 83 = .ok (.ireturn, 1) := by decide +kernel
theorem dX10_clear_0 : decode cX10_clear 0 = .ok (.aload_n 0, 1) := by decide +kernel
theorem dX10_clear_1 : decode cX10_clear 1 = .ok (.iconst 0, 1) := by decide +kernel
theorem dX10_clear_2 : decode cX10_clear 2 = .ok (.putfield 69, 3) := by decide +kernel
theorem dX10_clear_5 : decode cX10_clear 5 = .ok (.aload_n 0, 1) := by decide +kernel
theorem dX10_clear_6 : decode cX10_clear 6 = .ok (.getfield 76, 3) := by decide +kernel
theorem dX10_clear_9 : decode cX10_clear 9 = .ok (.istore_n 1, 1) := by decide +kernel
theorem dX10_clear_10 : decode cX10_clear 10 = .ok (.aload_n 0, 1) := by decide +kernel
theorem dX10_clear_11 : decode cX10_clear 11 = .ok (.iconst 0, 1) := by decide +kernel
theorem dX10_clear_12 : decode cX10_clear 12 = .ok (.putfield 76, 3) := by decide +kernel
theorem dX10_clear_15 : decode cX10_clear 15 = .ok (.iload_n 1, 1) := by decide +kernel
theorem dX10_clear_16 : decode cX10_clear 16 = .ok (.ireturn, 1) := by decide +kernel
theorem dX10_byteAt_0 : decode cX10_byteAt 0 = .ok (.iload_n 1, 1) := by decide +kernel
theorem dX10_byteAt_1 : decode cX10_byteAt 1 = .ok (.aload_n 0, 1) := by decide +kernel
theorem dX10_byteAt_2 : decode cX10_byteAt 2 = .ok (.getfield 76, 3) := by decide +kernel
theorem dX10_byteAt_5 : decode cX10_byteAt 5 = .ok (.if_icmp .ge 12, 3) := by decide +kernel
theorem dX10_byteAt_8 : decode cX10_byteAt 8 = .ok (.aload_n 0, 1) := by decide +kernel
theorem dX10_byteAt_9 : decode cX10_byteAt 9 = .ok (.getfield 7, 3) := by decide +kernel
theorem dX10_byteAt_12 : decode cX10_byteAt 12 = .ok (.iload_n 1, 1) := by decide +kernel
theorem dX10_byteAt_13 : decode cX10_byteAt 13 = .ok (.iaload, 1) := by decide +kernel
theorem dX10_byteAt_14 : decode cX10_byteAt 14 = .ok (.goto 4, 3) := by decide +kernel
theorem dX10_byteAt_17 : decode cX10_byteAt 17 = .ok (.iconst (-1), 1) := by decide +kernel
theorem dX10_byteAt_18 : decode cX10_byteAt 18 = .ok (.ireturn, 1) := by decide +kernel
theorem dX10_add_0 : decode cX10_add 0 = .ok (.iload_n 2, 1) := by decide +kernel
theorem dX10_add_1 : decode cX10_add 1 = .ok (.ifCond .ne 7, 3) := by decide +kernel
theorem dX10_add_4 : decode cX10_add 4 = .ok (.lload_n 0, 1) := by decide +kernel
theorem dX10_add_5 : decode cX10_add 5 = .ok (.goto 11, 3) := by decide +kernel
theorem dX10_add_8 : decode cX10_add 8 = .ok (.ldc2_w 81, 3) := by decide +kernel
theorem dX10_add_11 : decode cX10_add 11 = .ok (.lload_n 0, 1) := by decide +kernel
theorem dX10_add_12 : decode cX10_add 12 = .ok (.lmul, 1) := by decide +kernel
theorem dX10_add_13 : decode cX10_add 13 = .ok (.iload_n 2, 1) := by decide +kernel
theorem dX10_add_14 : decode cX10_add 14 = .ok (.i2l, 1) := by decide +kernel
theorem dX10_add_15 : decode cX10_add 15 = .ok (.ladd, 1) := by decide +kernel
theorem dX10_add_16 : decode cX10_add 16 = .ok (.lreturn, 1) := by decide +kernel
set_option maxRecDepth 20000 in
theorem ggX10_named_X10_add : GoodIn wsX10_named wsX10_add := goodIn_r _ [4, 5] (by decide +kernel) (by decide +kernel)
set_option maxRecDepth 20000 in
theorem gX10_named_X10_add : GoodIn wsX10_named (va_wsS RX10 83 yX10_add wsX10_add) := goodIn_app (goodIn_of _ (by decide +kernel)) ggX10_named_X10_add
theorem dX10_named_0 : decode cX10_named 0 = .ok (.lconst 0, 1) := by decide +kernel
theorem dX10_named_1 : decode cX10_named 1 = .ok (.iload_n 0, 1) := by decide +kernel
theorem dX10_named_2 : decode cX10_named 2 = .ok (.invokestatic 83, 3) := by decide +kernel
theorem dX10_named_5 : decode cX10_named 5 = .ok (.iload_n 1, 1) := by decide +kernel
theorem dX10_named_6 : decode cX10_named 6 = .ok (.invokestatic 83, 3) := by decide +kernel
theorem dX10_named_9 : decode cX10_named 9 = .ok (.iload_n 2, 1) := by decide +kernel
theorem dX10_named_10 : decode cX10_named 10 = .ok (.invokestatic 83, 3) := by decide +kernel
theorem dX10_named_13 : decode cX10_named 13 = .ok (.iload_n 3, 1) := by decide +kernel
theorem dX10_named_14 : decode cX10_named 14 = .ok (.invokestatic 83, 3) := by decide +kernel
theorem dX10_named_17 : decode cX10_named 17 = .ok (.iload 4, 2) := by decide +kernel
theorem dX10_named_19 : decode cX10_named 19 = .ok (.invokestatic 83, 3) := by decide +kernel
theorem dX10_named_22 : decode cX10_named 22 = .ok (.iload 5, 2) := by decide +kernel
theorem dX10_named_24 : decode cX10_named 24 = .ok (.invokestatic 83, 3) := by decide +kernel
theorem dX10_named_27 : decode cX10_named 27 = .ok (.lreturn, 1) := by decide +kernel
set_option maxRecDepth 20000 in
theorem ggX10_wordOf_X10_named : GoodIn wsX10_wordOf wsX10_named := goodIn_r _ [4, 5, 6, 3, 7, 8] (by decide +kernel) (by decide +kernel)
set_option maxRecDepth 20000 in
theorem gX10_wordOf_X10_named : GoodIn wsX10_wordOf (va_wsS RX10 87 yX10_named wsX10_named) := goodIn_app (goodIn_of _ (by decide +kernel)) ggX10_wordOf_X10_named
theorem dX10_wordOf_0 : decode cX10_wordOf 0 = .ok (.lload_n 0, 1) := by decide +kernel
theorem dX10_wordOf_1 : decode cX10_wordOf 1 = .ok (.bipush 109, 2) := by decide +kernel
theorem dX10_wordOf_3 : decode cX10_wordOf 3 = .ok (.bipush 97, 2) := by decide +kernel
theorem dX10_wordOf_5 : decode cX10_wordOf 5 = .ok (.bipush 114, 2) := by decide +kernel
theorem dX10_wordOf_7 : decode cX10_wordOf 7 = .ok (.bipush 115, 2) := by decide +kernel
theorem dX10_wordOf_9 : decode cX10_wordOf 9 = .ok (.bipush 104, 2) := by decide +kernel
theorem dX10_wordOf_11 : decode cX10_wordOf 11 = .ok (.iconst 0, 1) := by decide +kernel
theorem dX10_wordOf_12 : decode cX10_wordOf 12 = .ok (.invokestatic 87, 3) := by decide +kernel
theorem dX10_wordOf_15 : decode cX10_wordOf 15 = .ok (.lcmp, 1) := by decide +kernel
theorem dX10_wordOf_16 : decode cX10_wordOf 16 = .ok (.ifCond .ne 7, 3) := by decide +kernel
theorem dX10_wordOf_19 : decode cX10_wordOf 19 = .ok (.iconst 0, 1) := by decide +kernel
theorem dX10_wordOf_20 : decode cX10_wordOf 20 = .ok (.goto 28, 3) := by decide +kernel
theorem dX10_wordOf_23 : decode cX10_wordOf 23 = .ok (.lload_n 0, 1) := by decide +kernel
theorem dX10_wordOf_24 : decode cX10_wordOf 24 = .ok (.bipush 112, 2) := by decide +kernel
theorem dX10_wordOf_26 : decode cX10_wordOf 26 = .ok (.bipush 108, 2) := by decide +kernel
theorem dX10_wordOf_28 : decode cX10_wordOf 28 = .ok (.bipush 97, 2) := by decide +kernel
theorem dX10_wordOf_30 : decode cX10_wordOf 30 = .ok (.bipush 110, 2) := by decide +kernel
theorem dX10_wordOf_32 : decode cX10_wordOf 32 = .ok (.bipush 107, 2) := by decide +kernel
theorem dX10_wordOf_34 : decode cX10_wordOf 34 = .ok (.iconst 0, 1) := by decide +kernel
theorem dX10_wordOf_35 : decode cX10_wordOf 35 = .ok (.invokestatic 87, 3) := by decide +kernel
theorem dX10_wordOf_38 : decode cX10_wordOf 38 = .ok (.lcmp, 1) := by decide +kernel
theorem dX10_wordOf_39 : decode cX10_wordOf 39 = .ok (.ifCond .ne 7, 3) := by decide +kernel
theorem dX10_wordOf_42 : decode cX10_wordOf 42 = .ok (.iconst 1, 1) := by decide +kernel
theorem dX10_wordOf_43 : decode cX10_wordOf 43 = .ok (.goto 5, 3) := by decide +kernel
theorem dX10_wordOf_46 : decode cX10_wordOf 46 = .ok (.bipush (-9), 2) := by decide +kernel
theorem dX10_wordOf_48 : decode cX10_wordOf 48 = .ok (.istore_n 2, 1) := by decide +kernel
theorem dX10_wordOf_49 : decode cX10_wordOf 49 = .ok (.iload_n 2, 1) := by decide +kernel
theorem dX10_wordOf_50 : decode cX10_wordOf 50 = .ok (.bipush (-9), 2) := by decide +kernel
theorem dX10_wordOf_52 : decode cX10_wordOf 52 = .ok (.if_icmp .eq 7, 3) := by decide +kernel
theorem dX10_wordOf_55 : decode cX10_wordOf 55 = .ok (.iload_n 2, 1) := by decide +kernel
theorem dX10_wordOf_56 : decode cX10_wordOf 56 = .ok (.goto 53, 3) := by decide +kernel
theorem dX10_wordOf_59 : decode cX10_wordOf 59 = .ok (.lload_n 0, 1) := by decide +kernel
theorem dX10_wordOf_60 : decode cX10_wordOf 60 = .ok (.bipush 112, 2) := by decide +kernel
theorem dX10_wordOf_62 : decode cX10_wordOf 62 = .ok (.bipush 101, 2) := by decide +kernel
theorem dX10_wordOf_64 : decode cX10_wordOf 64 = .ok (.bipush 114, 2) := by decide +kernel
theorem dX10_wordOf_66 : decode cX10_wordOf 66 = .ok (.bipush 115, 2) := by decide +kernel
theorem dX10_wordOf_68 : decode cX10_wordOf 68 = .ok (.bipush 111, 2) := by decide +kernel
theorem dX10_wordOf_70 : decode cX10_wordOf 70 = .ok (.bipush 110, 2) := by decide +kernel
theorem dX10_wordOf_72 : decode cX10_wordOf 72 = .ok (.invokestatic 87, 3) := by decide +kernel
theorem dX10_wordOf_75 : decode cX10_wordOf 75 = .ok (.lcmp, 1) := by decide +kernel
theorem dX10_wordOf_76 : decode cX10_wordOf 76 = .ok (.ifCond .ne 7, 3) := by decide +kernel
theorem dX10_wordOf_79 : decode cX10_wordOf 79 = .ok (.iconst 2, 1) := by decide +kernel
theorem dX10_wordOf_80 : decode cX10_wordOf 80 = .ok (.goto 29, 3) := by decide +kernel
theorem dX10_wordOf_83 : decode cX10_wordOf 83 = .ok (.lload_n 0, 1) := by decide +kernel
theorem dX10_wordOf_84 : decode cX10_wordOf 84 = .ok (.bipush 101, 2) := by decide +kernel
theorem dX10_wordOf_86 : decode cX10_wordOf 86 = .ok (.bipush 114, 2) := by decide +kernel
theorem dX10_wordOf_88 : decode cX10_wordOf 88 = .ok (.bipush 114, 2) := by decide +kernel
theorem dX10_wordOf_90 : decode cX10_wordOf 90 = .ok (.bipush 97, 2) := by decide +kernel
theorem dX10_wordOf_92 : decode cX10_wordOf 92 = .ok (.bipush 110, 2) := by decide +kernel
theorem dX10_wordOf_94 : decode cX10_wordOf 94 = .ok (.bipush 100, 2) := by decide +kernel
theorem dX10_wordOf_96 : decode cX10_wordOf 96 = .ok (.invokestatic 87, 3) := by decide +kernel
theorem dX10_wordOf_99 : decode cX10_wordOf 99 = .ok (.lcmp, 1) := by decide +kernel
theorem dX10_wordOf_100 : decode cX10_wordOf 100 = .ok (.ifCond .ne 7, 3) := by decide +kernel
theorem dX10_wordOf_103 : decode cX10_wordOf 103 = .ok (.iconst 3, 1) := by decide +kernel
theorem dX10_wordOf_104 : decode cX10_wordOf 104 = .ok (.goto 5, 3) := by decide +kernel
theorem dX10_wordOf_107 : decode cX10_wordOf 107 = .ok (.bipush (-9), 2) := by decide +kernel
theorem dX10_wordOf_109 : decode cX10_wordOf 109 = .ok (.ireturn, 1) := by decide +kernel
set_option maxRecDepth 20000 in
theorem ggX10_advances_X10_byteAt : GoodIn wsX10_advances wsX10_byteAt := goodIn_r _ [9, 10, 11, 25, 26, 27, 28, 29, 30, 31, 32, 33, 34, 35, 36, 37, 38, 39, 40, 41, 42, 43, 44, 45, 46, 47, 48, 49, 50, 51, 52, 53, 54, 55, 56, 57, 58] (by decide +kernel) (by decide +kernel)
set_option maxRecDepth 20000 in
theorem gX10_advances_X10_byteAt : GoodIn wsX10_advances (wsV RX10 94 RX10 yX10_byteAt wsX10_byteAt) := goodIn_app (goodIn_of _ (by decide +kernel)) ggX10_advances_X10_byteAt
set_option maxRecDepth 20000 in
theorem ggX10_advances_X10_in : GoodIn wsX10_advances wsX10_in := goodIn_r _ [14] (by decide +kernel) (by decide +kernel)
set_option maxRecDepth 20000 in
theorem gX10_advances_X10_in : GoodIn wsX10_advances (va_wsS RX10 72 yX10_in wsX10_in) := goodIn_app (goodIn_of _ (by decide +kernel)) ggX10_advances_X10_in
set_option maxRecDepth 20000 in
theorem ggX10_advances_X10_add : GoodIn wsX10_advances wsX10_add := goodIn_r _ [17, 18] (by decide +kernel) (by decide +kernel)
set_option maxRecDepth 20000 in
theorem gX10_advances_X10_add : GoodIn wsX10_advances (va_wsS RX10 83 yX10_add wsX10_add) := goodIn_app (goodIn_of _ (by decide +kernel)) ggX10_advances_X10_add
set_option maxRecDepth 20000 in
theorem ggX10_advances_X10_wordOf : GoodIn wsX10_advances wsX10_wordOf := goodIn_r _ [21, 22, 23, 8, 24, 15, 16, 17, 18] (by decide +kernel) (by decide +kernel)
set_option maxRecDepth 20000 in
theorem gX10_advances_X10_wordOf : GoodIn wsX10_advances (va_wsS RX10 104 yX10_wordOf wsX10_wordOf) := goodIn_app (goodIn_of _ (by decide +kernel)) ggX10_advances_X10_wordOf
theorem dX10_advances_0 : decode cX10_advances 0 = .ok (.aload_n 0, 1) := by decide +kernel
theorem dX10_advances_1 : decode cX10_advances 1 = .ok (.aload_n 0, 1) := by decide +kernel
theorem dX10_advances_2 : decode cX10_advances 2 = .ok (.getfield 91, 3) := by decide +kernel
theorem dX10_advances_5 : decode cX10_advances 5 = .ok (.invokevirtual 94, 3) := by decide +kernel
theorem dX10_advances_8 : decode cX10_advances 8 = .ok (.bipush 32, 2) := by decide +kernel
theorem dX10_advances_10 : decode cX10_advances 10 = .ok (.if_icmp .ne 16, 3) := by decide +kernel
theorem dX10_advances_13 : decode cX10_advances 13 = .ok (.aload_n 0, 1) := by decide +kernel
theorem dX10_advances_14 : decode cX10_advances 14 = .ok (.dup, 1) := by decide +kernel
theorem dX10_advances_15 : decode cX10_advances 15 = .ok (.getfield 91, 3) := by decide +kernel
theorem dX10_advances_18 : decode cX10_advances 18 = .ok (.iconst 1, 1) := by decide +kernel
theorem dX10_advances_19 : decode cX10_advances 19 = .ok (.iadd, 1) := by decide +kernel
theorem dX10_advances_20 : decode cX10_advances 20 = .ok (.putfield 91, 3) := by decide +kernel
theorem dX10_advances_23 : decode cX10_advances 23 = .ok (.goto (-23), 3) := by decide +kernel
theorem dX10_advances_26 : decode cX10_advances 26 = .ok (.aload_n 0, 1) := by decide +kernel
theorem dX10_advances_27 : decode cX10_advances 27 = .ok (.aload_n 0, 1) := by decide +kernel
theorem dX10_advances_28 : decode cX10_advances 28 = .ok (.getfield 91, 3) := by decide +kernel
theorem dX10_advances_31 : decode cX10_advances 31 = .ok (.putfield 98, 3) := by decide +kernel
theorem dX10_advances_34 : decode cX10_advances 34 = .ok (.aload_n 0, 1) := by decide +kernel
theorem dX10_advances_35 : decode cX10_advances 35 = .ok (.aload_n 0, 1) := by decide +kernel
theorem dX10_advances_36 : decode cX10_advances 36 = .ok (.getfield 91, 3) := by decide +kernel
theorem dX10_advances_39 : decode cX10_advances 39 = .ok (.invokevirtual 94, 3) := by decide +kernel
theorem dX10_advances_42 : decode cX10_advances 42 = .ok (.istore_n 1, 1) := by decide +kernel
theorem dX10_advances_43 : decode cX10_advances 43 = .ok (.iload_n 1, 1) := by decide +kernel
theorem dX10_advances_44 : decode cX10_advances 44 = .ok (.ifCond .ge 11, 3) := by decide +kernel
theorem dX10_advances_47 : decode cX10_advances 47 = .ok (.aload_n 0, 1) := by decide +kernel
theorem dX10_advances_48 : decode cX10_advances 48 = .ok (.iconst 0, 1) := by decide +kernel
theorem dX10_advances_49 : decode cX10_advances 49 = .ok (.putfield 101, 3) := by decide +kernel
theorem dX10_advances_52 : decode cX10_advances 52 = .ok (.goto 258, 3) := by decide +kernel
theorem dX10_advances_55 : decode cX10_advances 55 = .ok (.iload_n 1, 1) := by decide +kernel
theorem dX10_advances_56 : decode cX10_advances 56 = .ok (.bipush 97, 2) := by decide +kernel
theorem dX10_advances_58 : decode cX10_advances 58 = .ok (.bipush 122, 2) := by decide +kernel
theorem dX10_advances_60 : decode cX10_advances 60 = .ok (.invokestatic 72, 3) := by decide +kernel
theorem dX10_advances_63 : decode cX10_advances 63 = .ok (.ifCond .eq 96, 3) := by decide +kernel
theorem dX10_advances_66 : decode cX10_advances 66 = .ok (.lconst 0, 1) := by decide +kernel
theorem dX10_advances_67 : decode cX10_advances 67 = .ok (.lstore_n 2, 1) := by decide +kernel
theorem dX10_advances_68 : decode cX10_advances 68 = .ok (.aload_n 0, 1) := by decide +kernel
theorem dX10_advances_69 : decode cX10_advances 69 = .ok (.aload_n 0, 1) := by decide +kernel
theorem dX10_advances_70 : decode cX10_advances 70 = .ok (.getfield 91, 3) := by decide +kernel
theorem dX10_advances_73 : decode cX10_advances 73 = .ok (.invokevirtual 94, 3) := by decide +kernel
theorem dX10_advances_76 : decode cX10_advances 76 = .ok (.bipush 97, 2) := by decide +kernel
theorem dX10_advances_78 : decode cX10_advances 78 = .ok (.bipush 122, 2) := by decide +kernel
theorem dX10_advances_80 : decode cX10_advances 80 = .ok (.invokestatic 72, 3) := by decide +kernel
theorem dX10_advances_83 : decode cX10_advances 83 = .ok (.ifCond .eq 47, 3) := by decide +kernel
theorem dX10_advances_86 : decode cX10_advances 86 = .ok (.aload_n 0, 1) := by decide +kernel
theorem dX10_advances_87 : decode cX10_advances 87 = .ok (.getfield 91, 3) := by decide +kernel
theorem dX10_advances_90 : decode cX10_advances 90 = .ok (.aload_n 0, 1) := by decide +kernel
theorem dX10_advances_91 : decode cX10_advances 91 = .ok (.getfield 98, 3) := by decide +kernel
theorem dX10_advances_94 : decode cX10_advances 94 = .ok (.isub, 1) := by decide +kernel
theorem dX10_advances_95 : decode cX10_advances 95 = .ok (.bipush 7, 2) := by decide +kernel
theorem dX10_advances_97 : decode cX10_advances 97 = .ok (.if_icmp .ge 18, 3) := by decide +kernel
theorem dX10_advances_100 : decode cX10_advances 100 = .ok (.lload_n 2, 1) := by decide +kernel
theorem dX10_advances_101 : decode cX10_advances 101 = .ok (.aload_n 0, 1) := by decide +kernel
theorem dX10_advances_102 : decode cX10_advances 102 = .ok (.aload_n 0, 1) := by decide +kernel
theorem dX10_advances_103 : decode cX10_advances 103 = .ok (.getfield 91, 3) := by decide +kernel
theorem dX10_advances_106 : decode cX10_advances 106 = .ok (.invokevirtual 94, 3) := by decide +kernel
theorem dX10_advances_109 : decode cX10_advances 109 = .ok (.invokestatic 83, 3) := by decide +kernel
theorem dX10_advances_112 : decode cX10_advances 112 = .ok (.goto 4, 3) := by decide +kernel
theorem dX10_advances_115 : decode cX10_advances 115 = .ok (.lload_n 2, 1) := by decide +kernel
theorem dX10_advances_116 : decode cX10_advances 116 = .ok (.lstore_n 2, 1) := by decide +kernel
theorem dX10_advances_117 : decode cX10_advances 117 = .ok (.aload_n 0, 1) := by decide +kernel
theorem dX10_advances_118 : decode cX10_advances 118 = .ok (.dup, 1) := by decide +kernel
theorem dX10_advances_119 : decode cX10_advances 119 = .ok (.getfield 91, 3) := by decide +kernel
theorem dX10_advances_122 : decode cX10_advances 122 = .ok (.iconst 1, 1) := by decide +kernel
theorem dX10_advances_123 : decode cX10_advances 123 = .ok (.iadd, 1) := by decide +kernel
theorem dX10_advances_124 : decode cX10_advances 124 = .ok (.putfield 91, 3) := by decide +kernel
theorem dX10_advances_127 : decode cX10_advances 127 = .ok (.goto (-59), 3) := by decide +kernel
theorem dX10_advances_130 : decode cX10_advances 130 = .ok (.aload_n 0, 1) := by decide +kernel
theorem dX10_advances_131 : decode cX10_advances 131 = .ok (.lload_n 2, 1) := by decide +kernel
theorem dX10_advances_132 : decode cX10_advances 132 = .ok (.invokestatic 104, 3) := by decide +kernel
theorem dX10_advances_135 : decode cX10_advances 135 = .ok (.putfield 108, 3) := by decide +kernel
theorem dX10_advances_138 : decode cX10_advances 138 = .ok (.aload_n 0, 1) := by decide +kernel
theorem dX10_advances_139 : decode cX10_advances 139 = .ok (.aload_n 0, 1) := by decide +kernel
theorem dX10_advances_140 : decode cX10_advances 140 = .ok (.getfield 108, 3) := by decide +kernel
theorem dX10_advances_143 : decode cX10_advances 143 = .ok (.bipush (-9), 2) := by decide +kernel
theorem dX10_advances_145 : decode cX10_advances 145 = .ok (.if_icmp .ne 7, 3) := by decide +kernel
theorem dX10_advances_148 : decode cX10_advances 148 = .ok (.iconst 4, 1) := by decide +kernel
theorem dX10_advances_149 : decode cX10_advances 149 = .ok (.goto 4, 3) := by decide +kernel
theorem dX10_advances_152 : decode cX10_advances 152 = .ok (.iconst 1, 1) := by decide +kernel
theorem dX10_advances_153 : decode cX10_advances 153 = .ok (.putfield 101, 3) := by decide +kernel
theorem dX10_advances_156 : decode cX10_advances 156 = .ok (.goto 154, 3) := by decide +kernel
theorem dX10_advances_159 : decode cX10_advances 159 = .ok (.iload_n 1, 1) := by decide +kernel
theorem dX10_advances_160 : decode cX10_advances 160 = .ok (.bipush 48, 2) := by decide +kernel
theorem dX10_advances_162 : decode cX10_advances 162 = .ok (.bipush 57, 2) := by decide +kernel
theorem dX10_advances_164 : decode cX10_advances 164 = .ok (.invokestatic 72, 3) := by decide +kernel
theorem dX10_advances_167 : decode cX10_advances 167 = .ok (.ifCond .eq 118, 3) := by decide +kernel
theorem dX10_advances_170 : decode cX10_advances 170 = .ok (.aload_n 0, 1) := by decide +kernel
theorem dX10_advances_171 : decode cX10_advances 171 = .ok (.iconst 0, 1) := by decide +kernel
theorem dX10_advances_172 : decode cX10_advances 172 = .ok (.putfield 108, 3) := by decide +kernel
theorem dX10_advances_175 : decode cX10_advances 175 = .ok (.aload_n 0, 1) := by decide +kernel
theorem dX10_advances_176 : decode cX10_advances 176 = .ok (.aload_n 0, 1) := by decide +kernel
theorem dX10_advances_177 : decode cX10_advances 177 = .ok (.getfield 91, 3) := by decide +kernel
theorem dX10_advances_180 : decode cX10_advances 180 = .ok (.invokevirtual 94, 3) := by decide +kernel
theorem dX10_advances_183 : decode cX10_advances 183 = .ok (.bipush 48, 2) := by decide +kernel
theorem dX10_advances_185 : decode cX10_advances 185 = .ok (.bipush 57, 2) := by decide +kernel
theorem dX10_advances_187 : decode cX10_advances 187 = .ok (.invokestatic 72, 3) := by decide +kernel
theorem dX10_advances_190 : decode cX10_advances 190 = .ok (.ifCond .eq 55, 3) := by decide +kernel
theorem dX10_advances_193 : decode cX10_advances 193 = .ok (.aload_n 0, 1) := by decide +kernel
theorem dX10_advances_194 : decode cX10_advances 194 = .ok (.aload_n 0, 1) := by decide +kernel
theorem dX10_advances_195 : decode cX10_advances 195 = .ok (.getfield 108, 3) := by decide +kernel
theorem dX10_advances_198 : decode cX10_advances 198 = .ok (.bipush 99, 2) := by decide +kernel
theorem dX10_advances_200 : decode cX10_advances 200 = .ok (.if_icmp .le 10, 3) := by decide +kernel
theorem dX10_advances_203 : decode cX10_advances 203 = .ok (.aload_n 0, 1) := by decide +kernel
theorem dX10_advances_204 : decode cX10_advances 204 = .ok (.getfield 108, 3) := by decide +kernel
theorem dX10_advances_207 : decode cX10_advances 207 = .ok (.goto 22, 3) := by decide +kernel
theorem dX10_advances_210 : decode cX10_advances 210 = .ok (.bipush 10, 2) := by decide +kernel
theorem dX10_advances_212 : decode cX10_advances 212 = .ok (.aload_n 0, 1) := by decide +kernel
theorem dX10_advances_213 : decode cX10_advances 213 = .ok (.getfield 108, 3) := by decide +kernel
theorem dX10_advances_216 : decode cX10_advances 216 = .ok (.imul, 1) := by decide +kernel
theorem dX10_advances_217 : decode cX10_advances 217 = .ok (.aload_n 0, 1) := by decide +kernel
theorem dX10_advances_218 : decode cX10_advances 218 = .ok (.aload_n 0, 1) := by decide +kernel
theorem dX10_advances_219 : decode cX10_advances 219 = .ok (.getfield 91, 3) := by decide +kernel
theorem dX10_advances_222 : decode cX10_advances 222 = .ok (.invokevirtual 94, 3) := by decide +kernel
theorem dX10_advances_225 : decode cX10_advances 225 = .ok (.iadd, 1) := by decide +kernel
theorem dX10_advances_226 : decode cX10_advances 226 = .ok (.bipush 48, 2) := by decide +kernel
theorem dX10_advances_228 : decode cX10_advances 228 = .ok (.isub, 1) := by decide +kernel
theorem dX10_advances_229 : decode cX10_advances 229 = .ok (.putfield 108, 3) := by decide +kernel
theorem dX10_advances_232 : decode cX10_advances 232 = .ok (.aload_n 0, 1) := by decide +kernel
theorem dX10_advances_233 : decode cX10_advances 233 = .ok (.dup, 1) := by decide +kernel
theorem dX10_advances_234 : decode cX10_advances 234 = .ok (.getfield 91, 3) := by decide +kernel
theorem dX10_advances_237 : decode cX10_advances 237 = .ok (.iconst 1, 1) := by decide +kernel
theorem dX10_advances_238 : decode cX10_advances 238 = .ok (.iadd, 1) := by decide +kernel
theorem dX10_advances_239 : decode cX10_advances 239 = .ok (.putfield 91, 3) := by decide +kernel
theorem dX10_advances_242 : decode cX10_advances 242 = .ok (.goto (-67), 3) := by decide +kernel
theorem dX10_advances_245 : decode cX10_advances 245 = .ok (.aload_n 0, 1) := by decide +kernel
theorem dX10_advances_246 : decode cX10_advances 246 = .ok (.aload_n 0, 1) := by decide +kernel
theorem dX10_advances_247 : decode cX10_advances 247 = .ok (.getfield 108, 3) := by decide +kernel
theorem dX10_advances_250 : decode cX10_advances 250 = .ok (.bipush 99, 2) := by decide +kernel
theorem dX10_advances_252 : decode cX10_advances 252 = .ok (.if_icmp .gt 22, 3) := by decide +kernel
theorem dX10_advances_255 : decode cX10_advances 255 = .ok (.iload_n 1, 1) := by decide +kernel
theorem dX10_advances_256 : decode cX10_advances 256 = .ok (.bipush 48, 2) := by decide +kernel
theorem dX10_advances_258 : decode cX10_advances 258 = .ok (.if_icmp .ne 20, 3) := by decide +kernel
theorem dX10_advances_261 : decode cX10_advances 261 = .ok (.aload_n 0, 1) := by decide +kernel
theorem dX10_advances_262 : decode cX10_advances 262 = .ok (.getfield 91, 3) := by decide +kernel
theorem dX10_advances_265 : decode cX10_advances 265 = .ok (.aload_n 0, 1) := by decide +kernel
theorem dX10_advances_266 : decode cX10_advances 266 = .ok (.getfield 98, 3) := by decide +kernel
theorem dX10_advances_269 : decode cX10_advances 269 = .ok (.isub, 1) := by decide +kernel
theorem dX10_advances_270 : decode cX10_advances 270 = .ok (.iconst 1, 1) := by decide +kernel
theorem dX10_advances_271 : decode cX10_advances 271 = .ok (.if_icmp .le 7, 3) := by decide +kernel
theorem dX10_advances_274 : decode cX10_advances 274 = .ok (.iconst 4, 1) := by decide +kernel
theorem dX10_advances_275 : decode cX10_advances 275 = .ok (.goto 4, 3) := by decide +kernel
theorem dX10_advances_278 : decode cX10_advances 278 = .ok (.iconst 2, 1) := by decide +kernel
theorem dX10_advances_279 : decode cX10_advances 279 = .ok (.putfield 101, 3) := by decide +kernel
theorem dX10_advances_282 : decode cX10_advances 282 = .ok (.goto 28, 3) := by decide +kernel
theorem dX10_advances_285 : decode cX10_advances 285 = .ok (.aload_n 0, 1) := by decide +kernel
theorem dX10_advances_286 : decode cX10_advances 286 = .ok (.dup, 1) := by decide +kernel
theorem dX10_advances_287 : decode cX10_advances 287 = .ok (.getfield 91, 3) := by decide +kernel
theorem dX10_advances_290 : decode cX10_advances 290 = .ok (.iconst 1, 1) := by decide +kernel
theorem dX10_advances_291 : decode cX10_advances 291 = .ok (.iadd, 1) := by decide +kernel
theorem dX10_advances_292 : decode cX10_advances 292 = .ok (.putfield 91, 3) := by decide +kernel
theorem dX10_advances_295 : decode cX10_advances 295 = .ok (.aload_n 0, 1) := by decide +kernel
theorem dX10_advances_296 : decode cX10_advances 296 = .ok (.iload_n 1, 1) := by decide +kernel
theorem dX10_advances_297 : decode cX10_advances 297 = .ok (.bipush 59, 2) := by decide +kernel
theorem dX10_advances_299 : decode cX10_advances 299 = .ok (.if_icmp .ne 7, 3) := by decide +kernel
theorem dX10_advances_302 : decode cX10_advances 302 = .ok (.iconst 3, 1) := by decide +kernel
theorem dX10_advances_303 : decode cX10_advances 303 = .ok (.goto 4, 3) := by decide +kernel
theorem dX10_advances_306 : decode cX10_advances 306 = .ok (.iconst 4, 1) := by decide +kernel
theorem dX10_advances_307 : decode cX10_advances 307 = .ok (.putfield 101, 3) := by decide +kernel
theorem dX10_advances_310 : decode cX10_advances 310 = .ok (.return_, 1) := by decide +kernel
theorem dX10_isWell_0 : decode cX10_isWell 0 = .ok (.aload_n 0, 1) := by decide +kernel
theorem dX10_isWell_1 : decode cX10_isWell 1 = .ok (.getfield 111, 3) := by decide +kernel
theorem dX10_isWell_4 : decode cX10_isWell 4 = .ok (.ifCond .ge 7, 3) := by decide +kernel
theorem dX10_isWell_7 : decode cX10_isWell 7 = .ok (.iconst 1, 1) := by decide +kernel
theorem dX10_isWell_8 : decode cX10_isWell 8 = .ok (.goto 4, 3) := by decide +kernel
theorem dX10_isWell_11 : decode cX10_isWell 11 = .ok (.iconst 0, 1) := by decide +kernel
theorem dX10_isWell_12 : decode cX10_isWell 12 = .ok (.ireturn, 1) := by decide +kernel
set_option maxRecDepth 20000 in
theorem ggX10_takes_X10_isWell : GoodIn wsX10_takes wsX10_isWell := goodIn_r _ [8, 2, 34, 35, 36, 37, 38, 39, 40, 41, 42, 43, 44, 45, 46, 47, 48, 49, 50, 51, 52, 53, 54, 55, 56, 57, 58, 59, 60, 61, 62, 63, 64, 65, 66, 67] (by decide +kernel) (by decide +kernel)
set_option maxRecDepth 20000 in
theorem gX10_takes_X10_isWell : GoodIn wsX10_takes (wsV RX10 114 RX10 yX10_isWell wsX10_isWell) := goodIn_app (goodIn_of _ (by decide +kernel)) ggX10_takes_X10_isWell
set_option maxRecDepth 20000 in
theorem ggX10_takes_X10_advances : GoodIn wsX10_takes wsX10_advances := goodIn_r _ [12, 13, 1, 14, 3, 15, 16, 17, 7, 18, 19, 20, 21, 22, 23, 24, 25, 26, 27, 28, 29, 30, 31, 32, 33, 34, 35, 36, 37, 38, 39, 40, 41, 42, 43, 44, 45, 46, 47, 48, 49, 50, 51, 52, 53, 54, 55, 56, 57, 58, 59, 60, 61, 62, 63, 64, 65, 66, 67] (by decide +kernel) (by decide +kernel)
set_option maxRecDepth 20000 in
theorem gX10_takes_X10_advances : GoodIn wsX10_takes (wsV RX10 118 RX10 yX10_advances wsX10_advances) := goodIn_app (goodIn_of _ (by decide +kernel)) ggX10_takes_X10_advances
theorem dX10_takes_0 : decode cX10_takes 0 = .ok (.aload_n 0, 1) := by decide +kernel
theorem dX10_takes_1 : decode cX10_takes 1 = .ok (.invokevirtual 114, 3) := by decide +kernel
theorem dX10_takes_4 : decode cX10_takes 4 = .ok (.ifCond .ne 5, 3) := by decide +kernel
theorem dX10_takes_7 : decode cX10_takes 7 = .ok (.iconst 0, 1) := by decide +kernel
theorem dX10_takes_8 : decode cX10_takes 8 = .ok (.ireturn, 1) := by decide +kernel
theorem dX10_takes_9 : decode cX10_takes 9 = .ok (.iload_n 1, 1) := by decide +kernel
theorem dX10_takes_10 : decode cX10_takes 10 = .ok (.ifCond .ne 13, 3) := by decide +kernel
theorem dX10_takes_13 : decode cX10_takes 13 = .ok (.aload_n 0, 1) := by decide +kernel
theorem dX10_takes_14 : decode cX10_takes 14 = .ok (.aload_n 0, 1) := by decide +kernel
theorem dX10_takes_15 : decode cX10_takes 15 = .ok (.getfield 98, 3) := by decide +kernel
theorem dX10_takes_18 : decode cX10_takes 18 = .ok (.putfield 111, 3) := by decide +kernel
theorem dX10_takes_21 : decode cX10_takes 21 = .ok (.iconst 0, 1) := by decide +kernel
theorem dX10_takes_22 : decode cX10_takes 22 = .ok (.ireturn, 1) := by decide +kernel
theorem dX10_takes_23 : decode cX10_takes 23 = .ok (.aload_n 0, 1) := by decide +kernel
theorem dX10_takes_24 : decode cX10_takes 24 = .ok (.getfield 108, 3) := by decide +kernel
theorem dX10_takes_27 : decode cX10_takes 27 = .ok (.istore_n 2, 1) := by decide +kernel
theorem dX10_takes_28 : decode cX10_takes 28 = .ok (.aload_n 0, 1) := by decide +kernel
theorem dX10_takes_29 : decode cX10_takes 29 = .ok (.invokevirtual 118, 3) := by decide +kernel
theorem dX10_takes_32 : decode cX10_takes 32 = .ok (.iload_n 2, 1) := by decide +kernel
theorem dX10_takes_33 : decode cX10_takes 33 = .ok (.ireturn, 1) := by decide +kernel
set_option maxRecDepth 20000 in
theorem ggX10_number_X10_in : GoodIn wsX10_number wsX10_in := goodIn_r _ [6] (by decide +kernel) (by decide +kernel)
set_option maxRecDepth 20000 in
theorem gX10_number_X10_in : GoodIn wsX10_number (va_wsS RX10 72 yX10_in wsX10_in) := goodIn_app (goodIn_of _ (by decide +kernel)) ggX10_number_X10_in
set_option maxRecDepth 20000 in
theorem ggX10_number_X10_takes : GoodIn wsX10_number wsX10_takes := goodIn_r _ [10, 11, 12, 2, 13, 14, 15, 5, 16, 17, 18, 19, 20, 21, 1, 22, 23, 24, 25, 26, 27, 3, 4, 6, 28, 29, 30, 31, 32, 33, 34, 35, 36, 37, 38, 39, 40, 41, 42, 43, 44, 45, 46, 47, 48, 49, 50, 51, 52, 53, 54, 55, 56, 57, 58, 59, 60, 61, 62, 63, 64, 65, 66, 67, 68, 69, 70, 71] (by decide +kernel) (by decide +kernel)
set_option maxRecDepth 20000 in
theorem gX10_number_X10_takes : GoodIn wsX10_number (wsV RX10 121 RX10 yX10_takes wsX10_takes) := goodIn_app (goodIn_of _ (by decide +kernel)) ggX10_number_X10_takes
theorem dX10_number_0 : decode cX10_number 0 = .ok (.aload_n 0, 1) := by decide +kernel
theorem dX10_number_1 : decode cX10_number 1 = .ok (.aload_n 0, 1) := by decide +kernel
theorem dX10_number_2 : decode cX10_number 2 = .ok (.getfield 101, 3) := by decide +kernel
theorem dX10_number_5 : decode cX10_number 5 = .ok (.iconst 2, 1) := by decide +kernel
theorem dX10_number_6 : decode cX10_number 6 = .ok (.if_icmp .ne 19, 3) := by decide +kernel
theorem dX10_number_9 : decode cX10_number 9 = .ok (.aload_n 0, 1) := by decide +kernel
theorem dX10_number_10 : decode cX10_number 10 = .ok (.getfield 108, 3) := by decide +kernel
theorem dX10_number_13 : decode cX10_number 13 = .ok (.iload_n 1, 1) := by decide +kernel
theorem dX10_number_14 : decode cX10_number 14 = .ok (.iload_n 2, 1) := by decide +kernel
theorem dX10_number_15 : decode cX10_number 15 = .ok (.invokestatic 72, 3) := by decide +kernel
theorem dX10_number_18 : decode cX10_number 18 = .ok (.ifCond .eq 7, 3) := by decide +kernel
theorem dX10_number_21 : decode cX10_number 21 = .ok (.iconst 1, 1) := by decide +kernel
theorem dX10_number_22 : decode cX10_number 22 = .ok (.goto 4, 3) := by decide +kernel
theorem dX10_number_25 : decode cX10_number 25 = .ok (.iconst 0, 1) := by decide +kernel
theorem dX10_number_26 : decode cX10_number 26 = .ok (.invokevirtual 121, 3) := by decide +kernel
theorem dX10_number_29 : decode cX10_number 29 = .ok (.ireturn, 1) := by decide +kernel
set_option maxRecDepth 20000 in
theorem ggX10_unlike_X10_in : GoodIn wsX10_unlike wsX10_in := goodIn_r _ [7] (by decide +kernel) (by decide +kernel)
set_option maxRecDepth 20000 in
theorem gX10_unlike_X10_in : GoodIn wsX10_unlike (va_wsS RX10 72 yX10_in wsX10_in) := goodIn_app (goodIn_of _ (by decide +kernel)) ggX10_unlike_X10_in
set_option maxRecDepth 20000 in
theorem ggX10_unlike_X10_takes : GoodIn wsX10_unlike wsX10_takes := goodIn_r _ [11, 12, 13, 2, 14, 15, 16, 6, 17, 18, 19, 20, 21, 22, 1, 23, 24, 25, 26, 27, 28, 4, 5, 7, 29, 30, 31, 32, 33, 34, 35, 36, 37, 38, 39, 40, 41, 42, 43, 44, 45, 46, 47, 48, 49, 50, 51, 52, 53, 54, 55, 56, 57, 58, 59, 60, 61, 62, 63, 64, 65, 66, 67, 68, 69, 70, 71, 72] (by decide +kernel) (by decide +kernel)
set_option maxRecDepth 20000 in
theorem gX10_unlike_X10_takes : GoodIn wsX10_unlike (wsV RX10 121 RX10 yX10_takes wsX10_takes) := goodIn_app (goodIn_of _ (by decide +kernel)) ggX10_unlike_X10_takes
theorem dX10_unlike_0 : decode cX10_unlike 0 = .ok (.aload_n 0, 1) := by decide +kernel
theorem dX10_unlike_1 : decode cX10_unlike 1 = .ok (.aload_n 0, 1) := by decide +kernel
theorem dX10_unlike_2 : decode cX10_unlike 2 = .ok (.getfield 101, 3) := by decide +kernel
theorem dX10_unlike_5 : decode cX10_unlike 5 = .ok (.iconst 2, 1) := by decide +kernel
theorem dX10_unlike_6 : decode cX10_unlike 6 = .ok (.if_icmp .ne 32, 3) := by decide +kernel
theorem dX10_unlike_9 : decode cX10_unlike 9 = .ok (.aload_n 0, 1) := by decide +kernel
theorem dX10_unlike_10 : decode cX10_unlike 10 = .ok (.getfield 108, 3) := by decide +kernel
theorem dX10_unlike_13 : decode cX10_unlike 13 = .ok (.iconst 0, 1) := by decide +kernel
theorem dX10_unlike_14 : decode cX10_unlike 14 = .ok (.aload_n 0, 1) := by decide +kernel
theorem dX10_unlike_15 : decode cX10_unlike 15 = .ok (.getfield 125, 3) := by decide +kernel
theorem dX10_unlike_18 : decode cX10_unlike 18 = .ok (.iconst 1, 1) := by decide +kernel
theorem dX10_unlike_19 : decode cX10_unlike 19 = .ok (.isub, 1) := by decide +kernel
theorem dX10_unlike_20 : decode cX10_unlike 20 = .ok (.invokestatic 72, 3) := by decide +kernel
theorem dX10_unlike_23 : decode cX10_unlike 23 = .ok (.ifCond .eq 15, 3) := by decide +kernel
theorem dX10_unlike_26 : decode cX10_unlike 26 = .ok (.aload_n 0, 1) := by decide +kernel
theorem dX10_unlike_27 : decode cX10_unlike 27 = .ok (.getfield 108, 3) := by decide +kernel
theorem dX10_unlike_30 : decode cX10_unlike 30 = .ok (.iload_n 1, 1) := by decide +kernel
theorem dX10_unlike_31 : decode cX10_unlike 31 = .ok (.if_icmp .eq 7, 3) := by decide +kernel
theorem dX10_unlike_34 : decode cX10_unlike 34 = .ok (.iconst 1, 1) := by decide +kernel
theorem dX10_unlike_35 : decode cX10_unlike 35 = .ok (.goto 4, 3) := by decide +kernel
theorem dX10_unlike_38 : decode cX10_unlike 38 = .ok (.iconst 0, 1) := by decide +kernel
theorem dX10_unlike_39 : decode cX10_unlike 39 = .ok (.invokevirtual 121, 3) := by decide +kernel
theorem dX10_unlike_42 : decode cX10_unlike 42 = .ok (.ireturn, 1) := by decide +kernel
set_option maxRecDepth 20000 in
theorem ggX10_readsItem_X10_number : GoodIn wsX10_readsItem wsX10_number := goodIn_r _ [15, 16, 17, 18, 19, 14, 20, 21, 22, 23, 24, 25, 26, 27, 28, 29, 30, 31, 32, 33, 34, 35, 36, 37, 38, 39, 40, 41, 42, 43, 44, 45, 46, 47, 48, 49, 50, 51, 56, 57, 58, 59, 60, 61, 62, 63, 64, 65, 66, 67, 68, 69, 70, 71, 72, 73, 74, 75, 76, 77, 78, 79, 80, 81, 82, 83, 84, 85, 86, 87, 88, 89] (by decide +kernel) (by decide +kernel)
set_option maxRecDepth 20000 in
theorem gX10_readsItem_X10_number : GoodIn wsX10_readsItem (wsV RX10 128 RX10 yX10_number wsX10_number) := goodIn_app (goodIn_of _ (by decide +kernel)) ggX10_readsItem_X10_number
set_option maxRecDepth 20000 in
theorem ggX10_readsItem_X10_isWell : GoodIn wsX10_readsItem wsX10_isWell := goodIn_r _ [30, 26, 56, 57, 58, 59, 60, 61, 62, 63, 64, 65, 66, 67, 68, 69, 70, 71, 72, 73, 74, 75, 76, 77, 78, 79, 80, 81, 82, 83, 84, 85, 86, 87, 88, 89] (by decide +kernel) (by decide +kernel)
set_option maxRecDepth 20000 in
theorem gX10_readsItem_X10_isWell : GoodIn wsX10_readsItem (wsV RX10 114 RX10 yX10_isWell wsX10_isWell) := goodIn_app (goodIn_of _ (by decide +kernel)) ggX10_readsItem_X10_isWell
set_option maxRecDepth 20000 in
theorem ggX10_readsItem_X10_unlike : GoodIn wsX10_readsItem wsX10_unlike := goodIn_r _ [55, 16, 17, 1, 18, 19, 14, 20, 21, 22, 23, 24, 25, 26, 27, 28, 29, 30, 31, 32, 33, 34, 35, 36, 37, 38, 39, 40, 41, 42, 43, 44, 45, 46, 47, 48, 49, 50, 51, 56, 57, 58, 59, 60, 61, 62, 63, 64, 65, 66, 67, 68, 69, 70, 71, 72, 73, 74, 75, 76, 77, 78, 79, 80, 81, 82, 83, 84, 85, 86, 87, 88, 89] (by decide +kernel) (by decide +kernel)
set_option maxRecDepth 20000 in
theorem gX10_readsItem_X10_unlike : GoodIn wsX10_readsItem (wsV RX10 135 RX10 yX10_unlike wsX10_unlike) := goodIn_app (goodIn_of _ (by decide +kernel)) ggX10_readsItem_X10_unlike
theorem dX10_readsItem_0 : decode cX10_readsItem 0 = .ok (.iload_n 1, 1) := by decide +kernel
theorem dX10_readsItem_1 : decode cX10_readsItem 1 = .ok (.ifCond .ne 33, 3) := by decide +kernel
theorem dX10_readsItem_4 : decode cX10_readsItem 4 = .ok (.aload_n 0, 1) := by decide +kernel
theorem dX10_readsItem_5 : decode cX10_readsItem 5 = .ok (.iconst 2, 1) := by decide +kernel
theorem dX10_readsItem_6 : decode cX10_readsItem 6 = .ok (.bipush 6, 2) := by decide +kernel
theorem dX10_readsItem_8 : decode cX10_readsItem 8 = .ok (.invokevirtual 128, 3) := by decide +kernel
theorem dX10_readsItem_11 : decode cX10_readsItem 11 = .ok (.istore_n 2, 1) := by decide +kernel
theorem dX10_readsItem_12 : decode cX10_readsItem 12 = .ok (.aload_n 0, 1) := by decide +kernel
theorem dX10_readsItem_13 : decode cX10_readsItem 13 = .ok (.aload_n 0, 1) := by decide +kernel
theorem dX10_readsItem_14 : decode cX10_readsItem 14 = .ok (.invokevirtual 114, 3) := by decide +kernel
theorem dX10_readsItem_17 : decode cX10_readsItem 17 = .ok (.ifCond .eq 7, 3) := by decide +kernel
theorem dX10_readsItem_20 : decode cX10_readsItem 20 = .ok (.iload_n 2, 1) := by decide +kernel
theorem dX10_readsItem_21 : decode cX10_readsItem 21 = .ok (.goto 7, 3) := by decide +kernel
theorem dX10_readsItem_24 : decode cX10_readsItem 24 = .ok (.aload_n 0, 1) := by decide +kernel
theorem dX10_readsItem_25 : decode cX10_readsItem 25 = .ok (.getfield 125, 3) := by decide +kernel
theorem dX10_readsItem_28 : decode cX10_readsItem 28 = .ok (.putfield 125, 3) := by decide +kernel
theorem dX10_readsItem_31 : decode cX10_readsItem 31 = .ok (.goto 205, 3) := by decide +kernel
theorem dX10_readsItem_34 : decode cX10_readsItem 34 = .ok (.iload_n 1, 1) := by decide +kernel
theorem dX10_readsItem_35 : decode cX10_readsItem 35 = .ok (.iconst 1, 1) := by decide +kernel
theorem dX10_readsItem_36 : decode cX10_readsItem 36 = .ok (.if_icmp .ne 77, 3) := by decide +kernel
theorem dX10_readsItem_39 : decode cX10_readsItem 39 = .ok (.aload_n 0, 1) := by decide +kernel
theorem dX10_readsItem_40 : decode cX10_readsItem 40 = .ok (.iconst 0, 1) := by decide +kernel
theorem dX10_readsItem_41 : decode cX10_readsItem 41 = .ok (.aload_n 0, 1) := by decide +kernel
theorem dX10_readsItem_42 : decode cX10_readsItem 42 = .ok (.getfield 125, 3) := by decide +kernel
theorem dX10_readsItem_45 : decode cX10_readsItem 45 = .ok (.iconst 1, 1) := by decide +kernel
theorem dX10_readsItem_46 : decode cX10_readsItem 46 = .ok (.isub, 1) := by decide +kernel
theorem dX10_readsItem_47 : decode cX10_readsItem 47 = .ok (.invokevirtual 128, 3) := by decide +kernel
theorem dX10_readsItem_50 : decode cX10_readsItem 50 = .ok (.istore_n 2, 1) := by decide +kernel
theorem dX10_readsItem_51 : decode cX10_readsItem 51 = .ok (.aload_n 0, 1) := by decide +kernel
theorem dX10_readsItem_52 : decode cX10_readsItem 52 = .ok (.getfield 13, 3) := by decide +kernel
theorem dX10_readsItem_55 : decode cX10_readsItem 55 = .ok (.bipush 9, 2) := by decide +kernel
theorem dX10_readsItem_57 : decode cX10_readsItem 57 = .ok (.aload_n 0, 1) := by decide +kernel
theorem dX10_readsItem_58 : decode cX10_readsItem 58 = .ok (.getfield 132, 3) := by decide +kernel
theorem dX10_readsItem_61 : decode cX10_readsItem 61 = .ok (.iadd, 1) := by decide +kernel
theorem dX10_readsItem_62 : decode cX10_readsItem 62 = .ok (.iload_n 2, 1) := by decide +kernel
theorem dX10_readsItem_63 : decode cX10_readsItem 63 = .ok (.iastore, 1) := by decide +kernel
theorem dX10_readsItem_64 : decode cX10_readsItem 64 = .ok (.aload_n 0, 1) := by decide +kernel
theorem dX10_readsItem_65 : decode cX10_readsItem 65 = .ok (.getfield 16, 3) := by decide +kernel
theorem dX10_readsItem_68 : decode cX10_readsItem 68 = .ok (.bipush 9, 2) := by decide +kernel
theorem dX10_readsItem_70 : decode cX10_readsItem 70 = .ok (.aload_n 0, 1) := by decide +kernel
theorem dX10_readsItem_71 : decode cX10_readsItem 71 = .ok (.getfield 132, 3) := by decide +kernel
theorem dX10_readsItem_74 : decode cX10_readsItem 74 = .ok (.iadd, 1) := by decide +kernel
theorem dX10_readsItem_75 : decode cX10_readsItem 75 = .ok (.aload_n 0, 1) := by decide +kernel
theorem dX10_readsItem_76 : decode cX10_readsItem 76 = .ok (.iload_n 2, 1) := by decide +kernel
theorem dX10_readsItem_77 : decode cX10_readsItem 77 = .ok (.invokevirtual 135, 3) := by decide +kernel
theorem dX10_readsItem_80 : decode cX10_readsItem 80 = .ok (.iastore, 1) := by decide +kernel
theorem dX10_readsItem_81 : decode cX10_readsItem 81 = .ok (.aload_n 0, 1) := by decide +kernel
theorem dX10_readsItem_82 : decode cX10_readsItem 82 = .ok (.getfield 19, 3) := by decide +kernel
theorem dX10_readsItem_85 : decode cX10_readsItem 85 = .ok (.bipush 9, 2) := by decide +kernel
theorem dX10_readsItem_87 : decode cX10_readsItem 87 = .ok (.aload_n 0, 1) := by decide +kernel
theorem dX10_readsItem_88 : decode cX10_readsItem 88 = .ok (.getfield 132, 3) := by decide +kernel
theorem dX10_readsItem_91 : decode cX10_readsItem 91 = .ok (.iadd, 1) := by decide +kernel
theorem dX10_readsItem_92 : decode cX10_readsItem 92 = .ok (.aload_n 0, 1) := by decide +kernel
theorem dX10_readsItem_93 : decode cX10_readsItem 93 = .ok (.iconst 0, 1) := by decide +kernel
theorem dX10_readsItem_94 : decode cX10_readsItem 94 = .ok (.bipush 9, 2) := by decide +kernel
theorem dX10_readsItem_96 : decode cX10_readsItem 96 = .ok (.invokevirtual 128, 3) := by decide +kernel
theorem dX10_readsItem_99 : decode cX10_readsItem 99 = .ok (.iastore, 1) := by decide +kernel
theorem dX10_readsItem_100 : decode cX10_readsItem 100 = .ok (.aload_n 0, 1) := by decide +kernel
theorem dX10_readsItem_101 : decode cX10_readsItem 101 = .ok (.dup, 1) := by decide +kernel
theorem dX10_readsItem_102 : decode cX10_readsItem 102 = .ok (.getfield 132, 3) := by decide +kernel
theorem dX10_readsItem_105 : decode cX10_readsItem 105 = .ok (.iconst 1, 1) := by decide +kernel
theorem dX10_readsItem_106 : decode cX10_readsItem 106 = .ok (.iadd, 1) := by decide +kernel
theorem dX10_readsItem_107 : decode cX10_readsItem 107 = .ok (.putfield 132, 3) := by decide +kernel
theorem dX10_readsItem_110 : decode cX10_readsItem 110 = .ok (.goto 126, 3) := by decide +kernel
theorem dX10_readsItem_113 : decode cX10_readsItem 113 = .ok (.iload_n 1, 1) := by decide +kernel
theorem dX10_readsItem_114 : decode cX10_readsItem 114 = .ok (.iconst 2, 1) := by decide +kernel
theorem dX10_readsItem_115 : decode cX10_readsItem 115 = .ok (.if_icmp .ne 50, 3) := by decide +kernel
theorem dX10_readsItem_118 : decode cX10_readsItem 118 = .ok (.aload_n 0, 1) := by decide +kernel
theorem dX10_readsItem_119 : decode cX10_readsItem 119 = .ok (.getfield 22, 3) := by decide +kernel
theorem dX10_readsItem_122 : decode cX10_readsItem 122 = .ok (.iconst 4, 1) := by decide +kernel
theorem dX10_readsItem_123 : decode cX10_readsItem 123 = .ok (.aload_n 0, 1) := by decide +kernel
theorem dX10_readsItem_124 : decode cX10_readsItem 124 = .ok (.getfield 138, 3) := by decide +kernel
theorem dX10_readsItem_127 : decode cX10_readsItem 127 = .ok (.iadd, 1) := by decide +kernel
theorem dX10_readsItem_128 : decode cX10_readsItem 128 = .ok (.aload_n 0, 1) := by decide +kernel
theorem dX10_readsItem_129 : decode cX10_readsItem 129 = .ok (.iconst 1, 1) := by decide +kernel
theorem dX10_readsItem_130 : decode cX10_readsItem 130 = .ok (.iconst 3, 1) := by decide +kernel
theorem dX10_readsItem_131 : decode cX10_readsItem 131 = .ok (.invokevirtual 128, 3) := by decide +kernel
theorem dX10_readsItem_134 : decode cX10_readsItem 134 = .ok (.iastore, 1) := by decide +kernel
theorem dX10_readsItem_135 : decode cX10_readsItem 135 = .ok (.aload_n 0, 1) := by decide +kernel
theorem dX10_readsItem_136 : decode cX10_readsItem 136 = .ok (.getfield 25, 3) := by decide +kernel
theorem dX10_readsItem_139 : decode cX10_readsItem 139 = .ok (.iconst 4, 1) := by decide +kernel
theorem dX10_readsItem_140 : decode cX10_readsItem 140 = .ok (.aload_n 0, 1) := by decide +kernel
theorem dX10_readsItem_141 : decode cX10_readsItem 141 = .ok (.getfield 138, 3) := by decide +kernel
theorem dX10_readsItem_144 : decode cX10_readsItem 144 = .ok (.iadd, 1) := by decide +kernel
theorem dX10_readsItem_145 : decode cX10_readsItem 145 = .ok (.aload_n 0, 1) := by decide +kernel
theorem dX10_readsItem_146 : decode cX10_readsItem 146 = .ok (.iconst 1, 1) := by decide +kernel
theorem dX10_readsItem_147 : decode cX10_readsItem 147 = .ok (.iconst 2, 1) := by decide +kernel
theorem dX10_readsItem_148 : decode cX10_readsItem 148 = .ok (.invokevirtual 128, 3) := by decide +kernel
theorem dX10_readsItem_151 : decode cX10_readsItem 151 = .ok (.iastore, 1) := by decide +kernel
theorem dX10_readsItem_152 : decode cX10_readsItem 152 = .ok (.aload_n 0, 1) := by decide +kernel
theorem dX10_readsItem_153 : decode cX10_readsItem 153 = .ok (.dup, 1) := by decide +kernel
theorem dX10_readsItem_154 : decode cX10_readsItem 154 = .ok (.getfield 138, 3) := by decide +kernel
theorem dX10_readsItem_157 : decode cX10_readsItem 157 = .ok (.iconst 1, 1) := by decide +kernel
theorem dX10_readsItem_158 : decode cX10_readsItem 158 = .ok (.iadd, 1) := by decide +kernel
theorem dX10_readsItem_159 : decode cX10_readsItem 159 = .ok (.putfield 138, 3) := by decide +kernel
theorem dX10_readsItem_162 : decode cX10_readsItem 162 = .ok (.goto 74, 3) := by decide +kernel
theorem dX10_readsItem_165 : decode cX10_readsItem 165 = .ok (.bipush 9, 2) := by decide +kernel
theorem dX10_readsItem_167 : decode cX10_readsItem 167 = .ok (.iconst 3, 1) := by decide +kernel
theorem dX10_readsItem_168 : decode cX10_readsItem 168 = .ok (.aload_n 0, 1) := by decide +kernel
theorem dX10_readsItem_169 : decode cX10_readsItem 169 = .ok (.getfield 141, 3) := by decide +kernel
theorem dX10_readsItem_172 : decode cX10_readsItem 172 = .ok (.imul, 1) := by decide +kernel
theorem dX10_readsItem_173 : decode cX10_readsItem 173 = .ok (.iadd, 1) := by decide +kernel
theorem dX10_readsItem_174 : decode cX10_readsItem 174 = .ok (.istore_n 2, 1) := by decide +kernel
theorem dX10_readsItem_175 : decode cX10_readsItem 175 = .ok (.aload_n 0, 1) := by decide +kernel
theorem dX10_readsItem_176 : decode cX10_readsItem 176 = .ok (.getfield 28, 3) := by decide +kernel
theorem dX10_readsItem_179 : decode cX10_readsItem 179 = .ok (.iload_n 2, 1) := by decide +kernel
theorem dX10_readsItem_180 : decode cX10_readsItem 180 = .ok (.aload_n 0, 1) := by decide +kernel
theorem dX10_readsItem_181 : decode cX10_readsItem 181 = .ok (.iconst 0, 1) := by decide +kernel
theorem dX10_readsItem_182 : decode cX10_readsItem 182 = .ok (.aload_n 0, 1) := by decide +kernel
theorem dX10_readsItem_183 : decode cX10_readsItem 183 = .ok (.getfield 138, 3) := by decide +kernel
theorem dX10_readsItem_186 : decode cX10_readsItem 186 = .ok (.iconst 1, 1) := by decide +kernel
theorem dX10_readsItem_187 : decode cX10_readsItem 187 = .ok (.isub, 1) := by decide +kernel
theorem dX10_readsItem_188 : decode cX10_readsItem 188 = .ok (.invokevirtual 128, 3) := by decide +kernel
theorem dX10_readsItem_191 : decode cX10_readsItem 191 = .ok (.iastore, 1) := by decide +kernel
theorem dX10_readsItem_192 : decode cX10_readsItem 192 = .ok (.aload_n 0, 1) := by decide +kernel
theorem dX10_readsItem_193 : decode cX10_readsItem 193 = .ok (.iconst 0, 1) := by decide +kernel
theorem dX10_readsItem_194 : decode cX10_readsItem 194 = .ok (.aload_n 0, 1) := by decide +kernel
theorem dX10_readsItem_195 : decode cX10_readsItem 195 = .ok (.getfield 125, 3) := by decide +kernel
theorem dX10_readsItem_198 : decode cX10_readsItem 198 = .ok (.iconst 1, 1) := by decide +kernel
theorem dX10_readsItem_199 : decode cX10_readsItem 199 = .ok (.isub, 1) := by decide +kernel
theorem dX10_readsItem_200 : decode cX10_readsItem 200 = .ok (.invokevirtual 128, 3) := by decide +kernel
theorem dX10_readsItem_203 : decode cX10_readsItem 203 = .ok (.istore_n 3, 1) := by decide +kernel
theorem dX10_readsItem_204 : decode cX10_readsItem 204 = .ok (.aload_n 0, 1) := by decide +kernel
theorem dX10_readsItem_205 : decode cX10_readsItem 205 = .ok (.getfield 28, 3) := by decide +kernel
theorem dX10_readsItem_208 : decode cX10_readsItem 208 = .ok (.iload_n 2, 1) := by decide +kernel
theorem dX10_readsItem_209 : decode cX10_readsItem 209 = .ok (.iconst 1, 1) := by decide +kernel
theorem dX10_readsItem_210 : decode cX10_readsItem 210 = .ok (.iadd, 1) := by decide +kernel
theorem dX10_readsItem_211 : decode cX10_readsItem 211 = .ok (.iload_n 3, 1) := by decide +kernel
theorem dX10_readsItem_212 : decode cX10_readsItem 212 = .ok (.iastore, 1) := by decide +kernel
theorem dX10_readsItem_213 : decode cX10_readsItem 213 = .ok (.aload_n 0, 1) := by decide +kernel
theorem dX10_readsItem_214 : decode cX10_readsItem 214 = .ok (.getfield 28, 3) := by decide +kernel
theorem dX10_readsItem_217 : decode cX10_readsItem 217 = .ok (.iload_n 2, 1) := by decide +kernel
theorem dX10_readsItem_218 : decode cX10_readsItem 218 = .ok (.iconst 2, 1) := by decide +kernel
theorem dX10_readsItem_219 : decode cX10_readsItem 219 = .ok (.iadd, 1) := by decide +kernel
theorem dX10_readsItem_220 : decode cX10_readsItem 220 = .ok (.aload_n 0, 1) := by decide +kernel
theorem dX10_readsItem_221 : decode cX10_readsItem 221 = .ok (.iload_n 3, 1) := by decide +kernel
theorem dX10_readsItem_222 : decode cX10_readsItem 222 = .ok (.invokevirtual 135, 3) := by decide +kernel
theorem dX10_readsItem_225 : decode cX10_readsItem 225 = .ok (.iastore, 1) := by decide +kernel
theorem dX10_readsItem_226 : decode cX10_readsItem 226 = .ok (.aload_n 0, 1) := by decide +kernel
theorem dX10_readsItem_227 : decode cX10_readsItem 227 = .ok (.dup, 1) := by decide +kernel
theorem dX10_readsItem_228 : decode cX10_readsItem 228 = .ok (.getfield 141, 3) := by decide +kernel
theorem dX10_readsItem_231 : decode cX10_readsItem 231 = .ok (.iconst 1, 1) := by decide +kernel
theorem dX10_readsItem_232 : decode cX10_readsItem 232 = .ok (.iadd, 1) := by decide +kernel
theorem dX10_readsItem_233 : decode cX10_readsItem 233 = .ok (.putfield 141, 3) := by decide +kernel
theorem dX10_readsItem_236 : decode cX10_readsItem 236 = .ok (.return_, 1) := by decide +kernel
set_option maxRecDepth 20000 in
theorem ggX10_marsh_X10_advances : GoodIn wsX10_marsh wsX10_advances := goodIn_r _ [27, 3, 28, 8, 9, 29, 30, 31, 26, 32, 21, 33, 34, 35, 36, 37, 38, 39, 40, 41, 42, 43, 44, 45, 46, 67, 68, 69, 70, 71, 72, 73, 74, 75, 76, 77, 78, 79, 80, 81, 82, 83, 84, 85, 86, 87, 88, 89, 90, 91, 92, 93, 94, 95, 96, 97, 98, 99, 100] (by decide +kernel) (by decide +kernel)
set_option maxRecDepth 20000 in
theorem gX10_marsh_X10_advances : GoodIn wsX10_marsh (wsV RX10 118 RX10 yX10_advances wsX10_advances) := goodIn_app (goodIn_of _ (by decide +kernel)) ggX10_marsh_X10_advances
set_option maxRecDepth 20000 in
theorem ggX10_marsh_X10_isWell : GoodIn wsX10_marsh wsX10_isWell := goodIn_r _ [50, 2, 67, 68, 69, 70, 71, 72, 73, 74, 75, 76, 77, 78, 79, 80, 81, 82, 83, 84, 85, 86, 87, 88, 89, 90, 91, 92, 93, 94, 95, 96, 97, 98, 99, 100] (by decide +kernel) (by decide +kernel)
set_option maxRecDepth 20000 in
theorem gX10_marsh_X10_isWell : GoodIn wsX10_marsh (wsV RX10 114 RX10 yX10_isWell wsX10_isWell) := goodIn_app (goodIn_of _ (by decide +kernel)) ggX10_marsh_X10_isWell
set_option maxRecDepth 20000 in
theorem ggX10_marsh_X10_takes : GoodIn wsX10_marsh wsX10_takes := goodIn_r _ [54, 28, 2, 9, 47, 48, 49, 26, 50, 23, 24, 25, 27, 3, 8, 29, 30, 31, 32, 21, 33, 34, 35, 36, 37, 38, 39, 40, 41, 42, 43, 44, 45, 46, 67, 68, 69, 70, 71, 72, 73, 74, 75, 76, 77, 78, 79, 80, 81, 82, 83, 84, 85, 86, 87, 88, 89, 90, 91, 92, 93, 94, 95, 96, 97, 98, 99, 100] (by decide +kernel) (by decide +kernel)
set_option maxRecDepth 20000 in
theorem gX10_marsh_X10_takes : GoodIn wsX10_marsh (wsV RX10 121 RX10 yX10_takes wsX10_takes) := goodIn_app (goodIn_of _ (by decide +kernel)) ggX10_marsh_X10_takes
set_option maxRecDepth 20000 in
theorem ggX10_marsh_X10_readsItem : GoodIn wsX10_marsh wsX10_readsItem := goodIn_r _ [58, 4, 14, 5, 15, 16, 19, 6, 20, 7, 17, 59, 60, 61, 26, 62, 8, 9, 34, 35, 36, 51, 52, 53, 54, 28, 2, 47, 48, 49, 50, 23, 24, 25, 27, 3, 29, 30, 31, 32, 21, 33, 37, 38, 39, 40, 41, 42, 43, 44, 45, 46, 63, 64, 65, 66, 67, 68, 69, 70, 71, 72, 73, 74, 75, 76, 77, 78, 79, 80, 81, 82, 83, 84, 85, 86, 87, 88, 89, 90, 91, 92, 93, 94, 95, 96, 97, 98, 99, 100] (by decide +kernel) (by decide +kernel)
set_option maxRecDepth 20000 in
theorem gX10_marsh_X10_readsItem : GoodIn wsX10_marsh (wsV RX10 144 RX10 yX10_readsItem wsX10_readsItem) := goodIn_app (goodIn_of _ (by decide +kernel)) ggX10_marsh_X10_readsItem
theorem dX10_marsh_0 : decode cX10_marsh 0 = .ok (.aload_n 0, 1) := by decide +kernel
theorem dX10_marsh_1 : decode cX10_marsh 1 = .ok (.iconst 0, 1) := by decide +kernel
theorem dX10_marsh_2 : decode cX10_marsh 2 = .ok (.putfield 69, 3) := by decide +kernel
theorem dX10_marsh_5 : decode cX10_marsh 5 = .ok (.aload_n 0, 1) := by decide +kernel
theorem dX10_marsh_6 : decode cX10_marsh 6 = .ok (.iconst (-1), 1) := by decide +kernel
theorem dX10_marsh_7 : decode cX10_marsh 7 = .ok (.putfield 111, 3) := by decide +kernel
theorem dX10_marsh_10 : decode cX10_marsh 10 = .ok (.aload_n 0, 1) := by decide +kernel
theorem dX10_marsh_11 : decode cX10_marsh 11 = .ok (.iconst 0, 1) := by decide +kernel
theorem dX10_marsh_12 : decode cX10_marsh 12 = .ok (.putfield 91, 3) := by decide +kernel
theorem dX10_marsh_15 : decode cX10_marsh 15 = .ok (.iconst 0, 1) := by decide +kernel
theorem dX10_marsh_16 : decode cX10_marsh 16 = .ok (.istore_n 1, 1) := by decide +kernel
theorem dX10_marsh_17 : decode cX10_marsh 17 = .ok (.aload_n 0, 1) := by decide +kernel
theorem dX10_marsh_18 : decode cX10_marsh 18 = .ok (.iconst 4, 1) := by decide +kernel
theorem dX10_marsh_19 : decode cX10_marsh 19 = .ok (.putfield 125, 3) := by decide +kernel
theorem dX10_marsh_22 : decode cX10_marsh 22 = .ok (.aload_n 0, 1) := by decide +kernel
theorem dX10_marsh_23 : decode cX10_marsh 23 = .ok (.iconst 0, 1) := by decide +kernel
theorem dX10_marsh_24 : decode cX10_marsh 24 = .ok (.putfield 132, 3) := by decide +kernel
theorem dX10_marsh_27 : decode cX10_marsh 27 = .ok (.aload_n 0, 1) := by decide +kernel
theorem dX10_marsh_28 : decode cX10_marsh 28 = .ok (.iconst 0, 1) := by decide +kernel
theorem dX10_marsh_29 : decode cX10_marsh 29 = .ok (.putfield 138, 3) := by decide +kernel
theorem dX10_marsh_32 : decode cX10_marsh 32 = .ok (.aload_n 0, 1) := by decide +kernel
theorem dX10_marsh_33 : decode cX10_marsh 33 = .ok (.iconst 0, 1) := by decide +kernel
theorem dX10_marsh_34 : decode cX10_marsh 34 = .ok (.putfield 141, 3) := by decide +kernel
theorem dX10_marsh_37 : decode cX10_marsh 37 = .ok (.aload_n 0, 1) := by decide +kernel
theorem dX10_marsh_38 : decode cX10_marsh 38 = .ok (.invokevirtual 118, 3) := by decide +kernel
theorem dX10_marsh_41 : decode cX10_marsh 41 = .ok (.aload_n 0, 1) := by decide +kernel
theorem dX10_marsh_42 : decode cX10_marsh 42 = .ok (.invokevirtual 114, 3) := by decide +kernel
theorem dX10_marsh_45 : decode cX10_marsh 45 = .ok (.ifCond .eq 150, 3) := by decide +kernel
theorem dX10_marsh_48 : decode cX10_marsh 48 = .ok (.aload_n 0, 1) := by decide +kernel
theorem dX10_marsh_49 : decode cX10_marsh 49 = .ok (.getfield 101, 3) := by decide +kernel
theorem dX10_marsh_52 : decode cX10_marsh 52 = .ok (.ifCond .eq 143, 3) := by decide +kernel
theorem dX10_marsh_55 : decode cX10_marsh 55 = .ok (.aload_n 0, 1) := by decide +kernel
theorem dX10_marsh_56 : decode cX10_marsh 56 = .ok (.getfield 108, 3) := by decide +kernel
theorem dX10_marsh_59 : decode cX10_marsh 59 = .ok (.ifCond .ne 15, 3) := by decide +kernel
theorem dX10_marsh_62 : decode cX10_marsh 62 = .ok (.iload_n 1, 1) := by decide +kernel
theorem dX10_marsh_63 : decode cX10_marsh 63 = .ok (.ifCond .ne 7, 3) := by decide +kernel
theorem dX10_marsh_66 : decode cX10_marsh 66 = .ok (.iconst 1, 1) := by decide +kernel
theorem dX10_marsh_67 : decode cX10_marsh 67 = .ok (.goto 69, 3) := by decide +kernel
theorem dX10_marsh_70 : decode cX10_marsh 70 = .ok (.iconst 0, 1) := by decide +kernel
theorem dX10_marsh_71 : decode cX10_marsh 71 = .ok (.goto 65, 3) := by decide +kernel
theorem dX10_marsh_74 : decode cX10_marsh 74 = .ok (.aload_n 0, 1) := by decide +kernel
theorem dX10_marsh_75 : decode cX10_marsh 75 = .ok (.getfield 108, 3) := by decide +kernel
theorem dX10_marsh_78 : decode cX10_marsh 78 = .ok (.iconst 1, 1) := by decide +kernel
theorem dX10_marsh_79 : decode cX10_marsh 79 = .ok (.if_icmp .ne 20, 3) := by decide +kernel
theorem dX10_marsh_82 : decode cX10_marsh 82 = .ok (.aload_n 0, 1) := by decide +kernel
theorem dX10_marsh_83 : decode cX10_marsh 83 = .ok (.getfield 132, 3) := by decide +kernel
theorem dX10_marsh_86 : decode cX10_marsh 86 = .ok (.bipush 9, 2) := by decide +kernel
theorem dX10_marsh_88 : decode cX10_marsh 88 = .ok (.if_icmp .ge 7, 3) := by decide +kernel
theorem dX10_marsh_91 : decode cX10_marsh 91 = .ok (.iconst 1, 1) := by decide +kernel
theorem dX10_marsh_92 : decode cX10_marsh 92 = .ok (.goto 44, 3) := by decide +kernel
theorem dX10_marsh_95 : decode cX10_marsh 95 = .ok (.iconst 0, 1) := by decide +kernel
theorem dX10_marsh_96 : decode cX10_marsh 96 = .ok (.goto 40, 3) := by decide +kernel
theorem dX10_marsh_99 : decode cX10_marsh 99 = .ok (.aload_n 0, 1) := by decide +kernel
theorem dX10_marsh_100 : decode cX10_marsh 100 = .ok (.getfield 108, 3) := by decide +kernel
theorem dX10_marsh_103 : decode cX10_marsh 103 = .ok (.iconst 2, 1) := by decide +kernel
theorem dX10_marsh_104 : decode cX10_marsh 104 = .ok (.if_icmp .ne 19, 3) := by decide +kernel
theorem dX10_marsh_107 : decode cX10_marsh 107 = .ok (.aload_n 0, 1) := by decide +kernel
theorem dX10_marsh_108 : decode cX10_marsh 108 = .ok (.getfield 138, 3) := by decide +kernel
theorem dX10_marsh_111 : decode cX10_marsh 111 = .ok (.iconst 4, 1) := by decide +kernel
theorem dX10_marsh_112 : decode cX10_marsh 112 = .ok (.if_icmp .ge 7, 3) := by decide +kernel
theorem dX10_marsh_115 : decode cX10_marsh 115 = .ok (.iconst 1, 1) := by decide +kernel
theorem dX10_marsh_116 : decode cX10_marsh 116 = .ok (.goto 20, 3) := by decide +kernel
theorem dX10_marsh_119 : decode cX10_marsh 119 = .ok (.iconst 0, 1) := by decide +kernel
theorem dX10_marsh_120 : decode cX10_marsh 120 = .ok (.goto 16, 3) := by decide +kernel
theorem dX10_marsh_123 : decode cX10_marsh 123 = .ok (.aload_n 0, 1) := by decide +kernel
theorem dX10_marsh_124 : decode cX10_marsh 124 = .ok (.getfield 141, 3) := by decide +kernel
theorem dX10_marsh_127 : decode cX10_marsh 127 = .ok (.iconst 3, 1) := by decide +kernel
theorem dX10_marsh_128 : decode cX10_marsh 128 = .ok (.if_icmp .ge 7, 3) := by decide +kernel
theorem dX10_marsh_131 : decode cX10_marsh 131 = .ok (.iconst 1, 1) := by decide +kernel
theorem dX10_marsh_132 : decode cX10_marsh 132 = .ok (.goto 4, 3) := by decide +kernel
theorem dX10_marsh_135 : decode cX10_marsh 135 = .ok (.iconst 0, 1) := by decide +kernel
theorem dX10_marsh_136 : decode cX10_marsh 136 = .ok (.istore_n 2, 1) := by decide +kernel
theorem dX10_marsh_137 : decode cX10_marsh 137 = .ok (.aload_n 0, 1) := by decide +kernel
theorem dX10_marsh_138 : decode cX10_marsh 138 = .ok (.aload_n 0, 1) := by decide +kernel
theorem dX10_marsh_139 : decode cX10_marsh 139 = .ok (.getfield 101, 3) := by decide +kernel
theorem dX10_marsh_142 : decode cX10_marsh 142 = .ok (.iconst 1, 1) := by decide +kernel
theorem dX10_marsh_143 : decode cX10_marsh 143 = .ok (.if_icmp .ne 11, 3) := by decide +kernel
theorem dX10_marsh_146 : decode cX10_marsh 146 = .ok (.iload_n 2, 1) := by decide +kernel
theorem dX10_marsh_147 : decode cX10_marsh 147 = .ok (.ifCond .eq 7, 3) := by decide +kernel
theorem dX10_marsh_150 : decode cX10_marsh 150 = .ok (.iconst 1, 1) := by decide +kernel
theorem dX10_marsh_151 : decode cX10_marsh 151 = .ok (.goto 4, 3) := by decide +kernel
theorem dX10_marsh_154 : decode cX10_marsh 154 = .ok (.iconst 0, 1) := by decide +kernel
theorem dX10_marsh_155 : decode cX10_marsh 155 = .ok (.invokevirtual 121, 3) := by decide +kernel
theorem dX10_marsh_158 : decode cX10_marsh 158 = .ok (.istore_n 3, 1) := by decide +kernel
theorem dX10_marsh_159 : decode cX10_marsh 159 = .ok (.aload_n 0, 1) := by decide +kernel
theorem dX10_marsh_160 : decode cX10_marsh 160 = .ok (.invokevirtual 114, 3) := by decide +kernel
theorem dX10_marsh_163 : decode cX10_marsh 163 = .ok (.ifCond .eq 8, 3) := by decide +kernel
theorem dX10_marsh_166 : decode cX10_marsh 166 = .ok (.aload_n 0, 1) := by decide +kernel
theorem dX10_marsh_167 : decode cX10_marsh 167 = .ok (.iload_n 3, 1) := by decide +kernel
theorem dX10_marsh_168 : decode cX10_marsh 168 = .ok (.invokevirtual 144, 3) := by decide +kernel
theorem dX10_marsh_171 : decode cX10_marsh 171 = .ok (.aload_n 0, 1) := by decide +kernel
theorem dX10_marsh_172 : decode cX10_marsh 172 = .ok (.aload_n 0, 1) := by decide +kernel
theorem dX10_marsh_173 : decode cX10_marsh 173 = .ok (.getfield 101, 3) := by decide +kernel
theorem dX10_marsh_176 : decode cX10_marsh 176 = .ok (.iconst 3, 1) := by decide +kernel
theorem dX10_marsh_177 : decode cX10_marsh 177 = .ok (.if_icmp .ne 7, 3) := by decide +kernel
theorem dX10_marsh_180 : decode cX10_marsh 180 = .ok (.iconst 1, 1) := by decide +kernel
theorem dX10_marsh_181 : decode cX10_marsh 181 = .ok (.goto 4, 3) := by decide +kernel
theorem dX10_marsh_184 : decode cX10_marsh 184 = .ok (.iconst 0, 1) := by decide +kernel
theorem dX10_marsh_185 : decode cX10_marsh 185 = .ok (.invokevirtual 121, 3) := by decide +kernel
theorem dX10_marsh_188 : decode cX10_marsh 188 = .ok (.pop, 1) := by decide +kernel
theorem dX10_marsh_189 : decode cX10_marsh 189 = .ok (.iinc 1 1, 3) := by decide +kernel
theorem dX10_marsh_192 : decode cX10_marsh 192 = .ok (.goto (-151), 3) := by decide +kernel
theorem dX10_marsh_195 : decode cX10_marsh 195 = .ok (.aload_n 0, 1) := by decide +kernel
theorem dX10_marsh_196 : decode cX10_marsh 196 = .ok (.invokevirtual 114, 3) := by decide +kernel
theorem dX10_marsh_199 : decode cX10_marsh 199 = .ok (.ifCond .ne 11, 3) := by decide +kernel
theorem dX10_marsh_202 : decode cX10_marsh 202 = .ok (.bipush (-10), 2) := by decide +kernel
theorem dX10_marsh_204 : decode cX10_marsh 204 = .ok (.aload_n 0, 1) := by decide +kernel
theorem dX10_marsh_205 : decode cX10_marsh 205 = .ok (.getfield 111, 3) := by decide +kernel
theorem dX10_marsh_208 : decode cX10_marsh 208 = .ok (.isub, 1) := by decide +kernel
theorem dX10_marsh_209 : decode cX10_marsh 209 = .ok (.ireturn, 1) := by decide +kernel
theorem dX10_marsh_210 : decode cX10_marsh 210 = .ok (.aload_n 0, 1) := by decide +kernel
theorem dX10_marsh_211 : decode cX10_marsh 211 = .ok (.aload_n 0, 1) := by decide +kernel
theorem dX10_marsh_212 : decode cX10_marsh 212 = .ok (.getfield 125, 3) := by decide +kernel
theorem dX10_marsh_215 : decode cX10_marsh 215 = .ok (.putfield 65, 3) := by decide +kernel
theorem dX10_marsh_218 : decode cX10_marsh 218 = .ok (.aload_n 0, 1) := by decide +kernel
theorem dX10_marsh_219 : decode cX10_marsh 219 = .ok (.aload_n 0, 1) := by decide +kernel
theorem dX10_marsh_220 : decode cX10_marsh 220 = .ok (.getfield 132, 3) := by decide +kernel
theorem dX10_marsh_223 : decode cX10_marsh 223 = .ok (.putfield 148, 3) := by decide +kernel
theorem dX10_marsh_226 : decode cX10_marsh 226 = .ok (.aload_n 0, 1) := by decide +kernel
theorem dX10_marsh_227 : decode cX10_marsh 227 = .ok (.aload_n 0, 1) := by decide +kernel
theorem dX10_marsh_228 : decode cX10_marsh 228 = .ok (.getfield 138, 3) := by decide +kernel
theorem dX10_marsh_231 : decode cX10_marsh 231 = .ok (.putfield 151, 3) := by decide +kernel
theorem dX10_marsh_234 : decode cX10_marsh 234 = .ok (.aload_n 0, 1) := by decide +kernel
theorem dX10_marsh_235 : decode cX10_marsh 235 = .ok (.aload_n 0, 1) := by decide +kernel
theorem dX10_marsh_236 : decode cX10_marsh 236 = .ok (.getfield 141, 3) := by decide +kernel
theorem dX10_marsh_239 : decode cX10_marsh 239 = .ok (.putfield 154, 3) := by decide +kernel
theorem dX10_marsh_242 : decode cX10_marsh 242 = .ok (.iconst 0, 1) := by decide +kernel
theorem dX10_marsh_243 : decode cX10_marsh 243 = .ok (.istore_n 2, 1) := by decide +kernel
theorem dX10_marsh_244 : decode cX10_marsh 244 = .ok (.iload_n 2, 1) := by decide +kernel
theorem dX10_marsh_245 : decode cX10_marsh 245 = .ok (.bipush 9, 2) := by decide +kernel
theorem dX10_marsh_247 : decode cX10_marsh 247 = .ok (.if_icmp .ge 93, 3) := by decide +kernel
theorem dX10_marsh_250 : decode cX10_marsh 250 = .ok (.aload_n 0, 1) := by decide +kernel
theorem dX10_marsh_251 : decode cX10_marsh 251 = .ok (.getfield 13, 3) := by decide +kernel
theorem dX10_marsh_254 : decode cX10_marsh 254 = .ok (.iload_n 2, 1) := by decide +kernel
theorem dX10_marsh_255 : decode cX10_marsh 255 = .ok (.aload_n 0, 1) := by decide +kernel
theorem dX10_marsh_256 : decode cX10_marsh 256 = .ok (.getfield 13, 3) := by decide +kernel
theorem dX10_marsh_259 : decode cX10_marsh 259 = .ok (.bipush 9, 2) := by decide +kernel
theorem dX10_marsh_261 : decode cX10_marsh 261 = .ok (.iload_n 2, 1) := by decide +kernel
theorem dX10_marsh_262 : decode cX10_marsh 262 = .ok (.iadd, 1) := by decide +kernel
theorem dX10_marsh_263 : decode cX10_marsh 263 = .ok (.iaload, 1) := by decide +kernel
theorem dX10_marsh_264 : decode cX10_marsh 264 = .ok (.iastore, 1) := by decide +kernel
theorem dX10_marsh_265 : decode cX10_marsh 265 = .ok (.aload_n 0, 1) := by decide +kernel
theorem dX10_marsh_266 : decode cX10_marsh 266 = .ok (.getfield 16, 3) := by decide +kernel
theorem dX10_marsh_269 : decode cX10_marsh 269 = .ok (.iload_n 2, 1) := by decide +kernel
theorem dX10_marsh_270 : decode cX10_marsh 270 = .ok (.aload_n 0, 1) := by decide +kernel
theorem dX10_marsh_271 : decode cX10_marsh 271 = .ok (.getfield 16, 3) := by decide +kernel
theorem dX10_marsh_274 : decode cX10_marsh 274 = .ok (.bipush 9, 2) := by decide +kernel
theorem dX10_marsh_276 : decode cX10_marsh 276 = .ok (.iload_n 2, 1) := by decide +kernel
theorem dX10_marsh_277 : decode cX10_marsh 277 = .ok (.iadd, 1) := by decide +kernel
theorem dX10_marsh_278 : decode cX10_marsh 278 = .ok (.iaload, 1) := by decide +kernel
theorem dX10_marsh_279 : decode cX10_marsh 279 = .ok (.iastore, 1) := by decide +kernel
theorem dX10_marsh_280 : decode cX10_marsh 280 = .ok (.aload_n 0, 1) := by decide +kernel
theorem dX10_marsh_281 : decode cX10_marsh 281 = .ok (.getfield 19, 3) := by decide +kernel
theorem dX10_marsh_284 : decode cX10_marsh 284 = .ok (.iload_n 2, 1) := by decide +kernel
theorem dX10_marsh_285 : decode cX10_marsh 285 = .ok (.aload_n 0, 1) := by decide +kernel
theorem dX10_marsh_286 : decode cX10_marsh 286 = .ok (.getfield 19, 3) := by decide +kernel
theorem dX10_marsh_289 : decode cX10_marsh 289 = .ok (.bipush 9, 2) := by decide +kernel
theorem dX10_marsh_291 : decode cX10_marsh 291 = .ok (.iload_n 2, 1) := by decide +kernel
theorem dX10_marsh_292 : decode cX10_marsh 292 = .ok (.iadd, 1) := by decide +kernel
theorem dX10_marsh_293 : decode cX10_marsh 293 = .ok (.iaload, 1) := by decide +kernel
theorem dX10_marsh_294 : decode cX10_marsh 294 = .ok (.iastore, 1) := by decide +kernel
theorem dX10_marsh_295 : decode cX10_marsh 295 = .ok (.aload_n 0, 1) := by decide +kernel
theorem dX10_marsh_296 : decode cX10_marsh 296 = .ok (.getfield 28, 3) := by decide +kernel
theorem dX10_marsh_299 : decode cX10_marsh 299 = .ok (.iload_n 2, 1) := by decide +kernel
theorem dX10_marsh_300 : decode cX10_marsh 300 = .ok (.aload_n 0, 1) := by decide +kernel
theorem dX10_marsh_301 : decode cX10_marsh 301 = .ok (.getfield 28, 3) := by decide +kernel
theorem dX10_marsh_304 : decode cX10_marsh 304 = .ok (.bipush 9, 2) := by decide +kernel
theorem dX10_marsh_306 : decode cX10_marsh 306 = .ok (.iload_n 2, 1) := by decide +kernel
theorem dX10_marsh_307 : decode cX10_marsh 307 = .ok (.iadd, 1) := by decide +kernel
theorem dX10_marsh_308 : decode cX10_marsh 308 = .ok (.iaload, 1) := by decide +kernel
theorem dX10_marsh_309 : decode cX10_marsh 309 = .ok (.iastore, 1) := by decide +kernel
theorem dX10_marsh_310 : decode cX10_marsh 310 = .ok (.aload_n 0, 1) := by decide +kernel
theorem dX10_marsh_311 : decode cX10_marsh 311 = .ok (.getfield 31, 3) := by decide +kernel
theorem dX10_marsh_314 : decode cX10_marsh 314 = .ok (.iload_n 2, 1) := by decide +kernel
theorem dX10_marsh_315 : decode cX10_marsh 315 = .ok (.iload_n 2, 1) := by decide +kernel
theorem dX10_marsh_316 : decode cX10_marsh 316 = .ok (.aload_n 0, 1) := by decide +kernel
theorem dX10_marsh_317 : decode cX10_marsh 317 = .ok (.getfield 148, 3) := by decide +kernel
theorem dX10_marsh_320 : decode cX10_marsh 320 = .ok (.if_icmp .ge 12, 3) := by decide +kernel
theorem dX10_marsh_323 : decode cX10_marsh 323 = .ok (.aload_n 0, 1) := by decide +kernel
theorem dX10_marsh_324 : decode cX10_marsh 324 = .ok (.getfield 19, 3) := by decide +kernel
theorem dX10_marsh_327 : decode cX10_marsh 327 = .ok (.iload_n 2, 1) := by decide +kernel
theorem dX10_marsh_328 : decode cX10_marsh 328 = .ok (.iaload, 1) := by decide +kernel
theorem dX10_marsh_329 : decode cX10_marsh 329 = .ok (.goto 4, 3) := by decide +kernel
theorem dX10_marsh_332 : decode cX10_marsh 332 = .ok (.iconst 0, 1) := by decide +kernel
theorem dX10_marsh_333 : decode cX10_marsh 333 = .ok (.iastore, 1) := by decide +kernel
theorem dX10_marsh_334 : decode cX10_marsh 334 = .ok (.iinc 2 1, 3) := by decide +kernel
theorem dX10_marsh_337 : decode cX10_marsh 337 = .ok (.goto (-93), 3) := by decide +kernel
theorem dX10_marsh_340 : decode cX10_marsh 340 = .ok (.iconst 0, 1) := by decide +kernel
theorem dX10_marsh_341 : decode cX10_marsh 341 = .ok (.istore_n 2, 1) := by decide +kernel
theorem dX10_marsh_342 : decode cX10_marsh 342 = .ok (.iload_n 2, 1) := by decide +kernel
theorem dX10_marsh_343 : decode cX10_marsh 343 = .ok (.iconst 4, 1) := by decide +kernel
theorem dX10_marsh_344 : decode cX10_marsh 344 = .ok (.if_icmp .ge 37, 3) := by decide +kernel
theorem dX10_marsh_347 : decode cX10_marsh 347 = .ok (.aload_n 0, 1) := by decide +kernel
theorem dX10_marsh_348 : decode cX10_marsh 348 = .ok (.getfield 22, 3) := by decide +kernel
theorem dX10_marsh_351 : decode cX10_marsh 351 = .ok (.iload_n 2, 1) := by decide +kernel
theorem dX10_marsh_352 : decode cX10_marsh 352 = .ok (.aload_n 0, 1) := by decide +kernel
theorem dX10_marsh_353 : decode cX10_marsh 353 = .ok (.getfield 22, 3) := by decide +kernel
theorem dX10_marsh_356 : decode cX10_marsh 356 = .ok (.iconst 4, 1) := by decide +kernel
theorem dX10_marsh_357 : decode cX10_marsh 357 = .ok (.iload_n 2, 1) := by decide +kernel
theorem dX10_marsh_358 : decode cX10_marsh 358 = .ok (.iadd, 1) := by decide +kernel
theorem dX10_marsh_359 : decode cX10_marsh 359 = .ok (.iaload, 1) := by decide +kernel
theorem dX10_marsh_360 : decode cX10_marsh 360 = .ok (.iastore, 1) := by decide +kernel
theorem dX10_marsh_361 : decode cX10_marsh 361 = .ok (.aload_n 0, 1) := by decide +kernel
theorem dX10_marsh_362 : decode cX10_marsh 362 = .ok (.getfield 25, 3) := by decide +kernel
theorem dX10_marsh_365 : decode cX10_marsh 365 = .ok (.iload_n 2, 1) := by decide +kernel
theorem dX10_marsh_366 : decode cX10_marsh 366 = .ok (.aload_n 0, 1) := by decide +kernel
theorem dX10_marsh_367 : decode cX10_marsh 367 = .ok (.getfield 25, 3) := by decide +kernel
theorem dX10_marsh_370 : decode cX10_marsh 370 = .ok (.iconst 4, 1) := by decide +kernel
theorem dX10_marsh_371 : decode cX10_marsh 371 = .ok (.iload_n 2, 1) := by decide +kernel
theorem dX10_marsh_372 : decode cX10_marsh 372 = .ok (.iadd, 1) := by decide +kernel
theorem dX10_marsh_373 : decode cX10_marsh 373 = .ok (.iaload, 1) := by decide +kernel
theorem dX10_marsh_374 : decode cX10_marsh 374 = .ok (.iastore, 1) := by decide +kernel
theorem dX10_marsh_375 : decode cX10_marsh 375 = .ok (.iinc 2 1, 3) := by decide +kernel
theorem dX10_marsh_378 : decode cX10_marsh 378 = .ok (.goto (-36), 3) := by decide +kernel
theorem dX10_marsh_381 : decode cX10_marsh 381 = .ok (.aload_n 0, 1) := by decide +kernel
theorem dX10_marsh_382 : decode cX10_marsh 382 = .ok (.getfield 31, 3) := by decide +kernel
theorem dX10_marsh_385 : decode cX10_marsh 385 = .ok (.bipush 9, 2) := by decide +kernel
theorem dX10_marsh_387 : decode cX10_marsh 387 = .ok (.iconst 0, 1) := by decide +kernel
theorem dX10_marsh_388 : decode cX10_marsh 388 = .ok (.iastore, 1) := by decide +kernel
theorem dX10_marsh_389 : decode cX10_marsh 389 = .ok (.aload_n 0, 1) := by decide +kernel
theorem dX10_marsh_390 : decode cX10_marsh 390 = .ok (.iconst 0, 1) := by decide +kernel
theorem dX10_marsh_391 : decode cX10_marsh 391 = .ok (.putfield 76, 3) := by decide +kernel
theorem dX10_marsh_394 : decode cX10_marsh 394 = .ok (.aload_n 0, 1) := by decide +kernel
theorem dX10_marsh_395 : decode cX10_marsh 395 = .ok (.getfield 37, 3) := by decide +kernel
theorem dX10_marsh_398 : decode cX10_marsh 398 = .ok (.iconst 0, 1) := by decide +kernel
theorem dX10_marsh_399 : decode cX10_marsh 399 = .ok (.iconst 0, 1) := by decide +kernel
theorem dX10_marsh_400 : decode cX10_marsh 400 = .ok (.bastore, 1) := by decide +kernel
theorem dX10_marsh_401 : decode cX10_marsh 401 = .ok (.aload_n 0, 1) := by decide +kernel
theorem dX10_marsh_402 : decode cX10_marsh 402 = .ok (.getfield 37, 3) := by decide +kernel
theorem dX10_marsh_405 : decode cX10_marsh 405 = .ok (.iconst 1, 1) := by decide +kernel
theorem dX10_marsh_406 : decode cX10_marsh 406 = .ok (.iconst 0, 1) := by decide +kernel
theorem dX10_marsh_407 : decode cX10_marsh 407 = .ok (.bastore, 1) := by decide +kernel
theorem dX10_marsh_408 : decode cX10_marsh 408 = .ok (.iload_n 1, 1) := by decide +kernel
theorem dX10_marsh_409 : decode cX10_marsh 409 = .ok (.ireturn, 1) := by decide +kernel
set_option maxRecDepth 20000 in
theorem ggX10_isPlank_X10_in : GoodIn wsX10_isPlank wsX10_in := goodIn_r _ [5] (by decide +kernel) (by decide +kernel)
set_option maxRecDepth 20000 in
theorem gX10_isPlank_X10_in : GoodIn wsX10_isPlank (va_wsS RX10 72 yX10_in wsX10_in) := goodIn_app (goodIn_of _ (by decide +kernel)) ggX10_isPlank_X10_in
theorem dX10_isPlank_0 : decode cX10_isPlank 0 = .ok (.iload_n 1, 1) := by decide +kernel
theorem dX10_isPlank_1 : decode cX10_isPlank 1 = .ok (.iconst 0, 1) := by decide +kernel
theorem dX10_isPlank_2 : decode cX10_isPlank 2 = .ok (.aload_n 0, 1) := by decide +kernel
theorem dX10_isPlank_3 : decode cX10_isPlank 3 = .ok (.getfield 148, 3) := by decide +kernel
theorem dX10_isPlank_6 : decode cX10_isPlank 6 = .ok (.iconst 1, 1) := by decide +kernel
theorem dX10_isPlank_7 : decode cX10_isPlank 7 = .ok (.isub, 1) := by decide +kernel
theorem dX10_isPlank_8 : decode cX10_isPlank 8 = .ok (.invokestatic 72, 3) := by decide +kernel
theorem dX10_isPlank_11 : decode cX10_isPlank 11 = .ok (.ireturn, 1) := by decide +kernel
set_option maxRecDepth 20000 in
theorem ggX10_isPerson_X10_in : GoodIn wsX10_isPerson wsX10_in := goodIn_r _ [5] (by decide +kernel) (by decide +kernel)
set_option maxRecDepth 20000 in
theorem gX10_isPerson_X10_in : GoodIn wsX10_isPerson (va_wsS RX10 72 yX10_in wsX10_in) := goodIn_app (goodIn_of _ (by decide +kernel)) ggX10_isPerson_X10_in
theorem dX10_isPerson_0 : decode cX10_isPerson 0 = .ok (.iload_n 1, 1) := by decide +kernel
theorem dX10_isPerson_1 : decode cX10_isPerson 1 = .ok (.iconst 0, 1) := by decide +kernel
theorem dX10_isPerson_2 : decode cX10_isPerson 2 = .ok (.aload_n 0, 1) := by decide +kernel
theorem dX10_isPerson_3 : decode cX10_isPerson 3 = .ok (.getfield 151, 3) := by decide +kernel
theorem dX10_isPerson_6 : decode cX10_isPerson 6 = .ok (.iconst 1, 1) := by decide +kernel
theorem dX10_isPerson_7 : decode cX10_isPerson 7 = .ok (.isub, 1) := by decide +kernel
theorem dX10_isPerson_8 : decode cX10_isPerson 8 = .ok (.invokestatic 72, 3) := by decide +kernel
theorem dX10_isPerson_11 : decode cX10_isPerson 11 = .ok (.ireturn, 1) := by decide +kernel
set_option maxRecDepth 20000 in
theorem ggX10_arePlaces_X10_in : GoodIn wsX10_arePlaces wsX10_in := goodIn_r _ [5] (by decide +kernel) (by decide +kernel)
set_option maxRecDepth 20000 in
theorem gX10_arePlaces_X10_in : GoodIn wsX10_arePlaces (va_wsS RX10 72 yX10_in wsX10_in) := goodIn_app (goodIn_of _ (by decide +kernel)) ggX10_arePlaces_X10_in
theorem dX10_arePlaces_0 : decode cX10_arePlaces 0 = .ok (.iload_n 1, 1) := by decide +kernel
theorem dX10_arePlaces_1 : decode cX10_arePlaces 1 = .ok (.iconst 0, 1) := by decide +kernel
theorem dX10_arePlaces_2 : decode cX10_arePlaces 2 = .ok (.aload_n 0, 1) := by decide +kernel
theorem dX10_arePlaces_3 : decode cX10_arePlaces 3 = .ok (.getfield 65, 3) := by decide +kernel
theorem dX10_arePlaces_6 : decode cX10_arePlaces 6 = .ok (.iconst 1, 1) := by decide +kernel
theorem dX10_arePlaces_7 : decode cX10_arePlaces 7 = .ok (.isub, 1) := by decide +kernel
theorem dX10_arePlaces_8 : decode cX10_arePlaces 8 = .ok (.invokestatic 72, 3) := by decide +kernel
theorem dX10_arePlaces_11 : decode cX10_arePlaces 11 = .ok (.ifCond .eq 26, 3) := by decide +kernel
theorem dX10_arePlaces_14 : decode cX10_arePlaces 14 = .ok (.iload_n 2, 1) := by decide +kernel
theorem dX10_arePlaces_15 : decode cX10_arePlaces 15 = .ok (.iconst 0, 1) := by decide +kernel
theorem dX10_arePlaces_16 : decode cX10_arePlaces 16 = .ok (.aload_n 0, 1) := by decide +kernel
theorem dX10_arePlaces_17 : decode cX10_arePlaces 17 = .ok (.getfield 65, 3) := by decide +kernel
theorem dX10_arePlaces_20 : decode cX10_arePlaces 20 = .ok (.iconst 1, 1) := by decide +kernel
theorem dX10_arePlaces_21 : decode cX10_arePlaces 21 = .ok (.isub, 1) := by decide +kernel
theorem dX10_arePlaces_22 : decode cX10_arePlaces 22 = .ok (.invokestatic 72, 3) := by decide +kernel
theorem dX10_arePlaces_25 : decode cX10_arePlaces 25 = .ok (.ifCond .eq 12, 3) := by decide +kernel
theorem dX10_arePlaces_28 : decode cX10_arePlaces 28 = .ok (.iload_n 1, 1) := by decide +kernel
theorem dX10_arePlaces_29 : decode cX10_arePlaces 29 = .ok (.iload_n 2, 1) := by decide +kernel
theorem dX10_arePlaces_30 : decode cX10_arePlaces 30 = .ok (.if_icmp .eq 7, 3) := by decide +kernel
theorem dX10_arePlaces_33 : decode cX10_arePlaces 33 = .ok (.iconst 1, 1) := by decide +kernel
theorem dX10_arePlaces_34 : decode cX10_arePlaces 34 = .ok (.goto 4, 3) := by decide +kernel
theorem dX10_arePlaces_37 : decode cX10_arePlaces 37 = .ok (.iconst 0, 1) := by decide +kernel
theorem dX10_arePlaces_38 : decode cX10_arePlaces 38 = .ok (.ireturn, 1) := by decide +kernel
set_option maxRecDepth 20000 in
theorem ggX10_plank_X10_isPlank : GoodIn wsX10_plank wsX10_isPlank := goodIn_r _ [9, 10, 11, 12, 8, 13, 14, 15, 16, 17, 18, 19, 20, 21, 22, 23, 24, 25, 26, 27, 28, 29, 30, 31, 32, 33, 34, 35, 36, 37, 38, 39, 40, 41, 42, 43, 44, 45, 46, 47] (by decide +kernel) (by decide +kernel)
set_option maxRecDepth 20000 in
theorem gX10_plank_X10_isPlank : GoodIn wsX10_plank (wsV RX10 157 RX10 yX10_isPlank wsX10_isPlank) := goodIn_app (goodIn_of _ (by decide +kernel)) ggX10_plank_X10_isPlank
set_option maxRecDepth 20000 in
theorem ggX10_plank_X10_in : GoodIn wsX10_plank wsX10_in := goodIn_r _ [13] (by decide +kernel) (by decide +kernel)
set_option maxRecDepth 20000 in
theorem gX10_plank_X10_in : GoodIn wsX10_plank (va_wsS RX10 72 yX10_in wsX10_in) := goodIn_app (goodIn_of _ (by decide +kernel)) ggX10_plank_X10_in
theorem dX10_plank_0 : decode cX10_plank 0 = .ok (.aload_n 0, 1) := by decide +kernel
theorem dX10_plank_1 : decode cX10_plank 1 = .ok (.iconst 0, 1) := by decide +kernel
theorem dX10_plank_2 : decode cX10_plank 2 = .ok (.putfield 69, 3) := by decide +kernel
theorem dX10_plank_5 : decode cX10_plank 5 = .ok (.aload_n 0, 1) := by decide +kernel
theorem dX10_plank_6 : decode cX10_plank 6 = .ok (.iload_n 1, 1) := by decide +kernel
theorem dX10_plank_7 : decode cX10_plank 7 = .ok (.invokevirtual 157, 3) := by decide +kernel
theorem dX10_plank_10 : decode cX10_plank 10 = .ok (.ifCond .eq 12, 3) := by decide +kernel
theorem dX10_plank_13 : decode cX10_plank 13 = .ok (.iload_n 2, 1) := by decide +kernel
theorem dX10_plank_14 : decode cX10_plank 14 = .ok (.iconst 0, 1) := by decide +kernel
theorem dX10_plank_15 : decode cX10_plank 15 = .ok (.iconst 2, 1) := by decide +kernel
theorem dX10_plank_16 : decode cX10_plank 16 = .ok (.invokestatic 72, 3) := by decide +kernel
theorem dX10_plank_19 : decode cX10_plank 19 = .ok (.ifCond .ne 5, 3) := by decide +kernel
theorem dX10_plank_22 : decode cX10_plank 22 = .ok (.iconst (-1), 1) := by decide +kernel
theorem dX10_plank_23 : decode cX10_plank 23 = .ok (.ireturn, 1) := by decide +kernel
theorem dX10_plank_24 : decode cX10_plank 24 = .ok (.iload_n 2, 1) := by decide +kernel
theorem dX10_plank_25 : decode cX10_plank 25 = .ok (.ifCond .ne 12, 3) := by decide +kernel
theorem dX10_plank_28 : decode cX10_plank 28 = .ok (.aload_n 0, 1) := by decide +kernel
theorem dX10_plank_29 : decode cX10_plank 29 = .ok (.getfield 13, 3) := by decide +kernel
theorem dX10_plank_32 : decode cX10_plank 32 = .ok (.iload_n 1, 1) := by decide +kernel
theorem dX10_plank_33 : decode cX10_plank 33 = .ok (.iaload, 1) := by decide +kernel
theorem dX10_plank_34 : decode cX10_plank 34 = .ok (.goto 23, 3) := by decide +kernel
theorem dX10_plank_37 : decode cX10_plank 37 = .ok (.iload_n 2, 1) := by decide +kernel
theorem dX10_plank_38 : decode cX10_plank 38 = .ok (.iconst 1, 1) := by decide +kernel
theorem dX10_plank_39 : decode cX10_plank 39 = .ok (.if_icmp .ne 12, 3) := by decide +kernel
theorem dX10_plank_42 : decode cX10_plank 42 = .ok (.aload_n 0, 1) := by decide +kernel
theorem dX10_plank_43 : decode cX10_plank 43 = .ok (.getfield 16, 3) := by decide +kernel
theorem dX10_plank_46 : decode cX10_plank 46 = .ok (.iload_n 1, 1) := by decide +kernel
theorem dX10_plank_47 : decode cX10_plank 47 = .ok (.iaload, 1) := by decide +kernel
theorem dX10_plank_48 : decode cX10_plank 48 = .ok (.goto 9, 3) := by decide +kernel
theorem dX10_plank_51 : decode cX10_plank 51 = .ok (.aload_n 0, 1) := by decide +kernel
theorem dX10_plank_52 : decode cX10_plank 52 = .ok (.getfield 31, 3) := by decide +kernel
theorem dX10_plank_55 : decode cX10_plank 55 = .ok (.iload_n 1, 1) := by decide +kernel
theorem dX10_plank_56 : decode cX10_plank 56 = .ok (.iaload, 1) := by decide +kernel
theorem dX10_plank_57 : decode cX10_plank 57 = .ok (.ireturn, 1) := by decide +kernel
set_option maxRecDepth 20000 in
theorem ggX10_person_X10_isPerson : GoodIn wsX10_person wsX10_isPerson := goodIn_r _ [8, 9, 10, 11, 7, 12, 13, 14, 15, 16, 17, 18, 19, 20, 21, 22, 23, 24, 25, 26, 27, 28, 29, 30, 31, 32, 33, 34, 35, 36, 37, 38, 39, 40, 41, 42, 43, 44, 45, 46] (by decide +kernel) (by decide +kernel)
set_option maxRecDepth 20000 in
theorem gX10_person_X10_isPerson : GoodIn wsX10_person (wsV RX10 161 RX10 yX10_isPerson wsX10_isPerson) := goodIn_app (goodIn_of _ (by decide +kernel)) ggX10_person_X10_isPerson
set_option maxRecDepth 20000 in
theorem ggX10_person_X10_in : GoodIn wsX10_person wsX10_in := goodIn_r _ [12] (by decide +kernel) (by decide +kernel)
set_option maxRecDepth 20000 in
theorem gX10_person_X10_in : GoodIn wsX10_person (va_wsS RX10 72 yX10_in wsX10_in) := goodIn_app (goodIn_of _ (by decide +kernel)) ggX10_person_X10_in
theorem dX10_person_0 : decode cX10_person 0 = .ok (.aload_n 0, 1) := by decide +kernel
theorem dX10_person_1 : decode cX10_person 1 = .ok (.iconst 0, 1) := by decide +kernel
theorem dX10_person_2 : decode cX10_person 2 = .ok (.putfield 69, 3) := by decide +kernel
theorem dX10_person_5 : decode cX10_person 5 = .ok (.aload_n 0, 1) := by decide +kernel
theorem dX10_person_6 : decode cX10_person 6 = .ok (.iload_n 1, 1) := by decide +kernel
theorem dX10_person_7 : decode cX10_person 7 = .ok (.invokevirtual 161, 3) := by decide +kernel
theorem dX10_person_10 : decode cX10_person 10 = .ok (.ifCond .eq 34, 3) := by decide +kernel
theorem dX10_person_13 : decode cX10_person 13 = .ok (.iload_n 2, 1) := by decide +kernel
theorem dX10_person_14 : decode cX10_person 14 = .ok (.iconst 0, 1) := by decide +kernel
theorem dX10_person_15 : decode cX10_person 15 = .ok (.iconst 1, 1) := by decide +kernel
theorem dX10_person_16 : decode cX10_person 16 = .ok (.invokestatic 72, 3) := by decide +kernel
theorem dX10_person_19 : decode cX10_person 19 = .ok (.ifCond .eq 25, 3) := by decide +kernel
theorem dX10_person_22 : decode cX10_person 22 = .ok (.iload_n 2, 1) := by decide +kernel
theorem dX10_person_23 : decode cX10_person 23 = .ok (.ifCond .ne 12, 3) := by decide +kernel
theorem dX10_person_26 : decode cX10_person 26 = .ok (.aload_n 0, 1) := by decide +kernel
theorem dX10_person_27 : decode cX10_person 27 = .ok (.getfield 22, 3) := by decide +kernel
theorem dX10_person_30 : decode cX10_person 30 = .ok (.iload_n 1, 1) := by decide +kernel
theorem dX10_person_31 : decode cX10_person 31 = .ok (.iaload, 1) := by decide +kernel
theorem dX10_person_32 : decode cX10_person 32 = .ok (.goto 13, 3) := by decide +kernel
theorem dX10_person_35 : decode cX10_person 35 = .ok (.aload_n 0, 1) := by decide +kernel
theorem dX10_person_36 : decode cX10_person 36 = .ok (.getfield 25, 3) := by decide +kernel
theorem dX10_person_39 : decode cX10_person 39 = .ok (.iload_n 1, 1) := by decide +kernel
theorem dX10_person_40 : decode cX10_person 40 = .ok (.iaload, 1) := by decide +kernel
theorem dX10_person_41 : decode cX10_person 41 = .ok (.goto 4, 3) := by decide +kernel
theorem dX10_person_44 : decode cX10_person 44 = .ok (.iconst (-1), 1) := by decide +kernel
theorem dX10_person_45 : decode cX10_person 45 = .ok (.ireturn, 1) := by decide +kernel
set_option maxRecDepth 20000 in
theorem ggX10_errand_X10_in : GoodIn wsX10_errand wsX10_in := goodIn_r _ [7] (by decide +kernel) (by decide +kernel)
set_option maxRecDepth 20000 in
theorem gX10_errand_X10_in : GoodIn wsX10_errand (va_wsS RX10 72 yX10_in wsX10_in) := goodIn_app (goodIn_of _ (by decide +kernel)) ggX10_errand_X10_in
theorem dX10_errand_0 : decode cX10_errand 0 = .ok (.aload_n 0, 1) := by decide +kernel
theorem dX10_errand_1 : decode cX10_errand 1 = .ok (.iconst 0, 1) := by decide +kernel
theorem dX10_errand_2 : decode cX10_errand 2 = .ok (.putfield 69, 3) := by decide +kernel
theorem dX10_errand_5 : decode cX10_errand 5 = .ok (.iload_n 1, 1) := by decide +kernel
theorem dX10_errand_6 : decode cX10_errand 6 = .ok (.iconst 0, 1) := by decide +kernel
theorem dX10_errand_7 : decode cX10_errand 7 = .ok (.aload_n 0, 1) := by decide +kernel
theorem dX10_errand_8 : decode cX10_errand 8 = .ok (.getfield 154, 3) := by decide +kernel
theorem dX10_errand_11 : decode cX10_errand 11 = .ok (.iconst 1, 1) := by decide +kernel
theorem dX10_errand_12 : decode cX10_errand 12 = .ok (.isub, 1) := by decide +kernel
theorem dX10_errand_13 : decode cX10_errand 13 = .ok (.invokestatic 72, 3) := by decide +kernel
theorem dX10_errand_16 : decode cX10_errand 16 = .ok (.ifCond .eq 25, 3) := by decide +kernel
theorem dX10_errand_19 : decode cX10_errand 19 = .ok (.iload_n 2, 1) := by decide +kernel
theorem dX10_errand_20 : decode cX10_errand 20 = .ok (.iconst 0, 1) := by decide +kernel
theorem dX10_errand_21 : decode cX10_errand 21 = .ok (.iconst 2, 1) := by decide +kernel
theorem dX10_errand_22 : decode cX10_errand 22 = .ok (.invokestatic 72, 3) := by decide +kernel
theorem dX10_errand_25 : decode cX10_errand 25 = .ok (.ifCond .eq 16, 3) := by decide +kernel
theorem dX10_errand_28 : decode cX10_errand 28 = .ok (.aload_n 0, 1) := by decide +kernel
theorem dX10_errand_29 : decode cX10_errand 29 = .ok (.getfield 28, 3) := by decide +kernel
theorem dX10_errand_32 : decode cX10_errand 32 = .ok (.iconst 3, 1) := by decide +kernel
theorem dX10_errand_33 : decode cX10_errand 33 = .ok (.iload_n 1, 1) := by decide +kernel
theorem dX10_errand_34 : decode cX10_errand 34 = .ok (.imul, 1) := by decide +kernel
theorem dX10_errand_35 : decode cX10_errand 35 = .ok (.iload_n 2, 1) := by decide +kernel
theorem dX10_errand_36 : decode cX10_errand 36 = .ok (.iadd, 1) := by decide +kernel
theorem dX10_errand_37 : decode cX10_errand 37 = .ok (.iaload, 1) := by decide +kernel
theorem dX10_errand_38 : decode cX10_errand 38 = .ok (.goto 4, 3) := by decide +kernel
theorem dX10_errand_41 : decode cX10_errand 41 = .ok (.iconst (-1), 1) := by decide +kernel
theorem dX10_errand_42 : decode cX10_errand 42 = .ok (.ireturn, 1) := by decide +kernel
theorem dX10_takenBy_0 : decode cX10_takenBy 0 = .ok (.aload_n 0, 1) := by decide +kernel
theorem dX10_takenBy_1 : decode cX10_takenBy 1 = .ok (.getfield 25, 3) := by decide +kernel
theorem dX10_takenBy_4 : decode cX10_takenBy 4 = .ok (.iload_n 1, 1) := by decide +kernel
theorem dX10_takenBy_5 : decode cX10_takenBy 5 = .ok (.iaload, 1) := by decide +kernel
theorem dX10_takenBy_6 : decode cX10_takenBy 6 = .ok (.iconst 2, 1) := by decide +kernel
theorem dX10_takenBy_7 : decode cX10_takenBy 7 = .ok (.if_icmp .ne 14, 3) := by decide +kernel
theorem dX10_takenBy_10 : decode cX10_takenBy 10 = .ok (.iload_n 2, 1) := by decide +kernel
theorem dX10_takenBy_11 : decode cX10_takenBy 11 = .ok (.iconst 2, 1) := by decide +kernel
theorem dX10_takenBy_12 : decode cX10_takenBy 12 = .ok (.irem, 1) := by decide +kernel
theorem dX10_takenBy_13 : decode cX10_takenBy 13 = .ok (.iconst 1, 1) := by decide +kernel
theorem dX10_takenBy_14 : decode cX10_takenBy 14 = .ok (.if_icmp .ne 7, 3) := by decide +kernel
theorem dX10_takenBy_17 : decode cX10_takenBy 17 = .ok (.iconst 0, 1) := by decide +kernel
theorem dX10_takenBy_18 : decode cX10_takenBy 18 = .ok (.goto 9, 3) := by decide +kernel
theorem dX10_takenBy_21 : decode cX10_takenBy 21 = .ok (.aload_n 0, 1) := by decide +kernel
theorem dX10_takenBy_22 : decode cX10_takenBy 22 = .ok (.getfield 22, 3) := by decide +kernel
theorem dX10_takenBy_25 : decode cX10_takenBy 25 = .ok (.iload_n 1, 1) := by decide +kernel
theorem dX10_takenBy_26 : decode cX10_takenBy 26 = .ok (.iaload, 1) := by decide +kernel
theorem dX10_takenBy_27 : decode cX10_takenBy 27 = .ok (.ireturn, 1) := by decide +kernel
theorem dX10_across_0 : decode cX10_across 0 = .ok (.aload_n 0, 1) := by decide +kernel
theorem dX10_across_1 : decode cX10_across 1 = .ok (.getfield 13, 3) := by decide +kernel
theorem dX10_across_4 : decode cX10_across 4 = .ok (.iload_n 1, 1) := by decide +kernel
theorem dX10_across_5 : decode cX10_across 5 = .ok (.iaload, 1) := by decide +kernel
theorem dX10_across_6 : decode cX10_across 6 = .ok (.iload_n 2, 1) := by decide +kernel
theorem dX10_across_7 : decode cX10_across 7 = .ok (.if_icmp .ne 12, 3) := by decide +kernel
theorem dX10_across_10 : decode cX10_across 10 = .ok (.aload_n 0, 1) := by decide +kernel
theorem dX10_across_11 : decode cX10_across 11 = .ok (.getfield 16, 3) := by decide +kernel
theorem dX10_across_14 : decode cX10_across 14 = .ok (.iload_n 1, 1) := by decide +kernel
theorem dX10_across_15 : decode cX10_across 15 = .ok (.iaload, 1) := by decide +kernel
theorem dX10_across_16 : decode cX10_across 16 = .ok (.goto 24, 3) := by decide +kernel
theorem dX10_across_19 : decode cX10_across 19 = .ok (.aload_n 0, 1) := by decide +kernel
theorem dX10_across_20 : decode cX10_across 20 = .ok (.getfield 16, 3) := by decide +kernel
theorem dX10_across_23 : decode cX10_across 23 = .ok (.iload_n 1, 1) := by decide +kernel
theorem dX10_across_24 : decode cX10_across 24 = .ok (.iaload, 1) := by decide +kernel
theorem dX10_across_25 : decode cX10_across 25 = .ok (.iload_n 2, 1) := by decide +kernel
theorem dX10_across_26 : decode cX10_across 26 = .ok (.if_icmp .ne 12, 3) := by decide +kernel
theorem dX10_across_29 : decode cX10_across 29 = .ok (.aload_n 0, 1) := by decide +kernel
theorem dX10_across_30 : decode cX10_across 30 = .ok (.getfield 13, 3) := by decide +kernel
theorem dX10_across_33 : decode cX10_across 33 = .ok (.iload_n 1, 1) := by decide +kernel
theorem dX10_across_34 : decode cX10_across 34 = .ok (.iaload, 1) := by decide +kernel
theorem dX10_across_35 : decode cX10_across 35 = .ok (.goto 5, 3) := by decide +kernel
theorem dX10_across_38 : decode cX10_across 38 = .ok (.bipush (-9), 2) := by decide +kernel
theorem dX10_across_40 : decode cX10_across 40 = .ok (.ireturn, 1) := by decide +kernel
set_option maxRecDepth 20000 in
theorem ggX10_nextPlank_X10_across : GoodIn wsX10_nextPlank wsX10_across := goodIn_r _ [7, 8, 9, 10, 11, 12, 13, 14, 15, 16, 17, 18, 19, 20, 21, 22, 23, 24, 25, 26, 27, 28, 29, 30, 31, 32, 33, 34, 35, 36, 37, 38, 39, 40, 41, 42, 43] (by decide +kernel) (by decide +kernel)
set_option maxRecDepth 20000 in
theorem gX10_nextPlank_X10_across : GoodIn wsX10_nextPlank (wsV RX10 164 RX10 yX10_across wsX10_across) := goodIn_app (goodIn_of _ (by decide +kernel)) ggX10_nextPlank_X10_across
theorem dX10_nextPlank_0 : decode cX10_nextPlank 0 = .ok (.iload_n 2, 1) := by decide +kernel
theorem dX10_nextPlank_1 : decode cX10_nextPlank 1 = .ok (.iconst 1, 1) := by decide +kernel
theorem dX10_nextPlank_2 : decode cX10_nextPlank 2 = .ok (.iadd, 1) := by decide +kernel
theorem dX10_nextPlank_3 : decode cX10_nextPlank 3 = .ok (.istore 4, 2) := by decide +kernel
theorem dX10_nextPlank_5 : decode cX10_nextPlank 5 = .ok (.iload 4, 2) := by decide +kernel
theorem dX10_nextPlank_7 : decode cX10_nextPlank 7 = .ok (.aload_n 0, 1) := by decide +kernel
theorem dX10_nextPlank_8 : decode cX10_nextPlank 8 = .ok (.getfield 148, 3) := by decide +kernel
theorem dX10_nextPlank_11 : decode cX10_nextPlank 11 = .ok (.if_icmp .ge 79, 3) := by decide +kernel
theorem dX10_nextPlank_14 : decode cX10_nextPlank 14 = .ok (.aload_n 0, 1) := by decide +kernel
theorem dX10_nextPlank_15 : decode cX10_nextPlank 15 = .ok (.iload 4, 2) := by decide +kernel
theorem dX10_nextPlank_17 : decode cX10_nextPlank 17 = .ok (.iload_n 1, 1) := by decide +kernel
theorem dX10_nextPlank_18 : decode cX10_nextPlank 18 = .ok (.invokevirtual 164, 3) := by decide +kernel
theorem dX10_nextPlank_21 : decode cX10_nextPlank 21 = .ok (.istore 5, 2) := by decide +kernel
theorem dX10_nextPlank_23 : decode cX10_nextPlank 23 = .ok (.iload 5, 2) := by decide +kernel
theorem dX10_nextPlank_25 : decode cX10_nextPlank 25 = .ok (.bipush (-9), 2) := by decide +kernel
theorem dX10_nextPlank_27 : decode cX10_nextPlank 27 = .ok (.if_icmp .eq 7, 3) := by decide +kernel
theorem dX10_nextPlank_30 : decode cX10_nextPlank 30 = .ok (.iconst 1, 1) := by decide +kernel
theorem dX10_nextPlank_31 : decode cX10_nextPlank 31 = .ok (.goto 4, 3) := by decide +kernel
theorem dX10_nextPlank_34 : decode cX10_nextPlank 34 = .ok (.iconst 0, 1) := by decide +kernel
theorem dX10_nextPlank_35 : decode cX10_nextPlank 35 = .ok (.istore 6, 2) := by decide +kernel
theorem dX10_nextPlank_37 : decode cX10_nextPlank 37 = .ok (.iconst 0, 1) := by decide +kernel
theorem dX10_nextPlank_38 : decode cX10_nextPlank 38 = .ok (.istore 7, 2) := by decide +kernel
theorem dX10_nextPlank_40 : decode cX10_nextPlank 40 = .ok (.iload 7, 2) := by decide +kernel
theorem dX10_nextPlank_42 : decode cX10_nextPlank 42 = .ok (.iload_n 3, 1) := by decide +kernel
theorem dX10_nextPlank_43 : decode cX10_nextPlank 43 = .ok (.if_icmp .gt 33, 3) := by decide +kernel
theorem dX10_nextPlank_46 : decode cX10_nextPlank 46 = .ok (.iload 6, 2) := by decide +kernel
theorem dX10_nextPlank_48 : decode cX10_nextPlank 48 = .ok (.ifCond .eq 19, 3) := by decide +kernel
theorem dX10_nextPlank_51 : decode cX10_nextPlank 51 = .ok (.aload_n 0, 1) := by decide +kernel
theorem dX10_nextPlank_52 : decode cX10_nextPlank 52 = .ok (.getfield 44, 3) := by decide +kernel
theorem dX10_nextPlank_55 : decode cX10_nextPlank 55 = .ok (.iload 7, 2) := by decide +kernel
theorem dX10_nextPlank_57 : decode cX10_nextPlank 57 = .ok (.iaload, 1) := by decide +kernel
theorem dX10_nextPlank_58 : decode cX10_nextPlank 58 = .ok (.iload 5, 2) := by decide +kernel
theorem dX10_nextPlank_60 : decode cX10_nextPlank 60 = .ok (.if_icmp .eq 7, 3) := by decide +kernel
theorem dX10_nextPlank_63 : decode cX10_nextPlank 63 = .ok (.iconst 1, 1) := by decide +kernel
theorem dX10_nextPlank_64 : decode cX10_nextPlank 64 = .ok (.goto 4, 3) := by decide +kernel
theorem dX10_nextPlank_67 : decode cX10_nextPlank 67 = .ok (.iconst 0, 1) := by decide +kernel
theorem dX10_nextPlank_68 : decode cX10_nextPlank 68 = .ok (.istore 6, 2) := by decide +kernel
theorem dX10_nextPlank_70 : decode cX10_nextPlank 70 = .ok (.iinc 7 1, 3) := by decide +kernel
theorem dX10_nextPlank_73 : decode cX10_nextPlank 73 = .ok (.goto (-33), 3) := by decide +kernel
theorem dX10_nextPlank_76 : decode cX10_nextPlank 76 = .ok (.iload 6, 2) := by decide +kernel
theorem dX10_nextPlank_78 : decode cX10_nextPlank 78 = .ok (.ifCond .eq 6, 3) := by decide +kernel
theorem dX10_nextPlank_81 : decode cX10_nextPlank 81 = .ok (.iload 4, 2) := by decide +kernel
theorem dX10_nextPlank_83 : decode cX10_nextPlank 83 = .ok (.ireturn, 1) := by decide +kernel
theorem dX10_nextPlank_84 : decode cX10_nextPlank 84 = .ok (.iinc 4 1, 3) := by decide +kernel
theorem dX10_nextPlank_87 : decode cX10_nextPlank 87 = .ok (.goto (-82), 3) := by decide +kernel
theorem dX10_nextPlank_90 : decode cX10_nextPlank 90 = .ok (.aload_n 0, 1) := by decide +kernel
theorem dX10_nextPlank_91 : decode cX10_nextPlank 91 = .ok (.getfield 148, 3) := by decide +kernel
theorem dX10_nextPlank_94 : decode cX10_nextPlank 94 = .ok (.ireturn, 1) := by decide +kernel
set_option maxRecDepth 20000 in
theorem ggX10_firstWay_X10_nextPlank : GoodIn wsX10_firstWay wsX10_nextPlank := goodIn_r _ [10, 3, 1, 11, 12, 13, 9, 14, 15, 16, 23, 24, 25, 26, 27, 28, 29, 30, 31, 32, 33, 34, 35, 36, 37, 38, 39, 40, 41, 42, 43, 44, 45, 46, 47, 48, 49, 50, 51, 52, 53, 54, 55, 56] (by decide +kernel) (by decide +kernel)
set_option maxRecDepth 20000 in
theorem gX10_firstWay_X10_nextPlank : GoodIn wsX10_firstWay (wsV RX10 167 RX10 yX10_nextPlank wsX10_nextPlank) := goodIn_app (goodIn_of _ (by decide +kernel)) ggX10_firstWay_X10_nextPlank
set_option maxRecDepth 20000 in
theorem ggX10_firstWay_X10_takenBy : GoodIn wsX10_firstWay wsX10_takenBy := goodIn_r _ [20, 21, 22, 23, 24, 25, 26, 27, 28, 29, 30, 31, 32, 33, 34, 35, 36, 37, 38, 39, 40, 41, 42, 43, 44, 45, 46, 47, 48, 49, 50, 51, 52, 53, 54, 55, 56] (by decide +kernel) (by decide +kernel)
set_option maxRecDepth 20000 in
theorem gX10_firstWay_X10_takenBy : GoodIn wsX10_firstWay (wsV RX10 171 RX10 yX10_takenBy wsX10_takenBy) := goodIn_app (goodIn_of _ (by decide +kernel)) ggX10_firstWay_X10_takenBy
set_option maxRecDepth 20000 in
theorem ggX10_firstWay_X10_across : GoodIn wsX10_firstWay wsX10_across := goodIn_r _ [14, 15, 16, 23, 24, 25, 26, 27, 28, 29, 30, 31, 32, 33, 34, 35, 36, 37, 38, 39, 40, 41, 42, 43, 44, 45, 46, 47, 48, 49, 50, 51, 52, 53, 54, 55, 56] (by decide +kernel) (by decide +kernel)
set_option maxRecDepth 20000 in
theorem gX10_firstWay_X10_across : GoodIn wsX10_firstWay (wsV RX10 164 RX10 yX10_across wsX10_across) := goodIn_app (goodIn_of _ (by decide +kernel)) ggX10_firstWay_X10_across
theorem dX10_firstWay_0 : decode cX10_firstWay 0 = .ok (.bipush (-9), 2) := by decide +kernel
theorem dX10_firstWay_2 : decode cX10_firstWay 2 = .ok (.istore 4, 2) := by decide +kernel
theorem dX10_firstWay_4 : decode cX10_firstWay 4 = .ok (.iconst 0, 1) := by decide +kernel
theorem dX10_firstWay_5 : decode cX10_firstWay 5 = .ok (.istore 5, 2) := by decide +kernel
theorem dX10_firstWay_7 : decode cX10_firstWay 7 = .ok (.aload_n 0, 1) := by decide +kernel
theorem dX10_firstWay_8 : decode cX10_firstWay 8 = .ok (.getfield 44, 3) := by decide +kernel
theorem dX10_firstWay_11 : decode cX10_firstWay 11 = .ok (.iconst 0, 1) := by decide +kernel
theorem dX10_firstWay_12 : decode cX10_firstWay 12 = .ok (.iload_n 2, 1) := by decide +kernel
theorem dX10_firstWay_13 : decode cX10_firstWay 13 = .ok (.iastore, 1) := by decide +kernel
theorem dX10_firstWay_14 : decode cX10_firstWay 14 = .ok (.aload_n 0, 1) := by decide +kernel
theorem dX10_firstWay_15 : decode cX10_firstWay 15 = .ok (.getfield 41, 3) := by decide +kernel
theorem dX10_firstWay_18 : decode cX10_firstWay 18 = .ok (.iconst 0, 1) := by decide +kernel
theorem dX10_firstWay_19 : decode cX10_firstWay 19 = .ok (.iconst (-1), 1) := by decide +kernel
theorem dX10_firstWay_20 : decode cX10_firstWay 20 = .ok (.iastore, 1) := by decide +kernel
theorem dX10_firstWay_21 : decode cX10_firstWay 21 = .ok (.iload 5, 2) := by decide +kernel
theorem dX10_firstWay_23 : decode cX10_firstWay 23 = .ok (.ifCond .lt 185, 3) := by decide +kernel
theorem dX10_firstWay_26 : decode cX10_firstWay 26 = .ok (.aload_n 0, 1) := by decide +kernel
theorem dX10_firstWay_27 : decode cX10_firstWay 27 = .ok (.getfield 41, 3) := by decide +kernel
theorem dX10_firstWay_30 : decode cX10_firstWay 30 = .ok (.iload 5, 2) := by decide +kernel
theorem dX10_firstWay_32 : decode cX10_firstWay 32 = .ok (.aload_n 0, 1) := by decide +kernel
theorem dX10_firstWay_33 : decode cX10_firstWay 33 = .ok (.aload_n 0, 1) := by decide +kernel
theorem dX10_firstWay_34 : decode cX10_firstWay 34 = .ok (.getfield 44, 3) := by decide +kernel
theorem dX10_firstWay_37 : decode cX10_firstWay 37 = .ok (.iload 5, 2) := by decide +kernel
theorem dX10_firstWay_39 : decode cX10_firstWay 39 = .ok (.iaload, 1) := by decide +kernel
theorem dX10_firstWay_40 : decode cX10_firstWay 40 = .ok (.aload_n 0, 1) := by decide +kernel
theorem dX10_firstWay_41 : decode cX10_firstWay 41 = .ok (.getfield 41, 3) := by decide +kernel
theorem dX10_firstWay_44 : decode cX10_firstWay 44 = .ok (.iload 5, 2) := by decide +kernel
theorem dX10_firstWay_46 : decode cX10_firstWay 46 = .ok (.iaload, 1) := by decide +kernel
theorem dX10_firstWay_47 : decode cX10_firstWay 47 = .ok (.iload 5, 2) := by decide +kernel
theorem dX10_firstWay_49 : decode cX10_firstWay 49 = .ok (.invokevirtual 167, 3) := by decide +kernel
theorem dX10_firstWay_52 : decode cX10_firstWay 52 = .ok (.iastore, 1) := by decide +kernel
theorem dX10_firstWay_53 : decode cX10_firstWay 53 = .ok (.aload_n 0, 1) := by decide +kernel
theorem dX10_firstWay_54 : decode cX10_firstWay 54 = .ok (.getfield 41, 3) := by decide +kernel
theorem dX10_firstWay_57 : decode cX10_firstWay 57 = .ok (.iload 5, 2) := by decide +kernel
theorem dX10_firstWay_59 : decode cX10_firstWay 59 = .ok (.iaload, 1) := by decide +kernel
theorem dX10_firstWay_60 : decode cX10_firstWay 60 = .ok (.istore 6, 2) := by decide +kernel
theorem dX10_firstWay_62 : decode cX10_firstWay 62 = .ok (.iload 6, 2) := by decide +kernel
theorem dX10_firstWay_64 : decode cX10_firstWay 64 = .ok (.aload_n 0, 1) := by decide +kernel
theorem dX10_firstWay_65 : decode cX10_firstWay 65 = .ok (.getfield 148, 3) := by decide +kernel
theorem dX10_firstWay_68 : decode cX10_firstWay 68 = .ok (.if_icmp .ne 9, 3) := by decide +kernel
theorem dX10_firstWay_71 : decode cX10_firstWay 71 = .ok (.iinc 5 (-1), 3) := by decide +kernel
theorem dX10_firstWay_74 : decode cX10_firstWay 74 = .ok (.goto 131, 3) := by decide +kernel
theorem dX10_firstWay_77 : decode cX10_firstWay 77 = .ok (.aload_n 0, 1) := by decide +kernel
theorem dX10_firstWay_78 : decode cX10_firstWay 78 = .ok (.getfield 31, 3) := by decide +kernel
theorem dX10_firstWay_81 : decode cX10_firstWay 81 = .ok (.iload 6, 2) := by decide +kernel
theorem dX10_firstWay_83 : decode cX10_firstWay 83 = .ok (.iaload, 1) := by decide +kernel
theorem dX10_firstWay_84 : decode cX10_firstWay 84 = .ok (.ifCond .le 121, 3) := by decide +kernel
theorem dX10_firstWay_87 : decode cX10_firstWay 87 = .ok (.aload_n 0, 1) := by decide +kernel
theorem dX10_firstWay_88 : decode cX10_firstWay 88 = .ok (.getfield 31, 3) := by decide +kernel
theorem dX10_firstWay_91 : decode cX10_firstWay 91 = .ok (.iload 6, 2) := by decide +kernel
theorem dX10_firstWay_93 : decode cX10_firstWay 93 = .ok (.iaload, 1) := by decide +kernel
theorem dX10_firstWay_94 : decode cX10_firstWay 94 = .ok (.aload_n 0, 1) := by decide +kernel
theorem dX10_firstWay_95 : decode cX10_firstWay 95 = .ok (.iload_n 1, 1) := by decide +kernel
theorem dX10_firstWay_96 : decode cX10_firstWay 96 = .ok (.iload 5, 2) := by decide +kernel
theorem dX10_firstWay_98 : decode cX10_firstWay 98 = .ok (.invokevirtual 171, 3) := by decide +kernel
theorem dX10_firstWay_101 : decode cX10_firstWay 101 = .ok (.if_icmp .lt 104, 3) := by decide +kernel
theorem dX10_firstWay_104 : decode cX10_firstWay 104 = .ok (.aload_n 0, 1) := by decide +kernel
theorem dX10_firstWay_105 : decode cX10_firstWay 105 = .ok (.getfield 44, 3) := by decide +kernel
theorem dX10_firstWay_108 : decode cX10_firstWay 108 = .ok (.iload 5, 2) := by decide +kernel
theorem dX10_firstWay_110 : decode cX10_firstWay 110 = .ok (.iconst 1, 1) := by decide +kernel
theorem dX10_firstWay_111 : decode cX10_firstWay 111 = .ok (.iadd, 1) := by decide +kernel
theorem dX10_firstWay_112 : decode cX10_firstWay 112 = .ok (.aload_n 0, 1) := by decide +kernel
theorem dX10_firstWay_113 : decode cX10_firstWay 113 = .ok (.iload 6, 2) := by decide +kernel
theorem dX10_firstWay_115 : decode cX10_firstWay 115 = .ok (.aload_n 0, 1) := by decide +kernel
theorem dX10_firstWay_116 : decode cX10_firstWay 116 = .ok (.getfield 44, 3) := by decide +kernel
theorem dX10_firstWay_119 : decode cX10_firstWay 119 = .ok (.iload 5, 2) := by decide +kernel
theorem dX10_firstWay_121 : decode cX10_firstWay 121 = .ok (.iaload, 1) := by decide +kernel
theorem dX10_firstWay_122 : decode cX10_firstWay 122 = .ok (.invokevirtual 164, 3) := by decide +kernel
theorem dX10_firstWay_125 : decode cX10_firstWay 125 = .ok (.iastore, 1) := by decide +kernel
theorem dX10_firstWay_126 : decode cX10_firstWay 126 = .ok (.aload_n 0, 1) := by decide +kernel
theorem dX10_firstWay_127 : decode cX10_firstWay 127 = .ok (.getfield 44, 3) := by decide +kernel
theorem dX10_firstWay_130 : decode cX10_firstWay 130 = .ok (.iload 5, 2) := by decide +kernel
theorem dX10_firstWay_132 : decode cX10_firstWay 132 = .ok (.iconst 1, 1) := by decide +kernel
theorem dX10_firstWay_133 : decode cX10_firstWay 133 = .ok (.iadd, 1) := by decide +kernel
theorem dX10_firstWay_134 : decode cX10_firstWay 134 = .ok (.iaload, 1) := by decide +kernel
theorem dX10_firstWay_135 : decode cX10_firstWay 135 = .ok (.iload_n 3, 1) := by decide +kernel
theorem dX10_firstWay_136 : decode cX10_firstWay 136 = .ok (.if_icmp .ne 58, 3) := by decide +kernel
theorem dX10_firstWay_139 : decode cX10_firstWay 139 = .ok (.iload 4, 2) := by decide +kernel
theorem dX10_firstWay_141 : decode cX10_firstWay 141 = .ok (.bipush (-9), 2) := by decide +kernel
theorem dX10_firstWay_143 : decode cX10_firstWay 143 = .ok (.if_icmp .eq 12, 3) := by decide +kernel
theorem dX10_firstWay_146 : decode cX10_firstWay 146 = .ok (.iload 5, 2) := by decide +kernel
theorem dX10_firstWay_148 : decode cX10_firstWay 148 = .ok (.iconst 1, 1) := by decide +kernel
theorem dX10_firstWay_149 : decode cX10_firstWay 149 = .ok (.iadd, 1) := by decide +kernel
theorem dX10_firstWay_150 : decode cX10_firstWay 150 = .ok (.iload 4, 2) := by decide +kernel
theorem dX10_firstWay_152 : decode cX10_firstWay 152 = .ok (.if_icmp .ge 53, 3) := by decide +kernel
theorem dX10_firstWay_155 : decode cX10_firstWay 155 = .ok (.iload 5, 2) := by decide +kernel
theorem dX10_firstWay_157 : decode cX10_firstWay 157 = .ok (.iconst 1, 1) := by decide +kernel
theorem dX10_firstWay_158 : decode cX10_firstWay 158 = .ok (.iadd, 1) := by decide +kernel
theorem dX10_firstWay_159 : decode cX10_firstWay 159 = .ok (.istore 4, 2) := by decide +kernel
theorem dX10_firstWay_161 : decode cX10_firstWay 161 = .ok (.iconst 0, 1) := by decide +kernel
theorem dX10_firstWay_162 : decode cX10_firstWay 162 = .ok (.istore 7, 2) := by decide +kernel
theorem dX10_firstWay_164 : decode cX10_firstWay 164 = .ok (.iload 7, 2) := by decide +kernel
theorem dX10_firstWay_166 : decode cX10_firstWay 166 = .ok (.iload 5, 2) := by decide +kernel
theorem dX10_firstWay_168 : decode cX10_firstWay 168 = .ok (.if_icmp .gt 23, 3) := by decide +kernel
theorem dX10_firstWay_171 : decode cX10_firstWay 171 = .ok (.aload_n 0, 1) := by decide +kernel
theorem dX10_firstWay_172 : decode cX10_firstWay 172 = .ok (.getfield 47, 3) := by decide +kernel
theorem dX10_firstWay_175 : decode cX10_firstWay 175 = .ok (.iload 7, 2) := by decide +kernel
theorem dX10_firstWay_177 : decode cX10_firstWay 177 = .ok (.aload_n 0, 1) := by decide +kernel
theorem dX10_firstWay_178 : decode cX10_firstWay 178 = .ok (.getfield 41, 3) := by decide +kernel
theorem dX10_firstWay_181 : decode cX10_firstWay 181 = .ok (.iload 7, 2) := by decide +kernel
theorem dX10_firstWay_183 : decode cX10_firstWay 183 = .ok (.iaload, 1) := by decide +kernel
theorem dX10_firstWay_184 : decode cX10_firstWay 184 = .ok (.iastore, 1) := by decide +kernel
theorem dX10_firstWay_185 : decode cX10_firstWay 185 = .ok (.iinc 7 1, 3) := by decide +kernel
theorem dX10_firstWay_188 : decode cX10_firstWay 188 = .ok (.goto (-24), 3) := by decide +kernel
theorem dX10_firstWay_191 : decode cX10_firstWay 191 = .ok (.goto 14, 3) := by decide +kernel
theorem dX10_firstWay_194 : decode cX10_firstWay 194 = .ok (.iinc 5 1, 3) := by decide +kernel
theorem dX10_firstWay_197 : decode cX10_firstWay 197 = .ok (.aload_n 0, 1) := by decide +kernel
theorem dX10_firstWay_198 : decode cX10_firstWay 198 = .ok (.getfield 41, 3) := by decide +kernel
theorem dX10_firstWay_201 : decode cX10_firstWay 201 = .ok (.iload 5, 2) := by decide +kernel
theorem dX10_firstWay_203 : decode cX10_firstWay 203 = .ok (.iconst (-1), 1) := by decide +kernel
theorem dX10_firstWay_204 : decode cX10_firstWay 204 = .ok (.iastore, 1) := by decide +kernel
theorem dX10_firstWay_205 : decode cX10_firstWay 205 = .ok (.goto (-184), 3) := by decide +kernel
theorem dX10_firstWay_208 : decode cX10_firstWay 208 = .ok (.iload 4, 2) := by decide +kernel
theorem dX10_firstWay_210 : decode cX10_firstWay 210 = .ok (.ireturn, 1) := by decide +kernel
set_option maxRecDepth 20000 in
theorem ggX10_way_X10_isPerson : GoodIn wsX10_way wsX10_isPerson := goodIn_r _ [7, 8, 9, 10, 6, 11, 41, 42, 43, 44, 45, 46, 47, 48, 49, 50, 51, 52, 53, 54, 55, 56, 57, 58, 59, 60, 61, 62, 63, 64, 65, 66, 67, 68, 69, 70, 71, 72, 73, 74] (by decide +kernel) (by decide +kernel)
set_option maxRecDepth 20000 in
theorem gX10_way_X10_isPerson : GoodIn wsX10_way (wsV RX10 161 RX10 yX10_isPerson wsX10_isPerson) := goodIn_app (goodIn_of _ (by decide +kernel)) ggX10_way_X10_isPerson
set_option maxRecDepth 20000 in
theorem ggX10_way_X10_arePlaces : GoodIn wsX10_way wsX10_arePlaces := goodIn_r _ [15, 16, 9, 10, 6, 11, 41, 42, 43, 44, 45, 46, 47, 48, 49, 50, 51, 52, 53, 54, 55, 56, 57, 58, 59, 60, 61, 62, 63, 64, 65, 66, 67, 68, 69, 70, 71, 72, 73, 74] (by decide +kernel) (by decide +kernel)
set_option maxRecDepth 20000 in
theorem gX10_way_X10_arePlaces : GoodIn wsX10_way (wsV RX10 174 RX10 yX10_arePlaces wsX10_arePlaces) := goodIn_app (goodIn_of _ (by decide +kernel)) ggX10_way_X10_arePlaces
set_option maxRecDepth 20000 in
theorem ggX10_way_X10_firstWay : GoodIn wsX10_way wsX10_firstWay := goodIn_r _ [20, 21, 22, 23, 24, 2, 25, 26, 27, 6, 28, 29, 30, 31, 32, 33, 34, 35, 36, 37, 38, 39, 40, 41, 42, 43, 44, 45, 46, 47, 48, 49, 50, 51, 52, 53, 54, 55, 56, 57, 58, 59, 60, 61, 62, 63, 64, 65, 66, 67, 68, 69, 70, 71, 72, 73, 74] (by decide +kernel) (by decide +kernel)
set_option maxRecDepth 20000 in
theorem gX10_way_X10_firstWay : GoodIn wsX10_way (wsV RX10 178 RX10 yX10_firstWay wsX10_firstWay) := goodIn_app (goodIn_of _ (by decide +kernel)) ggX10_way_X10_firstWay
theorem dX10_way_0 : decode cX10_way 0 = .ok (.aload_n 0, 1) := by decide +kernel
theorem dX10_way_1 : decode cX10_way 1 = .ok (.iconst 0, 1) := by decide +kernel
theorem dX10_way_2 : decode cX10_way 2 = .ok (.putfield 69, 3) := by decide +kernel
theorem dX10_way_5 : decode cX10_way 5 = .ok (.aload_n 0, 1) := by decide +kernel
theorem dX10_way_6 : decode cX10_way 6 = .ok (.iload_n 1, 1) := by decide +kernel
theorem dX10_way_7 : decode cX10_way 7 = .ok (.invokevirtual 161, 3) := by decide +kernel
theorem dX10_way_10 : decode cX10_way 10 = .ok (.ifCond .eq 18, 3) := by decide +kernel
theorem dX10_way_13 : decode cX10_way 13 = .ok (.aload_n 0, 1) := by decide +kernel
theorem dX10_way_14 : decode cX10_way 14 = .ok (.iload_n 2, 1) := by decide +kernel
theorem dX10_way_15 : decode cX10_way 15 = .ok (.iload_n 3, 1) := by decide +kernel
theorem dX10_way_16 : decode cX10_way 16 = .ok (.invokevirtual 174, 3) := by decide +kernel
theorem dX10_way_19 : decode cX10_way 19 = .ok (.ifCond .eq 9, 3) := by decide +kernel
theorem dX10_way_22 : decode cX10_way 22 = .ok (.iload 4, 2) := by decide +kernel
theorem dX10_way_24 : decode cX10_way 24 = .ok (.iconst (-1), 1) := by decide +kernel
theorem dX10_way_25 : decode cX10_way 25 = .ok (.if_icmp .ge 5, 3) := by decide +kernel
theorem dX10_way_28 : decode cX10_way 28 = .ok (.iconst (-1), 1) := by decide +kernel
theorem dX10_way_29 : decode cX10_way 29 = .ok (.ireturn, 1) := by decide +kernel
theorem dX10_way_30 : decode cX10_way 30 = .ok (.aload_n 0, 1) := by decide +kernel
theorem dX10_way_31 : decode cX10_way 31 = .ok (.iload_n 1, 1) := by decide +kernel
theorem dX10_way_32 : decode cX10_way 32 = .ok (.iload_n 2, 1) := by decide +kernel
theorem dX10_way_33 : decode cX10_way 33 = .ok (.iload_n 3, 1) := by decide +kernel
theorem dX10_way_34 : decode cX10_way 34 = .ok (.invokevirtual 178, 3) := by decide +kernel
theorem dX10_way_37 : decode cX10_way 37 = .ok (.istore 5, 2) := by decide +kernel
theorem dX10_way_39 : decode cX10_way 39 = .ok (.iload 5, 2) := by decide +kernel
theorem dX10_way_41 : decode cX10_way 41 = .ok (.bipush (-9), 2) := by decide +kernel
theorem dX10_way_43 : decode cX10_way 43 = .ok (.if_icmp .eq 8, 3) := by decide +kernel
theorem dX10_way_46 : decode cX10_way 46 = .ok (.iload 4, 2) := by decide +kernel
theorem dX10_way_48 : decode cX10_way 48 = .ok (.ifCond .ge 8, 3) := by decide +kernel
theorem dX10_way_51 : decode cX10_way 51 = .ok (.iload 5, 2) := by decide +kernel
theorem dX10_way_53 : decode cX10_way 53 = .ok (.goto 22, 3) := by decide +kernel
theorem dX10_way_56 : decode cX10_way 56 = .ok (.iload 4, 2) := by decide +kernel
theorem dX10_way_58 : decode cX10_way 58 = .ok (.iload 5, 2) := by decide +kernel
theorem dX10_way_60 : decode cX10_way 60 = .ok (.if_icmp .ge 13, 3) := by decide +kernel
theorem dX10_way_63 : decode cX10_way 63 = .ok (.aload_n 0, 1) := by decide +kernel
theorem dX10_way_64 : decode cX10_way 64 = .ok (.getfield 47, 3) := by decide +kernel
theorem dX10_way_67 : decode cX10_way 67 = .ok (.iload 4, 2) := by decide +kernel
theorem dX10_way_69 : decode cX10_way 69 = .ok (.iaload, 1) := by decide +kernel
theorem dX10_way_70 : decode cX10_way 70 = .ok (.goto 5, 3) := by decide +kernel
theorem dX10_way_73 : decode cX10_way 73 = .ok (.bipush (-5), 2) := by decide +kernel
theorem dX10_way_75 : decode cX10_way 75 = .ok (.ireturn, 1) := by decide +kernel
theorem dX10_treads_0 : decode cX10_treads 0 = .ok (.aload_n 0, 1) := by decide +kernel
theorem dX10_treads_1 : decode cX10_treads 1 = .ok (.getfield 31, 3) := by decide +kernel
theorem dX10_treads_4 : decode cX10_treads 4 = .ok (.iload_n 2, 1) := by decide +kernel
theorem dX10_treads_5 : decode cX10_treads 5 = .ok (.dup2, 1) := by decide +kernel
theorem dX10_treads_6 : decode cX10_treads 6 = .ok (.iaload, 1) := by decide +kernel
theorem dX10_treads_7 : decode cX10_treads 7 = .ok (.iload_n 3, 1) := by decide +kernel
theorem dX10_treads_8 : decode cX10_treads 8 = .ok (.isub, 1) := by decide +kernel
theorem dX10_treads_9 : decode cX10_treads 9 = .ok (.iastore, 1) := by decide +kernel
theorem dX10_treads_10 : decode cX10_treads 10 = .ok (.iload_n 3, 1) := by decide +kernel
theorem dX10_treads_11 : decode cX10_treads 11 = .ok (.ifCond .eq 12, 3) := by decide +kernel
theorem dX10_treads_14 : decode cX10_treads 14 = .ok (.aload_n 0, 1) := by decide +kernel
theorem dX10_treads_15 : decode cX10_treads 15 = .ok (.getfield 31, 3) := by decide +kernel
theorem dX10_treads_18 : decode cX10_treads 18 = .ok (.iload_n 2, 1) := by decide +kernel
theorem dX10_treads_19 : decode cX10_treads 19 = .ok (.iaload, 1) := by decide +kernel
theorem dX10_treads_20 : decode cX10_treads 20 = .ok (.ifCond .le 5, 3) := by decide +kernel
theorem dX10_treads_23 : decode cX10_treads 23 = .ok (.iconst 0, 1) := by decide +kernel
theorem dX10_treads_24 : decode cX10_treads 24 = .ok (.ireturn, 1) := by decide +kernel
theorem dX10_treads_25 : decode cX10_treads 25 = .ok (.aload_n 0, 1) := by decide +kernel
theorem dX10_treads_26 : decode cX10_treads 26 = .ok (.getfield 31, 3) := by decide +kernel
theorem dX10_treads_29 : decode cX10_treads 29 = .ok (.bipush 9, 2) := by decide +kernel
theorem dX10_treads_31 : decode cX10_treads 31 = .ok (.iaload, 1) := by decide +kernel
theorem dX10_treads_32 : decode cX10_treads 32 = .ok (.bipush 20, 2) := by decide +kernel
theorem dX10_treads_34 : decode cX10_treads 34 = .ok (.if_icmp .ge 52, 3) := by decide +kernel
theorem dX10_treads_37 : decode cX10_treads 37 = .ok (.aload_n 0, 1) := by decide +kernel
theorem dX10_treads_38 : decode cX10_treads 38 = .ok (.getfield 31, 3) := by decide +kernel
theorem dX10_treads_41 : decode cX10_treads 41 = .ok (.bipush 10, 2) := by decide +kernel
theorem dX10_treads_43 : decode cX10_treads 43 = .ok (.iconst 2, 1) := by decide +kernel
theorem dX10_treads_44 : decode cX10_treads 44 = .ok (.aload_n 0, 1) := by decide +kernel
theorem dX10_treads_45 : decode cX10_treads 45 = .ok (.getfield 31, 3) := by decide +kernel
theorem dX10_treads_48 : decode cX10_treads 48 = .ok (.bipush 9, 2) := by decide +kernel
theorem dX10_treads_50 : decode cX10_treads 50 = .ok (.iaload, 1) := by decide +kernel
theorem dX10_treads_51 : decode cX10_treads 51 = .ok (.imul, 1) := by decide +kernel
theorem dX10_treads_52 : decode cX10_treads 52 = .ok (.iadd, 1) := by decide +kernel
theorem dX10_treads_53 : decode cX10_treads 53 = .ok (.iload_n 2, 1) := by decide +kernel
theorem dX10_treads_54 : decode cX10_treads 54 = .ok (.iastore, 1) := by decide +kernel
theorem dX10_treads_55 : decode cX10_treads 55 = .ok (.aload_n 0, 1) := by decide +kernel
theorem dX10_treads_56 : decode cX10_treads 56 = .ok (.getfield 31, 3) := by decide +kernel
theorem dX10_treads_59 : decode cX10_treads 59 = .ok (.bipush 10, 2) := by decide +kernel
theorem dX10_treads_61 : decode cX10_treads 61 = .ok (.iconst 2, 1) := by decide +kernel
theorem dX10_treads_62 : decode cX10_treads 62 = .ok (.aload_n 0, 1) := by decide +kernel
theorem dX10_treads_63 : decode cX10_treads 63 = .ok (.getfield 31, 3) := by decide +kernel
theorem dX10_treads_66 : decode cX10_treads 66 = .ok (.bipush 9, 2) := by decide +kernel
theorem dX10_treads_68 : decode cX10_treads 68 = .ok (.iaload, 1) := by decide +kernel
theorem dX10_treads_69 : decode cX10_treads 69 = .ok (.imul, 1) := by decide +kernel
theorem dX10_treads_70 : decode cX10_treads 70 = .ok (.iadd, 1) := by decide +kernel
theorem dX10_treads_71 : decode cX10_treads 71 = .ok (.iconst 1, 1) := by decide +kernel
theorem dX10_treads_72 : decode cX10_treads 72 = .ok (.iadd, 1) := by decide +kernel
theorem dX10_treads_73 : decode cX10_treads 73 = .ok (.iload_n 1, 1) := by decide +kernel
theorem dX10_treads_74 : decode cX10_treads 74 = .ok (.iastore, 1) := by decide +kernel
theorem dX10_treads_75 : decode cX10_treads 75 = .ok (.aload_n 0, 1) := by decide +kernel
theorem dX10_treads_76 : decode cX10_treads 76 = .ok (.getfield 31, 3) := by decide +kernel
theorem dX10_treads_79 : decode cX10_treads 79 = .ok (.bipush 9, 2) := by decide +kernel
theorem dX10_treads_81 : decode cX10_treads 81 = .ok (.dup2, 1) := by decide +kernel
theorem dX10_treads_82 : decode cX10_treads 82 = .ok (.iaload, 1) := by decide +kernel
theorem dX10_treads_83 : decode cX10_treads 83 = .ok (.iconst 1, 1) := by decide +kernel
theorem dX10_treads_84 : decode cX10_treads 84 = .ok (.iadd, 1) := by decide +kernel
theorem dX10_treads_85 : decode cX10_treads 85 = .ok (.iastore, 1) := by decide +kernel
theorem dX10_treads_86 : decode cX10_treads 86 = .ok (.iconst 1, 1) := by decide +kernel
theorem dX10_treads_87 : decode cX10_treads 87 = .ok (.ireturn, 1) := by decide +kernel
set_option maxRecDepth 20000 in
theorem ggX10_goesBy_X10_takenBy : GoodIn wsX10_goesBy wsX10_takenBy := goodIn_r _ [6, 7, 8, 14, 15, 16, 17, 18, 19, 20, 21, 22, 23, 24, 25, 26, 27, 28, 29, 30, 31, 32, 33, 34, 35, 36, 37, 38, 39, 40, 41, 42, 43, 44, 45, 46, 47] (by decide +kernel) (by decide +kernel)
set_option maxRecDepth 20000 in
theorem gX10_goesBy_X10_takenBy : GoodIn wsX10_goesBy (wsV RX10 171 RX10 yX10_takenBy wsX10_takenBy) := goodIn_app (goodIn_of _ (by decide +kernel)) ggX10_goesBy_X10_takenBy
set_option maxRecDepth 20000 in
theorem ggX10_goesBy_X10_treads : GoodIn wsX10_goesBy wsX10_treads := goodIn_r _ [12, 13, 14, 15, 16, 17, 18, 19, 20, 21, 22, 23, 24, 25, 26, 27, 28, 29, 30, 31, 32, 33, 34, 35, 36, 37, 38, 39, 40, 41, 42, 43, 44, 45, 46, 47] (by decide +kernel) (by decide +kernel)
set_option maxRecDepth 20000 in
theorem gX10_goesBy_X10_treads : GoodIn wsX10_goesBy (wsV RX10 181 RX10 yX10_treads wsX10_treads) := goodIn_app (goodIn_of _ (by decide +kernel)) ggX10_goesBy_X10_treads
theorem dX10_goesBy_0 : decode cX10_goesBy 0 = .ok (.iconst 0, 1) := by decide +kernel
theorem dX10_goesBy_1 : decode cX10_goesBy 1 = .ok (.istore_n 3, 1) := by decide +kernel
theorem dX10_goesBy_2 : decode cX10_goesBy 2 = .ok (.iconst 0, 1) := by decide +kernel
theorem dX10_goesBy_3 : decode cX10_goesBy 3 = .ok (.istore 4, 2) := by decide +kernel
theorem dX10_goesBy_5 : decode cX10_goesBy 5 = .ok (.iload 4, 2) := by decide +kernel
theorem dX10_goesBy_7 : decode cX10_goesBy 7 = .ok (.iload_n 2, 1) := by decide +kernel
theorem dX10_goesBy_8 : decode cX10_goesBy 8 = .ok (.if_icmp .ge 31, 3) := by decide +kernel
theorem dX10_goesBy_11 : decode cX10_goesBy 11 = .ok (.iload_n 3, 1) := by decide +kernel
theorem dX10_goesBy_12 : decode cX10_goesBy 12 = .ok (.aload_n 0, 1) := by decide +kernel
theorem dX10_goesBy_13 : decode cX10_goesBy 13 = .ok (.iload_n 1, 1) := by decide +kernel
theorem dX10_goesBy_14 : decode cX10_goesBy 14 = .ok (.aload_n 0, 1) := by decide +kernel
theorem dX10_goesBy_15 : decode cX10_goesBy 15 = .ok (.getfield 47, 3) := by decide +kernel
theorem dX10_goesBy_18 : decode cX10_goesBy 18 = .ok (.iload 4, 2) := by decide +kernel
theorem dX10_goesBy_20 : decode cX10_goesBy 20 = .ok (.iaload, 1) := by decide +kernel
theorem dX10_goesBy_21 : decode cX10_goesBy 21 = .ok (.aload_n 0, 1) := by decide +kernel
theorem dX10_goesBy_22 : decode cX10_goesBy 22 = .ok (.iload_n 1, 1) := by decide +kernel
theorem dX10_goesBy_23 : decode cX10_goesBy 23 = .ok (.iload 4, 2) := by decide +kernel
theorem dX10_goesBy_25 : decode cX10_goesBy 25 = .ok (.invokevirtual 171, 3) := by decide +kernel
theorem dX10_goesBy_28 : decode cX10_goesBy 28 = .ok (.invokevirtual 181, 3) := by decide +kernel
theorem dX10_goesBy_31 : decode cX10_goesBy 31 = .ok (.iadd, 1) := by decide +kernel
theorem dX10_goesBy_32 : decode cX10_goesBy 32 = .ok (.istore_n 3, 1) := by decide +kernel
theorem dX10_goesBy_33 : decode cX10_goesBy 33 = .ok (.iinc 4 1, 3) := by decide +kernel
theorem dX10_goesBy_36 : decode cX10_goesBy 36 = .ok (.goto (-31), 3) := by decide +kernel
theorem dX10_goesBy_39 : decode cX10_goesBy 39 = .ok (.iload_n 3, 1) := by decide +kernel
theorem dX10_goesBy_40 : decode cX10_goesBy 40 = .ok (.ireturn, 1) := by decide +kernel
set_option maxRecDepth 20000 in
theorem ggX10_go_X10_isPerson : GoodIn wsX10_go wsX10_isPerson := goodIn_r _ [6, 7, 8, 9, 5, 10, 49, 50, 51, 52, 53, 54, 55, 56, 57, 58, 59, 60, 61, 62, 63, 64, 65, 66, 67, 68, 69, 70, 71, 72, 73, 74, 75, 76, 77, 78, 79, 80, 81, 82] (by decide +kernel) (by decide +kernel)
set_option maxRecDepth 20000 in
theorem gX10_go_X10_isPerson : GoodIn wsX10_go (wsV RX10 161 RX10 yX10_isPerson wsX10_isPerson) := goodIn_app (goodIn_of _ (by decide +kernel)) ggX10_go_X10_isPerson
set_option maxRecDepth 20000 in
theorem ggX10_go_X10_arePlaces : GoodIn wsX10_go wsX10_arePlaces := goodIn_r _ [14, 15, 8, 9, 5, 10, 49, 50, 51, 52, 53, 54, 55, 56, 57, 58, 59, 60, 61, 62, 63, 64, 65, 66, 67, 68, 69, 70, 71, 72, 73, 74, 75, 76, 77, 78, 79, 80, 81, 82] (by decide +kernel) (by decide +kernel)
set_option maxRecDepth 20000 in
theorem gX10_go_X10_arePlaces : GoodIn wsX10_go (wsV RX10 174 RX10 yX10_arePlaces wsX10_arePlaces) := goodIn_app (goodIn_of _ (by decide +kernel)) ggX10_go_X10_arePlaces
set_option maxRecDepth 20000 in
theorem ggX10_go_X10_firstWay : GoodIn wsX10_go wsX10_firstWay := goodIn_r _ [19, 20, 21, 22, 23, 24, 25, 26, 27, 5, 28, 29, 30, 31, 32, 33, 34, 35, 36, 37, 38, 39, 40, 49, 50, 51, 52, 53, 54, 55, 56, 57, 58, 59, 60, 61, 62, 63, 64, 65, 66, 67, 68, 69, 70, 71, 72, 73, 74, 75, 76, 77, 78, 79, 80, 81, 82] (by decide +kernel) (by decide +kernel)
set_option maxRecDepth 20000 in
theorem gX10_go_X10_firstWay : GoodIn wsX10_go (wsV RX10 178 RX10 yX10_firstWay wsX10_firstWay) := goodIn_app (goodIn_of _ (by decide +kernel)) ggX10_go_X10_firstWay
set_option maxRecDepth 20000 in
theorem ggX10_go_X10_goesBy : GoodIn wsX10_go wsX10_goesBy := goodIn_r _ [44, 24, 35, 36, 37, 5, 38, 39, 40, 45, 46, 47, 48, 23, 49, 50, 51, 52, 53, 54, 55, 56, 57, 58, 59, 60, 61, 62, 63, 64, 65, 66, 67, 68, 69, 70, 71, 72, 73, 74, 75, 76, 77, 78, 79, 80, 81, 82] (by decide +kernel) (by decide +kernel)
set_option maxRecDepth 20000 in
theorem gX10_go_X10_goesBy : GoodIn wsX10_go (wsV RX10 184 RX10 yX10_goesBy wsX10_goesBy) := goodIn_app (goodIn_of _ (by decide +kernel)) ggX10_go_X10_goesBy
theorem dX10_go_0 : decode cX10_go 0 = .ok (.aload_n 0, 1) := by decide +kernel
theorem dX10_go_1 : decode cX10_go 1 = .ok (.iconst 0, 1) := by decide +kernel
theorem dX10_go_2 : decode cX10_go 2 = .ok (.putfield 69, 3) := by decide +kernel
theorem dX10_go_5 : decode cX10_go 5 = .ok (.aload_n 0, 1) := by decide +kernel
theorem dX10_go_6 : decode cX10_go 6 = .ok (.iload_n 1, 1) := by decide +kernel
theorem dX10_go_7 : decode cX10_go 7 = .ok (.invokevirtual 161, 3) := by decide +kernel
theorem dX10_go_10 : decode cX10_go 10 = .ok (.ifCond .eq 12, 3) := by decide +kernel
theorem dX10_go_13 : decode cX10_go 13 = .ok (.aload_n 0, 1) := by decide +kernel
theorem dX10_go_14 : decode cX10_go 14 = .ok (.iload_n 2, 1) := by decide +kernel
theorem dX10_go_15 : decode cX10_go 15 = .ok (.iload_n 3, 1) := by decide +kernel
theorem dX10_go_16 : decode cX10_go 16 = .ok (.invokevirtual 174, 3) := by decide +kernel
theorem dX10_go_19 : decode cX10_go 19 = .ok (.ifCond .ne 5, 3) := by decide +kernel
theorem dX10_go_22 : decode cX10_go 22 = .ok (.iconst (-1), 1) := by decide +kernel
theorem dX10_go_23 : decode cX10_go 23 = .ok (.ireturn, 1) := by decide +kernel
theorem dX10_go_24 : decode cX10_go 24 = .ok (.aload_n 0, 1) := by decide +kernel
theorem dX10_go_25 : decode cX10_go 25 = .ok (.iload_n 1, 1) := by decide +kernel
theorem dX10_go_26 : decode cX10_go 26 = .ok (.iload_n 2, 1) := by decide +kernel
theorem dX10_go_27 : decode cX10_go 27 = .ok (.iload_n 3, 1) := by decide +kernel
theorem dX10_go_28 : decode cX10_go 28 = .ok (.invokevirtual 178, 3) := by decide +kernel
theorem dX10_go_31 : decode cX10_go 31 = .ok (.istore 4, 2) := by decide +kernel
theorem dX10_go_33 : decode cX10_go 33 = .ok (.iload 4, 2) := by decide +kernel
theorem dX10_go_35 : decode cX10_go 35 = .ok (.bipush (-9), 2) := by decide +kernel
theorem dX10_go_37 : decode cX10_go 37 = .ok (.if_icmp .ne 8, 3) := by decide +kernel
theorem dX10_go_40 : decode cX10_go 40 = .ok (.bipush (-2), 2) := by decide +kernel
theorem dX10_go_42 : decode cX10_go 42 = .ok (.goto 10, 3) := by decide +kernel
theorem dX10_go_45 : decode cX10_go 45 = .ok (.aload_n 0, 1) := by decide +kernel
theorem dX10_go_46 : decode cX10_go 46 = .ok (.iload_n 1, 1) := by decide +kernel
theorem dX10_go_47 : decode cX10_go 47 = .ok (.iload 4, 2) := by decide +kernel
theorem dX10_go_49 : decode cX10_go 49 = .ok (.invokevirtual 184, 3) := by decide +kernel
theorem dX10_go_52 : decode cX10_go 52 = .ok (.ireturn, 1) := by decide +kernel
set_option maxRecDepth 20000 in
theorem ggX10_steps_X10_isPerson : GoodIn wsX10_steps wsX10_isPerson := goodIn_r _ [8, 9, 10, 11, 7, 12, 22, 23, 24, 25, 26, 27, 28, 29, 30, 31, 32, 33, 34, 35, 36, 37, 38, 39, 40, 41, 42, 43, 44, 45, 46, 47, 48, 49, 50, 51, 52, 53, 54, 55] (by decide +kernel) (by decide +kernel)
set_option maxRecDepth 20000 in
theorem gX10_steps_X10_isPerson : GoodIn wsX10_steps (wsV RX10 161 RX10 yX10_isPerson wsX10_isPerson) := goodIn_app (goodIn_of _ (by decide +kernel)) ggX10_steps_X10_isPerson
set_option maxRecDepth 20000 in
theorem ggX10_steps_X10_isPlank : GoodIn wsX10_steps wsX10_isPlank := goodIn_r _ [16, 17, 10, 11, 7, 12, 22, 23, 24, 25, 26, 27, 28, 29, 30, 31, 32, 33, 34, 35, 36, 37, 38, 39, 40, 41, 42, 43, 44, 45, 46, 47, 48, 49, 50, 51, 52, 53, 54, 55] (by decide +kernel) (by decide +kernel)
set_option maxRecDepth 20000 in
theorem gX10_steps_X10_isPlank : GoodIn wsX10_steps (wsV RX10 157 RX10 yX10_isPlank wsX10_isPlank) := goodIn_app (goodIn_of _ (by decide +kernel)) ggX10_steps_X10_isPlank
set_option maxRecDepth 20000 in
theorem ggX10_steps_X10_treads : GoodIn wsX10_steps wsX10_treads := goodIn_r _ [21, 2, 22, 23, 24, 25, 26, 27, 28, 29, 30, 31, 32, 33, 34, 35, 36, 37, 38, 39, 40, 41, 42, 43, 44, 45, 46, 47, 48, 49, 50, 51, 52, 53, 54, 55] (by decide +kernel) (by decide +kernel)
set_option maxRecDepth 20000 in
theorem gX10_steps_X10_treads : GoodIn wsX10_steps (wsV RX10 181 RX10 yX10_treads wsX10_treads) := goodIn_app (goodIn_of _ (by decide +kernel)) ggX10_steps_X10_treads
