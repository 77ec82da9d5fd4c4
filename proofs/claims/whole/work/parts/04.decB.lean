theorem dX9_init_0 : decode cX9_init 0 = .ok (.aload_n 0, 1) := by decide +kernel
theorem dX9_init_1 : decode cX9_init 1 = .ok (.invokespecial 3, 3) := by decide +kernel
theorem dX9_init_4 : decode cX9_init 4 = .ok (.aload_n 0, 1) := by decide +kernel
theorem dX9_init_5 : decode cX9_init 5 = .ok (.new 9, 3) := by decide +kernel
theorem dX9_init_8 : decode cX9_init 8 = .ok (.dup, 1) := by decide +kernel
theorem dX9_init_9 : decode cX9_init 9 = .ok (.invokespecial 11, 3) := by decide +kernel
theorem dX9_init_12 : decode cX9_init 12 = .ok (.putfield 12, 3) := by decide +kernel
theorem dX9_init_15 : decode cX9_init 15 = .ok (.aload_n 0, 1) := by decide +kernel
theorem dX9_init_16 : decode cX9_init 16 = .ok (.new 16, 3) := by decide +kernel
theorem dX9_init_19 : decode cX9_init 19 = .ok (.dup, 1) := by decide +kernel
theorem dX9_init_20 : decode cX9_init 20 = .ok (.invokespecial 18, 3) := by decide +kernel
theorem dX9_init_23 : decode cX9_init 23 = .ok (.putfield 19, 3) := by decide +kernel
theorem dX9_init_26 : decode cX9_init 26 = .ok (.aload_n 0, 1) := by decide +kernel
theorem dX9_init_27 : decode cX9_init 27 = .ok (.new 23, 3) := by decide +kernel
theorem dX9_init_30 : decode cX9_init 30 = .ok (.dup, 1) := by decide +kernel
theorem dX9_init_31 : decode cX9_init 31 = .ok (.aload_n 0, 1) := by decide +kernel
theorem dX9_init_32 : decode cX9_init 32 = .ok (.getfield 12, 3) := by decide +kernel
theorem dX9_init_35 : decode cX9_init 35 = .ok (.invokespecial 25, 3) := by decide +kernel
theorem dX9_init_38 : decode cX9_init 38 = .ok (.putfield 28, 3) := by decide +kernel
theorem dX9_init_41 : decode cX9_init 41 = .ok (.aload_n 0, 1) := by decide +kernel
theorem dX9_init_42 : decode cX9_init 42 = .ok (.new 32, 3) := by decide +kernel
theorem dX9_init_45 : decode cX9_init 45 = .ok (.dup, 1) := by decide +kernel
theorem dX9_init_46 : decode cX9_init 46 = .ok (.invokespecial 34, 3) := by decide +kernel
theorem dX9_init_49 : decode cX9_init 49 = .ok (.putfield 35, 3) := by decide +kernel
theorem dX9_init_52 : decode cX9_init 52 = .ok (.aload_n 0, 1) := by decide +kernel
theorem dX9_init_53 : decode cX9_init 53 = .ok (.iconst 2, 1) := by decide +kernel
theorem dX9_init_54 : decode cX9_init 54 = .ok (.anewarray 32, 3) := by decide +kernel
theorem dX9_init_57 : decode cX9_init 57 = .ok (.dup, 1) := by decide +kernel
theorem dX9_init_58 : decode cX9_init 58 = .ok (.iconst 0, 1) := by decide +kernel
theorem dX9_init_59 : decode cX9_init 59 = .ok (.new 32, 3) := by decide +kernel
theorem dX9_init_62 : decode cX9_init 62 = .ok (.dup, 1) := by decide +kernel
theorem dX9_init_63 : decode cX9_init 63 = .ok (.invokespecial 34, 3) := by decide +kernel
theorem dX9_init_66 : decode cX9_init 66 = .ok (.aastore, 1) := by decide +kernel
theorem dX9_init_67 : decode cX9_init 67 = .ok (.dup, 1) := by decide +kernel
theorem dX9_init_68 : decode cX9_init 68 = .ok (.iconst 1, 1) := by decide +kernel
theorem dX9_init_69 : decode cX9_init 69 = .ok (.new 32, 3) := by decide +kernel
theorem dX9_init_72 : decode cX9_init 72 = .ok (.dup, 1) := by decide +kernel
theorem dX9_init_73 : decode cX9_init 73 = .ok (.invokespecial 34, 3) := by decide +kernel
theorem dX9_init_76 : decode cX9_init 76 = .ok (.aastore, 1) := by decide +kernel
theorem dX9_init_77 : decode cX9_init 77 = .ok (.putfield 39, 3) := by decide +kernel
theorem dX9_init_80 : decode cX9_init 80 = .ok (.aload_n 0, 1) := by decide +kernel
theorem dX9_init_81 : decode cX9_init 81 = .ok (.iconst 2, 1) := by decide +kernel
theorem dX9_init_82 : decode cX9_init 82 = .ok (.newarray .boolean, 2) := by decide +kernel
theorem dX9_init_84 : decode cX9_init 84 = .ok (.putfield 43, 3) := by decide +kernel
theorem dX9_init_87 : decode cX9_init 87 = .ok (.aload_n 0, 1) := by decide +kernel
theorem dX9_init_88 : decode cX9_init 88 = .ok (.new 47, 3) := by decide +kernel
theorem dX9_init_91 : decode cX9_init 91 = .ok (.dup, 1) := by decide +kernel
theorem dX9_init_92 : decode cX9_init 92 = .ok (.aload_n 0, 1) := by decide +kernel
theorem dX9_init_93 : decode cX9_init 93 = .ok (.getfield 19, 3) := by decide +kernel
theorem dX9_init_96 : decode cX9_init 96 = .ok (.aload_n 0, 1) := by decide +kernel
theorem dX9_init_97 : decode cX9_init 97 = .ok (.getfield 35, 3) := by decide +kernel
theorem dX9_init_100 : decode cX9_init 100 = .ok (.invokespecial 49, 3) := by decide +kernel
theorem dX9_init_103 : decode cX9_init 103 = .ok (.putfield 52, 3) := by decide +kernel
theorem dX9_init_106 : decode cX9_init 106 = .ok (.aload_n 0, 1) := by decide +kernel
theorem dX9_init_107 : decode cX9_init 107 = .ok (.new 56, 3) := by decide +kernel
theorem dX9_init_110 : decode cX9_init 110 = .ok (.dup, 1) := by decide +kernel
theorem dX9_init_111 : decode cX9_init 111 = .ok (.aload_n 0, 1) := by decide +kernel
theorem dX9_init_112 : decode cX9_init 112 = .ok (.getfield 19, 3) := by decide +kernel
theorem dX9_init_115 : decode cX9_init 115 = .ok (.aload_n 0, 1) := by decide +kernel
theorem dX9_init_116 : decode cX9_init 116 = .ok (.getfield 35, 3) := by decide +kernel
theorem dX9_init_119 : decode cX9_init 119 = .ok (.invokespecial 58, 3) := by decide +kernel
theorem dX9_init_122 : decode cX9_init 122 = .ok (.putfield 59, 3) := by decide +kernel
theorem dX9_init_125 : decode cX9_init 125 = .ok (.aload_n 0, 1) := by decide +kernel
theorem dX9_init_126 : decode cX9_init 126 = .ok (.new 63, 3) := by decide +kernel
theorem dX9_init_129 : decode cX9_init 129 = .ok (.dup, 1) := by decide +kernel
theorem dX9_init_130 : decode cX9_init 130 = .ok (.aload_n 0, 1) := by decide +kernel
theorem dX9_init_131 : decode cX9_init 131 = .ok (.getfield 19, 3) := by decide +kernel
theorem dX9_init_134 : decode cX9_init 134 = .ok (.aload_n 0, 1) := by decide +kernel
theorem dX9_init_135 : decode cX9_init 135 = .ok (.getfield 35, 3) := by decide +kernel
theorem dX9_init_138 : decode cX9_init 138 = .ok (.invokespecial 65, 3) := by decide +kernel
theorem dX9_init_141 : decode cX9_init 141 = .ok (.putfield 66, 3) := by decide +kernel
theorem dX9_init_144 : decode cX9_init 144 = .ok (.aload_n 0, 1) := by decide +kernel
theorem dX9_init_145 : decode cX9_init 145 = .ok (.new 70, 3) := by decide +kernel
theorem dX9_init_148 : decode cX9_init 148 = .ok (.dup, 1) := by decide +kernel
theorem dX9_init_149 : decode cX9_init 149 = .ok (.aload_n 0, 1) := by decide +kernel
theorem dX9_init_150 : decode cX9_init 150 = .ok (.getfield 19, 3) := by decide +kernel
theorem dX9_init_153 : decode cX9_init 153 = .ok (.aload_n 0, 1) := by decide +kernel
theorem dX9_init_154 : decode cX9_init 154 = .ok (.getfield 35, 3) := by decide +kernel
theorem dX9_init_157 : decode cX9_init 157 = .ok (.invokespecial 72, 3) := by decide +kernel
theorem dX9_init_160 : decode cX9_init 160 = .ok (.putfield 73, 3) := by decide +kernel
theorem dX9_init_163 : decode cX9_init 163 = .ok (.aload_n 0, 1) := by decide +kernel
theorem dX9_init_164 : decode cX9_init 164 = .ok (.new 77, 3) := by decide +kernel
theorem dX9_init_167 : decode cX9_init 167 = .ok (.dup, 1) := by decide +kernel
theorem dX9_init_168 : decode cX9_init 168 = .ok (.aload_n 0, 1) := by decide +kernel
theorem dX9_init_169 : decode cX9_init 169 = .ok (.getfield 19, 3) := by decide +kernel
theorem dX9_init_172 : decode cX9_init 172 = .ok (.aload_n 0, 1) := by decide +kernel
theorem dX9_init_173 : decode cX9_init 173 = .ok (.getfield 35, 3) := by decide +kernel
theorem dX9_init_176 : decode cX9_init 176 = .ok (.invokespecial 79, 3) := by decide +kernel
theorem dX9_init_179 : decode cX9_init 179 = .ok (.putfield 80, 3) := by decide +kernel
theorem dX9_init_182 : decode cX9_init 182 = .ok (.return_, 1) := by decide +kernel
set_option maxRecDepth 20000 in
theorem ggX9_type_X9_isWithin : GoodIn wsX9_type wsX9_isWithin := goodIn_r _ [5] (by decide +kernel) (by decide +kernel)
set_option maxRecDepth 20000 in
theorem gX9_type_X9_isWithin : GoodIn wsX9_type (va_wsS RX9 84 yX9_isWithin wsX9_isWithin) := goodIn_app (goodIn_of _ (by decide +kernel)) ggX9_type_X9_isWithin
set_option maxRecDepth 20000 in
theorem ggX9_type_X7_hasRoomFor : GoodIn wsX9_type wsX7_hasRoomFor := goodIn_r _ [10, 11, 28, 29] (by decide +kernel) (by decide +kernel)
set_option maxRecDepth 20000 in
theorem gX9_type_X7_hasRoomFor : GoodIn wsX9_type (wsV RX9 88 RX7 yX7_hasRoomFor wsX7_hasRoomFor) := goodIn_app (goodIn_of _ (by decide +kernel)) ggX9_type_X7_hasRoomFor
set_option maxRecDepth 20000 in
theorem ggX9_type_X7_add : GoodIn wsX9_type wsX7_add := goodIn_r _ [15, 11, 16, 28, 29] (by decide +kernel) (by decide +kernel)
set_option maxRecDepth 20000 in
theorem gX9_type_X7_add : GoodIn wsX9_type (wsV RX9 92 RX7 yX7_add wsX7_add) := goodIn_app (goodIn_of _ (by decide +kernel)) ggX9_type_X7_add
theorem dX9_type_0 : decode cX9_type 0 = .ok (.iload_n 3, 1) := by decide +kernel
theorem dX9_type_1 : decode cX9_type 1 = .ok (.iconst 1, 1) := by decide +kernel
theorem dX9_type_2 : decode cX9_type 2 = .ok (.bipush 8, 2) := by decide +kernel
theorem dX9_type_4 : decode cX9_type 4 = .ok (.invokestatic 84, 3) := by decide +kernel
theorem dX9_type_7 : decode cX9_type 7 = .ok (.ifCond .ne 5, 3) := by decide +kernel
theorem dX9_type_10 : decode cX9_type 10 = .ok (.iconst (-1), 1) := by decide +kernel
theorem dX9_type_11 : decode cX9_type 11 = .ok (.ireturn, 1) := by decide +kernel
theorem dX9_type_12 : decode cX9_type 12 = .ok (.aload_n 0, 1) := by decide +kernel
theorem dX9_type_13 : decode cX9_type 13 = .ok (.getfield 12, 3) := by decide +kernel
theorem dX9_type_16 : decode cX9_type 16 = .ok (.iload_n 3, 1) := by decide +kernel
theorem dX9_type_17 : decode cX9_type 17 = .ok (.invokevirtual 88, 3) := by decide +kernel
theorem dX9_type_20 : decode cX9_type 20 = .ok (.ifCond .ne 6, 3) := by decide +kernel
theorem dX9_type_23 : decode cX9_type 23 = .ok (.bipush (-3), 2) := by decide +kernel
theorem dX9_type_25 : decode cX9_type 25 = .ok (.ireturn, 1) := by decide +kernel
theorem dX9_type_26 : decode cX9_type 26 = .ok (.aload_n 0, 1) := by decide +kernel
theorem dX9_type_27 : decode cX9_type 27 = .ok (.getfield 12, 3) := by decide +kernel
theorem dX9_type_30 : decode cX9_type 30 = .ok (.lload_n 1, 1) := by decide +kernel
theorem dX9_type_31 : decode cX9_type 31 = .ok (.iload_n 3, 1) := by decide +kernel
theorem dX9_type_32 : decode cX9_type 32 = .ok (.invokevirtual 92, 3) := by decide +kernel
theorem dX9_type_35 : decode cX9_type 35 = .ok (.aload_n 0, 1) := by decide +kernel
theorem dX9_type_36 : decode cX9_type 36 = .ok (.getfield 12, 3) := by decide +kernel
theorem dX9_type_39 : decode cX9_type 39 = .ok (.getfield 96, 3) := by decide +kernel
theorem dX9_type_42 : decode cX9_type 42 = .ok (.ireturn, 1) := by decide +kernel
theorem dX9_clear_0 : decode cX9_clear 0 = .ok (.aload_n 0, 1) := by decide +kernel
theorem dX9_clear_1 : decode cX9_clear 1 = .ok (.getfield 12, 3) := by decide +kernel
theorem dX9_clear_4 : decode cX9_clear 4 = .ok (.getfield 96, 3) := by decide +kernel
theorem dX9_clear_7 : decode cX9_clear 7 = .ok (.istore_n 1, 1) := by decide +kernel
theorem dX9_clear_8 : decode cX9_clear 8 = .ok (.aload_n 0, 1) := by decide +kernel
theorem dX9_clear_9 : decode cX9_clear 9 = .ok (.getfield 12, 3) := by decide +kernel
theorem dX9_clear_12 : decode cX9_clear 12 = .ok (.iconst 0, 1) := by decide +kernel
theorem dX9_clear_13 : decode cX9_clear 13 = .ok (.putfield 96, 3) := by decide +kernel
theorem dX9_clear_16 : decode cX9_clear 16 = .ok (.iload_n 1, 1) := by decide +kernel
theorem dX9_clear_17 : decode cX9_clear 17 = .ok (.ireturn, 1) := by decide +kernel
set_option maxRecDepth 20000 in
theorem ggX9_marsh_X4_read : GoodIn wsX9_marsh wsX4_read := goodIn_r _ [9, 10, 11, 12, 13, 14, 15, 16, 17, 18, 19, 20, 21, 22, 23, 24, 25, 8, 26, 27, 28, 29, 30, 31, 32, 33, 34, 35, 36, 37, 38, 39, 40, 41, 42, 43, 44, 45, 46, 47, 48, 49, 50, 51, 52, 53, 54, 55, 56, 57, 58, 59, 60, 61, 62, 63, 64, 65, 66, 67, 68, 69, 70, 71, 72, 73, 74, 75, 76, 77, 78, 79, 80, 81, 82, 83, 84, 85, 86, 87, 88, 89, 90, 91, 92, 93, 94, 95, 96, 97, 98, 99, 100, 101, 102, 103, 104, 105, 106, 107, 108, 109, 110, 111, 112, 113, 114, 115, 116, 117, 118, 119, 120, 121, 122, 123, 124, 125, 126, 127, 128, 129, 130, 131, 132, 133, 134, 135, 136, 137, 138, 139, 140, 141, 142, 143, 144, 145, 146, 147, 148, 149, 150, 184, 185, 186, 187, 188, 189, 190, 191, 192, 193, 194, 195, 196, 197, 198, 199, 200, 201, 202, 182, 183] (by decide +kernel) (by decide +kernel)
set_option maxRecDepth 20000 in
theorem gX9_marsh_X4_read : GoodIn wsX9_marsh (wsV RX9 100 RX4 yX4_read wsX4_read) := goodIn_app (goodIn_of _ (by decide +kernel)) ggX9_marsh_X4_read
set_option maxRecDepth 20000 in
theorem ggX9_marsh_X2_becomes : GoodIn wsX9_marsh wsX2_becomes := goodIn_r _ [154, 19, 20, 21, 22, 135, 155, 156, 157, 158, 136, 137, 142, 143, 148, 149, 150, 191, 192, 193, 194, 195, 196, 197, 198, 199, 200, 201, 202] (by decide +kernel) (by decide +kernel)
set_option maxRecDepth 20000 in
theorem gX9_marsh_X2_becomes : GoodIn wsX9_marsh (wsV RX9 107 RX2 yX2_becomes wsX2_becomes) := goodIn_app (goodIn_of _ (by decide +kernel)) ggX9_marsh_X2_becomes
set_option maxRecDepth 20000 in
theorem ggX9_marsh_X3_beginsAsTold : GoodIn wsX9_marsh wsX3_beginsAsTold := goodIn_r _ [163, 164, 165, 203, 204, 205, 206, 191, 192, 193, 194, 195, 196, 197, 198, 199, 200, 201, 202] (by decide +kernel) (by decide +kernel)
set_option maxRecDepth 20000 in
theorem gX9_marsh_X3_beginsAsTold : GoodIn wsX9_marsh (wsV RX9 111 RX3 yX3_beginsAsTold wsX3_beginsAsTold) := goodIn_app (goodIn_of _ (by decide +kernel)) ggX9_marsh_X3_beginsAsTold
set_option maxRecDepth 20000 in
theorem ggX9_marsh_X9_forgetImages : GoodIn wsX9_marsh wsX9_forgetImages := goodIn_r _ [169, 170, 171, 172, 173, 174, 175, 176, 177, 178, 179, 180, 181] (by decide +kernel) (by decide +kernel)
set_option maxRecDepth 20000 in
theorem gX9_marsh_X9_forgetImages : GoodIn wsX9_marsh (wsV RX9 114 RX9 yX9_forgetImages wsX9_forgetImages) := goodIn_app (goodIn_of _ (by decide +kernel)) ggX9_marsh_X9_forgetImages
theorem dX9_marsh_0 : decode cX9_marsh 0 = .ok (.aload_n 0, 1) := by decide +kernel
theorem dX9_marsh_1 : decode cX9_marsh 1 = .ok (.getfield 28, 3) := by decide +kernel
theorem dX9_marsh_4 : decode cX9_marsh 4 = .ok (.invokevirtual 100, 3) := by decide +kernel
theorem dX9_marsh_7 : decode cX9_marsh 7 = .ok (.istore_n 1, 1) := by decide +kernel
theorem dX9_marsh_8 : decode cX9_marsh 8 = .ok (.iload_n 1, 1) := by decide +kernel
theorem dX9_marsh_9 : decode cX9_marsh 9 = .ok (.ifCond .ge 5, 3) := by decide +kernel
theorem dX9_marsh_12 : decode cX9_marsh 12 = .ok (.iload_n 1, 1) := by decide +kernel
theorem dX9_marsh_13 : decode cX9_marsh 13 = .ok (.ireturn, 1) := by decide +kernel
theorem dX9_marsh_14 : decode cX9_marsh 14 = .ok (.aload_n 0, 1) := by decide +kernel
theorem dX9_marsh_15 : decode cX9_marsh 15 = .ok (.getfield 12, 3) := by decide +kernel
theorem dX9_marsh_18 : decode cX9_marsh 18 = .ok (.iconst 0, 1) := by decide +kernel
theorem dX9_marsh_19 : decode cX9_marsh 19 = .ok (.putfield 96, 3) := by decide +kernel
theorem dX9_marsh_22 : decode cX9_marsh 22 = .ok (.aload_n 0, 1) := by decide +kernel
theorem dX9_marsh_23 : decode cX9_marsh 23 = .ok (.getfield 19, 3) := by decide +kernel
theorem dX9_marsh_26 : decode cX9_marsh 26 = .ok (.aload_n 0, 1) := by decide +kernel
theorem dX9_marsh_27 : decode cX9_marsh 27 = .ok (.getfield 28, 3) := by decide +kernel
theorem dX9_marsh_30 : decode cX9_marsh 30 = .ok (.getfield 104, 3) := by decide +kernel
theorem dX9_marsh_33 : decode cX9_marsh 33 = .ok (.invokevirtual 107, 3) := by decide +kernel
theorem dX9_marsh_36 : decode cX9_marsh 36 = .ok (.aload_n 0, 1) := by decide +kernel
theorem dX9_marsh_37 : decode cX9_marsh 37 = .ok (.getfield 35, 3) := by decide +kernel
theorem dX9_marsh_40 : decode cX9_marsh 40 = .ok (.aload_n 0, 1) := by decide +kernel
theorem dX9_marsh_41 : decode cX9_marsh 41 = .ok (.getfield 19, 3) := by decide +kernel
theorem dX9_marsh_44 : decode cX9_marsh 44 = .ok (.invokevirtual 111, 3) := by decide +kernel
theorem dX9_marsh_47 : decode cX9_marsh 47 = .ok (.aload_n 0, 1) := by decide +kernel
theorem dX9_marsh_48 : decode cX9_marsh 48 = .ok (.invokevirtual 114, 3) := by decide +kernel
theorem dX9_marsh_51 : decode cX9_marsh 51 = .ok (.iload_n 1, 1) := by decide +kernel
theorem dX9_marsh_52 : decode cX9_marsh 52 = .ok (.ireturn, 1) := by decide +kernel
set_option maxRecDepth 20000 in
theorem ggX9_plank_X2_isPlank : GoodIn wsX9_plank wsX2_isPlank := goodIn_r _ [7, 8, 20, 21, 22, 23, 24, 25, 26, 27, 28, 29, 30, 31] (by decide +kernel) (by decide +kernel)
set_option maxRecDepth 20000 in
theorem gX9_plank_X2_isPlank : GoodIn wsX9_plank (wsV RX9 117 RX2 yX2_isPlank wsX2_isPlank) := goodIn_app (goodIn_of _ (by decide +kernel)) ggX9_plank_X2_isPlank
theorem dX9_plank_0 : decode cX9_plank 0 = .ok (.aload_n 0, 1) := by decide +kernel
theorem dX9_plank_1 : decode cX9_plank 1 = .ok (.getfield 19, 3) := by decide +kernel
theorem dX9_plank_4 : decode cX9_plank 4 = .ok (.iload_n 1, 1) := by decide +kernel
theorem dX9_plank_5 : decode cX9_plank 5 = .ok (.invokevirtual 117, 3) := by decide +kernel
theorem dX9_plank_8 : decode cX9_plank 8 = .ok (.ifCond .ne 5, 3) := by decide +kernel
theorem dX9_plank_11 : decode cX9_plank 11 = .ok (.iconst (-1), 1) := by decide +kernel
theorem dX9_plank_12 : decode cX9_plank 12 = .ok (.ireturn, 1) := by decide +kernel
theorem dX9_plank_13 : decode cX9_plank 13 = .ok (.iload_n 2, 1) := by decide +kernel
theorem dX9_plank_14 : decode cX9_plank 14 = .ok (.tableswitch 56 0 2 #[26, 36, 46], 26) := by decide +kernel
theorem dX9_plank_40 : decode cX9_plank 40 = .ok (.aload_n 0, 1) := by decide +kernel
theorem dX9_plank_41 : decode cX9_plank 41 = .ok (.getfield 19, 3) := by decide +kernel
theorem dX9_plank_44 : decode cX9_plank 44 = .ok (.getfield 120, 3) := by decide +kernel
theorem dX9_plank_47 : decode cX9_plank 47 = .ok (.iload_n 1, 1) := by decide +kernel
theorem dX9_plank_48 : decode cX9_plank 48 = .ok (.iaload, 1) := by decide +kernel
theorem dX9_plank_49 : decode cX9_plank 49 = .ok (.ireturn, 1) := by decide +kernel
theorem dX9_plank_50 : decode cX9_plank 50 = .ok (.aload_n 0, 1) := by decide +kernel
theorem dX9_plank_51 : decode cX9_plank 51 = .ok (.getfield 19, 3) := by decide +kernel
theorem dX9_plank_54 : decode cX9_plank 54 = .ok (.getfield 124, 3) := by decide +kernel
theorem dX9_plank_57 : decode cX9_plank 57 = .ok (.iload_n 1, 1) := by decide +kernel
theorem dX9_plank_58 : decode cX9_plank 58 = .ok (.iaload, 1) := by decide +kernel
theorem dX9_plank_59 : decode cX9_plank 59 = .ok (.ireturn, 1) := by decide +kernel
theorem dX9_plank_60 : decode cX9_plank 60 = .ok (.aload_n 0, 1) := by decide +kernel
theorem dX9_plank_61 : decode cX9_plank 61 = .ok (.getfield 35, 3) := by decide +kernel
theorem dX9_plank_64 : decode cX9_plank 64 = .ok (.getfield 127, 3) := by decide +kernel
theorem dX9_plank_67 : decode cX9_plank 67 = .ok (.iload_n 1, 1) := by decide +kernel
theorem dX9_plank_68 : decode cX9_plank 68 = .ok (.iaload, 1) := by decide +kernel
theorem dX9_plank_69 : decode cX9_plank 69 = .ok (.ireturn, 1) := by decide +kernel
theorem dX9_plank_70 : decode cX9_plank 70 = .ok (.iconst (-1), 1) := by decide +kernel
theorem dX9_plank_71 : decode cX9_plank 71 = .ok (.ireturn, 1) := by decide +kernel
set_option maxRecDepth 20000 in
theorem ggX9_person_X2_isPerson : GoodIn wsX9_person wsX2_isPerson := goodIn_r _ [6, 7, 19, 20, 21, 22, 23, 24, 25, 26, 27, 28, 29, 30] (by decide +kernel) (by decide +kernel)
set_option maxRecDepth 20000 in
theorem gX9_person_X2_isPerson : GoodIn wsX9_person (wsV RX9 130 RX2 yX2_isPerson wsX2_isPerson) := goodIn_app (goodIn_of _ (by decide +kernel)) ggX9_person_X2_isPerson
theorem dX9_person_0 : decode cX9_person 0 = .ok (.aload_n 0, 1) := by decide +kernel
theorem dX9_person_1 : decode cX9_person 1 = .ok (.getfield 19, 3) := by decide +kernel
theorem dX9_person_4 : decode cX9_person 4 = .ok (.iload_n 1, 1) := by decide +kernel
theorem dX9_person_5 : decode cX9_person 5 = .ok (.invokevirtual 130, 3) := by decide +kernel
theorem dX9_person_8 : decode cX9_person 8 = .ok (.ifCond .ne 5, 3) := by decide +kernel
theorem dX9_person_11 : decode cX9_person 11 = .ok (.iconst (-1), 1) := by decide +kernel
theorem dX9_person_12 : decode cX9_person 12 = .ok (.ireturn, 1) := by decide +kernel
theorem dX9_person_13 : decode cX9_person 13 = .ok (.iload_n 2, 1) := by decide +kernel
theorem dX9_person_14 : decode cX9_person 14 = .ok (.lookupswitch 46 #[(0, 26), (1, 36)], 26) := by decide +kernel
theorem dX9_person_40 : decode cX9_person 40 = .ok (.aload_n 0, 1) := by decide +kernel
theorem dX9_person_41 : decode cX9_person 41 = .ok (.getfield 19, 3) := by decide +kernel
theorem dX9_person_44 : decode cX9_person 44 = .ok (.getfield 133, 3) := by decide +kernel
theorem dX9_person_47 : decode cX9_person 47 = .ok (.iload_n 1, 1) := by decide +kernel
theorem dX9_person_48 : decode cX9_person 48 = .ok (.iaload, 1) := by decide +kernel
theorem dX9_person_49 : decode cX9_person 49 = .ok (.ireturn, 1) := by decide +kernel
theorem dX9_person_50 : decode cX9_person 50 = .ok (.aload_n 0, 1) := by decide +kernel
theorem dX9_person_51 : decode cX9_person 51 = .ok (.getfield 19, 3) := by decide +kernel
theorem dX9_person_54 : decode cX9_person 54 = .ok (.getfield 136, 3) := by decide +kernel
theorem dX9_person_57 : decode cX9_person 57 = .ok (.iload_n 1, 1) := by decide +kernel
theorem dX9_person_58 : decode cX9_person 58 = .ok (.iaload, 1) := by decide +kernel
theorem dX9_person_59 : decode cX9_person 59 = .ok (.ireturn, 1) := by decide +kernel
theorem dX9_person_60 : decode cX9_person 60 = .ok (.iconst (-1), 1) := by decide +kernel
theorem dX9_person_61 : decode cX9_person 61 = .ok (.ireturn, 1) := by decide +kernel
set_option maxRecDepth 20000 in
theorem ggX9_errand_X2_isErrand : GoodIn wsX9_errand wsX2_isErrand := goodIn_r _ [6, 7, 19, 20, 21, 22, 23, 24, 25, 26, 27, 28, 29, 30] (by decide +kernel) (by decide +kernel)
set_option maxRecDepth 20000 in
theorem gX9_errand_X2_isErrand : GoodIn wsX9_errand (wsV RX9 139 RX2 yX2_isErrand wsX2_isErrand) := goodIn_app (goodIn_of _ (by decide +kernel)) ggX9_errand_X2_isErrand
theorem dX9_errand_0 : decode cX9_errand 0 = .ok (.aload_n 0, 1) := by decide +kernel
theorem dX9_errand_1 : decode cX9_errand 1 = .ok (.getfield 19, 3) := by decide +kernel
theorem dX9_errand_4 : decode cX9_errand 4 = .ok (.iload_n 1, 1) := by decide +kernel
theorem dX9_errand_5 : decode cX9_errand 5 = .ok (.invokevirtual 139, 3) := by decide +kernel
theorem dX9_errand_8 : decode cX9_errand 8 = .ok (.ifCond .ne 5, 3) := by decide +kernel
theorem dX9_errand_11 : decode cX9_errand 11 = .ok (.iconst (-1), 1) := by decide +kernel
theorem dX9_errand_12 : decode cX9_errand 12 = .ok (.ireturn, 1) := by decide +kernel
theorem dX9_errand_13 : decode cX9_errand 13 = .ok (.iload_n 2, 1) := by decide +kernel
theorem dX9_errand_14 : decode cX9_errand 14 = .ok (.tableswitch 56 0 2 #[26, 36, 46], 26) := by decide +kernel
theorem dX9_errand_40 : decode cX9_errand 40 = .ok (.aload_n 0, 1) := by decide +kernel
theorem dX9_errand_41 : decode cX9_errand 41 = .ok (.getfield 19, 3) := by decide +kernel
theorem dX9_errand_44 : decode cX9_errand 44 = .ok (.getfield 142, 3) := by decide +kernel
theorem dX9_errand_47 : decode cX9_errand 47 = .ok (.iload_n 1, 1) := by decide +kernel
theorem dX9_errand_48 : decode cX9_errand 48 = .ok (.iaload, 1) := by decide +kernel
theorem dX9_errand_49 : decode cX9_errand 49 = .ok (.ireturn, 1) := by decide +kernel
theorem dX9_errand_50 : decode cX9_errand 50 = .ok (.aload_n 0, 1) := by decide +kernel
theorem dX9_errand_51 : decode cX9_errand 51 = .ok (.getfield 19, 3) := by decide +kernel
theorem dX9_errand_54 : decode cX9_errand 54 = .ok (.getfield 145, 3) := by decide +kernel
theorem dX9_errand_57 : decode cX9_errand 57 = .ok (.iload_n 1, 1) := by decide +kernel
theorem dX9_errand_58 : decode cX9_errand 58 = .ok (.iaload, 1) := by decide +kernel
theorem dX9_errand_59 : decode cX9_errand 59 = .ok (.ireturn, 1) := by decide +kernel
theorem dX9_errand_60 : decode cX9_errand 60 = .ok (.aload_n 0, 1) := by decide +kernel
theorem dX9_errand_61 : decode cX9_errand 61 = .ok (.getfield 19, 3) := by decide +kernel
theorem dX9_errand_64 : decode cX9_errand 64 = .ok (.getfield 148, 3) := by decide +kernel
theorem dX9_errand_67 : decode cX9_errand 67 = .ok (.iload_n 1, 1) := by decide +kernel
theorem dX9_errand_68 : decode cX9_errand 68 = .ok (.iaload, 1) := by decide +kernel
theorem dX9_errand_69 : decode cX9_errand 69 = .ok (.ireturn, 1) := by decide +kernel
theorem dX9_errand_70 : decode cX9_errand 70 = .ok (.iconst (-1), 1) := by decide +kernel
theorem dX9_errand_71 : decode cX9_errand 71 = .ok (.ireturn, 1) := by decide +kernel
set_option maxRecDepth 20000 in
theorem ggX9_way_X2_isPerson : GoodIn wsX9_way wsX2_isPerson := goodIn_r _ [7, 8, 62, 63, 64, 65, 66, 67, 68, 69, 70, 71, 72, 73] (by decide +kernel) (by decide +kernel)
set_option maxRecDepth 20000 in
theorem gX9_way_X2_isPerson : GoodIn wsX9_way (wsV RX9 130 RX2 yX2_isPerson wsX2_isPerson) := goodIn_app (goodIn_of _ (by decide +kernel)) ggX9_way_X2_isPerson
set_option maxRecDepth 20000 in
theorem ggX9_way_X2_areTwoPlaces : GoodIn wsX9_way wsX2_areTwoPlaces := goodIn_r _ [12, 13, 62, 63, 64, 65, 66, 67, 68, 69, 70, 71, 72, 73] (by decide +kernel) (by decide +kernel)
set_option maxRecDepth 20000 in
theorem gX9_way_X2_areTwoPlaces : GoodIn wsX9_way (wsV RX9 151 RX2 yX2_areTwoPlaces wsX2_areTwoPlaces) := goodIn_app (goodIn_of _ (by decide +kernel)) ggX9_way_X2_areTwoPlaces
set_option maxRecDepth 20000 in
theorem ggX9_way_X8_findFirst : GoodIn wsX9_way wsX8_findFirst := goodIn_r _ [18, 19, 20, 21, 22, 17, 23, 24, 25, 26, 27, 28, 6, 29, 30, 31, 32, 33, 34, 35, 36, 37, 38, 39, 40, 41, 42, 43, 44, 45, 46, 74, 75, 76, 62, 63, 64, 65, 66, 67, 68, 69, 70, 71, 72, 73, 77, 78, 79, 80] (by decide +kernel) (by decide +kernel)
set_option maxRecDepth 20000 in
theorem gX9_way_X8_findFirst : GoodIn wsX9_way (wsV RX9 155 RX8 yX8_findFirst wsX8_findFirst) := goodIn_app (goodIn_of _ (by decide +kernel)) ggX9_way_X8_findFirst
set_option maxRecDepth 20000 in
theorem ggX9_way_X8_plankOnWay : GoodIn wsX9_way wsX8_plankOnWay := goodIn_r _ [50, 25, 74, 75, 76] (by decide +kernel) (by decide +kernel)
set_option maxRecDepth 20000 in
theorem gX9_way_X8_plankOnWay : GoodIn wsX9_way (wsV RX9 159 RX8 yX8_plankOnWay wsX8_plankOnWay) := goodIn_app (goodIn_of _ (by decide +kernel)) ggX9_way_X8_plankOnWay
theorem dX9_way_0 : decode cX9_way 0 = .ok (.aload_n 0, 1) := by decide +kernel
theorem dX9_way_1 : decode cX9_way 1 = .ok (.getfield 19, 3) := by decide +kernel
theorem dX9_way_4 : decode cX9_way 4 = .ok (.iload_n 1, 1) := by decide +kernel
theorem dX9_way_5 : decode cX9_way 5 = .ok (.invokevirtual 130, 3) := by decide +kernel
theorem dX9_way_8 : decode cX9_way 8 = .ok (.ifCond .eq 21, 3) := by decide +kernel
theorem dX9_way_11 : decode cX9_way 11 = .ok (.aload_n 0, 1) := by decide +kernel
theorem dX9_way_12 : decode cX9_way 12 = .ok (.getfield 19, 3) := by decide +kernel
theorem dX9_way_15 : decode cX9_way 15 = .ok (.iload_n 2, 1) := by decide +kernel
theorem dX9_way_16 : decode cX9_way 16 = .ok (.iload_n 3, 1) := by decide +kernel
theorem dX9_way_17 : decode cX9_way 17 = .ok (.invokevirtual 151, 3) := by decide +kernel
theorem dX9_way_20 : decode cX9_way 20 = .ok (.ifCond .eq 9, 3) := by decide +kernel
theorem dX9_way_23 : decode cX9_way 23 = .ok (.iload 4, 2) := by decide +kernel
theorem dX9_way_25 : decode cX9_way 25 = .ok (.iconst (-1), 1) := by decide +kernel
theorem dX9_way_26 : decode cX9_way 26 = .ok (.if_icmp .ge 5, 3) := by decide +kernel
theorem dX9_way_29 : decode cX9_way 29 = .ok (.iconst (-1), 1) := by decide +kernel
theorem dX9_way_30 : decode cX9_way 30 = .ok (.ireturn, 1) := by decide +kernel
theorem dX9_way_31 : decode cX9_way 31 = .ok (.aload_n 0, 1) := by decide +kernel
theorem dX9_way_32 : decode cX9_way 32 = .ok (.getfield 52, 3) := by decide +kernel
theorem dX9_way_35 : decode cX9_way 35 = .ok (.iload_n 1, 1) := by decide +kernel
theorem dX9_way_36 : decode cX9_way 36 = .ok (.iload_n 2, 1) := by decide +kernel
theorem dX9_way_37 : decode cX9_way 37 = .ok (.iload_n 3, 1) := by decide +kernel
theorem dX9_way_38 : decode cX9_way 38 = .ok (.invokevirtual 155, 3) := by decide +kernel
theorem dX9_way_41 : decode cX9_way 41 = .ok (.istore 5, 2) := by decide +kernel
theorem dX9_way_43 : decode cX9_way 43 = .ok (.iload 5, 2) := by decide +kernel
theorem dX9_way_45 : decode cX9_way 45 = .ok (.ifCond .ne 6, 3) := by decide +kernel
theorem dX9_way_48 : decode cX9_way 48 = .ok (.bipush (-9), 2) := by decide +kernel
theorem dX9_way_50 : decode cX9_way 50 = .ok (.ireturn, 1) := by decide +kernel
theorem dX9_way_51 : decode cX9_way 51 = .ok (.iload 4, 2) := by decide +kernel
theorem dX9_way_53 : decode cX9_way 53 = .ok (.iconst (-1), 1) := by decide +kernel
theorem dX9_way_54 : decode cX9_way 54 = .ok (.if_icmp .ne 6, 3) := by decide +kernel
theorem dX9_way_57 : decode cX9_way 57 = .ok (.iload 5, 2) := by decide +kernel
theorem dX9_way_59 : decode cX9_way 59 = .ok (.ireturn, 1) := by decide +kernel
theorem dX9_way_60 : decode cX9_way 60 = .ok (.iload 4, 2) := by decide +kernel
theorem dX9_way_62 : decode cX9_way 62 = .ok (.iload 5, 2) := by decide +kernel
theorem dX9_way_64 : decode cX9_way 64 = .ok (.if_icmp .ge 15, 3) := by decide +kernel
theorem dX9_way_67 : decode cX9_way 67 = .ok (.aload_n 0, 1) := by decide +kernel
theorem dX9_way_68 : decode cX9_way 68 = .ok (.getfield 52, 3) := by decide +kernel
theorem dX9_way_71 : decode cX9_way 71 = .ok (.iload 4, 2) := by decide +kernel
theorem dX9_way_73 : decode cX9_way 73 = .ok (.invokevirtual 159, 3) := by decide +kernel
theorem dX9_way_76 : decode cX9_way 76 = .ok (.goto 5, 3) := by decide +kernel
theorem dX9_way_79 : decode cX9_way 79 = .ok (.bipush (-5), 2) := by decide +kernel
theorem dX9_way_81 : decode cX9_way 81 = .ok (.ireturn, 1) := by decide +kernel
set_option maxRecDepth 20000 in
theorem ggX9_go_X2_isPerson : GoodIn wsX9_go wsX2_isPerson := goodIn_r _ [7, 8, 69, 70, 71, 72, 73, 74, 75, 76, 77, 78, 79, 80] (by decide +kernel) (by decide +kernel)
set_option maxRecDepth 20000 in
theorem gX9_go_X2_isPerson : GoodIn wsX9_go (wsV RX9 130 RX2 yX2_isPerson wsX2_isPerson) := goodIn_app (goodIn_of _ (by decide +kernel)) ggX9_go_X2_isPerson
set_option maxRecDepth 20000 in
theorem ggX9_go_X2_areTwoPlaces : GoodIn wsX9_go wsX2_areTwoPlaces := goodIn_r _ [12, 13, 69, 70, 71, 72, 73, 74, 75, 76, 77, 78, 79, 80] (by decide +kernel) (by decide +kernel)
set_option maxRecDepth 20000 in
theorem gX9_go_X2_areTwoPlaces : GoodIn wsX9_go (wsV RX9 151 RX2 yX2_areTwoPlaces wsX2_areTwoPlaces) := goodIn_app (goodIn_of _ (by decide +kernel)) ggX9_go_X2_areTwoPlaces
set_option maxRecDepth 20000 in
theorem ggX9_go_X8_findFirst : GoodIn wsX9_go wsX8_findFirst := goodIn_r _ [18, 19, 20, 21, 22, 17, 23, 24, 25, 26, 27, 28, 6, 29, 30, 31, 32, 33, 34, 35, 36, 37, 38, 39, 40, 41, 42, 43, 44, 45, 46, 81, 82, 83, 69, 70, 71, 72, 73, 74, 75, 76, 77, 78, 79, 80, 84, 85, 86, 87] (by decide +kernel) (by decide +kernel)
set_option maxRecDepth 20000 in
theorem gX9_go_X8_findFirst : GoodIn wsX9_go (wsV RX9 155 RX8 yX8_findFirst wsX8_findFirst) := goodIn_app (goodIn_of _ (by decide +kernel)) ggX9_go_X8_findFirst
set_option maxRecDepth 20000 in
theorem ggX9_go_X8_walkFound : GoodIn wsX9_go wsX8_walkFound := goodIn_r _ [50, 24, 25, 19, 26, 27, 28, 6, 29, 30, 31, 51, 52, 53, 44, 54, 46, 55, 56, 57, 81, 82, 83, 69, 70, 71, 72, 73, 74, 75, 76, 77, 78, 79, 80, 84, 85, 86, 87] (by decide +kernel) (by decide +kernel)
set_option maxRecDepth 20000 in
theorem gX9_go_X8_walkFound : GoodIn wsX9_go (wsV RX9 163 RX8 yX8_walkFound wsX8_walkFound) := goodIn_app (goodIn_of _ (by decide +kernel)) ggX9_go_X8_walkFound
theorem dX9_go_0 : decode cX9_go 0 = .ok (.aload_n 0, 1) := by decide +kernel
theorem dX9_go_1 : decode cX9_go 1 = .ok (.getfield 19, 3) := by decide +kernel
theorem dX9_go_4 : decode cX9_go 4 = .ok (.iload_n 1, 1) := by decide +kernel
theorem dX9_go_5 : decode cX9_go 5 = .ok (.invokevirtual 130, 3) := by decide +kernel
theorem dX9_go_8 : decode cX9_go 8 = .ok (.ifCond .eq 15, 3) := by decide +kernel
theorem dX9_go_11 : decode cX9_go 11 = .ok (.aload_n 0, 1) := by decide +kernel
theorem dX9_go_12 : decode cX9_go 12 = .ok (.getfield 19, 3) := by decide +kernel
theorem dX9_go_15 : decode cX9_go 15 = .ok (.iload_n 2, 1) := by decide +kernel
theorem dX9_go_16 : decode cX9_go 16 = .ok (.iload_n 3, 1) := by decide +kernel
theorem dX9_go_17 : decode cX9_go 17 = .ok (.invokevirtual 151, 3) := by decide +kernel
theorem dX9_go_20 : decode cX9_go 20 = .ok (.ifCond .ne 5, 3) := by decide +kernel
theorem dX9_go_23 : decode cX9_go 23 = .ok (.iconst (-1), 1) := by decide +kernel
theorem dX9_go_24 : decode cX9_go 24 = .ok (.ireturn, 1) := by decide +kernel
theorem dX9_go_25 : decode cX9_go 25 = .ok (.aload_n 0, 1) := by decide +kernel
theorem dX9_go_26 : decode cX9_go 26 = .ok (.getfield 52, 3) := by decide +kernel
theorem dX9_go_29 : decode cX9_go 29 = .ok (.iload_n 1, 1) := by decide +kernel
theorem dX9_go_30 : decode cX9_go 30 = .ok (.iload_n 2, 1) := by decide +kernel
theorem dX9_go_31 : decode cX9_go 31 = .ok (.iload_n 3, 1) := by decide +kernel
theorem dX9_go_32 : decode cX9_go 32 = .ok (.invokevirtual 155, 3) := by decide +kernel
theorem dX9_go_35 : decode cX9_go 35 = .ok (.istore 4, 2) := by decide +kernel
theorem dX9_go_37 : decode cX9_go 37 = .ok (.iload 4, 2) := by decide +kernel
theorem dX9_go_39 : decode cX9_go 39 = .ok (.ifCond .ne 8, 3) := by decide +kernel
theorem dX9_go_42 : decode cX9_go 42 = .ok (.bipush (-2), 2) := by decide +kernel
theorem dX9_go_44 : decode cX9_go 44 = .ok (.goto 13, 3) := by decide +kernel
theorem dX9_go_47 : decode cX9_go 47 = .ok (.aload_n 0, 1) := by decide +kernel
theorem dX9_go_48 : decode cX9_go 48 = .ok (.getfield 52, 3) := by decide +kernel
theorem dX9_go_51 : decode cX9_go 51 = .ok (.iload_n 1, 1) := by decide +kernel
theorem dX9_go_52 : decode cX9_go 52 = .ok (.iload 4, 2) := by decide +kernel
theorem dX9_go_54 : decode cX9_go 54 = .ok (.invokevirtual 163, 3) := by decide +kernel
theorem dX9_go_57 : decode cX9_go 57 = .ok (.ireturn, 1) := by decide +kernel
set_option maxRecDepth 20000 in
theorem ggX9_steps_X2_isPerson : GoodIn wsX9_steps wsX2_isPerson := goodIn_r _ [7, 8, 38, 39, 40, 41, 42, 43, 44, 45, 46, 47, 48, 49] (by decide +kernel) (by decide +kernel)
set_option maxRecDepth 20000 in
theorem gX9_steps_X2_isPerson : GoodIn wsX9_steps (wsV RX9 130 RX2 yX2_isPerson wsX2_isPerson) := goodIn_app (goodIn_of _ (by decide +kernel)) ggX9_steps_X2_isPerson
set_option maxRecDepth 20000 in
theorem ggX9_steps_X2_isPlank : GoodIn wsX9_steps wsX2_isPlank := goodIn_r _ [12, 13, 38, 39, 40, 41, 42, 43, 44, 45, 46, 47, 48, 49] (by decide +kernel) (by decide +kernel)
set_option maxRecDepth 20000 in
theorem gX9_steps_X2_isPlank : GoodIn wsX9_steps (wsV RX9 117 RX2 yX2_isPlank wsX2_isPlank) := goodIn_app (goodIn_of _ (by decide +kernel)) ggX9_steps_X2_isPlank
set_option maxRecDepth 20000 in
theorem ggX9_steps_X3_canTake : GoodIn wsX9_steps wsX3_canTake := goodIn_r _ [18, 19, 50, 51, 52, 53] (by decide +kernel) (by decide +kernel)
set_option maxRecDepth 20000 in
theorem gX9_steps_X3_canTake : GoodIn wsX9_steps (wsV RX9 167 RX3 yX3_canTake wsX3_canTake) := goodIn_app (goodIn_of _ (by decide +kernel)) ggX9_steps_X3_canTake
set_option maxRecDepth 20000 in
theorem ggX9_steps_X3_take : GoodIn wsX9_steps wsX3_take := goodIn_r _ [23, 19, 24, 25, 26, 50, 51, 52, 53] (by decide +kernel) (by decide +kernel)
set_option maxRecDepth 20000 in
theorem gX9_steps_X3_take : GoodIn wsX9_steps (wsV RX9 170 RX3 yX3_take wsX3_take) := goodIn_app (goodIn_of _ (by decide +kernel)) ggX9_steps_X3_take
theorem dX9_steps_0 : decode cX9_steps 0 = .ok (.aload_n 0, 1) := by decide +kernel
theorem dX9_steps_1 : decode cX9_steps 1 = .ok (.getfield 19, 3) := by decide +kernel
theorem dX9_steps_4 : decode cX9_steps 4 = .ok (.iload_n 1, 1) := by decide +kernel
theorem dX9_steps_5 : decode cX9_steps 5 = .ok (.invokevirtual 130, 3) := by decide +kernel
theorem dX9_steps_8 : decode cX9_steps 8 = .ok (.ifCond .eq 14, 3) := by decide +kernel
theorem dX9_steps_11 : decode cX9_steps 11 = .ok (.aload_n 0, 1) := by decide +kernel
theorem dX9_steps_12 : decode cX9_steps 12 = .ok (.getfield 19, 3) := by decide +kernel
theorem dX9_steps_15 : decode cX9_steps 15 = .ok (.iload_n 2, 1) := by decide +kernel
theorem dX9_steps_16 : decode cX9_steps 16 = .ok (.invokevirtual 117, 3) := by decide +kernel
theorem dX9_steps_19 : decode cX9_steps 19 = .ok (.ifCond .ne 5, 3) := by decide +kernel
theorem dX9_steps_22 : decode cX9_steps 22 = .ok (.iconst (-1), 1) := by decide +kernel
theorem dX9_steps_23 : decode cX9_steps 23 = .ok (.ireturn, 1) := by decide +kernel
theorem dX9_steps_24 : decode cX9_steps 24 = .ok (.aload_n 0, 1) := by decide +kernel
theorem dX9_steps_25 : decode cX9_steps 25 = .ok (.getfield 19, 3) := by decide +kernel
theorem dX9_steps_28 : decode cX9_steps 28 = .ok (.getfield 133, 3) := by decide +kernel
theorem dX9_steps_31 : decode cX9_steps 31 = .ok (.iload_n 1, 1) := by decide +kernel
theorem dX9_steps_32 : decode cX9_steps 32 = .ok (.iaload, 1) := by decide +kernel
theorem dX9_steps_33 : decode cX9_steps 33 = .ok (.istore_n 3, 1) := by decide +kernel
theorem dX9_steps_34 : decode cX9_steps 34 = .ok (.aload_n 0, 1) := by decide +kernel
theorem dX9_steps_35 : decode cX9_steps 35 = .ok (.getfield 35, 3) := by decide +kernel
theorem dX9_steps_38 : decode cX9_steps 38 = .ok (.iload_n 2, 1) := by decide +kernel
theorem dX9_steps_39 : decode cX9_steps 39 = .ok (.iload_n 3, 1) := by decide +kernel
theorem dX9_steps_40 : decode cX9_steps 40 = .ok (.invokevirtual 167, 3) := by decide +kernel
theorem dX9_steps_43 : decode cX9_steps 43 = .ok (.ifCond .ne 6, 3) := by decide +kernel
theorem dX9_steps_46 : decode cX9_steps 46 = .ok (.bipush (-2), 2) := by decide +kernel
theorem dX9_steps_48 : decode cX9_steps 48 = .ok (.ireturn, 1) := by decide +kernel
theorem dX9_steps_49 : decode cX9_steps 49 = .ok (.aload_n 0, 1) := by decide +kernel
theorem dX9_steps_50 : decode cX9_steps 50 = .ok (.getfield 35, 3) := by decide +kernel
theorem dX9_steps_53 : decode cX9_steps 53 = .ok (.iload_n 2, 1) := by decide +kernel
theorem dX9_steps_54 : decode cX9_steps 54 = .ok (.iload_n 3, 1) := by decide +kernel
theorem dX9_steps_55 : decode cX9_steps 55 = .ok (.iload_n 1, 1) := by decide +kernel
theorem dX9_steps_56 : decode cX9_steps 56 = .ok (.invokevirtual 170, 3) := by decide +kernel
theorem dX9_steps_59 : decode cX9_steps 59 = .ok (.pop, 1) := by decide +kernel
theorem dX9_steps_60 : decode cX9_steps 60 = .ok (.aload_n 0, 1) := by decide +kernel
theorem dX9_steps_61 : decode cX9_steps 61 = .ok (.getfield 35, 3) := by decide +kernel
theorem dX9_steps_64 : decode cX9_steps 64 = .ok (.getfield 127, 3) := by decide +kernel
theorem dX9_steps_67 : decode cX9_steps 67 = .ok (.iload_n 2, 1) := by decide +kernel
theorem dX9_steps_68 : decode cX9_steps 68 = .ok (.iaload, 1) := by decide +kernel
theorem dX9_steps_69 : decode cX9_steps 69 = .ok (.ireturn, 1) := by decide +kernel
set_option maxRecDepth 20000 in
theorem ggX9_days_X9_isWithin : GoodIn wsX9_days wsX9_isWithin := goodIn_r _ [5] (by decide +kernel) (by decide +kernel)
set_option maxRecDepth 20000 in
theorem gX9_days_X9_isWithin : GoodIn wsX9_days (va_wsS RX9 84 yX9_isWithin wsX9_isWithin) := goodIn_app (goodIn_of _ (by decide +kernel)) ggX9_days_X9_isWithin
set_option maxRecDepth 20000 in
theorem ggX9_days_X8_runErrands : GoodIn wsX9_days wsX8_runErrands := goodIn_r _ [10, 11, 12, 13, 14, 9, 15, 16, 17, 18, 19, 20, 21, 22, 23, 24, 25, 26, 27, 28, 29, 30, 31, 32, 33, 34, 35, 4, 36, 37, 38, 39, 40, 41, 42, 43, 44, 45, 46, 47, 48, 49, 50, 51, 52, 53, 65, 66, 67, 68, 69, 70, 71, 72, 73, 74, 75, 76, 77, 78, 79, 80, 81, 82, 83] (by decide +kernel) (by decide +kernel)
set_option maxRecDepth 20000 in
theorem gX9_days_X8_runErrands : GoodIn wsX9_days (wsV RX9 173 RX8 yX8_runErrands wsX8_runErrands) := goodIn_app (goodIn_of _ (by decide +kernel)) ggX9_days_X8_runErrands
theorem dX9_days_0 : decode cX9_days 0 = .ok (.iload_n 1, 1) := by decide +kernel
theorem dX9_days_1 : decode cX9_days 1 = .ok (.iconst 1, 1) := by decide +kernel
theorem dX9_days_2 : decode cX9_days 2 = .ok (.bipush 9, 2) := by decide +kernel
theorem dX9_days_4 : decode cX9_days 4 = .ok (.invokestatic 84, 3) := by decide +kernel
theorem dX9_days_7 : decode cX9_days 7 = .ok (.ifCond .ne 5, 3) := by decide +kernel
theorem dX9_days_10 : decode cX9_days 10 = .ok (.iconst (-1), 1) := by decide +kernel
theorem dX9_days_11 : decode cX9_days 11 = .ok (.ireturn, 1) := by decide +kernel
theorem dX9_days_12 : decode cX9_days 12 = .ok (.iconst 0, 1) := by decide +kernel
theorem dX9_days_13 : decode cX9_days 13 = .ok (.istore_n 2, 1) := by decide +kernel
theorem dX9_days_14 : decode cX9_days 14 = .ok (.iconst 0, 1) := by decide +kernel
theorem dX9_days_15 : decode cX9_days 15 = .ok (.istore_n 3, 1) := by decide +kernel
theorem dX9_days_16 : decode cX9_days 16 = .ok (.iload_n 3, 1) := by decide +kernel
theorem dX9_days_17 : decode cX9_days 17 = .ok (.iload_n 1, 1) := by decide +kernel
theorem dX9_days_18 : decode cX9_days 18 = .ok (.if_icmp .ge 19, 3) := by decide +kernel
theorem dX9_days_21 : decode cX9_days 21 = .ok (.iload_n 2, 1) := by decide +kernel
theorem dX9_days_22 : decode cX9_days 22 = .ok (.aload_n 0, 1) := by decide +kernel
theorem dX9_days_23 : decode cX9_days 23 = .ok (.getfield 52, 3) := by decide +kernel
theorem dX9_days_26 : decode cX9_days 26 = .ok (.invokevirtual 173, 3) := by decide +kernel
theorem dX9_days_29 : decode cX9_days 29 = .ok (.iadd, 1) := by decide +kernel
theorem dX9_days_30 : decode cX9_days 30 = .ok (.istore_n 2, 1) := by decide +kernel
theorem dX9_days_31 : decode cX9_days 31 = .ok (.iinc 3 1, 3) := by decide +kernel
theorem dX9_days_34 : decode cX9_days 34 = .ok (.goto (-18), 3) := by decide +kernel
theorem dX9_days_37 : decode cX9_days 37 = .ok (.iload_n 2, 1) := by decide +kernel
theorem dX9_days_38 : decode cX9_days 38 = .ok (.ireturn, 1) := by decide +kernel
set_option maxRecDepth 20000 in
theorem ggX9_went_X9_isWithin : GoodIn wsX9_went wsX9_isWithin := goodIn_r _ [5] (by decide +kernel) (by decide +kernel)
set_option maxRecDepth 20000 in
theorem gX9_went_X9_isWithin : GoodIn wsX9_went (va_wsS RX9 84 yX9_isWithin wsX9_isWithin) := goodIn_app (goodIn_of _ (by decide +kernel)) ggX9_went_X9_isWithin
theorem dX9_went_0 : decode cX9_went 0 = .ok (.iload_n 1, 1) := by decide +kernel
theorem dX9_went_1 : decode cX9_went 1 = .ok (.ifCond .lt 12, 3) := by decide +kernel
theorem dX9_went_4 : decode cX9_went 4 = .ok (.iload_n 2, 1) := by decide +kernel
theorem dX9_went_5 : decode cX9_went 5 = .ok (.iconst 0, 1) := by decide +kernel
theorem dX9_went_6 : decode cX9_went 6 = .ok (.iconst 1, 1) := by decide +kernel
theorem dX9_went_7 : decode cX9_went 7 = .ok (.invokestatic 84, 3) := by decide +kernel
theorem dX9_went_10 : decode cX9_went 10 = .ok (.ifCond .ne 5, 3) := by decide +kernel
theorem dX9_went_13 : decode cX9_went 13 = .ok (.iconst (-1), 1) := by decide +kernel
theorem dX9_went_14 : decode cX9_went 14 = .ok (.ireturn, 1) := by decide +kernel
theorem dX9_went_15 : decode cX9_went 15 = .ok (.iload_n 1, 1) := by decide +kernel
theorem dX9_went_16 : decode cX9_went 16 = .ok (.aload_n 0, 1) := by decide +kernel
theorem dX9_went_17 : decode cX9_went 17 = .ok (.getfield 35, 3) := by decide +kernel
theorem dX9_went_20 : decode cX9_went 20 = .ok (.getfield 176, 3) := by decide +kernel
theorem dX9_went_23 : decode cX9_went 23 = .ok (.if_icmp .lt 6, 3) := by decide +kernel
theorem dX9_went_26 : decode cX9_went 26 = .ok (.bipush (-5), 2) := by decide +kernel
theorem dX9_went_28 : decode cX9_went 28 = .ok (.ireturn, 1) := by decide +kernel
theorem dX9_went_29 : decode cX9_went 29 = .ok (.iload_n 2, 1) := by decide +kernel
theorem dX9_went_30 : decode cX9_went 30 = .ok (.ifCond .ne 15, 3) := by decide +kernel
theorem dX9_went_33 : decode cX9_went 33 = .ok (.aload_n 0, 1) := by decide +kernel
theorem dX9_went_34 : decode cX9_went 34 = .ok (.getfield 35, 3) := by decide +kernel
theorem dX9_went_37 : decode cX9_went 37 = .ok (.getfield 179, 3) := by decide +kernel
theorem dX9_went_40 : decode cX9_went 40 = .ok (.iload_n 1, 1) := by decide +kernel
theorem dX9_went_41 : decode cX9_went 41 = .ok (.iaload, 1) := by decide +kernel
theorem dX9_went_42 : decode cX9_went 42 = .ok (.goto 12, 3) := by decide +kernel
theorem dX9_went_45 : decode cX9_went 45 = .ok (.aload_n 0, 1) := by decide +kernel
theorem dX9_went_46 : decode cX9_went 46 = .ok (.getfield 35, 3) := by decide +kernel
theorem dX9_went_49 : decode cX9_went 49 = .ok (.getfield 182, 3) := by decide +kernel
theorem dX9_went_52 : decode cX9_went 52 = .ok (.iload_n 1, 1) := by decide +kernel
theorem dX9_went_53 : decode cX9_went 53 = .ok (.iaload, 1) := by decide +kernel
theorem dX9_went_54 : decode cX9_went 54 = .ok (.ireturn, 1) := by decide +kernel
set_option maxRecDepth 20000 in
theorem ggX9_frost_X3_freeze : GoodIn wsX9_frost wsX3_freeze := goodIn_r _ [6, 7, 19, 20, 21, 22] (by decide +kernel) (by decide +kernel)
set_option maxRecDepth 20000 in
theorem gX9_frost_X3_freeze : GoodIn wsX9_frost (wsV RX9 185 RX3 yX3_freeze wsX3_freeze) := goodIn_app (goodIn_of _ (by decide +kernel)) ggX9_frost_X3_freeze
theorem dX9_frost_0 : decode cX9_frost 0 = .ok (.aload_n 0, 1) := by decide +kernel
theorem dX9_frost_1 : decode cX9_frost 1 = .ok (.getfield 35, 3) := by decide +kernel
theorem dX9_frost_4 : decode cX9_frost 4 = .ok (.invokevirtual 185, 3) := by decide +kernel
theorem dX9_frost_7 : decode cX9_frost 7 = .ok (.ireturn, 1) := by decide +kernel
set_option maxRecDepth 20000 in
theorem ggX9_cart_X2_isPlank : GoodIn wsX9_cart wsX2_isPlank := goodIn_r _ [7, 8, 24, 25, 26, 27, 28, 29, 30, 31, 32, 33, 34, 35] (by decide +kernel) (by decide +kernel)
set_option maxRecDepth 20000 in
theorem gX9_cart_X2_isPlank : GoodIn wsX9_cart (wsV RX9 117 RX2 yX2_isPlank wsX2_isPlank) := goodIn_app (goodIn_of _ (by decide +kernel)) ggX9_cart_X2_isPlank
theorem dX9_cart_0 : decode cX9_cart 0 = .ok (.aload_n 0, 1) := by decide +kernel
theorem dX9_cart_1 : decode cX9_cart 1 = .ok (.getfield 19, 3) := by decide +kernel
theorem dX9_cart_4 : decode cX9_cart 4 = .ok (.iload_n 1, 1) := by decide +kernel
theorem dX9_cart_5 : decode cX9_cart 5 = .ok (.invokevirtual 117, 3) := by decide +kernel
theorem dX9_cart_8 : decode cX9_cart 8 = .ok (.ifCond .ne 5, 3) := by decide +kernel
theorem dX9_cart_11 : decode cX9_cart 11 = .ok (.iconst (-1), 1) := by decide +kernel
theorem dX9_cart_12 : decode cX9_cart 12 = .ok (.ireturn, 1) := by decide +kernel
theorem dX9_cart_13 : decode cX9_cart 13 = .ok (.aload_n 0, 1) := by decide +kernel
theorem dX9_cart_14 : decode cX9_cart 14 = .ok (.getfield 35, 3) := by decide +kernel
theorem dX9_cart_17 : decode cX9_cart 17 = .ok (.getfield 127, 3) := by decide +kernel
theorem dX9_cart_20 : decode cX9_cart 20 = .ok (.iload_n 1, 1) := by decide +kernel
theorem dX9_cart_21 : decode cX9_cart 21 = .ok (.iaload, 1) := by decide +kernel
theorem dX9_cart_22 : decode cX9_cart 22 = .ok (.istore_n 2, 1) := by decide +kernel
theorem dX9_cart_23 : decode cX9_cart 23 = .ok (.aload_n 0, 1) := by decide +kernel
theorem dX9_cart_24 : decode cX9_cart 24 = .ok (.getfield 35, 3) := by decide +kernel
theorem dX9_cart_27 : decode cX9_cart 27 = .ok (.getfield 127, 3) := by decide +kernel
theorem dX9_cart_30 : decode cX9_cart 30 = .ok (.iload_n 1, 1) := by decide +kernel
theorem dX9_cart_31 : decode cX9_cart 31 = .ok (.bipush 9, 2) := by decide +kernel
theorem dX9_cart_33 : decode cX9_cart 33 = .ok (.iastore, 1) := by decide +kernel
theorem dX9_cart_34 : decode cX9_cart 34 = .ok (.iload_n 2, 1) := by decide +kernel
theorem dX9_cart_35 : decode cX9_cart 35 = .ok (.ireturn, 1) := by decide +kernel
set_option maxRecDepth 20000 in
theorem ggX9_exchange_X2_isPlank : GoodIn wsX9_exchange wsX2_isPlank := goodIn_r _ [7, 8, 26, 27, 28, 29, 30, 31, 32, 33, 34, 35, 36, 37] (by decide +kernel) (by decide +kernel)
set_option maxRecDepth 20000 in
theorem gX9_exchange_X2_isPlank : GoodIn wsX9_exchange (wsV RX9 117 RX2 yX2_isPlank wsX2_isPlank) := goodIn_app (goodIn_of _ (by decide +kernel)) ggX9_exchange_X2_isPlank
set_option maxRecDepth 20000 in
theorem ggX9_exchange_X3_swap : GoodIn wsX9_exchange wsX3_swap := goodIn_r _ [13, 14, 38, 39, 40, 41] (by decide +kernel) (by decide +kernel)
set_option maxRecDepth 20000 in
theorem gX9_exchange_X3_swap : GoodIn wsX9_exchange (wsV RX9 188 RX3 yX3_swap wsX3_swap) := goodIn_app (goodIn_of _ (by decide +kernel)) ggX9_exchange_X3_swap
theorem dX9_exchange_0 : decode cX9_exchange 0 = .ok (.aload_n 0, 1) := by decide +kernel
theorem dX9_exchange_1 : decode cX9_exchange 1 = .ok (.getfield 19, 3) := by decide +kernel
theorem dX9_exchange_4 : decode cX9_exchange 4 = .ok (.iload_n 1, 1) := by decide +kernel
theorem dX9_exchange_5 : decode cX9_exchange 5 = .ok (.invokevirtual 117, 3) := by decide +kernel
theorem dX9_exchange_8 : decode cX9_exchange 8 = .ok (.ifCond .eq 19, 3) := by decide +kernel
theorem dX9_exchange_11 : decode cX9_exchange 11 = .ok (.aload_n 0, 1) := by decide +kernel
theorem dX9_exchange_12 : decode cX9_exchange 12 = .ok (.getfield 19, 3) := by decide +kernel
theorem dX9_exchange_15 : decode cX9_exchange 15 = .ok (.iload_n 2, 1) := by decide +kernel
theorem dX9_exchange_16 : decode cX9_exchange 16 = .ok (.invokevirtual 117, 3) := by decide +kernel
theorem dX9_exchange_19 : decode cX9_exchange 19 = .ok (.ifCond .eq 8, 3) := by decide +kernel
theorem dX9_exchange_22 : decode cX9_exchange 22 = .ok (.iload_n 1, 1) := by decide +kernel
theorem dX9_exchange_23 : decode cX9_exchange 23 = .ok (.iload_n 2, 1) := by decide +kernel
theorem dX9_exchange_24 : decode cX9_exchange 24 = .ok (.if_icmp .ne 5, 3) := by decide +kernel
theorem dX9_exchange_27 : decode cX9_exchange 27 = .ok (.iconst (-1), 1) := by decide +kernel
theorem dX9_exchange_28 : decode cX9_exchange 28 = .ok (.ireturn, 1) := by decide +kernel
theorem dX9_exchange_29 : decode cX9_exchange 29 = .ok (.aload_n 0, 1) := by decide +kernel
theorem dX9_exchange_30 : decode cX9_exchange 30 = .ok (.getfield 35, 3) := by decide +kernel
theorem dX9_exchange_33 : decode cX9_exchange 33 = .ok (.iload_n 1, 1) := by decide +kernel
theorem dX9_exchange_34 : decode cX9_exchange 34 = .ok (.iload_n 2, 1) := by decide +kernel
theorem dX9_exchange_35 : decode cX9_exchange 35 = .ok (.invokevirtual 188, 3) := by decide +kernel
theorem dX9_exchange_38 : decode cX9_exchange 38 = .ok (.iconst 1, 1) := by decide +kernel
theorem dX9_exchange_39 : decode cX9_exchange 39 = .ok (.ireturn, 1) := by decide +kernel
set_option maxRecDepth 20000 in
theorem ggX9_all_X9_isWithin : GoodIn wsX9_all wsX9_isWithin := goodIn_r _ [5] (by decide +kernel) (by decide +kernel)
set_option maxRecDepth 20000 in
theorem gX9_all_X9_isWithin : GoodIn wsX9_all (va_wsS RX9 84 yX9_isWithin wsX9_isWithin) := goodIn_app (goodIn_of _ (by decide +kernel)) ggX9_all_X9_isWithin
set_option maxRecDepth 20000 in
theorem ggX9_all_X5_mostLeft : GoodIn wsX9_all wsX5_mostLeft := goodIn_r _ [10, 11, 12, 13, 14, 15, 16, 17, 18, 19, 20, 21, 9, 22, 23, 24, 25, 26, 27, 28, 29, 30, 31, 32, 33, 34, 35, 36, 37, 38, 39, 40, 41, 42, 43, 44, 45, 4, 46, 47, 48, 49, 50, 62, 63, 64, 65, 66, 67, 68, 69, 70, 71, 72, 73, 74, 75, 76, 77, 78, 79, 80] (by decide +kernel) (by decide +kernel)
set_option maxRecDepth 20000 in
theorem gX9_all_X5_mostLeft : GoodIn wsX9_all (wsV RX9 192 RX5 yX5_mostLeft wsX5_mostLeft) := goodIn_app (goodIn_of _ (by decide +kernel)) ggX9_all_X5_mostLeft
theorem dX9_all_0 : decode cX9_all 0 = .ok (.iload_n 1, 1) := by decide +kernel
theorem dX9_all_1 : decode cX9_all 1 = .ok (.iconst 0, 1) := by decide +kernel
theorem dX9_all_2 : decode cX9_all 2 = .ok (.iconst 1, 1) := by decide +kernel
theorem dX9_all_3 : decode cX9_all 3 = .ok (.invokestatic 84, 3) := by decide +kernel
theorem dX9_all_6 : decode cX9_all 6 = .ok (.ifCond .ne 5, 3) := by decide +kernel
theorem dX9_all_9 : decode cX9_all 9 = .ok (.iconst (-1), 1) := by decide +kernel
theorem dX9_all_10 : decode cX9_all 10 = .ok (.ireturn, 1) := by decide +kernel
theorem dX9_all_11 : decode cX9_all 11 = .ok (.aload_n 0, 1) := by decide +kernel
theorem dX9_all_12 : decode cX9_all 12 = .ok (.getfield 59, 3) := by decide +kernel
theorem dX9_all_15 : decode cX9_all 15 = .ok (.invokevirtual 192, 3) := by decide +kernel
theorem dX9_all_18 : decode cX9_all 18 = .ok (.istore_n 2, 1) := by decide +kernel
theorem dX9_all_19 : decode cX9_all 19 = .ok (.iload_n 1, 1) := by decide +kernel
theorem dX9_all_20 : decode cX9_all 20 = .ok (.iconst 1, 1) := by decide +kernel
theorem dX9_all_21 : decode cX9_all 21 = .ok (.if_icmp .ne 5, 3) := by decide +kernel
theorem dX9_all_24 : decode cX9_all 24 = .ok (.iload_n 2, 1) := by decide +kernel
theorem dX9_all_25 : decode cX9_all 25 = .ok (.ireturn, 1) := by decide +kernel
theorem dX9_all_26 : decode cX9_all 26 = .ok (.iload_n 2, 1) := by decide +kernel
theorem dX9_all_27 : decode cX9_all 27 = .ok (.bipush (-9), 2) := by decide +kernel
theorem dX9_all_29 : decode cX9_all 29 = .ok (.if_icmp .ne 7, 3) := by decide +kernel
theorem dX9_all_32 : decode cX9_all 32 = .ok (.iconst 0, 1) := by decide +kernel
theorem dX9_all_33 : decode cX9_all 33 = .ok (.goto 4, 3) := by decide +kernel
theorem dX9_all_36 : decode cX9_all 36 = .ok (.iconst 1, 1) := by decide +kernel
theorem dX9_all_37 : decode cX9_all 37 = .ok (.ireturn, 1) := by decide +kernel
set_option maxRecDepth 20000 in
theorem ggX9_often_X9_asksBetween : GoodIn wsX9_often wsX9_asksBetween := goodIn_r _ [6, 7, 8, 9, 5, 10, 11, 12, 13, 14, 15, 16, 36, 37, 38, 39, 40, 41, 42, 43, 44, 45, 46, 53, 54, 55, 56, 57, 58, 59, 60, 61, 62, 63, 64] (by decide +kernel) (by decide +kernel)
set_option maxRecDepth 20000 in
theorem gX9_often_X9_asksBetween : GoodIn wsX9_often (wsV RX9 195 RX9 yX9_asksBetween wsX9_asksBetween) := goodIn_app (goodIn_of _ (by decide +kernel)) ggX9_often_X9_asksBetween
set_option maxRecDepth 20000 in
theorem ggX9_often_X0_findLeast : GoodIn wsX9_often wsX0_findLeast := goodIn_r _ [21, 22, 23, 24, 25, 5, 26, 27, 28, 29, 20, 30, 31, 32, 33, 34, 35, 47, 48, 49, 50, 51, 52, 53, 54, 55, 56, 57, 58, 59, 60, 61, 62, 63, 64, 65, 66, 67, 68] (by decide +kernel) (by decide +kernel)
set_option maxRecDepth 20000 in
theorem gX9_often_X0_findLeast : GoodIn wsX9_often (wsV RX9 199 RX0 yX0_findLeast wsX0_findLeast) := goodIn_app (goodIn_of _ (by decide +kernel)) ggX9_often_X0_findLeast
theorem dX9_often_0 : decode cX9_often 0 = .ok (.aload_n 0, 1) := by decide +kernel
theorem dX9_often_1 : decode cX9_often 1 = .ok (.iload_n 1, 1) := by decide +kernel
theorem dX9_often_2 : decode cX9_often 2 = .ok (.iload_n 2, 1) := by decide +kernel
theorem dX9_often_3 : decode cX9_often 3 = .ok (.iload_n 3, 1) := by decide +kernel
theorem dX9_often_4 : decode cX9_often 4 = .ok (.iload 4, 2) := by decide +kernel
theorem dX9_often_6 : decode cX9_often 6 = .ok (.invokevirtual 195, 3) := by decide +kernel
theorem dX9_often_9 : decode cX9_often 9 = .ok (.ifCond .ne 5, 3) := by decide +kernel
theorem dX9_often_12 : decode cX9_often 12 = .ok (.iconst (-1), 1) := by decide +kernel
theorem dX9_often_13 : decode cX9_often 13 = .ok (.ireturn, 1) := by decide +kernel
theorem dX9_often_14 : decode cX9_often 14 = .ok (.aload_n 0, 1) := by decide +kernel
theorem dX9_often_15 : decode cX9_often 15 = .ok (.getfield 66, 3) := by decide +kernel
theorem dX9_often_18 : decode cX9_often 18 = .ok (.iload_n 1, 1) := by decide +kernel
theorem dX9_often_19 : decode cX9_often 19 = .ok (.iload_n 2, 1) := by decide +kernel
theorem dX9_often_20 : decode cX9_often 20 = .ok (.iload_n 3, 1) := by decide +kernel
theorem dX9_often_21 : decode cX9_often 21 = .ok (.invokevirtual 199, 3) := by decide +kernel
theorem dX9_often_24 : decode cX9_often 24 = .ok (.iload 4, 2) := by decide +kernel
theorem dX9_often_26 : decode cX9_often 26 = .ok (.ifCond .ne 13, 3) := by decide +kernel
theorem dX9_often_29 : decode cX9_often 29 = .ok (.aload_n 0, 1) := by decide +kernel
theorem dX9_often_30 : decode cX9_often 30 = .ok (.getfield 66, 3) := by decide +kernel
theorem dX9_often_33 : decode cX9_often 33 = .ok (.getfield 203, 3) := by decide +kernel
theorem dX9_often_36 : decode cX9_often 36 = .ok (.goto 10, 3) := by decide +kernel
theorem dX9_often_39 : decode cX9_often 39 = .ok (.aload_n 0, 1) := by decide +kernel
theorem dX9_often_40 : decode cX9_often 40 = .ok (.getfield 66, 3) := by decide +kernel
theorem dX9_often_43 : decode cX9_often 43 = .ok (.getfield 206, 3) := by decide +kernel
theorem dX9_often_46 : decode cX9_often 46 = .ok (.ireturn, 1) := by decide +kernel
set_option maxRecDepth 20000 in
theorem ggX9_better_X9_asksBetween : GoodIn wsX9_better wsX9_asksBetween := goodIn_r _ [7, 1, 8, 9, 6, 10, 11, 12, 13, 14, 15, 16, 48, 49, 50, 51, 52, 53, 54, 55, 56, 57, 58, 59, 60, 61, 62, 63, 64, 65, 66, 67, 68, 69, 70] (by decide +kernel) (by decide +kernel)
set_option maxRecDepth 20000 in
theorem gX9_better_X9_asksBetween : GoodIn wsX9_better (wsV RX9 195 RX9 yX9_asksBetween wsX9_asksBetween) := goodIn_app (goodIn_of _ (by decide +kernel)) ggX9_better_X9_asksBetween
set_option maxRecDepth 20000 in
theorem ggX9_better_X0_findBestExchange : GoodIn wsX9_better wsX0_findBestExchange := goodIn_r _ [21, 22, 23, 24, 25, 26, 27, 28, 29, 30, 31, 32, 33, 34, 35, 20, 36, 37, 38, 6, 39, 40, 41, 42, 43, 44, 45, 46, 47, 71, 72, 73, 74, 75, 76, 59, 60, 61, 62, 63, 64, 65, 66, 67, 68, 69, 70, 77, 78, 79, 80] (by decide +kernel) (by decide +kernel)
set_option maxRecDepth 20000 in
theorem gX9_better_X0_findBestExchange : GoodIn wsX9_better (wsV RX9 212 RX0 yX0_findBestExchange wsX0_findBestExchange) := goodIn_app (goodIn_of _ (by decide +kernel)) ggX9_better_X0_findBestExchange
theorem dX9_better_0 : decode cX9_better 0 = .ok (.aload_n 0, 1) := by decide +kernel
theorem dX9_better_1 : decode cX9_better 1 = .ok (.iload_n 1, 1) := by decide +kernel
theorem dX9_better_2 : decode cX9_better 2 = .ok (.iload_n 2, 1) := by decide +kernel
theorem dX9_better_3 : decode cX9_better 3 = .ok (.iload_n 3, 1) := by decide +kernel
theorem dX9_better_4 : decode cX9_better 4 = .ok (.iload 4, 2) := by decide +kernel
theorem dX9_better_6 : decode cX9_better 6 = .ok (.invokevirtual 195, 3) := by decide +kernel
theorem dX9_better_9 : decode cX9_better 9 = .ok (.ifCond .ne 5, 3) := by decide +kernel
theorem dX9_better_12 : decode cX9_better 12 = .ok (.iconst (-1), 1) := by decide +kernel
theorem dX9_better_13 : decode cX9_better 13 = .ok (.ireturn, 1) := by decide +kernel
theorem dX9_better_14 : decode cX9_better 14 = .ok (.aload_n 0, 1) := by decide +kernel
theorem dX9_better_15 : decode cX9_better 15 = .ok (.getfield 19, 3) := by decide +kernel
theorem dX9_better_18 : decode cX9_better 18 = .ok (.getfield 209, 3) := by decide +kernel
theorem dX9_better_21 : decode cX9_better 21 = .ok (.iconst 2, 1) := by decide +kernel
theorem dX9_better_22 : decode cX9_better 22 = .ok (.if_icmp .ge 6, 3) := by decide +kernel
theorem dX9_better_25 : decode cX9_better 25 = .ok (.bipush (-9), 2) := by decide +kernel
theorem dX9_better_27 : decode cX9_better 27 = .ok (.ireturn, 1) := by decide +kernel
theorem dX9_better_28 : decode cX9_better 28 = .ok (.aload_n 0, 1) := by decide +kernel
theorem dX9_better_29 : decode cX9_better 29 = .ok (.getfield 66, 3) := by decide +kernel
theorem dX9_better_32 : decode cX9_better 32 = .ok (.iload_n 1, 1) := by decide +kernel
theorem dX9_better_33 : decode cX9_better 33 = .ok (.iload_n 2, 1) := by decide +kernel
theorem dX9_better_34 : decode cX9_better 34 = .ok (.iload_n 3, 1) := by decide +kernel
theorem dX9_better_35 : decode cX9_better 35 = .ok (.invokevirtual 212, 3) := by decide +kernel
theorem dX9_better_38 : decode cX9_better 38 = .ok (.iload 4, 2) := by decide +kernel
theorem dX9_better_40 : decode cX9_better 40 = .ok (.ifCond .ne 13, 3) := by decide +kernel
theorem dX9_better_43 : decode cX9_better 43 = .ok (.aload_n 0, 1) := by decide +kernel
theorem dX9_better_44 : decode cX9_better 44 = .ok (.getfield 66, 3) := by decide +kernel
theorem dX9_better_47 : decode cX9_better 47 = .ok (.getfield 215, 3) := by decide +kernel
theorem dX9_better_50 : decode cX9_better 50 = .ok (.goto 10, 3) := by decide +kernel
theorem dX9_better_53 : decode cX9_better 53 = .ok (.aload_n 0, 1) := by decide +kernel
theorem dX9_better_54 : decode cX9_better 54 = .ok (.getfield 66, 3) := by decide +kernel
theorem dX9_better_57 : decode cX9_better 57 = .ok (.getfield 218, 3) := by decide +kernel
theorem dX9_better_60 : decode cX9_better 60 = .ok (.ireturn, 1) := by decide +kernel
set_option maxRecDepth 20000 in
theorem ggX9_spent_X9_isImage : GoodIn wsX9_spent wsX9_isImage := goodIn_r _ [8, 9, 10, 7, 11] (by decide +kernel) (by decide +kernel)
set_option maxRecDepth 20000 in
theorem gX9_spent_X9_isImage : GoodIn wsX9_spent (va_wsS RX9 221 yX9_isImage wsX9_isImage) := goodIn_app (goodIn_of _ (by decide +kernel)) ggX9_spent_X9_isImage
set_option maxRecDepth 20000 in
theorem ggX9_spent_X2_isPlank : GoodIn wsX9_spent wsX2_isPlank := goodIn_r _ [16, 17, 45, 46, 47, 48, 49, 50, 51, 52, 53, 54, 55, 56] (by decide +kernel) (by decide +kernel)
set_option maxRecDepth 20000 in
theorem gX9_spent_X2_isPlank : GoodIn wsX9_spent (wsV RX9 117 RX2 yX2_isPlank wsX2_isPlank) := goodIn_app (goodIn_of _ (by decide +kernel)) ggX9_spent_X2_isPlank
set_option maxRecDepth 20000 in
theorem ggX9_spent_X6_spentByAll : GoodIn wsX9_spent wsX6_spentByAll := goodIn_r _ [22, 23, 24, 25, 26, 21, 27, 28, 29, 30, 31, 32, 57, 58, 59, 45, 46, 47, 48, 49, 50, 51, 52, 53, 54, 55, 56, 60, 61, 62, 63] (by decide +kernel) (by decide +kernel)
set_option maxRecDepth 20000 in
theorem gX9_spent_X6_spentByAll : GoodIn wsX9_spent (wsV RX9 224 RX6 yX6_spentByAll wsX6_spentByAll) := goodIn_app (goodIn_of _ (by decide +kernel)) ggX9_spent_X6_spentByAll
set_option maxRecDepth 20000 in
theorem ggX9_spent_X6_spentBy : GoodIn wsX9_spent wsX6_spentBy := goodIn_r _ [27, 28, 29, 30, 31, 32, 60, 61, 62, 63, 57, 58, 59] (by decide +kernel) (by decide +kernel)
set_option maxRecDepth 20000 in
theorem gX9_spent_X6_spentBy : GoodIn wsX9_spent (wsV RX9 228 RX6 yX6_spentBy wsX6_spentBy) := goodIn_app (goodIn_of _ (by decide +kernel)) ggX9_spent_X6_spentBy
theorem dX9_spent_0 : decode cX9_spent 0 = .ok (.iload_n 1, 1) := by decide +kernel
theorem dX9_spent_1 : decode cX9_spent 1 = .ok (.invokestatic 221, 3) := by decide +kernel
theorem dX9_spent_4 : decode cX9_spent 4 = .ok (.ifCond .eq 19, 3) := by decide +kernel
theorem dX9_spent_7 : decode cX9_spent 7 = .ok (.iload_n 2, 1) := by decide +kernel
theorem dX9_spent_8 : decode cX9_spent 8 = .ok (.iconst (-1), 1) := by decide +kernel
theorem dX9_spent_9 : decode cX9_spent 9 = .ok (.if_icmp .eq 16, 3) := by decide +kernel
theorem dX9_spent_12 : decode cX9_spent 12 = .ok (.aload_n 0, 1) := by decide +kernel
theorem dX9_spent_13 : decode cX9_spent 13 = .ok (.getfield 19, 3) := by decide +kernel
theorem dX9_spent_16 : decode cX9_spent 16 = .ok (.iload_n 2, 1) := by decide +kernel
theorem dX9_spent_17 : decode cX9_spent 17 = .ok (.invokevirtual 117, 3) := by decide +kernel
theorem dX9_spent_20 : decode cX9_spent 20 = .ok (.ifCond .ne 5, 3) := by decide +kernel
theorem dX9_spent_23 : decode cX9_spent 23 = .ok (.iconst (-1), 1) := by decide +kernel
theorem dX9_spent_24 : decode cX9_spent 24 = .ok (.ireturn, 1) := by decide +kernel
theorem dX9_spent_25 : decode cX9_spent 25 = .ok (.aload_n 0, 1) := by decide +kernel
theorem dX9_spent_26 : decode cX9_spent 26 = .ok (.getfield 43, 3) := by decide +kernel
theorem dX9_spent_29 : decode cX9_spent 29 = .ok (.iload_n 1, 1) := by decide +kernel
theorem dX9_spent_30 : decode cX9_spent 30 = .ok (.baload, 1) := by decide +kernel
theorem dX9_spent_31 : decode cX9_spent 31 = .ok (.ifCond .ne 6, 3) := by decide +kernel
theorem dX9_spent_34 : decode cX9_spent 34 = .ok (.bipush (-2), 2) := by decide +kernel
theorem dX9_spent_36 : decode cX9_spent 36 = .ok (.ireturn, 1) := by decide +kernel
theorem dX9_spent_37 : decode cX9_spent 37 = .ok (.aload_n 0, 1) := by decide +kernel
theorem dX9_spent_38 : decode cX9_spent 38 = .ok (.getfield 39, 3) := by decide +kernel
theorem dX9_spent_41 : decode cX9_spent 41 = .ok (.iload_n 1, 1) := by decide +kernel
theorem dX9_spent_42 : decode cX9_spent 42 = .ok (.aaload, 1) := by decide +kernel
theorem dX9_spent_43 : decode cX9_spent 43 = .ok (.astore_n 3, 1) := by decide +kernel
theorem dX9_spent_44 : decode cX9_spent 44 = .ok (.iload_n 2, 1) := by decide +kernel
theorem dX9_spent_45 : decode cX9_spent 45 = .ok (.iconst (-1), 1) := by decide +kernel
theorem dX9_spent_46 : decode cX9_spent 46 = .ok (.if_icmp .ne 14, 3) := by decide +kernel
theorem dX9_spent_49 : decode cX9_spent 49 = .ok (.aload_n 0, 1) := by decide +kernel
theorem dX9_spent_50 : decode cX9_spent 50 = .ok (.getfield 73, 3) := by decide +kernel
theorem dX9_spent_53 : decode cX9_spent 53 = .ok (.aload_n 3, 1) := by decide +kernel
theorem dX9_spent_54 : decode cX9_spent 54 = .ok (.invokevirtual 224, 3) := by decide +kernel
theorem dX9_spent_57 : decode cX9_spent 57 = .ok (.goto 12, 3) := by decide +kernel
theorem dX9_spent_60 : decode cX9_spent 60 = .ok (.aload_n 0, 1) := by decide +kernel
theorem dX9_spent_61 : decode cX9_spent 61 = .ok (.getfield 73, 3) := by decide +kernel
theorem dX9_spent_64 : decode cX9_spent 64 = .ok (.aload_n 3, 1) := by decide +kernel
theorem dX9_spent_65 : decode cX9_spent 65 = .ok (.iload_n 2, 1) := by decide +kernel
theorem dX9_spent_66 : decode cX9_spent 66 = .ok (.invokevirtual 228, 3) := by decide +kernel
theorem dX9_spent_69 : decode cX9_spent 69 = .ok (.ireturn, 1) := by decide +kernel
set_option maxRecDepth 20000 in
theorem ggX9_tell_X9_isImage : GoodIn wsX9_tell wsX9_isImage := goodIn_r _ [9, 10, 11, 8, 12] (by decide +kernel) (by decide +kernel)
set_option maxRecDepth 20000 in
theorem gX9_tell_X9_isImage : GoodIn wsX9_tell (va_wsS RX9 221 yX9_isImage wsX9_isImage) := goodIn_app (goodIn_of _ (by decide +kernel)) ggX9_tell_X9_isImage
set_option maxRecDepth 20000 in
theorem ggX9_tell_X6_waysToTell : GoodIn wsX9_tell wsX6_waysToTell := goodIn_r _ [17, 18, 19, 20, 21, 22, 16, 23, 24, 25, 26, 27, 28, 29, 30, 31, 32, 44, 45, 46, 47, 48, 49, 50, 51, 52, 53, 54, 55, 56, 57, 58, 59, 60, 61, 62] (by decide +kernel) (by decide +kernel)
set_option maxRecDepth 20000 in
theorem gX9_tell_X6_waysToTell : GoodIn wsX9_tell (wsV RX9 234 RX6 yX6_waysToTell wsX6_waysToTell) := goodIn_app (goodIn_of _ (by decide +kernel)) ggX9_tell_X6_waysToTell
theorem dX9_tell_0 : decode cX9_tell 0 = .ok (.iload_n 1, 1) := by decide +kernel
theorem dX9_tell_1 : decode cX9_tell 1 = .ok (.invokestatic 221, 3) := by decide +kernel
theorem dX9_tell_4 : decode cX9_tell 4 = .ok (.ifCond .ne 7, 3) := by decide +kernel
theorem dX9_tell_7 : decode cX9_tell 7 = .ok (.ldc2_w 232, 3) := by decide +kernel
theorem dX9_tell_10 : decode cX9_tell 10 = .ok (.lreturn, 1) := by decide +kernel
theorem dX9_tell_11 : decode cX9_tell 11 = .ok (.aload_n 0, 1) := by decide +kernel
theorem dX9_tell_12 : decode cX9_tell 12 = .ok (.getfield 43, 3) := by decide +kernel
theorem dX9_tell_15 : decode cX9_tell 15 = .ok (.iload_n 1, 1) := by decide +kernel
theorem dX9_tell_16 : decode cX9_tell 16 = .ok (.baload, 1) := by decide +kernel
theorem dX9_tell_17 : decode cX9_tell 17 = .ok (.ifCond .eq 19, 3) := by decide +kernel
theorem dX9_tell_20 : decode cX9_tell 20 = .ok (.aload_n 0, 1) := by decide +kernel
theorem dX9_tell_21 : decode cX9_tell 21 = .ok (.getfield 73, 3) := by decide +kernel
theorem dX9_tell_24 : decode cX9_tell 24 = .ok (.aload_n 0, 1) := by decide +kernel
theorem dX9_tell_25 : decode cX9_tell 25 = .ok (.getfield 39, 3) := by decide +kernel
theorem dX9_tell_28 : decode cX9_tell 28 = .ok (.iload_n 1, 1) := by decide +kernel
theorem dX9_tell_29 : decode cX9_tell 29 = .ok (.aaload, 1) := by decide +kernel
theorem dX9_tell_30 : decode cX9_tell 30 = .ok (.invokevirtual 234, 3) := by decide +kernel
theorem dX9_tell_33 : decode cX9_tell 33 = .ok (.goto 6, 3) := by decide +kernel
theorem dX9_tell_36 : decode cX9_tell 36 = .ok (.ldc2_w 238, 3) := by decide +kernel
theorem dX9_tell_39 : decode cX9_tell 39 = .ok (.lreturn, 1) := by decide +kernel
set_option maxRecDepth 20000 in
theorem ggX9_rate_X2_isPerson : GoodIn wsX9_rate wsX2_isPerson := goodIn_r _ [8, 9, 65, 66, 67, 68, 69, 70, 71, 72, 73, 74, 75, 76] (by decide +kernel) (by decide +kernel)
set_option maxRecDepth 20000 in
theorem gX9_rate_X2_isPerson : GoodIn wsX9_rate (wsV RX9 130 RX2 yX2_isPerson wsX2_isPerson) := goodIn_app (goodIn_of _ (by decide +kernel)) ggX9_rate_X2_isPerson
set_option maxRecDepth 20000 in
theorem ggX9_rate_X1_rateAs : GoodIn wsX9_rate wsX1_rateAs := goodIn_r _ [14, 15, 16, 17, 18, 13, 19, 20, 21, 22, 23, 24, 25, 26, 27, 28, 29, 30, 31, 32, 33, 34, 35, 36, 37, 38, 39, 40, 41, 42, 43, 44, 45, 46, 47, 48, 49, 50, 51, 52, 53, 77, 78, 79, 65, 66, 67, 68, 69, 70, 71, 72, 73, 74, 75, 76, 80, 81, 82, 83] (by decide +kernel) (by decide +kernel)
set_option maxRecDepth 20000 in
theorem gX9_rate_X1_rateAs : GoodIn wsX9_rate (wsV RX9 240 RX1 yX1_rateAs wsX1_rateAs) := goodIn_app (goodIn_of _ (by decide +kernel)) ggX9_rate_X1_rateAs
theorem dX9_rate_0 : decode cX9_rate 0 = .ok (.aload_n 0, 1) := by decide +kernel
theorem dX9_rate_1 : decode cX9_rate 1 = .ok (.getfield 19, 3) := by decide +kernel
theorem dX9_rate_4 : decode cX9_rate 4 = .ok (.iload_n 2, 1) := by decide +kernel
theorem dX9_rate_5 : decode cX9_rate 5 = .ok (.invokevirtual 130, 3) := by decide +kernel
theorem dX9_rate_8 : decode cX9_rate 8 = .ok (.ifCond .eq 15, 3) := by decide +kernel
theorem dX9_rate_11 : decode cX9_rate 11 = .ok (.aload_n 0, 1) := by decide +kernel
theorem dX9_rate_12 : decode cX9_rate 12 = .ok (.getfield 80, 3) := by decide +kernel
theorem dX9_rate_15 : decode cX9_rate 15 = .ok (.iload_n 1, 1) := by decide +kernel
theorem dX9_rate_16 : decode cX9_rate 16 = .ok (.iload_n 2, 1) := by decide +kernel
theorem dX9_rate_17 : decode cX9_rate 17 = .ok (.invokevirtual 240, 3) := by decide +kernel
theorem dX9_rate_20 : decode cX9_rate 20 = .ok (.goto 5, 3) := by decide +kernel
theorem dX9_rate_23 : decode cX9_rate 23 = .ok (.ldc 243, 2) := by decide +kernel
theorem dX9_rate_25 : decode cX9_rate 25 = .ok (.ireturn, 1) := by decide +kernel
set_option maxRecDepth 20000 in
theorem ggX9_keep_X9_isImage : GoodIn wsX9_keep wsX9_isImage := goodIn_r _ [7, 8, 9, 6, 10] (by decide +kernel) (by decide +kernel)
set_option maxRecDepth 20000 in
theorem gX9_keep_X9_isImage : GoodIn wsX9_keep (va_wsS RX9 221 yX9_isImage wsX9_isImage) := goodIn_app (goodIn_of _ (by decide +kernel)) ggX9_keep_X9_isImage
set_option maxRecDepth 20000 in
theorem ggX9_keep_X3_becomes : GoodIn wsX9_keep wsX3_becomes := goodIn_r _ [15, 16, 17, 18, 19, 20, 21, 22, 23, 43, 44, 45, 46] (by decide +kernel) (by decide +kernel)
set_option maxRecDepth 20000 in
theorem gX9_keep_X3_becomes : GoodIn wsX9_keep (wsV RX9 244 RX3 yX3_becomes wsX3_becomes) := goodIn_app (goodIn_of _ (by decide +kernel)) ggX9_keep_X3_becomes
set_option maxRecDepth 20000 in
theorem ggX9_keep_X3_notUnder : GoodIn wsX9_keep wsX3_notUnder := goodIn_r _ [27, 28, 29, 30, 14, 31, 16, 43, 44, 45, 46] (by decide +kernel) (by decide +kernel)
set_option maxRecDepth 20000 in
theorem gX9_keep_X3_notUnder : GoodIn wsX9_keep (wsV RX9 247 RX3 yX3_notUnder wsX3_notUnder) := goodIn_app (goodIn_of _ (by decide +kernel)) ggX9_keep_X3_notUnder
theorem dX9_keep_0 : decode cX9_keep 0 = .ok (.iload_n 1, 1) := by decide +kernel
theorem dX9_keep_1 : decode cX9_keep 1 = .ok (.invokestatic 221, 3) := by decide +kernel
theorem dX9_keep_4 : decode cX9_keep 4 = .ok (.ifCond .ne 5, 3) := by decide +kernel
theorem dX9_keep_7 : decode cX9_keep 7 = .ok (.iconst (-1), 1) := by decide +kernel
theorem dX9_keep_8 : decode cX9_keep 8 = .ok (.ireturn, 1) := by decide +kernel
theorem dX9_keep_9 : decode cX9_keep 9 = .ok (.aload_n 0, 1) := by decide +kernel
theorem dX9_keep_10 : decode cX9_keep 10 = .ok (.getfield 39, 3) := by decide +kernel
theorem dX9_keep_13 : decode cX9_keep 13 = .ok (.iload_n 1, 1) := by decide +kernel
theorem dX9_keep_14 : decode cX9_keep 14 = .ok (.aaload, 1) := by decide +kernel
theorem dX9_keep_15 : decode cX9_keep 15 = .ok (.aload_n 0, 1) := by decide +kernel
theorem dX9_keep_16 : decode cX9_keep 16 = .ok (.getfield 35, 3) := by decide +kernel
theorem dX9_keep_19 : decode cX9_keep 19 = .ok (.invokevirtual 244, 3) := by decide +kernel
theorem dX9_keep_22 : decode cX9_keep 22 = .ok (.aload_n 0, 1) := by decide +kernel
theorem dX9_keep_23 : decode cX9_keep 23 = .ok (.getfield 43, 3) := by decide +kernel
theorem dX9_keep_26 : decode cX9_keep 26 = .ok (.iload_n 1, 1) := by decide +kernel
theorem dX9_keep_27 : decode cX9_keep 27 = .ok (.iconst 1, 1) := by decide +kernel
theorem dX9_keep_28 : decode cX9_keep 28 = .ok (.bastore, 1) := by decide +kernel
theorem dX9_keep_29 : decode cX9_keep 29 = .ok (.aload_n 0, 1) := by decide +kernel
theorem dX9_keep_30 : decode cX9_keep 30 = .ok (.getfield 35, 3) := by decide +kernel
theorem dX9_keep_33 : decode cX9_keep 33 = .ok (.invokevirtual 247, 3) := by decide +kernel
theorem dX9_keep_36 : decode cX9_keep 36 = .ok (.ireturn, 1) := by decide +kernel
set_option maxRecDepth 20000 in
theorem ggX9_back_X9_isImage : GoodIn wsX9_back wsX9_isImage := goodIn_r _ [7, 8, 9, 6, 10] (by decide +kernel) (by decide +kernel)
set_option maxRecDepth 20000 in
theorem gX9_back_X9_isImage : GoodIn wsX9_back (va_wsS RX9 221 yX9_isImage wsX9_isImage) := goodIn_app (goodIn_of _ (by decide +kernel)) ggX9_back_X9_isImage
set_option maxRecDepth 20000 in
theorem ggX9_back_X3_becomes : GoodIn wsX9_back wsX3_becomes := goodIn_r _ [15, 16, 17, 18, 19, 20, 21, 22, 23, 43, 44, 45, 46] (by decide +kernel) (by decide +kernel)
set_option maxRecDepth 20000 in
theorem gX9_back_X3_becomes : GoodIn wsX9_back (wsV RX9 244 RX3 yX3_becomes wsX3_becomes) := goodIn_app (goodIn_of _ (by decide +kernel)) ggX9_back_X3_becomes
set_option maxRecDepth 20000 in
theorem ggX9_back_X3_notUnder : GoodIn wsX9_back wsX3_notUnder := goodIn_r _ [27, 28, 29, 30, 14, 31, 16, 43, 44, 45, 46] (by decide +kernel) (by decide +kernel)
set_option maxRecDepth 20000 in
theorem gX9_back_X3_notUnder : GoodIn wsX9_back (wsV RX9 247 RX3 yX3_notUnder wsX3_notUnder) := goodIn_app (goodIn_of _ (by decide +kernel)) ggX9_back_X3_notUnder
theorem dX9_back_0 : decode cX9_back 0 = .ok (.iload_n 1, 1) := by decide +kernel
theorem dX9_back_1 : decode cX9_back 1 = .ok (.invokestatic 221, 3) := by decide +kernel
theorem dX9_back_4 : decode cX9_back 4 = .ok (.ifCond .ne 5, 3) := by decide +kernel
theorem dX9_back_7 : decode cX9_back 7 = .ok (.iconst (-1), 1) := by decide +kernel
theorem dX9_back_8 : decode cX9_back 8 = .ok (.ireturn, 1) := by decide +kernel
theorem dX9_back_9 : decode cX9_back 9 = .ok (.aload_n 0, 1) := by decide +kernel
theorem dX9_back_10 : decode cX9_back 10 = .ok (.getfield 43, 3) := by decide +kernel
theorem dX9_back_13 : decode cX9_back 13 = .ok (.iload_n 1, 1) := by decide +kernel
theorem dX9_back_14 : decode cX9_back 14 = .ok (.baload, 1) := by decide +kernel
theorem dX9_back_15 : decode cX9_back 15 = .ok (.ifCond .ne 6, 3) := by decide +kernel
theorem dX9_back_18 : decode cX9_back 18 = .ok (.bipush (-2), 2) := by decide +kernel
theorem dX9_back_20 : decode cX9_back 20 = .ok (.ireturn, 1) := by decide +kernel
theorem dX9_back_21 : decode cX9_back 21 = .ok (.aload_n 0, 1) := by decide +kernel
theorem dX9_back_22 : decode cX9_back 22 = .ok (.getfield 35, 3) := by decide +kernel
theorem dX9_back_25 : decode cX9_back 25 = .ok (.aload_n 0, 1) := by decide +kernel
theorem dX9_back_26 : decode cX9_back 26 = .ok (.getfield 39, 3) := by decide +kernel
theorem dX9_back_29 : decode cX9_back 29 = .ok (.iload_n 1, 1) := by decide +kernel
theorem dX9_back_30 : decode cX9_back 30 = .ok (.aaload, 1) := by decide +kernel
theorem dX9_back_31 : decode cX9_back 31 = .ok (.invokevirtual 244, 3) := by decide +kernel
theorem dX9_back_34 : decode cX9_back 34 = .ok (.aload_n 0, 1) := by decide +kernel
theorem dX9_back_35 : decode cX9_back 35 = .ok (.getfield 35, 3) := by decide +kernel
theorem dX9_back_38 : decode cX9_back 38 = .ok (.invokevirtual 247, 3) := by decide +kernel
theorem dX9_back_41 : decode cX9_back 41 = .ok (.ireturn, 1) := by decide +kernel
set_option maxRecDepth 20000 in
theorem ggX9_count_X3_borneByAll : GoodIn wsX9_count wsX3_borneByAll := goodIn_r _ [8, 9, 33, 34, 35, 36] (by decide +kernel) (by decide +kernel)
set_option maxRecDepth 20000 in
theorem gX9_count_X3_borneByAll : GoodIn wsX9_count (wsV RX9 259 RX3 yX3_borneByAll wsX3_borneByAll) := goodIn_app (goodIn_of _ (by decide +kernel)) ggX9_count_X3_borneByAll
theorem dX9_count_0 : decode cX9_count 0 = .ok (.iload_n 1, 1) := by decide +kernel
theorem dX9_count_1 : decode cX9_count 1 = .ok (.tableswitch 99 0 6 #[43, 51, 59, 67, 75, 83, 91], 43) := by decide +kernel
theorem dX9_count_44 : decode cX9_count 44 = .ok (.aload_n 0, 1) := by decide +kernel
theorem dX9_count_45 : decode cX9_count 45 = .ok (.getfield 19, 3) := by decide +kernel
theorem dX9_count_48 : decode cX9_count 48 = .ok (.getfield 250, 3) := by decide +kernel
theorem dX9_count_51 : decode cX9_count 51 = .ok (.ireturn, 1) := by decide +kernel
theorem dX9_count_52 : decode cX9_count 52 = .ok (.aload_n 0, 1) := by decide +kernel
theorem dX9_count_53 : decode cX9_count 53 = .ok (.getfield 19, 3) := by decide +kernel
theorem dX9_count_56 : decode cX9_count 56 = .ok (.getfield 209, 3) := by decide +kernel
theorem dX9_count_59 : decode cX9_count 59 = .ok (.ireturn, 1) := by decide +kernel
theorem dX9_count_60 : decode cX9_count 60 = .ok (.aload_n 0, 1) := by decide +kernel
theorem dX9_count_61 : decode cX9_count 61 = .ok (.getfield 19, 3) := by decide +kernel
theorem dX9_count_64 : decode cX9_count 64 = .ok (.getfield 253, 3) := by decide +kernel
theorem dX9_count_67 : decode cX9_count 67 = .ok (.ireturn, 1) := by decide +kernel
theorem dX9_count_68 : decode cX9_count 68 = .ok (.aload_n 0, 1) := by decide +kernel
theorem dX9_count_69 : decode cX9_count 69 = .ok (.getfield 19, 3) := by decide +kernel
theorem dX9_count_72 : decode cX9_count 72 = .ok (.getfield 256, 3) := by decide +kernel
theorem dX9_count_75 : decode cX9_count 75 = .ok (.ireturn, 1) := by decide +kernel
theorem dX9_count_76 : decode cX9_count 76 = .ok (.aload_n 0, 1) := by decide +kernel
theorem dX9_count_77 : decode cX9_count 77 = .ok (.getfield 35, 3) := by decide +kernel
theorem dX9_count_80 : decode cX9_count 80 = .ok (.getfield 176, 3) := by decide +kernel
theorem dX9_count_83 : decode cX9_count 83 = .ok (.ireturn, 1) := by decide +kernel
theorem dX9_count_84 : decode cX9_count 84 = .ok (.aload_n 0, 1) := by decide +kernel
theorem dX9_count_85 : decode cX9_count 85 = .ok (.getfield 35, 3) := by decide +kernel
theorem dX9_count_88 : decode cX9_count 88 = .ok (.invokevirtual 259, 3) := by decide +kernel
theorem dX9_count_91 : decode cX9_count 91 = .ok (.ireturn, 1) := by decide +kernel
theorem dX9_count_92 : decode cX9_count 92 = .ok (.aload_n 0, 1) := by decide +kernel
theorem dX9_count_93 : decode cX9_count 93 = .ok (.getfield 12, 3) := by decide +kernel
theorem dX9_count_96 : decode cX9_count 96 = .ok (.getfield 96, 3) := by decide +kernel
theorem dX9_count_99 : decode cX9_count 99 = .ok (.ireturn, 1) := by decide +kernel
theorem dX9_count_100 : decode cX9_count 100 = .ok (.iconst (-1), 1) := by decide +kernel
theorem dX9_count_101 : decode cX9_count 101 = .ok (.ireturn, 1) := by decide +kernel
theorem dX9_trace_0 : decode cX9_trace 0 = .ok (.aload_n 0, 1) := by decide +kernel
theorem dX9_trace_1 : decode cX9_trace 1 = .ok (.getfield 80, 3) := by decide +kernel
theorem dX9_trace_4 : decode cX9_trace 4 = .ok (.getfield 262, 3) := by decide +kernel
theorem dX9_trace_7 : decode cX9_trace 7 = .ok (.lreturn, 1) := by decide +kernel
theorem dX9_isWithin_0 : decode cX9_isWithin 0 = .ok (.iload_n 0, 1) := by decide +kernel
theorem dX9_isWithin_1 : decode cX9_isWithin 1 = .ok (.iload_n 1, 1) := by decide +kernel
theorem dX9_isWithin_2 : decode cX9_isWithin 2 = .ok (.if_icmp .lt 12, 3) := by decide +kernel
theorem dX9_isWithin_5 : decode cX9_isWithin 5 = .ok (.iload_n 0, 1) := by decide +kernel
theorem dX9_isWithin_6 : decode cX9_isWithin 6 = .ok (.iload_n 2, 1) := by decide +kernel
theorem dX9_isWithin_7 : decode cX9_isWithin 7 = .ok (.if_icmp .gt 7, 3) := by decide +kernel
theorem dX9_isWithin_10 : decode cX9_isWithin 10 = .ok (.iconst 1, 1) := by decide +kernel
theorem dX9_isWithin_11 : decode cX9_isWithin 11 = .ok (.goto 4, 3) := by decide +kernel
theorem dX9_isWithin_14 : decode cX9_isWithin 14 = .ok (.iconst 0, 1) := by decide +kernel
theorem dX9_isWithin_15 : decode cX9_isWithin 15 = .ok (.ireturn, 1) := by decide +kernel
theorem dX9_isIn_0 : decode cX9_isIn 0 = .ok (.iload_n 0, 1) := by decide +kernel
theorem dX9_isIn_1 : decode cX9_isIn 1 = .ok (.iload_n 1, 1) := by decide +kernel
theorem dX9_isIn_2 : decode cX9_isIn 2 = .ok (.ishr, 1) := by decide +kernel
theorem dX9_isIn_3 : decode cX9_isIn 3 = .ok (.iconst 1, 1) := by decide +kernel
theorem dX9_isIn_4 : decode cX9_isIn 4 = .ok (.iand, 1) := by decide +kernel
theorem dX9_isIn_5 : decode cX9_isIn 5 = .ok (.iconst 1, 1) := by decide +kernel
theorem dX9_isIn_6 : decode cX9_isIn 6 = .ok (.if_icmp .ne 7, 3) := by decide +kernel
theorem dX9_isIn_9 : decode cX9_isIn 9 = .ok (.iconst 1, 1) := by decide +kernel
theorem dX9_isIn_10 : decode cX9_isIn 10 = .ok (.goto 4, 3) := by decide +kernel
theorem dX9_isIn_13 : decode cX9_isIn 13 = .ok (.iconst 0, 1) := by decide +kernel
theorem dX9_isIn_14 : decode cX9_isIn 14 = .ok (.ireturn, 1) := by decide +kernel
set_option maxRecDepth 20000 in
theorem ggX9_isImage_X9_isWithin : GoodIn wsX9_isImage wsX9_isWithin := goodIn_r _ [4] (by decide +kernel) (by decide +kernel)
set_option maxRecDepth 20000 in
theorem gX9_isImage_X9_isWithin : GoodIn wsX9_isImage (va_wsS RX9 84 yX9_isWithin wsX9_isWithin) := goodIn_app (goodIn_of _ (by decide +kernel)) ggX9_isImage_X9_isWithin
theorem dX9_isImage_0 : decode cX9_isImage 0 = .ok (.iload_n 0, 1) := by decide +kernel
theorem dX9_isImage_1 : decode cX9_isImage 1 = .ok (.iconst 0, 1) := by decide +kernel
theorem dX9_isImage_2 : decode cX9_isImage 2 = .ok (.iconst 1, 1) := by decide +kernel
theorem dX9_isImage_3 : decode cX9_isImage 3 = .ok (.invokestatic 84, 3) := by decide +kernel
theorem dX9_isImage_6 : decode cX9_isImage 6 = .ok (.ireturn, 1) := by decide +kernel
theorem dX9_forgetImages_0 : decode cX9_forgetImages 0 = .ok (.iconst 0, 1) := by decide +kernel
theorem dX9_forgetImages_1 : decode cX9_forgetImages 1 = .ok (.istore_n 1, 1) := by decide +kernel
theorem dX9_forgetImages_2 : decode cX9_forgetImages 2 = .ok (.iload_n 1, 1) := by decide +kernel
theorem dX9_forgetImages_3 : decode cX9_forgetImages 3 = .ok (.iconst 2, 1) := by decide +kernel
theorem dX9_forgetImages_4 : decode cX9_forgetImages 4 = .ok (.if_icmp .ge 16, 3) := by decide +kernel
theorem dX9_forgetImages_7 : decode cX9_forgetImages 7 = .ok (.aload_n 0, 1) := by decide +kernel
theorem dX9_forgetImages_8 : decode cX9_forgetImages 8 = .ok (.getfield 43, 3) := by decide +kernel
theorem dX9_forgetImages_11 : decode cX9_forgetImages 11 = .ok (.iload_n 1, 1) := by decide +kernel
theorem dX9_forgetImages_12 : decode cX9_forgetImages 12 = .ok (.iconst 0, 1) := by decide +kernel
theorem dX9_forgetImages_13 : decode cX9_forgetImages 13 = .ok (.bastore, 1) := by decide +kernel
theorem dX9_forgetImages_14 : decode cX9_forgetImages 14 = .ok (.iinc 1 1, 3) := by decide +kernel
theorem dX9_forgetImages_17 : decode cX9_forgetImages 17 = .ok (.goto (-15), 3) := by decide +kernel
theorem dX9_forgetImages_20 : decode cX9_forgetImages 20 = .ok (.return_, 1) := by decide +kernel
set_option maxRecDepth 20000 in
theorem ggX9_asksBetween_X9_isWithin : GoodIn wsX9_asksBetween wsX9_isWithin := goodIn_r _ [5] (by decide +kernel) (by decide +kernel)
set_option maxRecDepth 20000 in
theorem gX9_asksBetween_X9_isWithin : GoodIn wsX9_asksBetween (va_wsS RX9 84 yX9_isWithin wsX9_isWithin) := goodIn_app (goodIn_of _ (by decide +kernel)) ggX9_asksBetween_X9_isWithin
set_option maxRecDepth 20000 in
theorem ggX9_asksBetween_X2_areTwoPlaces : GoodIn wsX9_asksBetween wsX2_areTwoPlaces := goodIn_r _ [10, 11, 23, 24, 25, 26, 27, 28, 29, 30, 31, 32, 33, 34] (by decide +kernel) (by decide +kernel)
set_option maxRecDepth 20000 in
theorem gX9_asksBetween_X2_areTwoPlaces : GoodIn wsX9_asksBetween (wsV RX9 151 RX2 yX2_areTwoPlaces wsX2_areTwoPlaces) := goodIn_app (goodIn_of _ (by decide +kernel)) ggX9_asksBetween_X2_areTwoPlaces
theorem dX9_asksBetween_0 : decode cX9_asksBetween 0 = .ok (.iload_n 1, 1) := by decide +kernel
theorem dX9_asksBetween_1 : decode cX9_asksBetween 1 = .ok (.iconst 1, 1) := by decide +kernel
theorem dX9_asksBetween_2 : decode cX9_asksBetween 2 = .ok (.iconst 3, 1) := by decide +kernel
theorem dX9_asksBetween_3 : decode cX9_asksBetween 3 = .ok (.invokestatic 84, 3) := by decide +kernel
theorem dX9_asksBetween_6 : decode cX9_asksBetween 6 = .ok (.ifCond .eq 29, 3) := by decide +kernel
theorem dX9_asksBetween_9 : decode cX9_asksBetween 9 = .ok (.aload_n 0, 1) := by decide +kernel
theorem dX9_asksBetween_10 : decode cX9_asksBetween 10 = .ok (.getfield 19, 3) := by decide +kernel
theorem dX9_asksBetween_13 : decode cX9_asksBetween 13 = .ok (.iload_n 2, 1) := by decide +kernel
theorem dX9_asksBetween_14 : decode cX9_asksBetween 14 = .ok (.iload_n 3, 1) := by decide +kernel
theorem dX9_asksBetween_15 : decode cX9_asksBetween 15 = .ok (.invokevirtual 151, 3) := by decide +kernel
theorem dX9_asksBetween_18 : decode cX9_asksBetween 18 = .ok (.ifCond .eq 17, 3) := by decide +kernel
theorem dX9_asksBetween_21 : decode cX9_asksBetween 21 = .ok (.iload 4, 2) := by decide +kernel
theorem dX9_asksBetween_23 : decode cX9_asksBetween 23 = .ok (.iconst 0, 1) := by decide +kernel
theorem dX9_asksBetween_24 : decode cX9_asksBetween 24 = .ok (.iconst 1, 1) := by decide +kernel
theorem dX9_asksBetween_25 : decode cX9_asksBetween 25 = .ok (.invokestatic 84, 3) := by decide +kernel
theorem dX9_asksBetween_28 : decode cX9_asksBetween 28 = .ok (.ifCond .eq 7, 3) := by decide +kernel
theorem dX9_asksBetween_31 : decode cX9_asksBetween 31 = .ok (.iconst 1, 1) := by decide +kernel
theorem dX9_asksBetween_32 : decode cX9_asksBetween 32 = .ok (.goto 4, 3) := by decide +kernel
theorem dX9_asksBetween_35 : decode cX9_asksBetween 35 = .ok (.iconst 0, 1) := by decide +kernel
theorem dX9_asksBetween_36 : decode cX9_asksBetween 36 = .ok (.ireturn, 1) := by decide +kernel
