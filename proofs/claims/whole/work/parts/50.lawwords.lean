theorem mem_r {big : List Cond} (ws : List Cond) (ps : List Nat) (hp : ws = ps.filterMap (fun i => big[i]?)) : ∀ w ∈ ws, w ∈ big := by
  intro w hw
  rw [hp] at hw
  obtain ⟨i, -, hi⟩ := List.mem_filterMap.mp hw
  exact List.mem_of_getElem? hi
set_option maxRecDepth 20000 in
theorem wl_L_law_r1 : ∀ w ∈ wsL_law_r1, w ∈ lw_tbl := mem_r _ [70, 71, 53, 792, 793, 63, 1135, 72, 73, 74, 75, 76, 77, 78, 79, 54, 329, 94, 95, 55, 330, 175, 176, 56] rfl
set_option maxRecDepth 20000 in
theorem wl_L_law_r2 : ∀ w ∈ wsL_law_r2, w ∈ lw_tbl := mem_r _ [331, 206, 207, 57, 332, 333, 250, 334, 234, 235, 58, 335, 251, 252, 59, 336, 267, 268, 60, 337, 296, 297, 61, 338] rfl
set_option maxRecDepth 20000 in
theorem wl_L_law_r3 : ∀ w ∈ wsL_law_r3, w ∈ lw_tbl := mem_r _ [312, 313, 62, 339, 81, 82, 83, 93, 84, 85, 97, 98, 99, 100, 105, 113, 117, 174, 122, 125, 128, 130, 134, 137] rfl
set_option maxRecDepth 20000 in
theorem wl_L_law_r4 : ∀ w ∈ wsL_law_r4, w ∈ lw_tbl := mem_r _ [141, 145, 177, 178, 179, 180, 181, 184, 186, 187, 188, 189, 190, 183, 209, 210, 211, 212, 217, 219, 221, 236, 237, 238] rfl
set_option maxRecDepth 20000 in
theorem wl_L_law_r5 : ∀ w ∈ wsL_law_r5, w ∈ lw_tbl := mem_r _ [239, 242, 240, 241, 253, 254, 255, 256, 259, 257, 258, 269, 270, 271, 272, 275, 277, 279, 281, 273, 274, 298, 299, 300] rfl
set_option maxRecDepth 20000 in
theorem wl_L_law_r6 : ∀ w ∈ wsL_law_r6, w ∈ lw_tbl := mem_r _ [301, 304, 302, 303, 314, 315, 316, 317, 320, 318, 319, 794, 795, 796, 797, 800, 807, 808, 809, 810, 811, 812, 821, 822] rfl
set_option maxRecDepth 20000 in
theorem wl_L_law_r7 : ∀ w ∈ wsL_law_r7, w ∈ lw_tbl := mem_r _ [823, 824, 825, 826, 827, 828, 829, 830, 831, 813, 363, 364, 365, 366, 367, 368, 369, 370, 371, 372, 373, 374, 375, 376] rfl
set_option maxRecDepth 20000 in
theorem wl_L_law_r8 : ∀ w ∈ wsL_law_r8, w ∈ lw_tbl := mem_r _ [377, 901, 902, 903, 904, 798, 801, 908, 905, 906, 907, 378, 379, 380, 381, 909, 910, 911, 912, 382, 383, 384, 385, 386] rfl
set_option maxRecDepth 20000 in
theorem wl_L_law_r9 : ∀ w ∈ wsL_law_r9, w ∈ lw_tbl := mem_r _ [387, 388, 389, 390, 391, 392, 393, 394, 396, 0, 397, 398, 399, 400, 401, 402, 403, 404, 405, 407, 1, 408, 409, 410] rfl
set_option maxRecDepth 20000 in
theorem wl_L_law_r10 : ∀ w ∈ wsL_law_r10, w ∈ lw_tbl := mem_r _ [64, 411, 412, 413, 414, 415, 417, 2, 418, 420, 422, 3, 423, 424, 425, 426, 65, 427, 1136, 428, 429, 430, 431, 432] rfl
set_option maxRecDepth 20000 in
theorem wl_L_law_r11 : ∀ w ∈ wsL_law_r11, w ∈ lw_tbl := mem_r _ [1137, 434, 435, 436, 437, 438, 439, 440, 441, 442, 443, 66, 444, 445, 446, 447, 448, 450, 451, 67, 452, 453, 454, 68] rfl
set_option maxRecDepth 20000 in
theorem wl_L_law_r12 : ∀ w ∈ wsL_law_r12, w ∈ lw_tbl := mem_r _ [455, 456, 457, 458, 459, 460, 461, 462, 463, 464, 465, 466, 468, 470, 475, 477, 4, 478, 479, 481, 5, 482, 483, 485] rfl
set_option maxRecDepth 20000 in
theorem wl_L_law_r13 : ∀ w ∈ wsL_law_r13, w ∈ lw_tbl := mem_r _ [6, 486, 488, 490, 7, 491, 492, 494, 8, 495, 496, 497, 498, 499, 500, 501, 502, 503, 504, 505, 506, 507, 508, 509] rfl
set_option maxRecDepth 20000 in
theorem wl_L_law_r14 : ∀ w ∈ wsL_law_r14, w ∈ lw_tbl := mem_r _ [510, 511, 512, 514, 513, 69, 515, 516, 517, 518, 519, 521, 9, 522, 913, 914, 915, 916, 806, 802, 817, 818, 819, 820] rfl
set_option maxRecDepth 20000 in
theorem wl_L_law_r15 : ∀ w ∈ wsL_law_r15, w ∈ lw_tbl := mem_r _ [803, 805, 814, 815, 816, 917, 919, 23, 920, 804, 921, 923, 24, 924, 925, 926, 927, 928, 929, 930, 931, 932, 933, 934] rfl
set_option maxRecDepth 20000 in
theorem wl_L_law_r16 : ∀ w ∈ wsL_law_r16, w ∈ lw_tbl := mem_r _ [935, 937, 25, 938, 939, 941, 26, 942, 943, 945, 27, 946, 947, 949, 28, 950, 951, 953, 29, 954, 523, 524, 525, 526] rfl
set_option maxRecDepth 20000 in
theorem wl_L_law_r17 : ∀ w ∈ wsL_law_r17, w ∈ lw_tbl := mem_r _ [527, 528, 529, 530, 955, 956, 957, 958, 959, 961, 30, 962, 531, 532, 533, 534, 535, 536, 537, 538, 963, 964, 965, 966] rfl
set_option maxRecDepth 20000 in
theorem wl_L_law_r18 : ∀ w ∈ wsL_law_r18, w ∈ lw_tbl := mem_r _ [967, 969, 31, 970, 539, 540, 541, 542, 543, 544, 545, 546, 971, 972, 973, 974, 547, 548, 549, 550, 551, 552, 553, 554] rfl
set_option maxRecDepth 20000 in
theorem wl_L_law_r19 : ∀ w ∈ wsL_law_r19, w ∈ lw_tbl := mem_r _ [555, 556, 557, 558, 559, 561, 10, 562, 563, 564, 565, 566, 567, 568, 569, 570, 572, 573, 574, 575, 576, 577, 578, 579] rfl
set_option maxRecDepth 20000 in
theorem wl_L_law_r20 : ∀ w ∈ wsL_law_r20, w ∈ lw_tbl := mem_r _ [580, 581, 975, 976, 977, 978, 979, 981, 32, 982, 983, 985, 33, 986, 987, 989, 34, 990, 991, 993, 35, 994, 995, 997] rfl
set_option maxRecDepth 20000 in
theorem wl_L_law_r21 : ∀ w ∈ wsL_law_r21, w ∈ lw_tbl := mem_r _ [36, 998, 582, 583, 584, 585, 586, 587, 588, 589, 590, 591, 592, 593, 999, 1000, 1001, 1002, 1003, 1005, 37, 1006, 1007, 1009] rfl
set_option maxRecDepth 20000 in
theorem wl_L_law_r22 : ∀ w ∈ wsL_law_r22, w ∈ lw_tbl := mem_r _ [38, 1010, 594, 595, 596, 597, 598, 599, 1011, 1012, 1013, 1014, 600, 601, 602, 603, 604, 605, 606, 607, 608, 609, 1015, 1016] rfl
set_option maxRecDepth 20000 in
theorem wl_L_law_r23 : ∀ w ∈ wsL_law_r23, w ∈ lw_tbl := mem_r _ [1017, 1018, 610, 611, 612, 613, 1019, 1020, 1021, 1022, 614, 615, 616, 617, 618, 619, 620, 621, 1023, 1024, 1025, 1026, 622, 623] rfl
set_option maxRecDepth 20000 in
theorem wl_L_law_r24 : ∀ w ∈ wsL_law_r24, w ∈ lw_tbl := mem_r _ [624, 625, 1027, 1028, 1029, 1030, 626, 627, 628, 629, 630, 631, 632, 633, 1031, 1032, 1033, 1034, 1035, 1037, 39, 1038, 634, 635] rfl
set_option maxRecDepth 20000 in
theorem wl_L_law_r25 : ∀ w ∈ wsL_law_r25, w ∈ lw_tbl := mem_r _ [636, 637, 638, 639, 640, 641, 642, 643, 644, 645, 646, 648, 11, 649, 650, 651, 652, 653, 655, 12, 656, 657, 658, 659] rfl
set_option maxRecDepth 20000 in
theorem wl_L_law_r26 : ∀ w ∈ wsL_law_r26, w ∈ lw_tbl := mem_r _ [1039, 1040, 1041, 1042, 1043, 1045, 40, 1046, 1047, 1049, 41, 1050, 1051, 1053, 42, 1054, 1055, 1057, 43, 1058, 1059, 1061, 44, 1062] rfl
set_option maxRecDepth 20000 in
theorem wl_L_law_r27 : ∀ w ∈ wsL_law_r27, w ∈ lw_tbl := mem_r _ [1063, 1065, 45, 1066, 660, 661, 662, 663, 664, 666, 13, 667, 668, 669, 670, 671, 673, 675, 14, 676, 677, 679, 15, 680] rfl
set_option maxRecDepth 20000 in
theorem wl_L_law_r28 : ∀ w ∈ wsL_law_r28, w ∈ lw_tbl := mem_r _ [1067, 1068, 1069, 1070, 1071, 1073, 46, 1074, 1075, 1077, 47, 1078, 1079, 1081, 48, 1082, 681, 682, 683, 684, 685, 686, 687, 688] rfl
set_option maxRecDepth 20000 in
theorem wl_L_law_r29 : ∀ w ∈ wsL_law_r29, w ∈ lw_tbl := mem_r _ [689, 690, 1083, 1084, 1085, 1086, 691, 692, 693, 694, 695, 696, 697, 698, 699, 700, 701, 702, 703, 704, 705, 706, 707, 1087] rfl
set_option maxRecDepth 20000 in
theorem wl_L_law_r30 : ∀ w ∈ wsL_law_r30, w ∈ lw_tbl := mem_r _ [1088, 1089, 1090, 1091, 1093, 49, 1094, 708, 709, 710, 711, 712, 721, 713, 714, 715, 716, 717, 719, 16, 720, 1095, 1096, 1097] rfl
set_option maxRecDepth 20000 in
theorem wl_L_law_r31 : ∀ w ∈ wsL_law_r31, w ∈ lw_tbl := mem_r _ [1098, 1099, 1100, 1101, 1103, 50, 1104, 722, 723, 724, 725, 764, 726, 727, 728, 729, 763, 730, 732, 17, 733, 734, 736, 18] rfl
set_option maxRecDepth 20000 in
theorem wl_L_law_r32 : ∀ w ∈ wsL_law_r32, w ∈ lw_tbl := mem_r _ [737, 738, 739, 740, 741, 742, 743, 745, 19, 746, 747, 748, 750, 20, 751, 752, 753, 755, 21, 756, 757, 758, 760, 22] rfl
set_option maxRecDepth 20000 in
theorem wl_L_law_r33 : ∀ w ∈ wsL_law_r33, w ∈ lw_tbl := mem_r _ [761, 762, 1105, 1106, 1107, 1108, 1109, 799, 1110, 1111, 1112, 1113, 1114, 765, 766, 767, 768, 769, 770, 771, 772, 773, 774, 775] rfl
set_option maxRecDepth 20000 in
theorem wl_L_law_r34 : ∀ w ∈ wsL_law_r34, w ∈ lw_tbl := mem_r _ [776, 777, 778, 1115, 1116, 1117, 1118, 1119, 1121, 51, 1122, 779, 780, 781, 782, 1123, 1124, 1125, 1126, 783, 784, 785, 786, 787] rfl
set_option maxRecDepth 20000 in
theorem wl_L_law_r35 : ∀ w ∈ wsL_law_r35, w ∈ lw_tbl := mem_r _ [1127, 1128, 1129, 1130, 788, 789, 790, 791, 1131, 1132, 1133, 1134] rfl
set_option maxRecDepth 20000 in
theorem wlC_X90 : ∀ w ∈ wsX90, w ∈ lw_tbl := mem_r _ [340, 342, 344, 346, 348, 350, 352, 354, 356, 358, 360] rfl
set_option maxRecDepth 20000 in
theorem wlC_X100 : ∀ w ∈ wsX100, w ∈ lw_tbl := mem_r _ [832, 834, 836, 838, 840, 842, 844, 846, 848, 850, 852, 854, 856, 858, 860, 862, 864, 866, 868, 870, 872, 874, 876, 878, 880, 882, 884, 886, 888, 890, 892, 894, 896, 898] rfl
set_option maxRecDepth 20000 in
theorem wlC_X70 : ∀ w ∈ wsX70, w ∈ lw_tbl := mem_r _ [88, 90] rfl
set_option maxRecDepth 20000 in
theorem wlC_X20 : ∀ w ∈ wsX20, w ∈ lw_tbl := mem_r _ [149, 151, 153, 155, 157, 159, 161, 163, 165, 167, 169, 171] rfl
set_option maxRecDepth 20000 in
theorem wlC_X40 : ∀ w ∈ wsX40, w ∈ lw_tbl := mem_r _ [191, 193, 195, 197, 199, 201, 203] rfl
set_option maxRecDepth 20000 in
theorem wlC_X30 : ∀ w ∈ wsX30, w ∈ lw_tbl := mem_r _ [224, 226, 228, 230] rfl
set_option maxRecDepth 20000 in
theorem wlC_X80 : ∀ w ∈ wsX80, w ∈ lw_tbl := mem_r _ [243, 245, 247] rfl
set_option maxRecDepth 20000 in
theorem wlC_X50 : ∀ w ∈ wsX50, w ∈ lw_tbl := mem_r _ [260, 262, 264] rfl
set_option maxRecDepth 20000 in
theorem wlC_X00 : ∀ w ∈ wsX00, w ∈ lw_tbl := mem_r _ [283, 285, 287, 289, 291, 293] rfl
set_option maxRecDepth 20000 in
theorem wlC_X60 : ∀ w ∈ wsX60, w ∈ lw_tbl := mem_r _ [305, 307, 309] rfl
set_option maxRecDepth 20000 in
theorem wlC_X10 : ∀ w ∈ wsX10, w ∈ lw_tbl := mem_r _ [322, 324, 326] rfl
theorem wsL_law_in : ∀ w ∈ wsL_law, w ∈ lw_tbl := fun w => fun h => (List.mem_append.mp h).elim (fun h => (List.mem_append.mp h).elim (fun h => (List.mem_append.mp h).elim (fun h => (List.mem_append.mp h).elim (fun h => (List.mem_append.mp h).elim (fun h => (List.mem_append.mp h).elim (fun h => (List.mem_append.mp h).elim (fun h => (List.mem_append.mp h).elim (fun h => (List.mem_append.mp h).elim (fun h => (List.mem_append.mp h).elim (fun h => (List.mem_append.mp h).elim (fun h => (List.mem_append.mp h).elim (fun h => (List.mem_append.mp h).elim (wl_L_law_r1 w) (fun h => (List.mem_append.mp h).elim (wl_L_law_r2 w) (fun h => (List.mem_append.mp h).elim (wl_L_law_r3 w) (fun h => (List.mem_append.mp h).elim (wl_L_law_r4 w) (fun h => (List.mem_append.mp h).elim (wl_L_law_r5 w) (fun h => (List.mem_append.mp h).elim (wl_L_law_r6 w) (fun h => (List.mem_append.mp h).elim (wl_L_law_r7 w) (fun h => (List.mem_append.mp h).elim (wl_L_law_r8 w) (fun h => (List.mem_append.mp h).elim (wl_L_law_r9 w) (fun h => (List.mem_append.mp h).elim (wl_L_law_r10 w) (fun h => (List.mem_append.mp h).elim (wl_L_law_r11 w) (fun h => (List.mem_append.mp h).elim (wl_L_law_r12 w) (fun h => (List.mem_append.mp h).elim (wl_L_law_r13 w) (fun h => (List.mem_append.mp h).elim (wl_L_law_r14 w) (fun h => (List.mem_append.mp h).elim (wl_L_law_r15 w) (fun h => (List.mem_append.mp h).elim (wl_L_law_r16 w) (fun h => (List.mem_append.mp h).elim (wl_L_law_r17 w) (fun h => (List.mem_append.mp h).elim (wl_L_law_r18 w) (fun h => (List.mem_append.mp h).elim (wl_L_law_r19 w) (fun h => (List.mem_append.mp h).elim (wl_L_law_r20 w) (fun h => (List.mem_append.mp h).elim (wl_L_law_r21 w) (fun h => (List.mem_append.mp h).elim (wl_L_law_r22 w) (fun h => (List.mem_append.mp h).elim (wl_L_law_r23 w) (fun h => (List.mem_append.mp h).elim (wl_L_law_r24 w) (fun h => (List.mem_append.mp h).elim (wl_L_law_r25 w) (fun h => (List.mem_append.mp h).elim (wl_L_law_r26 w) (fun h => (List.mem_append.mp h).elim (wl_L_law_r27 w) (fun h => (List.mem_append.mp h).elim (wl_L_law_r28 w) (fun h => (List.mem_append.mp h).elim (wl_L_law_r29 w) (fun h => (List.mem_append.mp h).elim (wl_L_law_r30 w) (fun h => (List.mem_append.mp h).elim (wl_L_law_r31 w) (fun h => (List.mem_append.mp h).elim (wl_L_law_r32 w) (fun h => (List.mem_append.mp h).elim (wl_L_law_r33 w) (fun h => (List.mem_append.mp h).elim (wl_L_law_r34 w) (fun h => wl_L_law_r35 w h))))))))))))))))))))))))))))))))))) (wlC_X90 w)) (wlC_X100 w)) (wlC_X70 w)) (wlC_X20 w)) (wlC_X40 w)) (wlC_X30 w)) (wlC_X80 w)) (wlC_X50 w)) (wlC_X00 w)) (wlC_X60 w)) (wlC_X10 w)) (fun h => absurd h List.not_mem_nil)
theorem inlX0 : ∀ w ∈ wsX00, w ∈ wsL_law := fun _ h => List.mem_append_left _ (List.mem_append_left _ (List.mem_append_left _ (List.mem_append_right _ h)))
theorem inX0 : ∀ w ∈ wsX00, w ∈ lw_tbl := fun w h => wsL_law_in w (inlX0 w h)
theorem inlX1 : ∀ w ∈ wsX10, w ∈ wsL_law := fun _ h => List.mem_append_left _ (List.mem_append_right _ h)
theorem inX1 : ∀ w ∈ wsX10, w ∈ lw_tbl := fun w h => wsL_law_in w (inlX1 w h)
theorem inlX2 : ∀ w ∈ wsX20, w ∈ wsL_law := fun _ h => List.mem_append_left _ (List.mem_append_left _ (List.mem_append_left _ (List.mem_append_left _ (List.mem_append_left _ (List.mem_append_left _ (List.mem_append_left _ (List.mem_append_left _ (List.mem_append_right _ h))))))))
theorem inX2 : ∀ w ∈ wsX20, w ∈ lw_tbl := fun w h => wsL_law_in w (inlX2 w h)
theorem inlX3 : ∀ w ∈ wsX30, w ∈ wsL_law := fun _ h => List.mem_append_left _ (List.mem_append_left _ (List.mem_append_left _ (List.mem_append_left _ (List.mem_append_left _ (List.mem_append_left _ (List.mem_append_right _ h))))))
theorem inX3 : ∀ w ∈ wsX30, w ∈ lw_tbl := fun w h => wsL_law_in w (inlX3 w h)
theorem inlX4 : ∀ w ∈ wsX40, w ∈ wsL_law := fun _ h => List.mem_append_left _ (List.mem_append_left _ (List.mem_append_left _ (List.mem_append_left _ (List.mem_append_left _ (List.mem_append_left _ (List.mem_append_left _ (List.mem_append_right _ h)))))))
theorem inX4 : ∀ w ∈ wsX40, w ∈ lw_tbl := fun w h => wsL_law_in w (inlX4 w h)
theorem inlX5 : ∀ w ∈ wsX50, w ∈ wsL_law := fun _ h => List.mem_append_left _ (List.mem_append_left _ (List.mem_append_left _ (List.mem_append_left _ (List.mem_append_right _ h))))
theorem inX5 : ∀ w ∈ wsX50, w ∈ lw_tbl := fun w h => wsL_law_in w (inlX5 w h)
theorem inlX6 : ∀ w ∈ wsX60, w ∈ wsL_law := fun _ h => List.mem_append_left _ (List.mem_append_left _ (List.mem_append_right _ h))
theorem inX6 : ∀ w ∈ wsX60, w ∈ lw_tbl := fun w h => wsL_law_in w (inlX6 w h)
theorem inlX7 : ∀ w ∈ wsX70, w ∈ wsL_law := fun _ h => List.mem_append_left _ (List.mem_append_left _ (List.mem_append_left _ (List.mem_append_left _ (List.mem_append_left _ (List.mem_append_left _ (List.mem_append_left _ (List.mem_append_left _ (List.mem_append_left _ (List.mem_append_right _ h)))))))))
theorem inX7 : ∀ w ∈ wsX70, w ∈ lw_tbl := fun w h => wsL_law_in w (inlX7 w h)
theorem inlX8 : ∀ w ∈ wsX80, w ∈ wsL_law := fun _ h => List.mem_append_left _ (List.mem_append_left _ (List.mem_append_left _ (List.mem_append_left _ (List.mem_append_left _ (List.mem_append_right _ h)))))
theorem inX8 : ∀ w ∈ wsX80, w ∈ lw_tbl := fun w h => wsL_law_in w (inlX8 w h)
theorem inlX9 : ∀ w ∈ wsX90, w ∈ wsL_law := fun _ h => List.mem_append_left _ (List.mem_append_left _ (List.mem_append_left _ (List.mem_append_left _ (List.mem_append_left _ (List.mem_append_left _ (List.mem_append_left _ (List.mem_append_left _ (List.mem_append_left _ (List.mem_append_left _ (List.mem_append_left _ (List.mem_append_right _ h)))))))))))
theorem inX9 : ∀ w ∈ wsX90, w ∈ lw_tbl := fun w h => wsL_law_in w (inlX9 w h)
theorem inlX10 : ∀ w ∈ wsX100, w ∈ wsL_law := fun _ h => List.mem_append_left _ (List.mem_append_left _ (List.mem_append_left _ (List.mem_append_left _ (List.mem_append_left _ (List.mem_append_left _ (List.mem_append_left _ (List.mem_append_left _ (List.mem_append_left _ (List.mem_append_left _ (List.mem_append_right _ h))))))))))
theorem inX10 : ∀ w ∈ wsX100, w ∈ lw_tbl := fun w h => wsL_law_in w (inlX10 w h)
