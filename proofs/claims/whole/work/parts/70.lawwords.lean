/-! the words of the law are words of the tables, piece by piece -/
theorem mem_r {big : List Cond} (ws : List Cond) (ps : List Nat) (hp : ws = ps.filterMap (fun i => big[i]?)) : ∀ w ∈ ws, w ∈ big := by
  intro w hw
  rw [hp] at hw
  obtain ⟨i, -, hi⟩ := List.mem_filterMap.mp hw
  exact List.mem_of_getElem? hi
set_option maxRecDepth 20000 in
theorem wsL_law_m1 : ∀ w ∈ wsL_law0_r1, w ∈ lw_tbl := mem_r _ [46, 47, 28, 930, 931, 35, 1291, 1292, 48, 49, 50, 51, 52, 53, 54, 55, 29, 243, 244, 189, 245, 191, 33, 219] rfl
set_option maxRecDepth 20000 in
theorem wsL_law_m2 : ∀ w ∈ wsL_law0_r2, w ∈ lw_tbl := mem_r _ [246, 221, 34, 104, 247, 56, 57, 58, 59, 154, 155, 60, 156, 62, 63, 30, 158, 107, 108, 31, 161, 128, 32, 65] rfl
set_option maxRecDepth 20000 in
theorem wsL_law_m3 : ∀ w ∈ wsL_law0_r3, w ∈ lw_tbl := mem_r _ [66, 67, 105, 71, 74, 77, 80, 106, 83, 86, 110, 111, 112, 118, 130, 131, 132, 133, 135, 138, 181, 182, 183, 184] rfl
set_option maxRecDepth 20000 in
theorem wsL_law_m4 : ∀ w ∈ wsL_law0_r4, w ∈ lw_tbl := mem_r _ [147, 149, 150, 152, 70, 185, 186, 187, 188, 192, 193, 194, 195, 196, 223, 224, 225, 232, 932, 933, 934, 935, 940, 941] rfl
set_option maxRecDepth 20000 in
theorem wsL_law_m5 : ∀ w ∈ wsL_law0_r5, w ∈ lw_tbl := mem_r _ [942, 943, 944, 945, 946, 947, 948, 949, 950, 951, 952, 953, 954, 955, 960, 961, 962, 963, 964, 965, 966, 967, 968, 969] rfl
set_option maxRecDepth 20000 in
theorem wsL_law_m6 : ∀ w ∈ wsL_law0_r6, w ∈ lw_tbl := mem_r _ [970, 974, 936, 938, 9, 939, 956, 335, 336, 27, 337, 338, 339, 340, 341, 342, 343, 344, 422, 40, 442, 41, 160, 69] rfl
set_option maxRecDepth 20000 in
theorem wsL_law_m7 : ∀ w ∈ wsL_law0_r7, w ∈ lw_tbl := mem_r _ [345, 347, 0, 348, 349, 350, 351, 352, 39, 438, 440, 2, 441, 249, 233, 1050, 1051, 1052, 1053, 1054, 1055, 1056, 1057, 1059] rfl
set_option maxRecDepth 20000 in
theorem wsL_law_m8 : ∀ w ∈ wsL_law0_r8, w ∈ lw_tbl := mem_r _ [10, 1060, 959, 1061, 1062, 1063, 1064, 1066, 11, 1067, 957, 1046, 1047, 1048, 1049, 458, 459, 460, 461, 462, 463, 464, 250, 1068] rfl
set_option maxRecDepth 20000 in
theorem wsL_law_m9 : ∀ w ∈ wsL_law0_r9, w ∈ lw_tbl := mem_r _ [1069, 1070, 1071, 958, 466, 467, 468, 469, 470, 471, 472, 473, 474, 475, 148, 477, 478, 479, 480, 482, 483, 484, 485, 486] rfl
set_option maxRecDepth 20000 in
theorem wsL_law_m10 : ∀ w ∈ wsL_law0_r10, w ∈ lw_tbl := mem_r _ [487, 136, 1072, 1073, 1074, 1075, 1076, 1078, 12, 1079, 1080, 1082, 13, 1083, 488, 489, 490, 491, 492, 493, 494, 495, 496, 497] rfl
set_option maxRecDepth 20000 in
theorem wsL_law_m11 : ∀ w ∈ wsL_law0_r11, w ∈ lw_tbl := mem_r _ [498, 68, 1084, 1085, 1086, 1087, 500, 501, 502, 503, 504, 505, 506, 507, 508, 509, 510, 1088, 1089, 1090, 1091, 511, 512, 513] rfl
set_option maxRecDepth 20000 in
theorem wsL_law_m12 : ∀ w ∈ wsL_law0_r12, w ∈ lw_tbl := mem_r _ [514, 515, 516, 517, 518, 519, 520, 522, 523, 524, 525, 1092, 1093, 1094, 1095, 1096, 1097, 1098, 526, 527, 528, 529, 530, 531] rfl
set_option maxRecDepth 20000 in
theorem wsL_law_m13 : ∀ w ∈ wsL_law0_r13, w ∈ lw_tbl := mem_r _ [532, 157, 533, 534, 535, 538, 539, 540, 541, 542, 543, 544, 545, 546, 547, 548, 549, 550, 551, 552, 553, 554, 555, 556] rfl
set_option maxRecDepth 20000 in
theorem wsL_law_m14 : ∀ w ∈ wsL_law0_r14, w ∈ lw_tbl := mem_r _ [557, 558, 559, 560, 561, 562, 563, 42, 564, 565, 566, 567, 569, 570, 571, 572, 574, 575, 43, 576, 1099, 1100, 1101, 1102] rfl
set_option maxRecDepth 20000 in
theorem wsL_law_m15 : ∀ w ∈ wsL_law0_r15, w ∈ lw_tbl := mem_r _ [1103, 1104, 1105, 1106, 1108, 14, 1109, 1110, 1112, 15, 1113, 1114, 1116, 16, 1117, 1118, 1120, 17, 1121, 1122, 1123, 1124, 577, 578] rfl
set_option maxRecDepth 20000 in
theorem wsL_law_m16 : ∀ w ∈ wsL_law0_r16, w ∈ lw_tbl := mem_r _ [579, 580, 581, 582, 583, 584, 319, 320, 321, 586, 587, 588, 589, 590, 1125, 1126, 1127, 1128, 1129, 1131, 18, 1132, 591, 592] rfl
set_option maxRecDepth 20000 in
theorem wsL_law_m17 : ∀ w ∈ wsL_law0_r17, w ∈ lw_tbl := mem_r _ [593, 594, 595, 596, 597, 139, 1133, 1134, 1135, 1136, 598, 599, 600, 601, 602, 603, 604, 605, 606, 44, 1137, 1138, 1139, 1140] rfl
set_option maxRecDepth 20000 in
theorem wsL_law_m18 : ∀ w ∈ wsL_law0_r18, w ∈ lw_tbl := mem_r _ [622, 623, 624, 625, 626, 627, 628, 134, 629, 631, 3, 632, 633, 1141, 1142, 1143, 1144, 635, 636, 637, 638, 639, 640, 641] rfl
set_option maxRecDepth 20000 in
theorem wsL_law_m19 : ∀ w ∈ wsL_law0_r19, w ∈ lw_tbl := mem_r _ [137, 1145, 1146, 1147, 1148, 642, 643, 644, 645, 646, 647, 648, 649, 1149, 1150, 1151, 1152, 650, 651, 652, 653, 654, 655, 656] rfl
set_option maxRecDepth 20000 in
theorem wsL_law_m20 : ∀ w ∈ wsL_law0_r20, w ∈ lw_tbl := mem_r _ [657, 1153, 1154, 1155, 1156, 658, 659, 660, 661, 662, 663, 664, 665, 120, 666, 667, 668, 670, 282, 283, 284, 285, 286, 287] rfl
set_option maxRecDepth 20000 in
theorem wsL_law_m21 : ∀ w ∈ wsL_law0_r21, w ∈ lw_tbl := mem_r _ [288, 113, 116, 72, 75, 78, 84, 289, 290, 291, 292, 293, 294, 295, 296, 297, 298, 299, 300, 301, 302, 303, 304, 671] rfl
set_option maxRecDepth 20000 in
theorem wsL_law_m22 : ∀ w ∈ wsL_law0_r22, w ∈ lw_tbl := mem_r _ [674, 675, 676, 677, 45, 693, 694, 695, 696, 79, 697, 698, 699, 700, 701, 702, 703, 704, 81, 87, 705, 1157, 1158, 1159] rfl
set_option maxRecDepth 20000 in
theorem wsL_law_m23 : ∀ w ∈ wsL_law0_r23, w ∈ lw_tbl := mem_r _ [1160, 971, 972, 1161, 1163, 19, 1164, 973, 1165, 1167, 20, 1168, 1169, 1171, 21, 1172, 1173, 1175, 22, 1176, 706, 707, 708, 709] rfl
set_option maxRecDepth 20000 in
theorem wsL_law_m24 : ∀ w ∈ wsL_law0_r24, w ∈ lw_tbl := mem_r _ [710, 711, 712, 713, 714, 715, 716, 1177, 1178, 1179, 1180, 717, 718, 719, 720, 721, 722, 723, 724, 725, 726, 727, 334, 1181] rfl
set_option maxRecDepth 20000 in
theorem wsL_law_m25 : ∀ w ∈ wsL_law0_r25, w ∈ lw_tbl := mem_r _ [1182, 1183, 1184, 728, 729, 730, 731, 732, 733, 734, 1185, 1186, 1187, 1188, 735, 736, 737, 738, 739, 740, 741, 742, 1189, 1190] rfl
set_option maxRecDepth 20000 in
theorem wsL_law_m26 : ∀ w ∈ wsL_law0_r26, w ∈ lw_tbl := mem_r _ [1191, 1192, 743, 744, 745, 746, 747, 748, 749, 73, 750, 752, 4, 753, 1193, 1194, 1195, 1196, 1197, 1199, 23, 1200, 755, 756] rfl
set_option maxRecDepth 20000 in
theorem wsL_law_m27 : ∀ w ∈ wsL_law0_r27, w ∈ lw_tbl := mem_r _ [757, 758, 759, 760, 761, 76, 1201, 1202, 1203, 1204, 762, 763, 764, 765, 766, 767, 768, 88, 1205, 1206, 1207, 1208, 769, 770] rfl
set_option maxRecDepth 20000 in
theorem wsL_law_m28 : ∀ w ∈ wsL_law0_r28, w ∈ lw_tbl := mem_r _ [771, 772, 773, 774, 775, 82, 776, 1209, 1210, 1211, 1212, 777, 778, 779, 780, 781, 782, 783, 117, 115, 1213, 1214, 1215, 1216] rfl
set_option maxRecDepth 20000 in
theorem wsL_law_m29 : ∀ w ∈ wsL_law0_r29, w ∈ lw_tbl := mem_r _ [784, 785, 786, 787, 788, 789, 790, 1217, 1218, 1219, 1220, 791, 792, 793, 794, 795, 796, 797, 248, 800, 801, 802, 803, 198] rfl
set_option maxRecDepth 20000 in
theorem wsL_law_m30 : ∀ w ∈ wsL_law0_r30, w ∈ lw_tbl := mem_r _ [200, 151, 201, 159, 202, 204, 804, 805, 806, 1221, 1222, 1223, 1224, 807, 808, 809, 810, 811, 812, 813, 203, 205, 814, 816] rfl
set_option maxRecDepth 20000 in
theorem wsL_law_m31 : ∀ w ∈ wsL_law0_r31, w ∈ lw_tbl := mem_r _ [5, 817, 819, 820, 821, 822, 1225, 1226, 1227, 1228, 1229, 1231, 24, 1232, 824, 825, 826, 827, 828, 829, 830, 197, 199, 831] rfl
set_option maxRecDepth 20000 in
theorem wsL_law_m32 : ∀ w ∈ wsL_law0_r32, w ∈ lw_tbl := mem_r _ [833, 6, 834, 835, 836, 837, 838, 1233, 1234, 1235, 1236, 1237, 1239, 25, 1240, 839, 840, 841, 842, 843, 844, 845, 1241, 1242] rfl
set_option maxRecDepth 20000 in
theorem wsL_law_m33 : ∀ w ∈ wsL_law0_r33, w ∈ lw_tbl := mem_r _ [1243, 1244, 846, 847, 848, 849, 850, 851, 852, 854, 855, 856, 857, 226, 228, 230, 1245, 1246, 1247, 1248, 858, 859, 860, 861] rfl
set_option maxRecDepth 20000 in
theorem wsL_law_m34 : ∀ w ∈ wsL_law0_r34, w ∈ lw_tbl := mem_r _ [862, 863, 864, 229, 227, 865, 867, 7, 868, 870, 872, 8, 873, 874, 875, 876, 877, 879, 880, 881, 882, 85, 1249, 1250] rfl
set_option maxRecDepth 20000 in
theorem wsL_law_m35 : ∀ w ∈ wsL_law0_r35, w ∈ lw_tbl := mem_r _ [1251, 1252, 1253, 1255, 26, 1256, 883, 884, 885, 886, 887, 888, 889, 231, 890, 891, 892, 893, 1257, 1258, 1259, 1260, 895, 896] rfl
set_option maxRecDepth 20000 in
theorem wsL_law_m36 : ∀ w ∈ wsL_law0_r36, w ∈ lw_tbl := mem_r _ [897, 898, 899, 900, 901, 153, 1261, 1262, 1263, 1264, 904, 905, 906, 907, 908, 909, 910, 1265, 1266, 1267, 1268, 268, 269, 270] rfl
set_option maxRecDepth 20000 in
theorem wsL_law_m37 : ∀ w ∈ wsL_law0_r37, w ∈ lw_tbl := mem_r _ [271, 1269, 1270, 1271, 1272, 272, 273, 274, 275, 276, 277, 278, 279, 280, 305, 114, 119, 281, 1273, 1274, 1275, 1276, 1277, 1278] rfl
set_option maxRecDepth 20000 in
theorem wsL_law_m38 : ∀ w ∈ wsL_law0_r38, w ∈ lw_tbl := mem_r _ [911, 912, 913, 914, 915, 916, 917, 1279, 1280, 1281, 1282, 918, 919, 920, 921, 922, 923, 924, 925, 926, 927, 928, 929, 1283] rfl
set_option maxRecDepth 20000 in
theorem wsL_law_m39 : ∀ w ∈ wsL_law0_r39, w ∈ lw_tbl := mem_r _ [1284, 1285, 1286, 306, 307, 308, 309, 310, 311, 312, 313, 314, 315, 316, 317, 318, 322, 323, 324, 325, 326, 327, 328, 329] rfl
set_option maxRecDepth 20000 in
theorem wsL_law_m40 : ∀ w ∈ wsL_law0_r40, w ∈ lw_tbl := mem_r _ [330, 331, 332, 333, 1287, 1288, 1289, 1290] rfl
set_option maxRecDepth 20000 in
theorem wsX00_tb : ∀ w ∈ wsX00, w ∈ lw_tbl := by decide +kernel
set_option maxRecDepth 20000 in
theorem wsX10_tb : ∀ w ∈ wsX10, w ∈ lw_tbl := by decide +kernel
set_option maxRecDepth 20000 in
theorem wsX20_tb : ∀ w ∈ wsX20, w ∈ lw_tbl := by decide +kernel
set_option maxRecDepth 20000 in
theorem wsX30_tb : ∀ w ∈ wsX30, w ∈ lw_tbl := by decide +kernel
set_option maxRecDepth 20000 in
theorem wsX40_tb : ∀ w ∈ wsX40, w ∈ lw_tbl := by decide +kernel
set_option maxRecDepth 20000 in
theorem wsX50_tb : ∀ w ∈ wsX50, w ∈ lw_tbl := by decide +kernel
set_option maxRecDepth 20000 in
theorem wsX60_tb : ∀ w ∈ wsX60, w ∈ lw_tbl := by decide +kernel
set_option maxRecDepth 20000 in
theorem wsX70_tb : ∀ w ∈ wsX70, w ∈ lw_tbl := by decide +kernel
theorem wsL_law_in00 : ∀ w ∈ (wsL_law0_r1 ++ (wsL_law0_r2 ++ (wsL_law0_r3 ++ (wsL_law0_r4 ++ (wsL_law0_r5 ++ (wsL_law0_r6 ++ (wsL_law0_r7 ++ (wsL_law0_r8 ++ (wsL_law0_r9 ++ (wsL_law0_r10 ++ (wsL_law0_r11 ++ (wsL_law0_r12 ++ (wsL_law0_r13 ++ (wsL_law0_r14 ++ (wsL_law0_r15 ++ (wsL_law0_r16 ++ (wsL_law0_r17 ++ (wsL_law0_r18 ++ (wsL_law0_r19 ++ (wsL_law0_r20 ++ (wsL_law0_r21 ++ (wsL_law0_r22 ++ (wsL_law0_r23 ++ (wsL_law0_r24 ++ (wsL_law0_r25 ++ (wsL_law0_r26 ++ (wsL_law0_r27 ++ (wsL_law0_r28 ++ (wsL_law0_r29 ++ (wsL_law0_r30 ++ (wsL_law0_r31 ++ (wsL_law0_r32 ++ (wsL_law0_r33 ++ (wsL_law0_r34 ++ (wsL_law0_r35 ++ (wsL_law0_r36 ++ (wsL_law0_r37 ++ (wsL_law0_r38 ++ (wsL_law0_r39 ++ (wsL_law0_r40)))))))))))))))))))))))))))))))))))))))), w ∈ lw_tbl := (List.forall_mem_append.mpr ⟨wsL_law_m1, (List.forall_mem_append.mpr ⟨wsL_law_m2, (List.forall_mem_append.mpr ⟨wsL_law_m3, (List.forall_mem_append.mpr ⟨wsL_law_m4, (List.forall_mem_append.mpr ⟨wsL_law_m5, (List.forall_mem_append.mpr ⟨wsL_law_m6, (List.forall_mem_append.mpr ⟨wsL_law_m7, (List.forall_mem_append.mpr ⟨wsL_law_m8, (List.forall_mem_append.mpr ⟨wsL_law_m9, (List.forall_mem_append.mpr ⟨wsL_law_m10, (List.forall_mem_append.mpr ⟨wsL_law_m11, (List.forall_mem_append.mpr ⟨wsL_law_m12, (List.forall_mem_append.mpr ⟨wsL_law_m13, (List.forall_mem_append.mpr ⟨wsL_law_m14, (List.forall_mem_append.mpr ⟨wsL_law_m15, (List.forall_mem_append.mpr ⟨wsL_law_m16, (List.forall_mem_append.mpr ⟨wsL_law_m17, (List.forall_mem_append.mpr ⟨wsL_law_m18, (List.forall_mem_append.mpr ⟨wsL_law_m19, (List.forall_mem_append.mpr ⟨wsL_law_m20, (List.forall_mem_append.mpr ⟨wsL_law_m21, (List.forall_mem_append.mpr ⟨wsL_law_m22, (List.forall_mem_append.mpr ⟨wsL_law_m23, (List.forall_mem_append.mpr ⟨wsL_law_m24, (List.forall_mem_append.mpr ⟨wsL_law_m25, (List.forall_mem_append.mpr ⟨wsL_law_m26, (List.forall_mem_append.mpr ⟨wsL_law_m27, (List.forall_mem_append.mpr ⟨wsL_law_m28, (List.forall_mem_append.mpr ⟨wsL_law_m29, (List.forall_mem_append.mpr ⟨wsL_law_m30, (List.forall_mem_append.mpr ⟨wsL_law_m31, (List.forall_mem_append.mpr ⟨wsL_law_m32, (List.forall_mem_append.mpr ⟨wsL_law_m33, (List.forall_mem_append.mpr ⟨wsL_law_m34, (List.forall_mem_append.mpr ⟨wsL_law_m35, (List.forall_mem_append.mpr ⟨wsL_law_m36, (List.forall_mem_append.mpr ⟨wsL_law_m37, (List.forall_mem_append.mpr ⟨wsL_law_m38, (List.forall_mem_append.mpr ⟨wsL_law_m39, wsL_law_m40⟩)⟩)⟩)⟩)⟩)⟩)⟩)⟩)⟩)⟩)⟩)⟩)⟩)⟩)⟩)⟩)⟩)⟩)⟩)⟩)⟩)⟩)⟩)⟩)⟩)⟩)⟩)⟩)⟩)⟩)⟩)⟩)⟩)⟩)⟩)⟩)⟩)⟩)⟩)
theorem wsL_law_in0 : ∀ w ∈ wsL_law0, w ∈ lw_tbl := by
  unfold wsL_law0
  refine List.forall_mem_append.mpr ⟨?_, fun _ h => absurd h List.not_mem_nil⟩
  refine List.forall_mem_append.mpr ⟨?_, wsX10_tb⟩
  refine List.forall_mem_append.mpr ⟨?_, wsX20_tb⟩
  refine List.forall_mem_append.mpr ⟨?_, wsX30_tb⟩
  refine List.forall_mem_append.mpr ⟨?_, wsX50_tb⟩
  refine List.forall_mem_append.mpr ⟨?_, wsX40_tb⟩
  refine List.forall_mem_append.mpr ⟨?_, wsX00_tb⟩
  refine List.forall_mem_append.mpr ⟨?_, wsX70_tb⟩
  refine List.forall_mem_append.mpr ⟨?_, wsX60_tb⟩
  exact wsL_law_in00
set_option maxRecDepth 20000 in
theorem wsL_law_x0 : ∀ w ∈ (vx_atS RX6 51 "java/lang/IllegalArgumentException" ["java/lang/RuntimeException", "java/lang/Exception"]).filter goodWord, w ∈ lw_tbl := by decide +kernel
set_option maxRecDepth 20000 in
theorem wsL_law_x1 : ∀ w ∈ (vx_atS RX6 62 "java/lang/UnsupportedOperationException" ["java/lang/RuntimeException", "java/lang/Exception"]).filter goodWord, w ∈ lw_tbl := by decide +kernel
set_option maxRecDepth 20000 in
theorem wsL_law_x2 : ∀ w ∈ (vx_atS RX6 342 "java/lang/IndexOutOfBoundsException" ["java/lang/RuntimeException", "java/lang/Exception"]).filter goodWord, w ∈ lw_tbl := by decide +kernel
set_option maxRecDepth 20000 in
theorem wsL_law_x3 : ∀ w ∈ (nx_atS RX6 145 "java/util/NoSuchElementException" ["java/lang/RuntimeException", "java/lang/Exception"]).filter goodWord, w ∈ lw_tbl := by decide +kernel
set_option maxRecDepth 20000 in
theorem wsL_law_x4 : ∀ w ∈ (vx_atS RX6 236 "java/lang/IllegalStateException" ["java/lang/RuntimeException", "java/lang/Exception"]).filter goodWord, w ∈ lw_tbl := by decide +kernel
set_option maxRecDepth 20000 in
theorem wsL_law_in : ∀ w ∈ wsL_law, w ∈ lw_tbl := fun w h => (List.mem_append.mp h).elim (fun h => (List.mem_append.mp h).elim (fun h => (List.mem_append.mp h).elim (fun h => (List.mem_append.mp h).elim (fun h => (List.mem_append.mp h).elim (fun h => wsL_law_in0 w h) (fun h => wsL_law_x0 w h)) (fun h => wsL_law_x1 w h)) (fun h => wsL_law_x2 w h)) (fun h => wsL_law_x3 w h)) (fun h => wsL_law_x4 w h)
set_option maxRecDepth 20000 in
theorem inlX0 : ∀ w ∈ wsX00, w ∈ wsL_law := fun _ h => List.mem_append_left _ (List.mem_append_left _ (List.mem_append_left _ (List.mem_append_left _ (List.mem_append_left _ (List.mem_append_left _ (List.mem_append_left _ (List.mem_append_left _ (List.mem_append_left _ (List.mem_append_left _ (List.mem_append_left _ (List.mem_append_right _ h)))))))))))
set_option maxRecDepth 20000 in
theorem inX0 : ∀ w ∈ wsX00, w ∈ lw_tbl := fun w h => wsL_law_in w (inlX0 w h)
set_option maxRecDepth 20000 in
theorem inlX1 : ∀ w ∈ wsX10, w ∈ wsL_law := fun _ h => List.mem_append_left _ (List.mem_append_left _ (List.mem_append_left _ (List.mem_append_left _ (List.mem_append_left _ (List.mem_append_left _ (List.mem_append_right _ h))))))
set_option maxRecDepth 20000 in
theorem inX1 : ∀ w ∈ wsX10, w ∈ lw_tbl := fun w h => wsL_law_in w (inlX1 w h)
set_option maxRecDepth 20000 in
theorem inlX2 : ∀ w ∈ wsX20, w ∈ wsL_law := fun _ h => List.mem_append_left _ (List.mem_append_left _ (List.mem_append_left _ (List.mem_append_left _ (List.mem_append_left _ (List.mem_append_left _ (List.mem_append_left _ (List.mem_append_right _ h)))))))
set_option maxRecDepth 20000 in
theorem inX2 : ∀ w ∈ wsX20, w ∈ lw_tbl := fun w h => wsL_law_in w (inlX2 w h)
set_option maxRecDepth 20000 in
theorem inlX3 : ∀ w ∈ wsX30, w ∈ wsL_law := fun _ h => List.mem_append_left _ (List.mem_append_left _ (List.mem_append_left _ (List.mem_append_left _ (List.mem_append_left _ (List.mem_append_left _ (List.mem_append_left _ (List.mem_append_left _ (List.mem_append_right _ h))))))))
set_option maxRecDepth 20000 in
theorem inX3 : ∀ w ∈ wsX30, w ∈ lw_tbl := fun w h => wsL_law_in w (inlX3 w h)
set_option maxRecDepth 20000 in
theorem inlX4 : ∀ w ∈ wsX40, w ∈ wsL_law := fun _ h => List.mem_append_left _ (List.mem_append_left _ (List.mem_append_left _ (List.mem_append_left _ (List.mem_append_left _ (List.mem_append_left _ (List.mem_append_left _ (List.mem_append_left _ (List.mem_append_left _ (List.mem_append_left _ (List.mem_append_right _ h))))))))))
set_option maxRecDepth 20000 in
theorem inX4 : ∀ w ∈ wsX40, w ∈ lw_tbl := fun w h => wsL_law_in w (inlX4 w h)
set_option maxRecDepth 20000 in
theorem inlX5 : ∀ w ∈ wsX50, w ∈ wsL_law := fun _ h => List.mem_append_left _ (List.mem_append_left _ (List.mem_append_left _ (List.mem_append_left _ (List.mem_append_left _ (List.mem_append_left _ (List.mem_append_left _ (List.mem_append_left _ (List.mem_append_left _ (List.mem_append_right _ h)))))))))
set_option maxRecDepth 20000 in
theorem inX5 : ∀ w ∈ wsX50, w ∈ lw_tbl := fun w h => wsL_law_in w (inlX5 w h)
set_option maxRecDepth 20000 in
theorem inlX6 : ∀ w ∈ wsX60, w ∈ wsL_law := fun _ h => List.mem_append_left _ (List.mem_append_left _ (List.mem_append_left _ (List.mem_append_left _ (List.mem_append_left _ (List.mem_append_left _ (List.mem_append_left _ (List.mem_append_left _ (List.mem_append_left _ (List.mem_append_left _ (List.mem_append_left _ (List.mem_append_left _ (List.mem_append_left _ (List.mem_append_right _ h)))))))))))))
set_option maxRecDepth 20000 in
theorem inX6 : ∀ w ∈ wsX60, w ∈ lw_tbl := fun w h => wsL_law_in w (inlX6 w h)
set_option maxRecDepth 20000 in
theorem inlX7 : ∀ w ∈ wsX70, w ∈ wsL_law := fun _ h => List.mem_append_left _ (List.mem_append_left _ (List.mem_append_left _ (List.mem_append_left _ (List.mem_append_left _ (List.mem_append_left _ (List.mem_append_left _ (List.mem_append_left _ (List.mem_append_left _ (List.mem_append_left _ (List.mem_append_left _ (List.mem_append_left _ (List.mem_append_right _ h))))))))))))
set_option maxRecDepth 20000 in
theorem inX7 : ∀ w ∈ wsX70, w ∈ lw_tbl := fun w h => wsL_law_in w (inlX7 w h)
