theorem in_ps {big : List Cond} (ws : List Cond) (ps : List Nat) (hp : ws = ps.filterMap (fun i => big[i]?)) : ∀ w ∈ ws, w ∈ big := fun w hw => by
  rw [hp] at hw
  obtain ⟨i, -, hi⟩ := List.mem_filterMap.mp hw
  exact List.mem_of_getElem? hi
set_option maxRecDepth 20000 in
theorem in_wsL_law_r1 : ∀ w ∈ wsL_law_r1, w ∈ lw_tbl := in_ps wsL_law_r1 [85, 86, 71, 872, 873, 76, 87, 88, 89, 90, 91, 92, 93, 94, 72, 207, 208, 209, 210, 156, 157, 73, 211, 178] (by decide +kernel)
set_option maxRecDepth 20000 in
theorem in_wsL_law_r2 : ∀ w ∈ wsL_law_r2, w ∈ lw_tbl := in_ps wsL_law_r2 [179, 74, 212, 194, 195, 75, 213, 154, 214, 215, 216, 95, 96, 97, 98, 99, 100, 101, 102, 103, 104, 105, 106, 107] (by decide +kernel)
set_option maxRecDepth 20000 in
theorem in_wsL_law_r3 : ∀ w ∈ wsL_law_r3, w ∈ lw_tbl := in_ps wsL_law_r3 [108, 109, 110, 111, 112, 113, 114, 115, 155, 116, 158, 159, 160, 161, 162, 163, 164, 165, 166, 180, 181, 182, 183, 184] (by decide +kernel)
set_option maxRecDepth 20000 in
theorem in_wsL_law_r4 : ∀ w ∈ wsL_law_r4, w ∈ lw_tbl := in_ps wsL_law_r4 [185, 186, 196, 197, 198, 199, 200, 201, 874, 875, 876, 877, 879, 880, 881, 882, 884, 885, 886, 887, 888, 889, 890, 891] (by decide +kernel)
set_option maxRecDepth 20000 in
theorem in_wsL_law_r5 : ∀ w ∈ wsL_law_r5, w ∈ lw_tbl := in_ps wsL_law_r5 [892, 894, 897, 899, 900, 902, 903, 904, 905, 907, 909, 910, 911, 912, 913, 917, 925, 926, 927, 928, 929, 930, 931, 932] (by decide +kernel)
set_option maxRecDepth 20000 in
theorem in_wsL_law_r6 : ∀ w ∈ wsL_law_r6, w ∈ lw_tbl := in_ps wsL_law_r6 [933, 934, 935, 936, 937, 238, 239, 240, 241, 242, 244, 0, 245, 246, 247, 248, 249, 250, 251, 252, 253, 1059, 1060, 1061] (by decide +kernel)
set_option maxRecDepth 20000 in
theorem in_wsL_law_r7 : ∀ w ∈ wsL_law_r7, w ∈ lw_tbl := in_ps wsL_law_r7 [1062, 896, 1063, 1065, 28, 1066, 254, 255, 256, 257, 258, 260, 1, 261, 262, 263, 264, 265, 266, 267, 268, 269, 270, 271] (by decide +kernel)
set_option maxRecDepth 20000 in
theorem in_wsL_law_r8 : ∀ w ∈ wsL_law_r8, w ∈ lw_tbl := in_ps wsL_law_r8 [272, 273, 274, 276, 2, 277, 278, 280, 3, 281, 283, 284, 285, 77, 286, 287, 288, 289, 290, 1377, 291, 292, 293, 294] (by decide +kernel)
set_option maxRecDepth 20000 in
theorem in_wsL_law_r9 : ∀ w ∈ wsL_law_r9, w ∈ lw_tbl := in_ps wsL_law_r9 [295, 1376, 297, 298, 299, 300, 301, 302, 303, 304, 305, 306, 78, 307, 311, 312, 79, 313, 314, 315, 316, 308, 309, 310] (by decide +kernel)
set_option maxRecDepth 20000 in
theorem in_wsL_law_r10 : ∀ w ∈ wsL_law_r10, w ∈ lw_tbl := in_ps wsL_law_r10 [317, 318, 319, 320, 321, 80, 322, 323, 324, 325, 326, 327, 328, 329, 330, 331, 332, 333, 334, 335, 336, 337, 338, 340] (by decide +kernel)
set_option maxRecDepth 20000 in
theorem in_wsL_law_r11 : ∀ w ∈ wsL_law_r11, w ∈ lw_tbl := in_ps wsL_law_r11 [341, 81, 342, 343, 344, 345, 346, 347, 348, 349, 351, 353, 355, 356, 357, 358, 359, 82, 360, 361, 362, 363, 364, 365] (by decide +kernel)
set_option maxRecDepth 20000 in
theorem in_wsL_law_r12 : ∀ w ∈ wsL_law_r12, w ∈ lw_tbl := in_ps wsL_law_r12 [366, 367, 368, 369, 371, 4, 372, 373, 375, 5, 376, 377, 379, 6, 380, 381, 382, 383, 384, 385, 386, 387, 388, 389] (by decide +kernel)
set_option maxRecDepth 20000 in
theorem in_wsL_law_r13 : ∀ w ∈ wsL_law_r13, w ∈ lw_tbl := in_ps wsL_law_r13 [391, 390, 83, 392, 393, 394, 395, 396, 397, 398, 399, 400, 401, 402, 403, 404, 405, 406, 407, 408, 409, 410, 411, 413] (by decide +kernel)
set_option maxRecDepth 20000 in
theorem in_wsL_law_r14 : ∀ w ∈ wsL_law_r14, w ∈ lw_tbl := in_ps wsL_law_r14 [7, 414, 415, 417, 8, 418, 419, 421, 9, 422, 423, 425, 10, 426, 427, 428, 429, 430, 432, 11, 433, 435, 436, 437] (by decide +kernel)
set_option maxRecDepth 20000 in
theorem in_wsL_law_r15 : ∀ w ∈ wsL_law_r15, w ∈ lw_tbl := in_ps wsL_law_r15 [439, 12, 440, 441, 442, 443, 444, 1067, 1068, 1069, 1070, 906, 901, 1071, 1073, 29, 1074, 1075, 1077, 30, 1078, 1079, 1081, 31] (by decide +kernel)
set_option maxRecDepth 20000 in
theorem in_wsL_law_r16 : ∀ w ∈ wsL_law_r16, w ∈ lw_tbl := in_ps wsL_law_r16 [1082, 1083, 1084, 1085, 1086, 1088, 32, 1089, 1090, 1091, 1092, 1093, 1095, 33, 1096, 1097, 1099, 34, 1100, 1101, 1103, 35, 1104, 878] (by decide +kernel)
set_option maxRecDepth 20000 in
theorem in_wsL_law_r17 : ∀ w ∈ wsL_law_r17, w ∈ lw_tbl := in_ps wsL_law_r17 [883, 1105, 1107, 36, 1108, 893, 1109, 1110, 1111, 1112, 1114, 37, 1115, 1116, 1117, 1118, 446, 447, 448, 449, 450, 451, 452, 453] (by decide +kernel)
set_option maxRecDepth 20000 in
theorem in_wsL_law_r18 : ∀ w ∈ wsL_law_r18, w ∈ lw_tbl := in_ps wsL_law_r18 [454, 455, 456, 457, 458, 460, 13, 461, 1119, 1120, 1121, 1122, 1123, 1125, 38, 1126, 1127, 1129, 39, 1130, 1131, 1133, 40, 1134] (by decide +kernel)
set_option maxRecDepth 20000 in
theorem in_wsL_law_r19 : ∀ w ∈ wsL_law_r19, w ∈ lw_tbl := in_ps wsL_law_r19 [1135, 1137, 41, 1138, 1139, 1141, 42, 1142, 462, 463, 464, 465, 466, 467, 468, 469, 470, 471, 472, 473, 474, 475, 476, 477] (by decide +kernel)
set_option maxRecDepth 20000 in
theorem in_wsL_law_r20 : ∀ w ∈ wsL_law_r20, w ∈ lw_tbl := in_ps wsL_law_r20 [478, 479, 84, 480, 481, 482, 483, 484, 485, 486, 487, 488, 1143, 1144, 1145, 1146, 1147, 1149, 43, 1150, 1151, 1153, 44, 1154] (by decide +kernel)
set_option maxRecDepth 20000 in
theorem in_wsL_law_r21 : ∀ w ∈ wsL_law_r21, w ∈ lw_tbl := in_ps wsL_law_r21 [1155, 1156, 1157, 1158, 1160, 45, 1161, 489, 490, 491, 492, 493, 494, 495, 496, 498, 14, 499, 500, 501, 502, 503, 504, 1162] (by decide +kernel)
set_option maxRecDepth 20000 in
theorem in_wsL_law_r22 : ∀ w ∈ wsL_law_r22, w ∈ lw_tbl := in_ps wsL_law_r22 [1163, 1164, 1165, 1166, 1168, 46, 1169, 1170, 505, 506, 507, 508, 509, 510, 511, 512, 513, 514, 515, 516, 1171, 1172, 1173, 1174] (by decide +kernel)
set_option maxRecDepth 20000 in
theorem in_wsL_law_r23 : ∀ w ∈ wsL_law_r23, w ∈ lw_tbl := in_ps wsL_law_r23 [517, 518, 519, 520, 521, 522, 523, 524, 525, 1175, 1176, 1177, 1178, 526, 527, 528, 529, 530, 532, 15, 533, 534, 535, 536] (by decide +kernel)
set_option maxRecDepth 20000 in
theorem in_wsL_law_r24 : ∀ w ∈ wsL_law_r24, w ∈ lw_tbl := in_ps wsL_law_r24 [537, 538, 539, 540, 541, 542, 543, 544, 545, 546, 547, 548, 549, 550, 1179, 1180, 1181, 1182, 1183, 1185, 47, 1186, 1187, 1189] (by decide +kernel)
set_option maxRecDepth 20000 in
theorem in_wsL_law_r25 : ∀ w ∈ wsL_law_r25, w ∈ lw_tbl := in_ps wsL_law_r25 [48, 1190, 551, 552, 553, 554, 555, 556, 557, 558, 559, 560, 561, 562, 563, 564, 566, 16, 567, 1191, 1192, 1193, 1194, 568] (by decide +kernel)
set_option maxRecDepth 20000 in
theorem in_wsL_law_r26 : ∀ w ∈ wsL_law_r26, w ∈ lw_tbl := in_ps wsL_law_r26 [569, 570, 571, 572, 574, 17, 575, 576, 577, 578, 579, 580, 581, 582, 583, 584, 1195, 1196, 1197, 1198, 1199, 1201, 49, 1202] (by decide +kernel)
set_option maxRecDepth 20000 in
theorem in_wsL_law_r27 : ∀ w ∈ wsL_law_r27, w ∈ lw_tbl := in_ps wsL_law_r27 [1203, 585, 586, 587, 588, 589, 590, 591, 592, 593, 594, 595, 596, 597, 598, 599, 600, 601, 602, 603, 604, 605, 606, 607] (by decide +kernel)
set_option maxRecDepth 20000 in
theorem in_wsL_law_r28 : ∀ w ∈ wsL_law_r28, w ∈ lw_tbl := in_ps wsL_law_r28 [608, 609, 610, 611, 612, 1204, 1205, 1206, 1207, 1208, 1210, 50, 1211, 1212, 1214, 51, 1215, 1216, 1217, 1218, 613, 614, 615, 616] (by decide +kernel)
set_option maxRecDepth 20000 in
theorem in_wsL_law_r29 : ∀ w ∈ wsL_law_r29, w ∈ lw_tbl := in_ps wsL_law_r29 [617, 618, 619, 620, 621, 622, 623, 624, 625, 626, 627, 628, 629, 631, 18, 632, 633, 635, 19, 636, 637, 638, 639, 641] (by decide +kernel)
set_option maxRecDepth 20000 in
theorem in_wsL_law_r30 : ∀ w ∈ wsL_law_r30, w ∈ lw_tbl := in_ps wsL_law_r30 [20, 642, 643, 644, 645, 646, 647, 648, 649, 650, 651, 652, 1219, 1220, 1221, 1222, 895, 1223, 1225, 52, 1226, 908, 1227, 1229] (by decide +kernel)
set_option maxRecDepth 20000 in
theorem in_wsL_law_r31 : ∀ w ∈ wsL_law_r31, w ∈ lw_tbl := in_ps wsL_law_r31 [53, 1230, 1231, 1233, 54, 1234, 1235, 1237, 55, 1238, 1239, 1240, 1242, 56, 1243, 653, 654, 655, 656, 657, 658, 659, 660, 1244] (by decide +kernel)
set_option maxRecDepth 20000 in
theorem in_wsL_law_r32 : ∀ w ∈ wsL_law_r32, w ∈ lw_tbl := in_ps wsL_law_r32 [1245, 1246, 1247, 661, 662, 663, 664, 665, 666, 667, 668, 1248, 1249, 1250, 1251, 1252, 1254, 57, 1255, 669, 670, 671, 672, 673] (by decide +kernel)
set_option maxRecDepth 20000 in
theorem in_wsL_law_r33 : ∀ w ∈ wsL_law_r33, w ∈ lw_tbl := in_ps wsL_law_r33 [675, 21, 676, 677, 678, 679, 680, 681, 682, 683, 684, 685, 686, 687, 688, 689, 690, 1256, 1257, 1258, 1259, 915, 1260, 1262] (by decide +kernel)
set_option maxRecDepth 20000 in
theorem in_wsL_law_r34 : ∀ w ∈ wsL_law_r34, w ∈ lw_tbl := in_ps wsL_law_r34 [58, 1263, 1264, 1266, 59, 1267, 916, 1268, 1270, 60, 1271, 1272, 1274, 61, 1275, 914, 1276, 1278, 62, 1279, 691, 692, 693, 694] (by decide +kernel)
set_option maxRecDepth 20000 in
theorem in_wsL_law_r35 : ∀ w ∈ wsL_law_r35, w ∈ lw_tbl := in_ps wsL_law_r35 [695, 1280, 1281, 1282, 1283, 696, 697, 698, 699, 700, 701, 702, 703, 704, 706, 22, 707, 708, 709, 710, 711, 712, 713, 715] (by decide +kernel)
set_option maxRecDepth 20000 in
theorem in_wsL_law_r36 : ∀ w ∈ wsL_law_r36, w ∈ lw_tbl := in_ps wsL_law_r36 [23, 716, 717, 719, 24, 720, 721, 722, 723, 1284, 1285, 1286, 1287, 1288, 1290, 63, 1291, 1292, 1294, 64, 1295, 724, 725, 726] (by decide +kernel)
set_option maxRecDepth 20000 in
theorem in_wsL_law_r37 : ∀ w ∈ wsL_law_r37, w ∈ lw_tbl := in_ps wsL_law_r37 [727, 728, 729, 730, 731, 1296, 1297, 1298, 1299, 732, 733, 734, 735, 736, 737, 738, 739, 740, 1300, 1301, 1302, 1303, 1304, 1306] (by decide +kernel)
set_option maxRecDepth 20000 in
theorem in_wsL_law_r38 : ∀ w ∈ wsL_law_r38, w ∈ lw_tbl := in_ps wsL_law_r38 [65, 1307, 741, 742, 743, 744, 745, 746, 747, 748, 749, 750, 751, 753, 25, 754, 756, 755, 1308, 1309, 1310, 1311, 1312, 757] (by decide +kernel)
set_option maxRecDepth 20000 in
theorem in_wsL_law_r39 : ∀ w ∈ wsL_law_r39, w ∈ lw_tbl := in_ps wsL_law_r39 [758, 759, 760, 761, 762, 763, 764, 765, 766, 767, 768, 769, 1313, 1314, 1315, 1316, 770, 771, 772, 773, 774, 775, 776, 777] (by decide +kernel)
set_option maxRecDepth 20000 in
theorem in_wsL_law_r40 : ∀ w ∈ wsL_law_r40, w ∈ lw_tbl := in_ps wsL_law_r40 [778, 779, 780, 781, 782, 1317, 1318, 1319, 1320, 1321, 1322, 1323, 1324, 783, 784, 785, 786, 787, 788, 789, 790, 791, 1325, 1326] (by decide +kernel)
set_option maxRecDepth 20000 in
theorem in_wsL_law_r41 : ∀ w ∈ wsL_law_r41, w ∈ lw_tbl := in_ps wsL_law_r41 [1327, 1328, 1329, 1331, 66, 1332, 792, 793, 794, 795, 796, 797, 798, 799, 800, 801, 802, 803, 804, 805, 806, 807, 808, 1333] (by decide +kernel)
set_option maxRecDepth 20000 in
theorem in_wsL_law_r42 : ∀ w ∈ wsL_law_r42, w ∈ lw_tbl := in_ps wsL_law_r42 [1334, 1335, 1336, 809, 810, 811, 812, 813, 814, 815, 816, 817, 818, 819, 821, 26, 822, 823, 824, 825, 826, 827, 828, 829] (by decide +kernel)
set_option maxRecDepth 20000 in
theorem in_wsL_law_r43 : ∀ w ∈ wsL_law_r43, w ∈ lw_tbl := in_ps wsL_law_r43 [830, 1337, 1338, 1339, 1340, 918, 1341, 1343, 67, 1344, 1345, 1347, 68, 1348, 1349, 1350, 1351, 831, 832, 833, 834, 1352, 1353, 1354] (by decide +kernel)
set_option maxRecDepth 20000 in
theorem in_wsL_law_r44 : ∀ w ∈ wsL_law_r44, w ∈ lw_tbl := in_ps wsL_law_r44 [1355, 898, 835, 836, 837, 838, 839, 840, 841, 842, 1356, 1357, 1358, 1359, 843, 844, 845, 846, 1360, 1361, 1362, 1363, 919, 920] (by decide +kernel)
set_option maxRecDepth 20000 in
theorem in_wsL_law_r45 : ∀ w ∈ wsL_law_r45, w ∈ lw_tbl := in_ps wsL_law_r45 [921, 922, 923, 924, 847, 848, 849, 850, 1364, 1365, 1366, 1367, 851, 852, 853, 854, 855, 856, 857, 858, 859, 860, 861, 862] (by decide +kernel)
set_option maxRecDepth 20000 in
theorem in_wsL_law_r46 : ∀ w ∈ wsL_law_r46, w ∈ lw_tbl := in_ps wsL_law_r46 [863, 864, 865, 866, 867, 868, 870, 27, 871, 1368, 1369, 1370, 1371, 1372, 1374, 69, 1375] (by decide +kernel)
set_option maxRecDepth 20000 in
theorem in_wsX40 : ∀ w ∈ wsX40, w ∈ lw_tbl := in_ps wsX40 [217, 219, 221, 223, 225, 227, 229, 231, 233, 235] (by decide +kernel)
set_option maxRecDepth 20000 in
theorem in_wsX50 : ∀ w ∈ wsX50, w ∈ lw_tbl := in_ps wsX50 [938, 940, 942, 944, 946, 948, 950, 952, 954, 956, 958, 960, 962, 964, 966, 968, 970, 972, 974, 976, 978, 980, 982, 984, 986, 988, 990, 992, 994, 996, 998, 1000, 1002, 1004, 1006, 1008, 1010, 1012, 1014, 1016, 1018, 1020, 1022, 1024, 1026, 1028, 1030, 1032, 1034, 1036, 1038, 1040, 1042, 1044, 1046, 1048, 1050, 1052, 1054, 1056] (by decide +kernel)
set_option maxRecDepth 20000 in
theorem in_wsX30 : ∀ w ∈ wsX30, w ∈ lw_tbl := in_ps wsX30 [117, 119, 121, 123, 125, 127, 129, 131, 133, 135, 137, 139, 141, 143, 145, 147, 149, 151] (by decide +kernel)
set_option maxRecDepth 20000 in
theorem in_wsX00 : ∀ w ∈ wsX00, w ∈ lw_tbl := in_ps wsX00 [167, 169, 171, 173, 175] (by decide +kernel)
set_option maxRecDepth 20000 in
theorem in_wsX10 : ∀ w ∈ wsX10, w ∈ lw_tbl := in_ps wsX10 [187, 189, 191] (by decide +kernel)
set_option maxRecDepth 20000 in
theorem in_wsX20 : ∀ w ∈ wsX20, w ∈ lw_tbl := in_ps wsX20 [202, 204] (by decide +kernel)
set_option maxRecDepth 20000 in
theorem wsL_law_in : ∀ w ∈ wsL_law, w ∈ lw_tbl := by
  unfold wsL_law
  exact List.forall_mem_append.mpr ⟨List.forall_mem_append.mpr ⟨List.forall_mem_append.mpr ⟨List.forall_mem_append.mpr ⟨List.forall_mem_append.mpr ⟨List.forall_mem_append.mpr ⟨List.forall_mem_append.mpr ⟨List.forall_mem_append.mpr ⟨in_wsL_law_r1, List.forall_mem_append.mpr ⟨in_wsL_law_r2, List.forall_mem_append.mpr ⟨in_wsL_law_r3, List.forall_mem_append.mpr ⟨in_wsL_law_r4, List.forall_mem_append.mpr ⟨in_wsL_law_r5, List.forall_mem_append.mpr ⟨in_wsL_law_r6, List.forall_mem_append.mpr ⟨in_wsL_law_r7, List.forall_mem_append.mpr ⟨in_wsL_law_r8, List.forall_mem_append.mpr ⟨in_wsL_law_r9, List.forall_mem_append.mpr ⟨in_wsL_law_r10, List.forall_mem_append.mpr ⟨in_wsL_law_r11, List.forall_mem_append.mpr ⟨in_wsL_law_r12, List.forall_mem_append.mpr ⟨in_wsL_law_r13, List.forall_mem_append.mpr ⟨in_wsL_law_r14, List.forall_mem_append.mpr ⟨in_wsL_law_r15, List.forall_mem_append.mpr ⟨in_wsL_law_r16, List.forall_mem_append.mpr ⟨in_wsL_law_r17, List.forall_mem_append.mpr ⟨in_wsL_law_r18, List.forall_mem_append.mpr ⟨in_wsL_law_r19, List.forall_mem_append.mpr ⟨in_wsL_law_r20, List.forall_mem_append.mpr ⟨in_wsL_law_r21, List.forall_mem_append.mpr ⟨in_wsL_law_r22, List.forall_mem_append.mpr ⟨in_wsL_law_r23, List.forall_mem_append.mpr ⟨in_wsL_law_r24, List.forall_mem_append.mpr ⟨in_wsL_law_r25, List.forall_mem_append.mpr ⟨in_wsL_law_r26, List.forall_mem_append.mpr ⟨in_wsL_law_r27, List.forall_mem_append.mpr ⟨in_wsL_law_r28, List.forall_mem_append.mpr ⟨in_wsL_law_r29, List.forall_mem_append.mpr ⟨in_wsL_law_r30, List.forall_mem_append.mpr ⟨in_wsL_law_r31, List.forall_mem_append.mpr ⟨in_wsL_law_r32, List.forall_mem_append.mpr ⟨in_wsL_law_r33, List.forall_mem_append.mpr ⟨in_wsL_law_r34, List.forall_mem_append.mpr ⟨in_wsL_law_r35, List.forall_mem_append.mpr ⟨in_wsL_law_r36, List.forall_mem_append.mpr ⟨in_wsL_law_r37, List.forall_mem_append.mpr ⟨in_wsL_law_r38, List.forall_mem_append.mpr ⟨in_wsL_law_r39, List.forall_mem_append.mpr ⟨in_wsL_law_r40, List.forall_mem_append.mpr ⟨in_wsL_law_r41, List.forall_mem_append.mpr ⟨in_wsL_law_r42, List.forall_mem_append.mpr ⟨in_wsL_law_r43, List.forall_mem_append.mpr ⟨in_wsL_law_r44, List.forall_mem_append.mpr ⟨in_wsL_law_r45, in_wsL_law_r46⟩⟩⟩⟩⟩⟩⟩⟩⟩⟩⟩⟩⟩⟩⟩⟩⟩⟩⟩⟩⟩⟩⟩⟩⟩⟩⟩⟩⟩⟩⟩⟩⟩⟩⟩⟩⟩⟩⟩⟩⟩⟩⟩⟩⟩, in_wsX40⟩, in_wsX50⟩, in_wsX30⟩, in_wsX00⟩, in_wsX10⟩, in_wsX20⟩, fun _ h => absurd h List.not_mem_nil⟩
theorem inlX0 : ∀ w ∈ wsX00, w ∈ wsL_law := fun _ h => List.mem_append_left _ (List.mem_append_left _ (List.mem_append_left _ (List.mem_append_right _ h)))
theorem inX0 : ∀ w ∈ wsX00, w ∈ lw_tbl := fun w h => wsL_law_in w (inlX0 w h)
theorem inlX1 : ∀ w ∈ wsX10, w ∈ wsL_law := fun _ h => List.mem_append_left _ (List.mem_append_left _ (List.mem_append_right _ h))
theorem inX1 : ∀ w ∈ wsX10, w ∈ lw_tbl := fun w h => wsL_law_in w (inlX1 w h)
theorem inlX2 : ∀ w ∈ wsX20, w ∈ wsL_law := fun _ h => List.mem_append_left _ (List.mem_append_right _ h)
theorem inX2 : ∀ w ∈ wsX20, w ∈ lw_tbl := fun w h => wsL_law_in w (inlX2 w h)
theorem inlX3 : ∀ w ∈ wsX30, w ∈ wsL_law := fun _ h => List.mem_append_left _ (List.mem_append_left _ (List.mem_append_left _ (List.mem_append_left _ (List.mem_append_right _ h))))
theorem inX3 : ∀ w ∈ wsX30, w ∈ lw_tbl := fun w h => wsL_law_in w (inlX3 w h)
theorem inlX4 : ∀ w ∈ wsX40, w ∈ wsL_law := fun _ h => List.mem_append_left _ (List.mem_append_left _ (List.mem_append_left _ (List.mem_append_left _ (List.mem_append_left _ (List.mem_append_left _ (List.mem_append_right _ h))))))
theorem inX4 : ∀ w ∈ wsX40, w ∈ lw_tbl := fun w h => wsL_law_in w (inlX4 w h)
theorem inlX5 : ∀ w ∈ wsX50, w ∈ wsL_law := fun _ h => List.mem_append_left _ (List.mem_append_left _ (List.mem_append_left _ (List.mem_append_left _ (List.mem_append_left _ (List.mem_append_right _ h)))))
theorem inX5 : ∀ w ∈ wsX50, w ∈ lw_tbl := fun w h => wsL_law_in w (inlX5 w h)

