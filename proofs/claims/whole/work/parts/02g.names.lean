set_option maxRecDepth 20000 in
theorem wsL_law_in : ∀ w ∈ wsL_law, w ∈ lw_tbl := fun w h => (goodIn_p wsL_law [89, 92, 97, 160, 182, 198, 876, 241, 245, 249, 253, 1062, 1066, 257, 261, 265, 269, 273, 277, 281, 286, 290, 294, 300, 304, 307, 313, 316, 310, 319, 322, 328, 331, 334, 337, 342, 345, 348, 357, 360, 363, 367, 372, 376, 380, 384, 388, 397, 402, 406, 410, 414, 418, 422, 426, 429, 433, 436, 440, 444, 1070, 1074, 1078, 1082, 1085, 1089, 1092, 1096, 1100, 1104, 1108, 1111, 1115, 1118, 449, 453, 457, 461, 1122, 1126, 1130, 1134, 1138, 1142, 465, 469, 473, 477, 480, 487, 1146, 1150, 1154, 1157, 1161, 492, 495, 499, 504, 1165, 1169, 508, 512, 516, 1174, 520, 525, 1178, 529, 533, 537, 541, 545, 549, 1182, 1186, 1190, 554, 559, 563, 567, 1194, 571, 575, 580, 584, 1198, 1202, 588, 591, 595, 600, 604, 607, 612, 1207, 1211, 1215, 1218, 616, 619, 623, 627, 632, 636, 642, 648, 652, 1222, 1226, 1230, 1234, 1238, 1243, 656, 660, 1247, 664, 668, 1251, 1255, 672, 676, 680, 685, 1259, 1263, 1267, 1271, 1275, 1279, 694, 1283, 699, 703, 707, 712, 716, 720, 1287, 1291, 1295, 727, 731, 1299, 735, 739, 1303, 1307, 744, 748, 754, 1311, 760, 764, 768, 1316, 773, 778, 782, 1320, 1324, 786, 790, 1328, 1332, 795, 799, 803, 807, 1336, 812, 818, 822, 830, 1340, 1344, 1348, 834, 1355, 838, 842, 1359, 846, 1363, 850, 1367, 854, 858, 863, 867, 871, 1371, 1375] (by decide +kernel) (by decide +kernel) w h).1
theorem inlX0 : ∀ w ∈ wsX00, w ∈ wsL_law := fun _ h => List.mem_append_left _ (List.mem_append_left _ (List.mem_append_left _ (List.mem_append_right _ h)))
theorem inX0 : ∀ w ∈ wsX00, w ∈ lw_tbl := fun w h => wsL_law_in w (inlX0 w h)
theorem inlX1 : ∀ w ∈ wsX10, w ∈ wsL_law := fun _ h => List.mem_append_left _ (List.mem_append_left _ (List.mem_append_right _ h))
theorem inX1 : ∀ w ∈ wsX10, w ∈ lw_tbl := fun w h => wsL_law_in w (inlX1 w h)
theorem inlX2 : ∀ w ∈ wsX20, w ∈ wsL_law := fun _ h => List.mem_append_left _ (List.mem_append_right _ h)
theorem inX2 : ∀ w ∈ wsX20, w ∈ lw_tbl := fun w h => wsL_law_in w (inlX2 w h)
theorem inlX3 : ∀ w ∈ wsX30, w ∈ wsL_law := fun _ h => List.mem_append_left _ (List.mem_append_left _ (List.mem_append_left _ (List.mem_append_left _ (List.mem_append_right _ h))))
theorem inX3 : ∀ w ∈ wsX30, w ∈ lw_tbl := fun w h => wsL_law_in w (inlX3 w h)
theorem inlX4 : ∀ w ∈ wsX40, w ∈ wsL_law := fun _ h => List.mem_append_left _ (List.mem_append_left _ (List.mem_append_left _ (List.mem_append_left _ (List.mem_append_left _ (List.mem_append_left _ (List.mem_append_right _ h))))))
theorem inX4 : ∀ w ∈ wsX40, w ∈ lw_tbl := fun w h => wsL_law_in w (inlX4 w h)
theorem inlX5 : ∀ w ∈ wsX50, w ∈ wsL_law := fun _ h => List.mem_append_left _ (List.mem_append_left _ (List.mem_append_left _ (List.mem_append_left _ (List.mem_append_left _ (List.mem_append_right _ h)))))
theorem inX5 : ∀ w ∈ wsX50, w ∈ lw_tbl := fun w h => wsL_law_in w (inlX5 w h)
theorem inJ11 : ∀ w ∈ wsJ110, w ∈ lw_tbl := by decide +kernel
theorem inJ6 : ∀ w ∈ wsJ60, w ∈ lw_tbl := by decide +kernel
theorem inJ9 : ∀ w ∈ wsJ90, w ∈ lw_tbl := by decide +kernel
theorem inJ0 : ∀ w ∈ wsJ00, w ∈ lw_tbl := by decide +kernel
theorem inJ1 : ∀ w ∈ wsJ10, w ∈ lw_tbl := by decide +kernel
theorem inJ2 : ∀ w ∈ wsJ20, w ∈ lw_tbl := by decide +kernel
theorem inJ10 : ∀ w ∈ wsJ100, w ∈ lw_tbl := by decide +kernel
theorem inJ3 : ∀ w ∈ wsJ30, w ∈ lw_tbl := by decide +kernel
