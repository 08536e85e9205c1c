theorem dX0_init_0 : decode cX0_init 0 = .ok (.aload_n 0, 1) := by decide +kernel
theorem dX0_init_1 : decode cX0_init 1 = .ok (.invokespecial 3, 3) := by decide +kernel
theorem dX0_init_4 : decode cX0_init 4 = .ok (.aload_n 0, 1) := by decide +kernel
theorem dX0_init_5 : decode cX0_init 5 = .ok (.bipush 64, 2) := by decide +kernel
theorem dX0_init_7 : decode cX0_init 7 = .ok (.newarray .int, 2) := by decide +kernel
theorem dX0_init_9 : decode cX0_init 9 = .ok (.putfield 9, 3) := by decide +kernel
theorem dX0_init_12 : decode cX0_init 12 = .ok (.aload_n 0, 1) := by decide +kernel
theorem dX0_init_13 : decode cX0_init 13 = .ok (.iconst 0, 1) := by decide +kernel
theorem dX0_init_14 : decode cX0_init 14 = .ok (.putfield 15, 3) := by decide +kernel
theorem dX0_init_17 : decode cX0_init 17 = .ok (.aload_n 0, 1) := by decide +kernel
theorem dX0_init_18 : decode cX0_init 18 = .ok (.iconst 0, 1) := by decide +kernel
theorem dX0_init_19 : decode cX0_init 19 = .ok (.putfield 19, 3) := by decide +kernel
theorem dX0_init_22 : decode cX0_init 22 = .ok (.aload_n 0, 1) := by decide +kernel
theorem dX0_init_23 : decode cX0_init 23 = .ok (.iconst 0, 1) := by decide +kernel
theorem dX0_init_24 : decode cX0_init 24 = .ok (.putfield 22, 3) := by decide +kernel
theorem dX0_init_27 : decode cX0_init 27 = .ok (.aload_n 0, 1) := by decide +kernel
theorem dX0_init_28 : decode cX0_init 28 = .ok (.bipush 6, 2) := by decide +kernel
theorem dX0_init_30 : decode cX0_init 30 = .ok (.newarray .int, 2) := by decide +kernel
theorem dX0_init_32 : decode cX0_init 32 = .ok (.putfield 25, 3) := by decide +kernel
theorem dX0_init_35 : decode cX0_init 35 = .ok (.return_, 1) := by decide +kernel
theorem dX0_isFull_0 : decode cX0_isFull 0 = .ok (.aload_n 0, 1) := by decide +kernel
theorem dX0_isFull_1 : decode cX0_isFull 1 = .ok (.getfield 15, 3) := by decide +kernel
theorem dX0_isFull_4 : decode cX0_isFull 4 = .ok (.bipush 64, 2) := by decide +kernel
theorem dX0_isFull_6 : decode cX0_isFull 6 = .ok (.if_icmp .lt 7, 3) := by decide +kernel
theorem dX0_isFull_9 : decode cX0_isFull 9 = .ok (.iconst 1, 1) := by decide +kernel
theorem dX0_isFull_10 : decode cX0_isFull 10 = .ok (.goto 4, 3) := by decide +kernel
theorem dX0_isFull_13 : decode cX0_isFull 13 = .ok (.iconst 0, 1) := by decide +kernel
theorem dX0_isFull_14 : decode cX0_isFull 14 = .ok (.ireturn, 1) := by decide +kernel
theorem dX0_add_0 : decode cX0_add 0 = .ok (.aload_n 0, 1) := by decide +kernel
theorem dX0_add_1 : decode cX0_add 1 = .ok (.getfield 15, 3) := by decide +kernel
theorem dX0_add_4 : decode cX0_add 4 = .ok (.bipush 64, 2) := by decide +kernel
theorem dX0_add_6 : decode cX0_add 6 = .ok (.if_icmp .ge 23, 3) := by decide +kernel
theorem dX0_add_9 : decode cX0_add 9 = .ok (.aload_n 0, 1) := by decide +kernel
theorem dX0_add_10 : decode cX0_add 10 = .ok (.getfield 9, 3) := by decide +kernel
theorem dX0_add_13 : decode cX0_add 13 = .ok (.aload_n 0, 1) := by decide +kernel
theorem dX0_add_14 : decode cX0_add 14 = .ok (.getfield 15, 3) := by decide +kernel
theorem dX0_add_17 : decode cX0_add 17 = .ok (.iload_n 1, 1) := by decide +kernel
theorem dX0_add_18 : decode cX0_add 18 = .ok (.iastore, 1) := by decide +kernel
theorem dX0_add_19 : decode cX0_add 19 = .ok (.aload_n 0, 1) := by decide +kernel
theorem dX0_add_20 : decode cX0_add 20 = .ok (.dup, 1) := by decide +kernel
theorem dX0_add_21 : decode cX0_add 21 = .ok (.getfield 15, 3) := by decide +kernel
theorem dX0_add_24 : decode cX0_add 24 = .ok (.iconst 1, 1) := by decide +kernel
theorem dX0_add_25 : decode cX0_add 25 = .ok (.iadd, 1) := by decide +kernel
theorem dX0_add_26 : decode cX0_add 26 = .ok (.putfield 15, 3) := by decide +kernel
theorem dX0_add_29 : decode cX0_add 29 = .ok (.aload_n 0, 1) := by decide +kernel
theorem dX0_add_30 : decode cX0_add 30 = .ok (.getfield 15, 3) := by decide +kernel
theorem dX0_add_33 : decode cX0_add 33 = .ok (.ireturn, 1) := by decide +kernel
theorem dX0_howMany_0 : decode cX0_howMany 0 = .ok (.aload_n 0, 1) := by decide +kernel
theorem dX0_howMany_1 : decode cX0_howMany 1 = .ok (.getfield 15, 3) := by decide +kernel
theorem dX0_howMany_4 : decode cX0_howMany 4 = .ok (.ireturn, 1) := by decide +kernel
theorem dX0_clear_0 : decode cX0_clear 0 = .ok (.aload_n 0, 1) := by decide +kernel
theorem dX0_clear_1 : decode cX0_clear 1 = .ok (.iconst 0, 1) := by decide +kernel
theorem dX0_clear_2 : decode cX0_clear 2 = .ok (.putfield 15, 3) := by decide +kernel
theorem dX0_clear_5 : decode cX0_clear 5 = .ok (.aload_n 0, 1) := by decide +kernel
theorem dX0_clear_6 : decode cX0_clear 6 = .ok (.iconst 0, 1) := by decide +kernel
theorem dX0_clear_7 : decode cX0_clear 7 = .ok (.putfield 19, 3) := by decide +kernel
theorem dX0_clear_10 : decode cX0_clear 10 = .ok (.return_, 1) := by decide +kernel
theorem dX0_rewind_0 : decode cX0_rewind 0 = .ok (.aload_n 0, 1) := by decide +kernel
theorem dX0_rewind_1 : decode cX0_rewind 1 = .ok (.iconst 0, 1) := by decide +kernel
theorem dX0_rewind_2 : decode cX0_rewind 2 = .ok (.putfield 19, 3) := by decide +kernel
theorem dX0_rewind_5 : decode cX0_rewind 5 = .ok (.return_, 1) := by decide +kernel
theorem dX0_hasMore_0 : decode cX0_hasMore 0 = .ok (.aload_n 0, 1) := by decide +kernel
theorem dX0_hasMore_1 : decode cX0_hasMore 1 = .ok (.getfield 19, 3) := by decide +kernel
theorem dX0_hasMore_4 : decode cX0_hasMore 4 = .ok (.aload_n 0, 1) := by decide +kernel
theorem dX0_hasMore_5 : decode cX0_hasMore 5 = .ok (.getfield 15, 3) := by decide +kernel
theorem dX0_hasMore_8 : decode cX0_hasMore 8 = .ok (.if_icmp .ge 7, 3) := by decide +kernel
theorem dX0_hasMore_11 : decode cX0_hasMore 11 = .ok (.iconst 1, 1) := by decide +kernel
theorem dX0_hasMore_12 : decode cX0_hasMore 12 = .ok (.goto 4, 3) := by decide +kernel
theorem dX0_hasMore_15 : decode cX0_hasMore 15 = .ok (.iconst 0, 1) := by decide +kernel
theorem dX0_hasMore_16 : decode cX0_hasMore 16 = .ok (.ireturn, 1) := by decide +kernel
theorem dX0_place_0 : decode cX0_place 0 = .ok (.aload_n 0, 1) := by decide +kernel
theorem dX0_place_1 : decode cX0_place 1 = .ok (.getfield 19, 3) := by decide +kernel
theorem dX0_place_4 : decode cX0_place 4 = .ok (.ireturn, 1) := by decide +kernel
theorem dX0_sortOfStatement_0 : decode cX0_sortOfStatement 0 = .ok (.aload_n 0, 1) := by decide +kernel
theorem dX0_sortOfStatement_1 : decode cX0_sortOfStatement 1 = .ok (.getfield 22, 3) := by decide +kernel
theorem dX0_sortOfStatement_4 : decode cX0_sortOfStatement 4 = .ok (.ireturn, 1) := by decide +kernel
theorem dX0_number_0 : decode cX0_number 0 = .ok (.iload_n 1, 1) := by decide +kernel
theorem dX0_number_1 : decode cX0_number 1 = .ok (.ifCond .lt 18, 3) := by decide +kernel
theorem dX0_number_4 : decode cX0_number 4 = .ok (.iload_n 1, 1) := by decide +kernel
theorem dX0_number_5 : decode cX0_number 5 = .ok (.bipush 6, 2) := by decide +kernel
theorem dX0_number_7 : decode cX0_number 7 = .ok (.if_icmp .ge 12, 3) := by decide +kernel
theorem dX0_number_10 : decode cX0_number 10 = .ok (.aload_n 0, 1) := by decide +kernel
theorem dX0_number_11 : decode cX0_number 11 = .ok (.getfield 25, 3) := by decide +kernel
theorem dX0_number_14 : decode cX0_number 14 = .ok (.iload_n 1, 1) := by decide +kernel
theorem dX0_number_15 : decode cX0_number 15 = .ok (.iaload, 1) := by decide +kernel
theorem dX0_number_16 : decode cX0_number 16 = .ok (.goto 4, 3) := by decide +kernel
theorem dX0_number_19 : decode cX0_number 19 = .ok (.iconst 0, 1) := by decide +kernel
theorem dX0_number_20 : decode cX0_number 20 = .ok (.ireturn, 1) := by decide +kernel
set_option maxRecDepth 20000 in
theorem ggX0_brokenPlace_X0_rewind : GoodIn wsX0_brokenPlace wsX0_rewind := goodIn_r _ [6, 1, 128, 129, 130, 131, 132] (by decide +kernel) (by decide +kernel)
set_option maxRecDepth 20000 in
theorem gX0_brokenPlace_X0_rewind : GoodIn wsX0_brokenPlace (wsV RX0 28 RX0 yX0_rewind wsX0_rewind) := goodIn_app (goodIn_of _ (by decide +kernel)) ggX0_brokenPlace_X0_rewind
set_option maxRecDepth 20000 in
theorem ggX0_brokenPlace_X0_nextStatement : GoodIn wsX0_brokenPlace wsX0_nextStatement := goodIn_r _ [10, 1, 11, 12, 13, 14, 15, 16, 5, 17, 18, 19, 20, 21, 22, 23, 24, 25, 26, 27, 28, 29, 30, 31, 32, 33, 34, 35, 36, 37, 38, 39, 40, 41, 42, 43, 44, 45, 46, 47, 48, 49, 50, 51, 52, 53, 54, 55, 56, 57, 58, 59, 60, 61, 62, 63, 64, 65, 66, 67, 68, 69, 70, 71, 72, 73, 74, 75, 76, 77, 78, 79, 80, 81, 82, 83, 84, 85, 86, 87, 88, 89, 90, 91, 92, 93, 94, 95, 96, 97, 98, 99, 100, 101, 102, 103, 104, 105, 106, 107, 108, 109, 110, 111, 112, 113, 114, 115, 116, 117, 118, 119, 120, 121, 122, 123, 128, 129, 130, 131, 132] (by decide +kernel) (by decide +kernel)
set_option maxRecDepth 20000 in
theorem gX0_brokenPlace_X0_nextStatement : GoodIn wsX0_brokenPlace (wsV RX0 31 RX0 yX0_nextStatement wsX0_nextStatement) := goodIn_app (goodIn_of _ (by decide +kernel)) ggX0_brokenPlace_X0_nextStatement
set_option maxRecDepth 20000 in
theorem ggX0_brokenPlace_X0_hasMore : GoodIn wsX0_brokenPlace wsX0_hasMore := goodIn_r _ [127, 1, 11, 128, 129, 130, 131, 132] (by decide +kernel) (by decide +kernel)
set_option maxRecDepth 20000 in
theorem gX0_brokenPlace_X0_hasMore : GoodIn wsX0_brokenPlace (wsV RX0 35 RX0 yX0_hasMore wsX0_hasMore) := goodIn_app (goodIn_of _ (by decide +kernel)) ggX0_brokenPlace_X0_hasMore
theorem dX0_brokenPlace_0 : decode cX0_brokenPlace 0 = .ok (.aload_n 0, 1) := by decide +kernel
theorem dX0_brokenPlace_1 : decode cX0_brokenPlace 1 = .ok (.invokevirtual 28, 3) := by decide +kernel
theorem dX0_brokenPlace_4 : decode cX0_brokenPlace 4 = .ok (.iconst 0, 1) := by decide +kernel
theorem dX0_brokenPlace_5 : decode cX0_brokenPlace 5 = .ok (.istore_n 1, 1) := by decide +kernel
theorem dX0_brokenPlace_6 : decode cX0_brokenPlace 6 = .ok (.aload_n 0, 1) := by decide +kernel
theorem dX0_brokenPlace_7 : decode cX0_brokenPlace 7 = .ok (.invokevirtual 31, 3) := by decide +kernel
theorem dX0_brokenPlace_10 : decode cX0_brokenPlace 10 = .ok (.ifCond .ne 8, 3) := by decide +kernel
theorem dX0_brokenPlace_13 : decode cX0_brokenPlace 13 = .ok (.aload_n 0, 1) := by decide +kernel
theorem dX0_brokenPlace_14 : decode cX0_brokenPlace 14 = .ok (.getfield 19, 3) := by decide +kernel
theorem dX0_brokenPlace_17 : decode cX0_brokenPlace 17 = .ok (.ireturn, 1) := by decide +kernel
theorem dX0_brokenPlace_18 : decode cX0_brokenPlace 18 = .ok (.iinc 1 1, 3) := by decide +kernel
theorem dX0_brokenPlace_21 : decode cX0_brokenPlace 21 = .ok (.aload_n 0, 1) := by decide +kernel
theorem dX0_brokenPlace_22 : decode cX0_brokenPlace 22 = .ok (.invokevirtual 35, 3) := by decide +kernel
theorem dX0_brokenPlace_25 : decode cX0_brokenPlace 25 = .ok (.ifCond .eq 9, 3) := by decide +kernel
theorem dX0_brokenPlace_28 : decode cX0_brokenPlace 28 = .ok (.iload_n 1, 1) := by decide +kernel
theorem dX0_brokenPlace_29 : decode cX0_brokenPlace 29 = .ok (.bipush 64, 2) := by decide +kernel
theorem dX0_brokenPlace_31 : decode cX0_brokenPlace 31 = .ok (.if_icmp .lt (-25), 3) := by decide +kernel
theorem dX0_brokenPlace_34 : decode cX0_brokenPlace 34 = .ok (.iconst (-1), 1) := by decide +kernel
theorem dX0_brokenPlace_35 : decode cX0_brokenPlace 35 = .ok (.ireturn, 1) := by decide +kernel
set_option maxRecDepth 20000 in
theorem ggX0_nextStatement_X0_passes : GoodIn wsX0_nextStatement wsX0_passes := goodIn_r _ [9, 1, 2, 3, 116, 117, 118, 119, 120] (by decide +kernel) (by decide +kernel)
set_option maxRecDepth 20000 in
theorem gX0_nextStatement_X0_passes : GoodIn wsX0_nextStatement (wsV RX0 38 RX0 yX0_passes wsX0_passes) := goodIn_app (goodIn_of _ (by decide +kernel)) ggX0_nextStatement_X0_passes
set_option maxRecDepth 20000 in
theorem ggX0_nextStatement_X0_passesKind : GoodIn wsX0_nextStatement wsX0_passesKind := goodIn_r _ [13, 1, 2, 3, 14, 15, 16, 17, 18, 19, 20, 21, 22, 23, 24, 25, 26, 27, 28, 29, 30, 31, 32, 33, 34, 35, 36, 37, 38, 39, 40, 41, 42, 43, 44, 45, 46, 47, 48, 49, 50, 51, 52, 53, 54, 55, 56, 57, 58, 59, 60, 61, 62, 63, 64, 65, 66, 67, 68, 69, 70, 71, 72, 73, 74, 75, 76, 77, 78, 79, 80, 81, 82, 83, 84, 85, 86, 87, 88, 89, 90, 91, 92, 93, 94, 95, 96, 97, 98, 99, 100, 101, 102, 103, 116, 117, 118, 119, 120] (by decide +kernel) (by decide +kernel)
set_option maxRecDepth 20000 in
theorem gX0_nextStatement_X0_passesKind : GoodIn wsX0_nextStatement (wsV RX0 42 RX0 yX0_passesKind wsX0_passesKind) := goodIn_app (goodIn_of _ (by decide +kernel)) ggX0_nextStatement_X0_passesKind
set_option maxRecDepth 20000 in
theorem ggX0_nextStatement_X0_passesNumber : GoodIn wsX0_nextStatement wsX0_passesNumber := goodIn_r _ [107, 3, 1, 14, 108, 109, 110, 8, 111, 2, 116, 117, 118, 119, 120] (by decide +kernel) (by decide +kernel)
set_option maxRecDepth 20000 in
theorem gX0_nextStatement_X0_passesNumber : GoodIn wsX0_nextStatement (wsV RX0 45 RX0 yX0_passesNumber wsX0_passesNumber) := goodIn_app (goodIn_of _ (by decide +kernel)) ggX0_nextStatement_X0_passesNumber
set_option maxRecDepth 20000 in
theorem ggX0_nextStatement_X0_passesPersons : GoodIn wsX0_nextStatement wsX0_passesPersons := goodIn_r _ [115, 3, 1, 14, 108, 109, 110, 8, 111, 2, 116, 117, 118, 119, 120] (by decide +kernel) (by decide +kernel)
set_option maxRecDepth 20000 in
theorem gX0_nextStatement_X0_passesPersons : GoodIn wsX0_nextStatement (wsV RX0 49 RX0 yX0_passesPersons wsX0_passesPersons) := goodIn_app (goodIn_of _ (by decide +kernel)) ggX0_nextStatement_X0_passesPersons
theorem dX0_nextStatement_0 : decode cX0_nextStatement 0 = .ok (.aload_n 0, 1) := by decide +kernel
theorem dX0_nextStatement_1 : decode cX0_nextStatement 1 = .ok (.aload_n 0, 1) := by decide +kernel
theorem dX0_nextStatement_2 : decode cX0_nextStatement 2 = .ok (.getfield 19, 3) := by decide +kernel
theorem dX0_nextStatement_5 : decode cX0_nextStatement 5 = .ok (.aload_n 0, 1) := by decide +kernel
theorem dX0_nextStatement_6 : decode cX0_nextStatement 6 = .ok (.getfield 15, 3) := by decide +kernel
theorem dX0_nextStatement_9 : decode cX0_nextStatement 9 = .ok (.if_icmp .ge 15, 3) := by decide +kernel
theorem dX0_nextStatement_12 : decode cX0_nextStatement 12 = .ok (.aload_n 0, 1) := by decide +kernel
theorem dX0_nextStatement_13 : decode cX0_nextStatement 13 = .ok (.getfield 9, 3) := by decide +kernel
theorem dX0_nextStatement_16 : decode cX0_nextStatement 16 = .ok (.aload_n 0, 1) := by decide +kernel
theorem dX0_nextStatement_17 : decode cX0_nextStatement 17 = .ok (.getfield 19, 3) := by decide +kernel
theorem dX0_nextStatement_20 : decode cX0_nextStatement 20 = .ok (.iaload, 1) := by decide +kernel
theorem dX0_nextStatement_21 : decode cX0_nextStatement 21 = .ok (.goto 4, 3) := by decide +kernel
theorem dX0_nextStatement_24 : decode cX0_nextStatement 24 = .ok (.iconst (-1), 1) := by decide +kernel
theorem dX0_nextStatement_25 : decode cX0_nextStatement 25 = .ok (.putfield 22, 3) := by decide +kernel
theorem dX0_nextStatement_28 : decode cX0_nextStatement 28 = .ok (.aload_n 0, 1) := by decide +kernel
theorem dX0_nextStatement_29 : decode cX0_nextStatement 29 = .ok (.getfield 22, 3) := by decide +kernel
theorem dX0_nextStatement_32 : decode cX0_nextStatement 32 = .ok (.lookupswitch 262 #[(97, 93), (99, 229), (108, 196), (112, 44)], 44) := by decide +kernel
theorem dX0_nextStatement_76 : decode cX0_nextStatement 76 = .ok (.aload_n 0, 1) := by decide +kernel
theorem dX0_nextStatement_77 : decode cX0_nextStatement 77 = .ok (.bipush 112, 2) := by decide +kernel
theorem dX0_nextStatement_79 : decode cX0_nextStatement 79 = .ok (.invokevirtual 38, 3) := by decide +kernel
theorem dX0_nextStatement_82 : decode cX0_nextStatement 82 = .ok (.ifCond .eq 41, 3) := by decide +kernel
theorem dX0_nextStatement_85 : decode cX0_nextStatement 85 = .ok (.aload_n 0, 1) := by decide +kernel
theorem dX0_nextStatement_86 : decode cX0_nextStatement 86 = .ok (.invokevirtual 42, 3) := by decide +kernel
theorem dX0_nextStatement_89 : decode cX0_nextStatement 89 = .ok (.ifCond .eq 34, 3) := by decide +kernel
theorem dX0_nextStatement_92 : decode cX0_nextStatement 92 = .ok (.aload_n 0, 1) := by decide +kernel
theorem dX0_nextStatement_93 : decode cX0_nextStatement 93 = .ok (.iconst 1, 1) := by decide +kernel
theorem dX0_nextStatement_94 : decode cX0_nextStatement 94 = .ok (.iconst 1, 1) := by decide +kernel
theorem dX0_nextStatement_95 : decode cX0_nextStatement 95 = .ok (.invokevirtual 45, 3) := by decide +kernel
theorem dX0_nextStatement_98 : decode cX0_nextStatement 98 = .ok (.ifCond .eq 25, 3) := by decide +kernel
theorem dX0_nextStatement_101 : decode cX0_nextStatement 101 = .ok (.aload_n 0, 1) := by decide +kernel
theorem dX0_nextStatement_102 : decode cX0_nextStatement 102 = .ok (.iconst 2, 1) := by decide +kernel
theorem dX0_nextStatement_103 : decode cX0_nextStatement 103 = .ok (.iconst 2, 1) := by decide +kernel
theorem dX0_nextStatement_104 : decode cX0_nextStatement 104 = .ok (.invokevirtual 45, 3) := by decide +kernel
theorem dX0_nextStatement_107 : decode cX0_nextStatement 107 = .ok (.ifCond .eq 16, 3) := by decide +kernel
theorem dX0_nextStatement_110 : decode cX0_nextStatement 110 = .ok (.aload_n 0, 1) := by decide +kernel
theorem dX0_nextStatement_111 : decode cX0_nextStatement 111 = .ok (.bipush 59, 2) := by decide +kernel
theorem dX0_nextStatement_113 : decode cX0_nextStatement 113 = .ok (.invokevirtual 38, 3) := by decide +kernel
theorem dX0_nextStatement_116 : decode cX0_nextStatement 116 = .ok (.ifCond .eq 7, 3) := by decide +kernel
theorem dX0_nextStatement_119 : decode cX0_nextStatement 119 = .ok (.iconst 1, 1) := by decide +kernel
theorem dX0_nextStatement_120 : decode cX0_nextStatement 120 = .ok (.goto 4, 3) := by decide +kernel
theorem dX0_nextStatement_123 : decode cX0_nextStatement 123 = .ok (.iconst 0, 1) := by decide +kernel
theorem dX0_nextStatement_124 : decode cX0_nextStatement 124 = .ok (.ireturn, 1) := by decide +kernel
theorem dX0_nextStatement_125 : decode cX0_nextStatement 125 = .ok (.aload_n 0, 1) := by decide +kernel
theorem dX0_nextStatement_126 : decode cX0_nextStatement 126 = .ok (.bipush 97, 2) := by decide +kernel
theorem dX0_nextStatement_128 : decode cX0_nextStatement 128 = .ok (.invokevirtual 38, 3) := by decide +kernel
theorem dX0_nextStatement_131 : decode cX0_nextStatement 131 = .ok (.ifCond .eq 95, 3) := by decide +kernel
theorem dX0_nextStatement_134 : decode cX0_nextStatement 134 = .ok (.aload_n 0, 1) := by decide +kernel
theorem dX0_nextStatement_135 : decode cX0_nextStatement 135 = .ok (.invokevirtual 49, 3) := by decide +kernel
theorem dX0_nextStatement_138 : decode cX0_nextStatement 138 = .ok (.ifCond .eq 88, 3) := by decide +kernel
theorem dX0_nextStatement_141 : decode cX0_nextStatement 141 = .ok (.aload_n 0, 1) := by decide +kernel
theorem dX0_nextStatement_142 : decode cX0_nextStatement 142 = .ok (.bipush 44, 2) := by decide +kernel
theorem dX0_nextStatement_144 : decode cX0_nextStatement 144 = .ok (.invokevirtual 38, 3) := by decide +kernel
theorem dX0_nextStatement_147 : decode cX0_nextStatement 147 = .ok (.ifCond .eq 79, 3) := by decide +kernel
theorem dX0_nextStatement_150 : decode cX0_nextStatement 150 = .ok (.aload_n 0, 1) := by decide +kernel
theorem dX0_nextStatement_151 : decode cX0_nextStatement 151 = .ok (.iconst 1, 1) := by decide +kernel
theorem dX0_nextStatement_152 : decode cX0_nextStatement 152 = .ok (.iconst 3, 1) := by decide +kernel
theorem dX0_nextStatement_153 : decode cX0_nextStatement 153 = .ok (.invokevirtual 45, 3) := by decide +kernel
theorem dX0_nextStatement_156 : decode cX0_nextStatement 156 = .ok (.ifCond .eq 70, 3) := by decide +kernel
theorem dX0_nextStatement_159 : decode cX0_nextStatement 159 = .ok (.aload_n 0, 1) := by decide +kernel
theorem dX0_nextStatement_160 : decode cX0_nextStatement 160 = .ok (.bipush 44, 2) := by decide +kernel
theorem dX0_nextStatement_162 : decode cX0_nextStatement 162 = .ok (.invokevirtual 38, 3) := by decide +kernel
theorem dX0_nextStatement_165 : decode cX0_nextStatement 165 = .ok (.ifCond .eq 61, 3) := by decide +kernel
theorem dX0_nextStatement_168 : decode cX0_nextStatement 168 = .ok (.aload_n 0, 1) := by decide +kernel
theorem dX0_nextStatement_169 : decode cX0_nextStatement 169 = .ok (.iconst 2, 1) := by decide +kernel
theorem dX0_nextStatement_170 : decode cX0_nextStatement 170 = .ok (.iconst 3, 1) := by decide +kernel
theorem dX0_nextStatement_171 : decode cX0_nextStatement 171 = .ok (.invokevirtual 45, 3) := by decide +kernel
theorem dX0_nextStatement_174 : decode cX0_nextStatement 174 = .ok (.ifCond .eq 52, 3) := by decide +kernel
theorem dX0_nextStatement_177 : decode cX0_nextStatement 177 = .ok (.aload_n 0, 1) := by decide +kernel
theorem dX0_nextStatement_178 : decode cX0_nextStatement 178 = .ok (.bipush 58, 2) := by decide +kernel
theorem dX0_nextStatement_180 : decode cX0_nextStatement 180 = .ok (.invokevirtual 38, 3) := by decide +kernel
theorem dX0_nextStatement_183 : decode cX0_nextStatement 183 = .ok (.ifCond .eq 43, 3) := by decide +kernel
theorem dX0_nextStatement_186 : decode cX0_nextStatement 186 = .ok (.aload_n 0, 1) := by decide +kernel
theorem dX0_nextStatement_187 : decode cX0_nextStatement 187 = .ok (.iconst 3, 1) := by decide +kernel
theorem dX0_nextStatement_188 : decode cX0_nextStatement 188 = .ok (.iconst 1, 1) := by decide +kernel
theorem dX0_nextStatement_189 : decode cX0_nextStatement 189 = .ok (.invokevirtual 45, 3) := by decide +kernel
theorem dX0_nextStatement_192 : decode cX0_nextStatement 192 = .ok (.ifCond .eq 34, 3) := by decide +kernel
theorem dX0_nextStatement_195 : decode cX0_nextStatement 195 = .ok (.aload_n 0, 1) := by decide +kernel
theorem dX0_nextStatement_196 : decode cX0_nextStatement 196 = .ok (.iconst 4, 1) := by decide +kernel
theorem dX0_nextStatement_197 : decode cX0_nextStatement 197 = .ok (.iconst 1, 1) := by decide +kernel
theorem dX0_nextStatement_198 : decode cX0_nextStatement 198 = .ok (.invokevirtual 45, 3) := by decide +kernel
theorem dX0_nextStatement_201 : decode cX0_nextStatement 201 = .ok (.ifCond .eq 25, 3) := by decide +kernel
theorem dX0_nextStatement_204 : decode cX0_nextStatement 204 = .ok (.aload_n 0, 1) := by decide +kernel
theorem dX0_nextStatement_205 : decode cX0_nextStatement 205 = .ok (.iconst 5, 1) := by decide +kernel
theorem dX0_nextStatement_206 : decode cX0_nextStatement 206 = .ok (.iconst 1, 1) := by decide +kernel
theorem dX0_nextStatement_207 : decode cX0_nextStatement 207 = .ok (.invokevirtual 45, 3) := by decide +kernel
theorem dX0_nextStatement_210 : decode cX0_nextStatement 210 = .ok (.ifCond .eq 16, 3) := by decide +kernel
theorem dX0_nextStatement_213 : decode cX0_nextStatement 213 = .ok (.aload_n 0, 1) := by decide +kernel
theorem dX0_nextStatement_214 : decode cX0_nextStatement 214 = .ok (.bipush 59, 2) := by decide +kernel
theorem dX0_nextStatement_216 : decode cX0_nextStatement 216 = .ok (.invokevirtual 38, 3) := by decide +kernel
theorem dX0_nextStatement_219 : decode cX0_nextStatement 219 = .ok (.ifCond .eq 7, 3) := by decide +kernel
theorem dX0_nextStatement_222 : decode cX0_nextStatement 222 = .ok (.iconst 1, 1) := by decide +kernel
theorem dX0_nextStatement_223 : decode cX0_nextStatement 223 = .ok (.goto 4, 3) := by decide +kernel
theorem dX0_nextStatement_226 : decode cX0_nextStatement 226 = .ok (.iconst 0, 1) := by decide +kernel
theorem dX0_nextStatement_227 : decode cX0_nextStatement 227 = .ok (.ireturn, 1) := by decide +kernel
theorem dX0_nextStatement_228 : decode cX0_nextStatement 228 = .ok (.aload_n 0, 1) := by decide +kernel
theorem dX0_nextStatement_229 : decode cX0_nextStatement 229 = .ok (.bipush 108, 2) := by decide +kernel
theorem dX0_nextStatement_231 : decode cX0_nextStatement 231 = .ok (.invokevirtual 38, 3) := by decide +kernel
theorem dX0_nextStatement_234 : decode cX0_nextStatement 234 = .ok (.ifCond .eq 25, 3) := by decide +kernel
theorem dX0_nextStatement_237 : decode cX0_nextStatement 237 = .ok (.aload_n 0, 1) := by decide +kernel
theorem dX0_nextStatement_238 : decode cX0_nextStatement 238 = .ok (.iconst 0, 1) := by decide +kernel
theorem dX0_nextStatement_239 : decode cX0_nextStatement 239 = .ok (.iconst 1, 1) := by decide +kernel
theorem dX0_nextStatement_240 : decode cX0_nextStatement 240 = .ok (.invokevirtual 45, 3) := by decide +kernel
theorem dX0_nextStatement_243 : decode cX0_nextStatement 243 = .ok (.ifCond .eq 16, 3) := by decide +kernel
theorem dX0_nextStatement_246 : decode cX0_nextStatement 246 = .ok (.aload_n 0, 1) := by decide +kernel
theorem dX0_nextStatement_247 : decode cX0_nextStatement 247 = .ok (.bipush 59, 2) := by decide +kernel
theorem dX0_nextStatement_249 : decode cX0_nextStatement 249 = .ok (.invokevirtual 38, 3) := by decide +kernel
theorem dX0_nextStatement_252 : decode cX0_nextStatement 252 = .ok (.ifCond .eq 7, 3) := by decide +kernel
theorem dX0_nextStatement_255 : decode cX0_nextStatement 255 = .ok (.iconst 1, 1) := by decide +kernel
theorem dX0_nextStatement_256 : decode cX0_nextStatement 256 = .ok (.goto 4, 3) := by decide +kernel
theorem dX0_nextStatement_259 : decode cX0_nextStatement 259 = .ok (.iconst 0, 1) := by decide +kernel
theorem dX0_nextStatement_260 : decode cX0_nextStatement 260 = .ok (.ireturn, 1) := by decide +kernel
theorem dX0_nextStatement_261 : decode cX0_nextStatement 261 = .ok (.aload_n 0, 1) := by decide +kernel
theorem dX0_nextStatement_262 : decode cX0_nextStatement 262 = .ok (.bipush 99, 2) := by decide +kernel
theorem dX0_nextStatement_264 : decode cX0_nextStatement 264 = .ok (.invokevirtual 38, 3) := by decide +kernel
theorem dX0_nextStatement_267 : decode cX0_nextStatement 267 = .ok (.ifCond .eq 25, 3) := by decide +kernel
theorem dX0_nextStatement_270 : decode cX0_nextStatement 270 = .ok (.aload_n 0, 1) := by decide +kernel
theorem dX0_nextStatement_271 : decode cX0_nextStatement 271 = .ok (.iconst 0, 1) := by decide +kernel
theorem dX0_nextStatement_272 : decode cX0_nextStatement 272 = .ok (.iconst 3, 1) := by decide +kernel
theorem dX0_nextStatement_273 : decode cX0_nextStatement 273 = .ok (.invokevirtual 45, 3) := by decide +kernel
theorem dX0_nextStatement_276 : decode cX0_nextStatement 276 = .ok (.ifCond .eq 16, 3) := by decide +kernel
theorem dX0_nextStatement_279 : decode cX0_nextStatement 279 = .ok (.aload_n 0, 1) := by decide +kernel
theorem dX0_nextStatement_280 : decode cX0_nextStatement 280 = .ok (.bipush 59, 2) := by decide +kernel
theorem dX0_nextStatement_282 : decode cX0_nextStatement 282 = .ok (.invokevirtual 38, 3) := by decide +kernel
theorem dX0_nextStatement_285 : decode cX0_nextStatement 285 = .ok (.ifCond .eq 7, 3) := by decide +kernel
theorem dX0_nextStatement_288 : decode cX0_nextStatement 288 = .ok (.iconst 1, 1) := by decide +kernel
theorem dX0_nextStatement_289 : decode cX0_nextStatement 289 = .ok (.goto 4, 3) := by decide +kernel
theorem dX0_nextStatement_292 : decode cX0_nextStatement 292 = .ok (.iconst 0, 1) := by decide +kernel
theorem dX0_nextStatement_293 : decode cX0_nextStatement 293 = .ok (.ireturn, 1) := by decide +kernel
theorem dX0_nextStatement_294 : decode cX0_nextStatement 294 = .ok (.iconst 0, 1) := by decide +kernel
theorem dX0_nextStatement_295 : decode cX0_nextStatement 295 = .ok (.ireturn, 1) := by decide +kernel
theorem dX0_passes_0 : decode cX0_passes 0 = .ok (.aload_n 0, 1) := by decide +kernel
theorem dX0_passes_1 : decode cX0_passes 1 = .ok (.getfield 19, 3) := by decide +kernel
theorem dX0_passes_4 : decode cX0_passes 4 = .ok (.aload_n 0, 1) := by decide +kernel
theorem dX0_passes_5 : decode cX0_passes 5 = .ok (.getfield 15, 3) := by decide +kernel
theorem dX0_passes_8 : decode cX0_passes 8 = .ok (.if_icmp .ge 28, 3) := by decide +kernel
theorem dX0_passes_11 : decode cX0_passes 11 = .ok (.aload_n 0, 1) := by decide +kernel
theorem dX0_passes_12 : decode cX0_passes 12 = .ok (.getfield 9, 3) := by decide +kernel
theorem dX0_passes_15 : decode cX0_passes 15 = .ok (.aload_n 0, 1) := by decide +kernel
theorem dX0_passes_16 : decode cX0_passes 16 = .ok (.getfield 19, 3) := by decide +kernel
theorem dX0_passes_19 : decode cX0_passes 19 = .ok (.iaload, 1) := by decide +kernel
theorem dX0_passes_20 : decode cX0_passes 20 = .ok (.iload_n 1, 1) := by decide +kernel
theorem dX0_passes_21 : decode cX0_passes 21 = .ok (.if_icmp .ne 15, 3) := by decide +kernel
theorem dX0_passes_24 : decode cX0_passes 24 = .ok (.aload_n 0, 1) := by decide +kernel
theorem dX0_passes_25 : decode cX0_passes 25 = .ok (.dup, 1) := by decide +kernel
theorem dX0_passes_26 : decode cX0_passes 26 = .ok (.getfield 19, 3) := by decide +kernel
theorem dX0_passes_29 : decode cX0_passes 29 = .ok (.iconst 1, 1) := by decide +kernel
theorem dX0_passes_30 : decode cX0_passes 30 = .ok (.iadd, 1) := by decide +kernel
theorem dX0_passes_31 : decode cX0_passes 31 = .ok (.putfield 19, 3) := by decide +kernel
theorem dX0_passes_34 : decode cX0_passes 34 = .ok (.iconst 1, 1) := by decide +kernel
theorem dX0_passes_35 : decode cX0_passes 35 = .ok (.ireturn, 1) := by decide +kernel
theorem dX0_passes_36 : decode cX0_passes 36 = .ok (.iconst 0, 1) := by decide +kernel
theorem dX0_passes_37 : decode cX0_passes 37 = .ok (.ireturn, 1) := by decide +kernel
set_option maxRecDepth 20000 in
theorem ggX0_passesKind_J0_indexOf_0f7a4 : GoodIn wsX0_passesKind wsJ0_indexOf_0f7a4 := goodIn_r _ [9, 10, 11, 12, 8, 13, 14, 15, 16, 17, 18, 19, 20, 21, 22, 23, 24, 25, 26, 27, 28, 29, 30, 31, 32, 33, 34, 35, 36, 37, 38, 39, 40, 41, 42, 43, 44, 45, 46, 47, 48, 49, 50, 51, 52, 53, 54, 55, 56, 57, 58, 59, 60, 61, 62, 63, 64, 65, 66, 67, 68, 69, 70, 71, 72, 73, 74, 75, 76, 77, 78, 79, 80, 81, 82, 83, 84, 85, 86, 87, 88, 89, 90, 91, 92, 93] (by decide +kernel) (by decide +kernel)
set_option maxRecDepth 20000 in
theorem gX0_passesKind_J0_indexOf_0f7a4 : GoodIn wsX0_passesKind (wsV RX0 54 RJ0 yJ0_indexOf_0f7a4 wsJ0_indexOf_0f7a4) := goodIn_app (goodIn_of _ (by decide +kernel)) ggX0_passesKind_J0_indexOf_0f7a4
theorem dX0_passesKind_0 : decode cX0_passesKind 0 = .ok (.aload_n 0, 1) := by decide +kernel
theorem dX0_passesKind_1 : decode cX0_passesKind 1 = .ok (.getfield 19, 3) := by decide +kernel
theorem dX0_passesKind_4 : decode cX0_passesKind 4 = .ok (.aload_n 0, 1) := by decide +kernel
theorem dX0_passesKind_5 : decode cX0_passesKind 5 = .ok (.getfield 15, 3) := by decide +kernel
theorem dX0_passesKind_8 : decode cX0_passesKind 8 = .ok (.if_icmp .ge 21, 3) := by decide +kernel
theorem dX0_passesKind_11 : decode cX0_passesKind 11 = .ok (.ldc 52, 2) := by decide +kernel
theorem dX0_passesKind_13 : decode cX0_passesKind 13 = .ok (.aload_n 0, 1) := by decide +kernel
theorem dX0_passesKind_14 : decode cX0_passesKind 14 = .ok (.getfield 9, 3) := by decide +kernel
theorem dX0_passesKind_17 : decode cX0_passesKind 17 = .ok (.aload_n 0, 1) := by decide +kernel
theorem dX0_passesKind_18 : decode cX0_passesKind 18 = .ok (.getfield 19, 3) := by decide +kernel
theorem dX0_passesKind_21 : decode cX0_passesKind 21 = .ok (.iaload, 1) := by decide +kernel
theorem dX0_passesKind_22 : decode cX0_passesKind 22 = .ok (.i2c, 1) := by decide +kernel
theorem dX0_passesKind_23 : decode cX0_passesKind 23 = .ok (.invokevirtual 54, 3) := by decide +kernel
theorem dX0_passesKind_26 : decode cX0_passesKind 26 = .ok (.goto 4, 3) := by decide +kernel
theorem dX0_passesKind_29 : decode cX0_passesKind 29 = .ok (.iconst (-1), 1) := by decide +kernel
theorem dX0_passesKind_30 : decode cX0_passesKind 30 = .ok (.istore_n 1, 1) := by decide +kernel
theorem dX0_passesKind_31 : decode cX0_passesKind 31 = .ok (.iload_n 1, 1) := by decide +kernel
theorem dX0_passesKind_32 : decode cX0_passesKind 32 = .ok (.ifCond .ge 5, 3) := by decide +kernel
theorem dX0_passesKind_35 : decode cX0_passesKind 35 = .ok (.iconst 0, 1) := by decide +kernel
theorem dX0_passesKind_36 : decode cX0_passesKind 36 = .ok (.ireturn, 1) := by decide +kernel
theorem dX0_passesKind_37 : decode cX0_passesKind 37 = .ok (.aload_n 0, 1) := by decide +kernel
theorem dX0_passesKind_38 : decode cX0_passesKind 38 = .ok (.getfield 25, 3) := by decide +kernel
theorem dX0_passesKind_41 : decode cX0_passesKind 41 = .ok (.iconst 0, 1) := by decide +kernel
theorem dX0_passesKind_42 : decode cX0_passesKind 42 = .ok (.iload_n 1, 1) := by decide +kernel
theorem dX0_passesKind_43 : decode cX0_passesKind 43 = .ok (.iastore, 1) := by decide +kernel
theorem dX0_passesKind_44 : decode cX0_passesKind 44 = .ok (.aload_n 0, 1) := by decide +kernel
theorem dX0_passesKind_45 : decode cX0_passesKind 45 = .ok (.dup, 1) := by decide +kernel
theorem dX0_passesKind_46 : decode cX0_passesKind 46 = .ok (.getfield 19, 3) := by decide +kernel
theorem dX0_passesKind_49 : decode cX0_passesKind 49 = .ok (.iconst 1, 1) := by decide +kernel
theorem dX0_passesKind_50 : decode cX0_passesKind 50 = .ok (.iadd, 1) := by decide +kernel
theorem dX0_passesKind_51 : decode cX0_passesKind 51 = .ok (.putfield 19, 3) := by decide +kernel
theorem dX0_passesKind_54 : decode cX0_passesKind 54 = .ok (.iconst 1, 1) := by decide +kernel
theorem dX0_passesKind_55 : decode cX0_passesKind 55 = .ok (.ireturn, 1) := by decide +kernel
theorem dX0_isAtDigit_0 : decode cX0_isAtDigit 0 = .ok (.aload_n 0, 1) := by decide +kernel
theorem dX0_isAtDigit_1 : decode cX0_isAtDigit 1 = .ok (.getfield 19, 3) := by decide +kernel
theorem dX0_isAtDigit_4 : decode cX0_isAtDigit 4 = .ok (.aload_n 0, 1) := by decide +kernel
theorem dX0_isAtDigit_5 : decode cX0_isAtDigit 5 = .ok (.getfield 15, 3) := by decide +kernel
theorem dX0_isAtDigit_8 : decode cX0_isAtDigit 8 = .ok (.if_icmp .ge 35, 3) := by decide +kernel
theorem dX0_isAtDigit_11 : decode cX0_isAtDigit 11 = .ok (.aload_n 0, 1) := by decide +kernel
theorem dX0_isAtDigit_12 : decode cX0_isAtDigit 12 = .ok (.getfield 9, 3) := by decide +kernel
theorem dX0_isAtDigit_15 : decode cX0_isAtDigit 15 = .ok (.aload_n 0, 1) := by decide +kernel
theorem dX0_isAtDigit_16 : decode cX0_isAtDigit 16 = .ok (.getfield 19, 3) := by decide +kernel
theorem dX0_isAtDigit_19 : decode cX0_isAtDigit 19 = .ok (.iaload, 1) := by decide +kernel
theorem dX0_isAtDigit_20 : decode cX0_isAtDigit 20 = .ok (.bipush 48, 2) := by decide +kernel
theorem dX0_isAtDigit_22 : decode cX0_isAtDigit 22 = .ok (.if_icmp .lt 21, 3) := by decide +kernel
theorem dX0_isAtDigit_25 : decode cX0_isAtDigit 25 = .ok (.aload_n 0, 1) := by decide +kernel
theorem dX0_isAtDigit_26 : decode cX0_isAtDigit 26 = .ok (.getfield 9, 3) := by decide +kernel
theorem dX0_isAtDigit_29 : decode cX0_isAtDigit 29 = .ok (.aload_n 0, 1) := by decide +kernel
theorem dX0_isAtDigit_30 : decode cX0_isAtDigit 30 = .ok (.getfield 19, 3) := by decide +kernel
theorem dX0_isAtDigit_33 : decode cX0_isAtDigit 33 = .ok (.iaload, 1) := by decide +kernel
theorem dX0_isAtDigit_34 : decode cX0_isAtDigit 34 = .ok (.bipush 57, 2) := by decide +kernel
theorem dX0_isAtDigit_36 : decode cX0_isAtDigit 36 = .ok (.if_icmp .gt 7, 3) := by decide +kernel
theorem dX0_isAtDigit_39 : decode cX0_isAtDigit 39 = .ok (.iconst 1, 1) := by decide +kernel
theorem dX0_isAtDigit_40 : decode cX0_isAtDigit 40 = .ok (.goto 4, 3) := by decide +kernel
theorem dX0_isAtDigit_43 : decode cX0_isAtDigit 43 = .ok (.iconst 0, 1) := by decide +kernel
theorem dX0_isAtDigit_44 : decode cX0_isAtDigit 44 = .ok (.ireturn, 1) := by decide +kernel
set_option maxRecDepth 20000 in
theorem ggX0_passesNumber_X0_isAtDigit : GoodIn wsX0_passesNumber wsX0_isAtDigit := goodIn_r _ [8, 2, 9, 1, 10, 11, 12, 13, 14] (by decide +kernel) (by decide +kernel)
set_option maxRecDepth 20000 in
theorem gX0_passesNumber_X0_isAtDigit : GoodIn wsX0_passesNumber (wsV RX0 60 RX0 yX0_isAtDigit wsX0_isAtDigit) := goodIn_app (goodIn_of _ (by decide +kernel)) ggX0_passesNumber_X0_isAtDigit
theorem dX0_passesNumber_0 : decode cX0_passesNumber 0 = .ok (.iconst 0, 1) := by decide +kernel
theorem dX0_passesNumber_1 : decode cX0_passesNumber 1 = .ok (.istore_n 3, 1) := by decide +kernel
theorem dX0_passesNumber_2 : decode cX0_passesNumber 2 = .ok (.iconst 0, 1) := by decide +kernel
theorem dX0_passesNumber_3 : decode cX0_passesNumber 3 = .ok (.istore 4, 2) := by decide +kernel
theorem dX0_passesNumber_5 : decode cX0_passesNumber 5 = .ok (.iload 4, 2) := by decide +kernel
theorem dX0_passesNumber_7 : decode cX0_passesNumber 7 = .ok (.iload_n 2, 1) := by decide +kernel
theorem dX0_passesNumber_8 : decode cX0_passesNumber 8 = .ok (.if_icmp .ge 44, 3) := by decide +kernel
theorem dX0_passesNumber_11 : decode cX0_passesNumber 11 = .ok (.aload_n 0, 1) := by decide +kernel
theorem dX0_passesNumber_12 : decode cX0_passesNumber 12 = .ok (.invokevirtual 60, 3) := by decide +kernel
theorem dX0_passesNumber_15 : decode cX0_passesNumber 15 = .ok (.ifCond .eq 37, 3) := by decide +kernel
theorem dX0_passesNumber_18 : decode cX0_passesNumber 18 = .ok (.iload_n 3, 1) := by decide +kernel
theorem dX0_passesNumber_19 : decode cX0_passesNumber 19 = .ok (.bipush 10, 2) := by decide +kernel
theorem dX0_passesNumber_21 : decode cX0_passesNumber 21 = .ok (.imul, 1) := by decide +kernel
theorem dX0_passesNumber_22 : decode cX0_passesNumber 22 = .ok (.aload_n 0, 1) := by decide +kernel
theorem dX0_passesNumber_23 : decode cX0_passesNumber 23 = .ok (.getfield 9, 3) := by decide +kernel
theorem dX0_passesNumber_26 : decode cX0_passesNumber 26 = .ok (.aload_n 0, 1) := by decide +kernel
theorem dX0_passesNumber_27 : decode cX0_passesNumber 27 = .ok (.getfield 19, 3) := by decide +kernel
theorem dX0_passesNumber_30 : decode cX0_passesNumber 30 = .ok (.iaload, 1) := by decide +kernel
theorem dX0_passesNumber_31 : decode cX0_passesNumber 31 = .ok (.iadd, 1) := by decide +kernel
theorem dX0_passesNumber_32 : decode cX0_passesNumber 32 = .ok (.bipush 48, 2) := by decide +kernel
theorem dX0_passesNumber_34 : decode cX0_passesNumber 34 = .ok (.isub, 1) := by decide +kernel
theorem dX0_passesNumber_35 : decode cX0_passesNumber 35 = .ok (.istore_n 3, 1) := by decide +kernel
theorem dX0_passesNumber_36 : decode cX0_passesNumber 36 = .ok (.aload_n 0, 1) := by decide +kernel
theorem dX0_passesNumber_37 : decode cX0_passesNumber 37 = .ok (.dup, 1) := by decide +kernel
theorem dX0_passesNumber_38 : decode cX0_passesNumber 38 = .ok (.getfield 19, 3) := by decide +kernel
theorem dX0_passesNumber_41 : decode cX0_passesNumber 41 = .ok (.iconst 1, 1) := by decide +kernel
theorem dX0_passesNumber_42 : decode cX0_passesNumber 42 = .ok (.iadd, 1) := by decide +kernel
theorem dX0_passesNumber_43 : decode cX0_passesNumber 43 = .ok (.putfield 19, 3) := by decide +kernel
theorem dX0_passesNumber_46 : decode cX0_passesNumber 46 = .ok (.iinc 4 1, 3) := by decide +kernel
theorem dX0_passesNumber_49 : decode cX0_passesNumber 49 = .ok (.goto (-44), 3) := by decide +kernel
theorem dX0_passesNumber_52 : decode cX0_passesNumber 52 = .ok (.aload_n 0, 1) := by decide +kernel
theorem dX0_passesNumber_53 : decode cX0_passesNumber 53 = .ok (.getfield 25, 3) := by decide +kernel
theorem dX0_passesNumber_56 : decode cX0_passesNumber 56 = .ok (.iload_n 1, 1) := by decide +kernel
theorem dX0_passesNumber_57 : decode cX0_passesNumber 57 = .ok (.iload_n 3, 1) := by decide +kernel
theorem dX0_passesNumber_58 : decode cX0_passesNumber 58 = .ok (.iastore, 1) := by decide +kernel
theorem dX0_passesNumber_59 : decode cX0_passesNumber 59 = .ok (.iload 4, 2) := by decide +kernel
theorem dX0_passesNumber_61 : decode cX0_passesNumber 61 = .ok (.ifCond .le 7, 3) := by decide +kernel
theorem dX0_passesNumber_64 : decode cX0_passesNumber 64 = .ok (.iconst 1, 1) := by decide +kernel
theorem dX0_passesNumber_65 : decode cX0_passesNumber 65 = .ok (.goto 4, 3) := by decide +kernel
theorem dX0_passesNumber_68 : decode cX0_passesNumber 68 = .ok (.iconst 0, 1) := by decide +kernel
theorem dX0_passesNumber_69 : decode cX0_passesNumber 69 = .ok (.ireturn, 1) := by decide +kernel
set_option maxRecDepth 20000 in
theorem ggX0_passesPersons_X0_isAtDigit : GoodIn wsX0_passesPersons wsX0_isAtDigit := goodIn_r _ [8, 2, 9, 1, 10, 11, 12, 13, 14] (by decide +kernel) (by decide +kernel)
set_option maxRecDepth 20000 in
theorem gX0_passesPersons_X0_isAtDigit : GoodIn wsX0_passesPersons (wsV RX0 60 RX0 yX0_isAtDigit wsX0_isAtDigit) := goodIn_app (goodIn_of _ (by decide +kernel)) ggX0_passesPersons_X0_isAtDigit
theorem dX0_passesPersons_0 : decode cX0_passesPersons 0 = .ok (.iconst 0, 1) := by decide +kernel
theorem dX0_passesPersons_1 : decode cX0_passesPersons 1 = .ok (.istore_n 1, 1) := by decide +kernel
theorem dX0_passesPersons_2 : decode cX0_passesPersons 2 = .ok (.iconst 1, 1) := by decide +kernel
theorem dX0_passesPersons_3 : decode cX0_passesPersons 3 = .ok (.istore_n 2, 1) := by decide +kernel
theorem dX0_passesPersons_4 : decode cX0_passesPersons 4 = .ok (.iconst 0, 1) := by decide +kernel
theorem dX0_passesPersons_5 : decode cX0_passesPersons 5 = .ok (.istore_n 3, 1) := by decide +kernel
theorem dX0_passesPersons_6 : decode cX0_passesPersons 6 = .ok (.iload_n 3, 1) := by decide +kernel
theorem dX0_passesPersons_7 : decode cX0_passesPersons 7 = .ok (.bipush 6, 2) := by decide +kernel
theorem dX0_passesPersons_9 : decode cX0_passesPersons 9 = .ok (.if_icmp .ge 63, 3) := by decide +kernel
theorem dX0_passesPersons_12 : decode cX0_passesPersons 12 = .ok (.aload_n 0, 1) := by decide +kernel
theorem dX0_passesPersons_13 : decode cX0_passesPersons 13 = .ok (.invokevirtual 60, 3) := by decide +kernel
theorem dX0_passesPersons_16 : decode cX0_passesPersons 16 = .ok (.ifCond .eq 56, 3) := by decide +kernel
theorem dX0_passesPersons_19 : decode cX0_passesPersons 19 = .ok (.iconst 1, 1) := by decide +kernel
theorem dX0_passesPersons_20 : decode cX0_passesPersons 20 = .ok (.aload_n 0, 1) := by decide +kernel
theorem dX0_passesPersons_21 : decode cX0_passesPersons 21 = .ok (.getfield 9, 3) := by decide +kernel
theorem dX0_passesPersons_24 : decode cX0_passesPersons 24 = .ok (.aload_n 0, 1) := by decide +kernel
theorem dX0_passesPersons_25 : decode cX0_passesPersons 25 = .ok (.getfield 19, 3) := by decide +kernel
theorem dX0_passesPersons_28 : decode cX0_passesPersons 28 = .ok (.iaload, 1) := by decide +kernel
theorem dX0_passesPersons_29 : decode cX0_passesPersons 29 = .ok (.bipush 48, 2) := by decide +kernel
theorem dX0_passesPersons_31 : decode cX0_passesPersons 31 = .ok (.isub, 1) := by decide +kernel
theorem dX0_passesPersons_32 : decode cX0_passesPersons 32 = .ok (.ishl, 1) := by decide +kernel
theorem dX0_passesPersons_33 : decode cX0_passesPersons 33 = .ok (.istore 4, 2) := by decide +kernel
theorem dX0_passesPersons_35 : decode cX0_passesPersons 35 = .ok (.iload_n 2, 1) := by decide +kernel
theorem dX0_passesPersons_36 : decode cX0_passesPersons 36 = .ok (.ifCond .eq 13, 3) := by decide +kernel
theorem dX0_passesPersons_39 : decode cX0_passesPersons 39 = .ok (.iload 4, 2) := by decide +kernel
theorem dX0_passesPersons_41 : decode cX0_passesPersons 41 = .ok (.iload_n 1, 1) := by decide +kernel
theorem dX0_passesPersons_42 : decode cX0_passesPersons 42 = .ok (.if_icmp .le 7, 3) := by decide +kernel
theorem dX0_passesPersons_45 : decode cX0_passesPersons 45 = .ok (.iconst 1, 1) := by decide +kernel
theorem dX0_passesPersons_46 : decode cX0_passesPersons 46 = .ok (.goto 4, 3) := by decide +kernel
theorem dX0_passesPersons_49 : decode cX0_passesPersons 49 = .ok (.iconst 0, 1) := by decide +kernel
theorem dX0_passesPersons_50 : decode cX0_passesPersons 50 = .ok (.istore_n 2, 1) := by decide +kernel
theorem dX0_passesPersons_51 : decode cX0_passesPersons 51 = .ok (.iload_n 1, 1) := by decide +kernel
theorem dX0_passesPersons_52 : decode cX0_passesPersons 52 = .ok (.iload 4, 2) := by decide +kernel
theorem dX0_passesPersons_54 : decode cX0_passesPersons 54 = .ok (.ior, 1) := by decide +kernel
theorem dX0_passesPersons_55 : decode cX0_passesPersons 55 = .ok (.istore_n 1, 1) := by decide +kernel
theorem dX0_passesPersons_56 : decode cX0_passesPersons 56 = .ok (.aload_n 0, 1) := by decide +kernel
theorem dX0_passesPersons_57 : decode cX0_passesPersons 57 = .ok (.dup, 1) := by decide +kernel
theorem dX0_passesPersons_58 : decode cX0_passesPersons 58 = .ok (.getfield 19, 3) := by decide +kernel
theorem dX0_passesPersons_61 : decode cX0_passesPersons 61 = .ok (.iconst 1, 1) := by decide +kernel
theorem dX0_passesPersons_62 : decode cX0_passesPersons 62 = .ok (.iadd, 1) := by decide +kernel
theorem dX0_passesPersons_63 : decode cX0_passesPersons 63 = .ok (.putfield 19, 3) := by decide +kernel
theorem dX0_passesPersons_66 : decode cX0_passesPersons 66 = .ok (.iinc 3 1, 3) := by decide +kernel
theorem dX0_passesPersons_69 : decode cX0_passesPersons 69 = .ok (.goto (-63), 3) := by decide +kernel
theorem dX0_passesPersons_72 : decode cX0_passesPersons 72 = .ok (.aload_n 0, 1) := by decide +kernel
theorem dX0_passesPersons_73 : decode cX0_passesPersons 73 = .ok (.getfield 25, 3) := by decide +kernel
theorem dX0_passesPersons_76 : decode cX0_passesPersons 76 = .ok (.iconst 0, 1) := by decide +kernel
theorem dX0_passesPersons_77 : decode cX0_passesPersons 77 = .ok (.iload_n 2, 1) := by decide +kernel
theorem dX0_passesPersons_78 : decode cX0_passesPersons 78 = .ok (.ifCond .eq 7, 3) := by decide +kernel
theorem dX0_passesPersons_81 : decode cX0_passesPersons 81 = .ok (.iload_n 1, 1) := by decide +kernel
theorem dX0_passesPersons_82 : decode cX0_passesPersons 82 = .ok (.goto 4, 3) := by decide +kernel
theorem dX0_passesPersons_85 : decode cX0_passesPersons 85 = .ok (.iconst 0, 1) := by decide +kernel
theorem dX0_passesPersons_86 : decode cX0_passesPersons 86 = .ok (.iastore, 1) := by decide +kernel
theorem dX0_passesPersons_87 : decode cX0_passesPersons 87 = .ok (.iload_n 3, 1) := by decide +kernel
theorem dX0_passesPersons_88 : decode cX0_passesPersons 88 = .ok (.ifCond .le 7, 3) := by decide +kernel
theorem dX0_passesPersons_91 : decode cX0_passesPersons 91 = .ok (.iconst 1, 1) := by decide +kernel
theorem dX0_passesPersons_92 : decode cX0_passesPersons 92 = .ok (.goto 4, 3) := by decide +kernel
theorem dX0_passesPersons_95 : decode cX0_passesPersons 95 = .ok (.iconst 0, 1) := by decide +kernel
theorem dX0_passesPersons_96 : decode cX0_passesPersons 96 = .ok (.ireturn, 1) := by decide +kernel
theorem dX1_init_0 : decode cX1_init 0 = .ok (.aload_n 0, 1) := by decide +kernel
theorem dX1_init_1 : decode cX1_init 1 = .ok (.invokespecial 3, 3) := by decide +kernel
theorem dX1_init_4 : decode cX1_init 4 = .ok (.aload_n 0, 1) := by decide +kernel
theorem dX1_init_5 : decode cX1_init 5 = .ok (.aload_n 1, 1) := by decide +kernel
theorem dX1_init_6 : decode cX1_init 6 = .ok (.putfield 9, 3) := by decide +kernel
theorem dX1_init_9 : decode cX1_init 9 = .ok (.aload_n 0, 1) := by decide +kernel
theorem dX1_init_10 : decode cX1_init 10 = .ok (.aload_n 2, 1) := by decide +kernel
theorem dX1_init_11 : decode cX1_init 11 = .ok (.putfield 15, 3) := by decide +kernel
theorem dX1_init_14 : decode cX1_init 14 = .ok (.aload_n 0, 1) := by decide +kernel
theorem dX1_init_15 : decode cX1_init 15 = .ok (.iconst 0, 1) := by decide +kernel
theorem dX1_init_16 : decode cX1_init 16 = .ok (.putfield 18, 3) := by decide +kernel
theorem dX1_init_19 : decode cX1_init 19 = .ok (.return_, 1) := by decide +kernel
set_option maxRecDepth 20000 in
theorem ggX1_bestWeek_X3_thinkAbove : GoodIn wsX1_bestWeek wsX3_thinkAbove := goodIn_r _ [6, 7, 8, 9, 10, 5, 11, 12, 13, 14, 112, 113, 114, 115, 116, 117, 118, 119, 120, 121, 122, 123, 124, 125, 126, 127, 128, 129] (by decide +kernel) (by decide +kernel)
set_option maxRecDepth 20000 in
theorem gX1_bestWeek_X3_thinkAbove : GoodIn wsX1_bestWeek (wsV RX1 22 RX3 yX3_thinkAbove wsX3_thinkAbove) := goodIn_app (goodIn_of _ (by decide +kernel)) ggX1_bestWeek_X3_thinkAbove
set_option maxRecDepth 20000 in
theorem ggX1_bestWeek_X1_lastsIfReadAt : GoodIn wsX1_bestWeek wsX1_lastsIfReadAt := goodIn_r _ [19, 20, 1, 21, 22, 23, 5, 24, 25, 26, 27, 28, 29, 30, 31, 32, 33, 34, 35, 36, 37, 38, 12, 39, 13, 40, 41, 7, 42, 14, 43, 44, 45, 46, 47, 48, 49, 50, 51, 52, 53, 54, 55, 56, 57, 58, 59, 60, 61, 62, 63, 64, 65, 66, 67, 68, 69, 70, 71, 72, 73, 74, 75, 76, 77, 78, 79, 80, 81, 82, 83, 84, 85, 86, 87, 88, 89, 90, 91, 3, 4, 6, 8, 9, 10, 11, 92, 93, 94, 95, 96, 97, 98, 99, 100, 101, 102, 103, 104, 105, 106, 107, 108, 109, 110, 111, 112, 113, 114, 115, 116, 117, 118, 119, 120, 121, 122, 123, 124, 125, 126, 127, 128, 129] (by decide +kernel) (by decide +kernel)
set_option maxRecDepth 20000 in
theorem gX1_bestWeek_X1_lastsIfReadAt : GoodIn wsX1_bestWeek (wsV RX1 28 RX1 yX1_lastsIfReadAt wsX1_lastsIfReadAt) := goodIn_app (goodIn_of _ (by decide +kernel)) ggX1_bestWeek_X1_lastsIfReadAt
theorem dX1_bestWeek_0 : decode cX1_bestWeek 0 = .ok (.aload_n 0, 1) := by decide +kernel
theorem dX1_bestWeek_1 : decode cX1_bestWeek 1 = .ok (.getfield 9, 3) := by decide +kernel
theorem dX1_bestWeek_4 : decode cX1_bestWeek 4 = .ok (.iload_n 1, 1) := by decide +kernel
theorem dX1_bestWeek_5 : decode cX1_bestWeek 5 = .ok (.iload_n 2, 1) := by decide +kernel
theorem dX1_bestWeek_6 : decode cX1_bestWeek 6 = .ok (.invokevirtual 22, 3) := by decide +kernel
theorem dX1_bestWeek_9 : decode cX1_bestWeek 9 = .ok (.lstore 4, 2) := by decide +kernel
theorem dX1_bestWeek_11 : decode cX1_bestWeek 11 = .ok (.iconst 0, 1) := by decide +kernel
theorem dX1_bestWeek_12 : decode cX1_bestWeek 12 = .ok (.istore 6, 2) := by decide +kernel
theorem dX1_bestWeek_14 : decode cX1_bestWeek 14 = .ok (.lconst 0, 1) := by decide +kernel
theorem dX1_bestWeek_15 : decode cX1_bestWeek 15 = .ok (.lstore 7, 2) := by decide +kernel
theorem dX1_bestWeek_17 : decode cX1_bestWeek 17 = .ok (.iconst 0, 1) := by decide +kernel
theorem dX1_bestWeek_18 : decode cX1_bestWeek 18 = .ok (.istore 9, 2) := by decide +kernel
theorem dX1_bestWeek_20 : decode cX1_bestWeek 20 = .ok (.iload 9, 2) := by decide +kernel
theorem dX1_bestWeek_22 : decode cX1_bestWeek 22 = .ok (.iload_n 3, 1) := by decide +kernel
theorem dX1_bestWeek_23 : decode cX1_bestWeek 23 = .ok (.if_icmp .gt 45, 3) := by decide +kernel
theorem dX1_bestWeek_26 : decode cX1_bestWeek 26 = .ok (.lload 4, 2) := by decide +kernel
theorem dX1_bestWeek_28 : decode cX1_bestWeek 28 = .ok (.aload_n 0, 1) := by decide +kernel
theorem dX1_bestWeek_29 : decode cX1_bestWeek 29 = .ok (.iload_n 1, 1) := by decide +kernel
theorem dX1_bestWeek_30 : decode cX1_bestWeek 30 = .ok (.iload_n 2, 1) := by decide +kernel
theorem dX1_bestWeek_31 : decode cX1_bestWeek 31 = .ok (.iload_n 3, 1) := by decide +kernel
theorem dX1_bestWeek_32 : decode cX1_bestWeek 32 = .ok (.iload 9, 2) := by decide +kernel
theorem dX1_bestWeek_34 : decode cX1_bestWeek 34 = .ok (.invokevirtual 28, 3) := by decide +kernel
theorem dX1_bestWeek_37 : decode cX1_bestWeek 37 = .ok (.i2l, 1) := by decide +kernel
theorem dX1_bestWeek_38 : decode cX1_bestWeek 38 = .ok (.lmul, 1) := by decide +kernel
theorem dX1_bestWeek_39 : decode cX1_bestWeek 39 = .ok (.lstore 10, 2) := by decide +kernel
theorem dX1_bestWeek_41 : decode cX1_bestWeek 41 = .ok (.iload 9, 2) := by decide +kernel
theorem dX1_bestWeek_43 : decode cX1_bestWeek 43 = .ok (.ifCond .eq 11, 3) := by decide +kernel
theorem dX1_bestWeek_46 : decode cX1_bestWeek 46 = .ok (.lload 10, 2) := by decide +kernel
theorem dX1_bestWeek_48 : decode cX1_bestWeek 48 = .ok (.lload 7, 2) := by decide +kernel
theorem dX1_bestWeek_50 : decode cX1_bestWeek 50 = .ok (.lcmp, 1) := by decide +kernel
theorem dX1_bestWeek_51 : decode cX1_bestWeek 51 = .ok (.ifCond .le 11, 3) := by decide +kernel
theorem dX1_bestWeek_54 : decode cX1_bestWeek 54 = .ok (.iload 9, 2) := by decide +kernel
theorem dX1_bestWeek_56 : decode cX1_bestWeek 56 = .ok (.istore 6, 2) := by decide +kernel
theorem dX1_bestWeek_58 : decode cX1_bestWeek 58 = .ok (.lload 10, 2) := by decide +kernel
theorem dX1_bestWeek_60 : decode cX1_bestWeek 60 = .ok (.lstore 7, 2) := by decide +kernel
theorem dX1_bestWeek_62 : decode cX1_bestWeek 62 = .ok (.iinc 9 1, 3) := by decide +kernel
theorem dX1_bestWeek_65 : decode cX1_bestWeek 65 = .ok (.goto (-45), 3) := by decide +kernel
theorem dX1_bestWeek_68 : decode cX1_bestWeek 68 = .ok (.iload 6, 2) := by decide +kernel
theorem dX1_bestWeek_70 : decode cX1_bestWeek 70 = .ok (.ireturn, 1) := by decide +kernel
set_option maxRecDepth 20000 in
theorem ggX1_lastsIfReadAt_X3_become : GoodIn wsX1_lastsIfReadAt wsX3_become := goodIn_r _ [7, 8, 9, 10, 11, 12, 13, 14, 15, 16, 17, 18, 19, 20, 21, 22, 23, 24, 25, 26, 27, 28, 29, 106, 107, 108, 109, 110, 111, 112, 113, 114, 115, 116, 117, 118, 119, 120, 121, 122, 123] (by decide +kernel) (by decide +kernel)
set_option maxRecDepth 20000 in
theorem gX1_lastsIfReadAt_X3_become : GoodIn wsX1_lastsIfReadAt (wsV RX1 32 RX3 yX3_become wsX3_become) := goodIn_app (goodIn_of _ (by decide +kernel)) ggX1_lastsIfReadAt_X3_become
set_option maxRecDepth 20000 in
theorem ggX1_lastsIfReadAt_X3_canRead : GoodIn wsX1_lastsIfReadAt wsX3_canRead := goodIn_r _ [33, 34, 35, 36, 6, 37, 38, 39, 40, 41, 21, 22, 42, 43, 44, 45, 46, 47, 48, 49, 50, 51, 52, 53, 54, 55, 56, 10, 57, 58, 59, 60, 106, 107, 108, 109, 110, 111, 112, 113, 114, 115, 116, 117, 118, 119, 120, 121, 122, 123] (by decide +kernel) (by decide +kernel)
set_option maxRecDepth 20000 in
theorem gX1_lastsIfReadAt_X3_canRead : GoodIn wsX1_lastsIfReadAt (wsV RX1 36 RX3 yX3_canRead wsX3_canRead) := goodIn_app (goodIn_of _ (by decide +kernel)) ggX1_lastsIfReadAt_X3_canRead
set_option maxRecDepth 20000 in
theorem ggX1_lastsIfReadAt_X3_markRead : GoodIn wsX1_lastsIfReadAt wsX3_markRead := goodIn_r _ [64, 22, 106, 107, 108, 109, 110, 111, 112, 113, 114, 115, 116, 117, 118, 119, 120, 121, 122, 123] (by decide +kernel) (by decide +kernel)
set_option maxRecDepth 20000 in
theorem gX1_lastsIfReadAt_X3_markRead : GoodIn wsX1_lastsIfReadAt (wsV RX1 40 RX3 yX3_markRead wsX3_markRead) := goodIn_app (goodIn_of _ (by decide +kernel)) ggX1_lastsIfReadAt_X3_markRead
set_option maxRecDepth 20000 in
theorem ggX1_lastsIfReadAt_X3_passPaper : GoodIn wsX1_lastsIfReadAt wsX3_passPaper := goodIn_r _ [68, 8, 20, 27, 24, 25, 69, 31, 32, 6, 33, 34, 35, 36, 37, 38, 39, 40, 41, 21, 22, 42, 43, 44, 45, 46, 47, 48, 49, 50, 51, 52, 53, 54, 55, 56, 10, 57, 58, 59, 60, 70, 71, 72, 73, 13, 12, 19, 23, 74, 75, 76, 77, 18, 78, 79, 80, 81, 82, 83, 84, 85, 29, 86, 87, 88, 89, 90, 91, 92, 93, 94, 62, 63, 64, 95, 96, 97, 98, 106, 107, 108, 109, 110, 111, 112, 113, 114, 115, 116, 117, 118, 119, 120, 121, 122, 123] (by decide +kernel) (by decide +kernel)
set_option maxRecDepth 20000 in
theorem gX1_lastsIfReadAt_X3_passPaper : GoodIn wsX1_lastsIfReadAt (wsV RX1 44 RX3 yX3_passPaper wsX3_passPaper) := goodIn_app (goodIn_of _ (by decide +kernel)) ggX1_lastsIfReadAt_X3_passPaper
set_option maxRecDepth 20000 in
theorem ggX1_lastsIfReadAt_X3_endWeek : GoodIn wsX1_lastsIfReadAt wsX3_endWeek := goodIn_r _ [102, 12, 106, 107, 108, 109, 110, 111, 112, 113, 114, 115, 116, 117, 118, 119, 120, 121, 122, 123] (by decide +kernel) (by decide +kernel)
set_option maxRecDepth 20000 in
theorem gX1_lastsIfReadAt_X3_endWeek : GoodIn wsX1_lastsIfReadAt (wsV RX1 48 RX3 yX3_endWeek wsX3_endWeek) := goodIn_app (goodIn_of _ (by decide +kernel)) ggX1_lastsIfReadAt_X3_endWeek
theorem dX1_lastsIfReadAt_0 : decode cX1_lastsIfReadAt 0 = .ok (.aload_n 0, 1) := by decide +kernel
theorem dX1_lastsIfReadAt_1 : decode cX1_lastsIfReadAt 1 = .ok (.getfield 15, 3) := by decide +kernel
theorem dX1_lastsIfReadAt_4 : decode cX1_lastsIfReadAt 4 = .ok (.aload_n 0, 1) := by decide +kernel
theorem dX1_lastsIfReadAt_5 : decode cX1_lastsIfReadAt 5 = .ok (.getfield 9, 3) := by decide +kernel
theorem dX1_lastsIfReadAt_8 : decode cX1_lastsIfReadAt 8 = .ok (.invokevirtual 32, 3) := by decide +kernel
theorem dX1_lastsIfReadAt_11 : decode cX1_lastsIfReadAt 11 = .ok (.iconst 0, 1) := by decide +kernel
theorem dX1_lastsIfReadAt_12 : decode cX1_lastsIfReadAt 12 = .ok (.istore 5, 2) := by decide +kernel
theorem dX1_lastsIfReadAt_14 : decode cX1_lastsIfReadAt 14 = .ok (.iconst 0, 1) := by decide +kernel
theorem dX1_lastsIfReadAt_15 : decode cX1_lastsIfReadAt 15 = .ok (.istore 6, 2) := by decide +kernel
theorem dX1_lastsIfReadAt_17 : decode cX1_lastsIfReadAt 17 = .ok (.iload 6, 2) := by decide +kernel
theorem dX1_lastsIfReadAt_19 : decode cX1_lastsIfReadAt 19 = .ok (.iload_n 3, 1) := by decide +kernel
theorem dX1_lastsIfReadAt_20 : decode cX1_lastsIfReadAt 20 = .ok (.if_icmp .ge 58, 3) := by decide +kernel
theorem dX1_lastsIfReadAt_23 : decode cX1_lastsIfReadAt 23 = .ok (.iload 6, 2) := by decide +kernel
theorem dX1_lastsIfReadAt_25 : decode cX1_lastsIfReadAt 25 = .ok (.iload 4, 2) := by decide +kernel
theorem dX1_lastsIfReadAt_27 : decode cX1_lastsIfReadAt 27 = .ok (.if_icmp .ne 24, 3) := by decide +kernel
theorem dX1_lastsIfReadAt_30 : decode cX1_lastsIfReadAt 30 = .ok (.aload_n 0, 1) := by decide +kernel
theorem dX1_lastsIfReadAt_31 : decode cX1_lastsIfReadAt 31 = .ok (.getfield 15, 3) := by decide +kernel
theorem dX1_lastsIfReadAt_34 : decode cX1_lastsIfReadAt 34 = .ok (.iload_n 1, 1) := by decide +kernel
theorem dX1_lastsIfReadAt_35 : decode cX1_lastsIfReadAt 35 = .ok (.iload_n 2, 1) := by decide +kernel
theorem dX1_lastsIfReadAt_36 : decode cX1_lastsIfReadAt 36 = .ok (.invokevirtual 36, 3) := by decide +kernel
theorem dX1_lastsIfReadAt_39 : decode cX1_lastsIfReadAt 39 = .ok (.ifCond .eq 12, 3) := by decide +kernel
theorem dX1_lastsIfReadAt_42 : decode cX1_lastsIfReadAt 42 = .ok (.aload_n 0, 1) := by decide +kernel
theorem dX1_lastsIfReadAt_43 : decode cX1_lastsIfReadAt 43 = .ok (.getfield 15, 3) := by decide +kernel
theorem dX1_lastsIfReadAt_46 : decode cX1_lastsIfReadAt 46 = .ok (.iload_n 1, 1) := by decide +kernel
theorem dX1_lastsIfReadAt_47 : decode cX1_lastsIfReadAt 47 = .ok (.iload_n 2, 1) := by decide +kernel
theorem dX1_lastsIfReadAt_48 : decode cX1_lastsIfReadAt 48 = .ok (.invokevirtual 40, 3) := by decide +kernel
theorem dX1_lastsIfReadAt_51 : decode cX1_lastsIfReadAt 51 = .ok (.iload 5, 2) := by decide +kernel
theorem dX1_lastsIfReadAt_53 : decode cX1_lastsIfReadAt 53 = .ok (.aload_n 0, 1) := by decide +kernel
theorem dX1_lastsIfReadAt_54 : decode cX1_lastsIfReadAt 54 = .ok (.getfield 15, 3) := by decide +kernel
theorem dX1_lastsIfReadAt_57 : decode cX1_lastsIfReadAt 57 = .ok (.iload_n 2, 1) := by decide +kernel
theorem dX1_lastsIfReadAt_58 : decode cX1_lastsIfReadAt 58 = .ok (.iload_n 1, 1) := by decide +kernel
theorem dX1_lastsIfReadAt_59 : decode cX1_lastsIfReadAt 59 = .ok (.invokevirtual 44, 3) := by decide +kernel
theorem dX1_lastsIfReadAt_62 : decode cX1_lastsIfReadAt 62 = .ok (.iadd, 1) := by decide +kernel
theorem dX1_lastsIfReadAt_63 : decode cX1_lastsIfReadAt 63 = .ok (.istore 5, 2) := by decide +kernel
theorem dX1_lastsIfReadAt_65 : decode cX1_lastsIfReadAt 65 = .ok (.aload_n 0, 1) := by decide +kernel
theorem dX1_lastsIfReadAt_66 : decode cX1_lastsIfReadAt 66 = .ok (.getfield 15, 3) := by decide +kernel
theorem dX1_lastsIfReadAt_69 : decode cX1_lastsIfReadAt 69 = .ok (.invokevirtual 48, 3) := by decide +kernel
theorem dX1_lastsIfReadAt_72 : decode cX1_lastsIfReadAt 72 = .ok (.iinc 6 1, 3) := by decide +kernel
theorem dX1_lastsIfReadAt_75 : decode cX1_lastsIfReadAt 75 = .ok (.goto (-58), 3) := by decide +kernel
theorem dX1_lastsIfReadAt_78 : decode cX1_lastsIfReadAt 78 = .ok (.iload 5, 2) := by decide +kernel
theorem dX1_lastsIfReadAt_80 : decode cX1_lastsIfReadAt 80 = .ok (.ireturn, 1) := by decide +kernel
set_option maxRecDepth 20000 in
theorem ggX1_countRests_X1_isRest : GoodIn wsX1_countRests wsX1_isRest := goodIn_r _ [5, 6, 7, 8, 9, 10, 11, 12, 13, 14, 15, 16, 17, 18, 19, 20, 21, 4, 22, 23, 24, 25, 26, 27, 28, 29, 30, 31, 32, 33, 34, 35, 36, 37, 38, 39, 40, 41, 42, 43, 44, 45, 46, 47, 48, 49, 50, 51, 52, 53, 54, 55, 56, 57, 58, 59, 60, 61, 62, 63, 64, 65, 66, 67, 68, 69, 70, 71, 72, 73, 74, 75, 76, 77, 78, 79] (by decide +kernel) (by decide +kernel)
set_option maxRecDepth 20000 in
theorem gX1_countRests_X1_isRest : GoodIn wsX1_countRests (wsV RX1 51 RX1 yX1_isRest wsX1_isRest) := goodIn_app (goodIn_of _ (by decide +kernel)) ggX1_countRests_X1_isRest
theorem dX1_countRests_0 : decode cX1_countRests 0 = .ok (.iconst 0, 1) := by decide +kernel
theorem dX1_countRests_1 : decode cX1_countRests 1 = .ok (.istore_n 2, 1) := by decide +kernel
theorem dX1_countRests_2 : decode cX1_countRests 2 = .ok (.iconst 0, 1) := by decide +kernel
theorem dX1_countRests_3 : decode cX1_countRests 3 = .ok (.istore_n 3, 1) := by decide +kernel
theorem dX1_countRests_4 : decode cX1_countRests 4 = .ok (.iload_n 3, 1) := by decide +kernel
theorem dX1_countRests_5 : decode cX1_countRests 5 = .ok (.bipush 64, 2) := by decide +kernel
theorem dX1_countRests_7 : decode cX1_countRests 7 = .ok (.if_icmp .ge 26, 3) := by decide +kernel
theorem dX1_countRests_10 : decode cX1_countRests 10 = .ok (.iload_n 2, 1) := by decide +kernel
theorem dX1_countRests_11 : decode cX1_countRests 11 = .ok (.aload_n 0, 1) := by decide +kernel
theorem dX1_countRests_12 : decode cX1_countRests 12 = .ok (.iload_n 1, 1) := by decide +kernel
theorem dX1_countRests_13 : decode cX1_countRests 13 = .ok (.iload_n 3, 1) := by decide +kernel
theorem dX1_countRests_14 : decode cX1_countRests 14 = .ok (.invokevirtual 51, 3) := by decide +kernel
theorem dX1_countRests_17 : decode cX1_countRests 17 = .ok (.ifCond .eq 7, 3) := by decide +kernel
theorem dX1_countRests_20 : decode cX1_countRests 20 = .ok (.iconst 1, 1) := by decide +kernel
theorem dX1_countRests_21 : decode cX1_countRests 21 = .ok (.goto 4, 3) := by decide +kernel
theorem dX1_countRests_24 : decode cX1_countRests 24 = .ok (.iconst 0, 1) := by decide +kernel
theorem dX1_countRests_25 : decode cX1_countRests 25 = .ok (.iadd, 1) := by decide +kernel
theorem dX1_countRests_26 : decode cX1_countRests 26 = .ok (.istore_n 2, 1) := by decide +kernel
theorem dX1_countRests_27 : decode cX1_countRests 27 = .ok (.iinc 3 1, 3) := by decide +kernel
theorem dX1_countRests_30 : decode cX1_countRests 30 = .ok (.goto (-26), 3) := by decide +kernel
theorem dX1_countRests_33 : decode cX1_countRests 33 = .ok (.iload_n 2, 1) := by decide +kernel
theorem dX1_countRests_34 : decode cX1_countRests 34 = .ok (.ireturn, 1) := by decide +kernel
set_option maxRecDepth 20000 in
theorem ggX1_firstRest_X1_isRest : GoodIn wsX1_firstRest wsX1_isRest := goodIn_r _ [5, 6, 7, 8, 9, 10, 11, 12, 13, 14, 15, 16, 17, 18, 19, 20, 21, 4, 22, 23, 24, 25, 26, 27, 28, 29, 30, 31, 32, 33, 34, 35, 36, 37, 38, 39, 40, 41, 42, 43, 44, 45, 46, 47, 48, 49, 50, 51, 52, 53, 54, 55, 56, 57, 58, 59, 60, 61, 62, 63, 64, 65, 66, 67, 68, 69, 70, 71, 72, 73, 74, 75, 76, 77, 78, 79] (by decide +kernel) (by decide +kernel)
set_option maxRecDepth 20000 in
theorem gX1_firstRest_X1_isRest : GoodIn wsX1_firstRest (wsV RX1 51 RX1 yX1_isRest wsX1_isRest) := goodIn_app (goodIn_of _ (by decide +kernel)) ggX1_firstRest_X1_isRest
theorem dX1_firstRest_0 : decode cX1_firstRest 0 = .ok (.iconst 0, 1) := by decide +kernel
theorem dX1_firstRest_1 : decode cX1_firstRest 1 = .ok (.istore_n 2, 1) := by decide +kernel
theorem dX1_firstRest_2 : decode cX1_firstRest 2 = .ok (.iload_n 2, 1) := by decide +kernel
theorem dX1_firstRest_3 : decode cX1_firstRest 3 = .ok (.bipush 64, 2) := by decide +kernel
theorem dX1_firstRest_5 : decode cX1_firstRest 5 = .ok (.if_icmp .ge 20, 3) := by decide +kernel
theorem dX1_firstRest_8 : decode cX1_firstRest 8 = .ok (.aload_n 0, 1) := by decide +kernel
theorem dX1_firstRest_9 : decode cX1_firstRest 9 = .ok (.iload_n 1, 1) := by decide +kernel
theorem dX1_firstRest_10 : decode cX1_firstRest 10 = .ok (.iload_n 2, 1) := by decide +kernel
theorem dX1_firstRest_11 : decode cX1_firstRest 11 = .ok (.invokevirtual 51, 3) := by decide +kernel
theorem dX1_firstRest_14 : decode cX1_firstRest 14 = .ok (.ifCond .eq 5, 3) := by decide +kernel
theorem dX1_firstRest_17 : decode cX1_firstRest 17 = .ok (.iload_n 2, 1) := by decide +kernel
theorem dX1_firstRest_18 : decode cX1_firstRest 18 = .ok (.ireturn, 1) := by decide +kernel
theorem dX1_firstRest_19 : decode cX1_firstRest 19 = .ok (.iinc 2 1, 3) := by decide +kernel
theorem dX1_firstRest_22 : decode cX1_firstRest 22 = .ok (.goto (-20), 3) := by decide +kernel
theorem dX1_firstRest_25 : decode cX1_firstRest 25 = .ok (.bipush (-9), 2) := by decide +kernel
theorem dX1_firstRest_27 : decode cX1_firstRest 27 = .ok (.ireturn, 1) := by decide +kernel
set_option maxRecDepth 20000 in
theorem ggX1_isRest_X3_unreadOf : GoodIn wsX1_isRest wsX3_unreadOf := goodIn_r _ [6, 7, 8, 58, 59, 60, 61, 62, 63, 64, 65, 66, 67, 68, 69, 70, 71, 72, 73, 74, 75] (by decide +kernel) (by decide +kernel)
set_option maxRecDepth 20000 in
theorem gX1_isRest_X3_unreadOf : GoodIn wsX1_isRest (wsV RX1 54 RX3 yX3_unreadOf wsX3_unreadOf) := goodIn_app (goodIn_of _ (by decide +kernel)) ggX1_isRest_X3_unreadOf
set_option maxRecDepth 20000 in
theorem ggX1_isRest_X3_personCount : GoodIn wsX1_isRest wsX3_personCount := goodIn_r _ [12, 13, 58, 59, 60, 61, 62, 63, 64, 65, 66, 67, 68, 69, 70, 71, 72, 73, 74, 75] (by decide +kernel) (by decide +kernel)
set_option maxRecDepth 20000 in
theorem gX1_isRest_X3_personCount : GoodIn wsX1_isRest (wsV RX1 58 RX3 yX3_personCount wsX3_personCount) := goodIn_app (goodIn_of _ (by decide +kernel)) ggX1_isRest_X3_personCount
set_option maxRecDepth 20000 in
theorem ggX1_isRest_X1_wouldChange : GoodIn wsX1_isRest wsX1_wouldChange := goodIn_r _ [18, 1, 19, 20, 21, 17, 22, 23, 24, 25, 5, 26, 8, 27, 28, 29, 30, 31, 32, 33, 34, 35, 36, 37, 7, 38, 39, 40, 41, 42, 43, 44, 45, 46, 47, 48, 49, 50, 51, 52, 53, 54, 55, 56, 57, 58, 59, 60, 61, 62, 63, 64, 65, 66, 67, 68, 69, 70, 71, 72, 73, 74, 75] (by decide +kernel) (by decide +kernel)
set_option maxRecDepth 20000 in
theorem gX1_isRest_X1_wouldChange : GoodIn wsX1_isRest (wsV RX1 62 RX1 yX1_wouldChange wsX1_wouldChange) := goodIn_app (goodIn_of _ (by decide +kernel)) ggX1_isRest_X1_wouldChange
theorem dX1_isRest_0 : decode cX1_isRest 0 = .ok (.aload_n 0, 1) := by decide +kernel
theorem dX1_isRest_1 : decode cX1_isRest 1 = .ok (.getfield 9, 3) := by decide +kernel
theorem dX1_isRest_4 : decode cX1_isRest 4 = .ok (.iload_n 1, 1) := by decide +kernel
theorem dX1_isRest_5 : decode cX1_isRest 5 = .ok (.invokevirtual 54, 3) := by decide +kernel
theorem dX1_isRest_8 : decode cX1_isRest 8 = .ok (.istore_n 3, 1) := by decide +kernel
theorem dX1_isRest_9 : decode cX1_isRest 9 = .ok (.iload_n 2, 1) := by decide +kernel
theorem dX1_isRest_10 : decode cX1_isRest 10 = .ok (.iload_n 3, 1) := by decide +kernel
theorem dX1_isRest_11 : decode cX1_isRest 11 = .ok (.iconst (-1), 1) := by decide +kernel
theorem dX1_isRest_12 : decode cX1_isRest 12 = .ok (.ixor, 1) := by decide +kernel
theorem dX1_isRest_13 : decode cX1_isRest 13 = .ok (.iand, 1) := by decide +kernel
theorem dX1_isRest_14 : decode cX1_isRest 14 = .ok (.ifCond .eq 5, 3) := by decide +kernel
theorem dX1_isRest_17 : decode cX1_isRest 17 = .ok (.iconst 0, 1) := by decide +kernel
theorem dX1_isRest_18 : decode cX1_isRest 18 = .ok (.ireturn, 1) := by decide +kernel
theorem dX1_isRest_19 : decode cX1_isRest 19 = .ok (.iconst 0, 1) := by decide +kernel
theorem dX1_isRest_20 : decode cX1_isRest 20 = .ok (.istore 4, 2) := by decide +kernel
theorem dX1_isRest_22 : decode cX1_isRest 22 = .ok (.iload 4, 2) := by decide +kernel
theorem dX1_isRest_24 : decode cX1_isRest 24 = .ok (.aload_n 0, 1) := by decide +kernel
theorem dX1_isRest_25 : decode cX1_isRest 25 = .ok (.getfield 9, 3) := by decide +kernel
theorem dX1_isRest_28 : decode cX1_isRest 28 = .ok (.invokevirtual 58, 3) := by decide +kernel
theorem dX1_isRest_31 : decode cX1_isRest 31 = .ok (.if_icmp .ge 43, 3) := by decide +kernel
theorem dX1_isRest_34 : decode cX1_isRest 34 = .ok (.iload_n 3, 1) := by decide +kernel
theorem dX1_isRest_35 : decode cX1_isRest 35 = .ok (.iload 4, 2) := by decide +kernel
theorem dX1_isRest_37 : decode cX1_isRest 37 = .ok (.ishr, 1) := by decide +kernel
theorem dX1_isRest_38 : decode cX1_isRest 38 = .ok (.iconst 1, 1) := by decide +kernel
theorem dX1_isRest_39 : decode cX1_isRest 39 = .ok (.iand, 1) := by decide +kernel
theorem dX1_isRest_40 : decode cX1_isRest 40 = .ok (.ifCond .eq 7, 3) := by decide +kernel
theorem dX1_isRest_43 : decode cX1_isRest 43 = .ok (.iconst 1, 1) := by decide +kernel
theorem dX1_isRest_44 : decode cX1_isRest 44 = .ok (.goto 4, 3) := by decide +kernel
theorem dX1_isRest_47 : decode cX1_isRest 47 = .ok (.iconst 0, 1) := by decide +kernel
theorem dX1_isRest_48 : decode cX1_isRest 48 = .ok (.istore 5, 2) := by decide +kernel
theorem dX1_isRest_50 : decode cX1_isRest 50 = .ok (.iload 5, 2) := by decide +kernel
theorem dX1_isRest_52 : decode cX1_isRest 52 = .ok (.ifCond .eq 16, 3) := by decide +kernel
theorem dX1_isRest_55 : decode cX1_isRest 55 = .ok (.aload_n 0, 1) := by decide +kernel
theorem dX1_isRest_56 : decode cX1_isRest 56 = .ok (.iload 4, 2) := by decide +kernel
theorem dX1_isRest_58 : decode cX1_isRest 58 = .ok (.iload_n 1, 1) := by decide +kernel
theorem dX1_isRest_59 : decode cX1_isRest 59 = .ok (.iload_n 2, 1) := by decide +kernel
theorem dX1_isRest_60 : decode cX1_isRest 60 = .ok (.invokevirtual 62, 3) := by decide +kernel
theorem dX1_isRest_63 : decode cX1_isRest 63 = .ok (.ifCond .eq 5, 3) := by decide +kernel
theorem dX1_isRest_66 : decode cX1_isRest 66 = .ok (.iconst 0, 1) := by decide +kernel
theorem dX1_isRest_67 : decode cX1_isRest 67 = .ok (.ireturn, 1) := by decide +kernel
theorem dX1_isRest_68 : decode cX1_isRest 68 = .ok (.iinc 4 1, 3) := by decide +kernel
theorem dX1_isRest_71 : decode cX1_isRest 71 = .ok (.goto (-49), 3) := by decide +kernel
theorem dX1_isRest_74 : decode cX1_isRest 74 = .ok (.iconst 1, 1) := by decide +kernel
theorem dX1_isRest_75 : decode cX1_isRest 75 = .ok (.ireturn, 1) := by decide +kernel
set_option maxRecDepth 20000 in
theorem ggX1_wouldChange_X1_isInForceBehind : GoodIn wsX1_wouldChange wsX1_isInForceBehind := goodIn_r _ [6, 1, 7, 8, 9, 10, 11, 12, 13, 14, 15, 16, 17, 18, 19, 20, 21, 22, 23, 24, 25, 26, 27, 28, 29, 30, 42, 43, 44, 45, 46, 47, 48, 49, 50, 51, 52, 53, 54, 55, 56, 57, 58, 59, 60, 61, 62] (by decide +kernel) (by decide +kernel)
set_option maxRecDepth 20000 in
theorem gX1_wouldChange_X1_isInForceBehind : GoodIn wsX1_wouldChange (wsV RX1 66 RX1 yX1_isInForceBehind wsX1_isInForceBehind) := goodIn_app (goodIn_of _ (by decide +kernel)) ggX1_wouldChange_X1_isInForceBehind
set_option maxRecDepth 20000 in
theorem ggX1_wouldChange_X3_thinkAbove : GoodIn wsX1_wouldChange wsX3_thinkAbove := goodIn_r _ [34, 35, 36, 37, 38, 10, 39, 12, 40, 41, 45, 46, 47, 48, 49, 50, 51, 52, 53, 54, 55, 56, 57, 58, 59, 60, 61, 62] (by decide +kernel) (by decide +kernel)
set_option maxRecDepth 20000 in
theorem gX1_wouldChange_X3_thinkAbove : GoodIn wsX1_wouldChange (wsV RX1 22 RX3 yX3_thinkAbove wsX3_thinkAbove) := goodIn_app (goodIn_of _ (by decide +kernel)) ggX1_wouldChange_X3_thinkAbove
theorem dX1_wouldChange_0 : decode cX1_wouldChange 0 = .ok (.aload_n 0, 1) := by decide +kernel
theorem dX1_wouldChange_1 : decode cX1_wouldChange 1 = .ok (.iload_n 2, 1) := by decide +kernel
theorem dX1_wouldChange_2 : decode cX1_wouldChange 2 = .ok (.iload_n 3, 1) := by decide +kernel
theorem dX1_wouldChange_3 : decode cX1_wouldChange 3 = .ok (.invokevirtual 66, 3) := by decide +kernel
theorem dX1_wouldChange_6 : decode cX1_wouldChange 6 = .ok (.istore 4, 2) := by decide +kernel
theorem dX1_wouldChange_8 : decode cX1_wouldChange 8 = .ok (.aload_n 0, 1) := by decide +kernel
theorem dX1_wouldChange_9 : decode cX1_wouldChange 9 = .ok (.iload_n 2, 1) := by decide +kernel
theorem dX1_wouldChange_10 : decode cX1_wouldChange 10 = .ok (.iload_n 3, 1) := by decide +kernel
theorem dX1_wouldChange_11 : decode cX1_wouldChange 11 = .ok (.iconst 1, 1) := by decide +kernel
theorem dX1_wouldChange_12 : decode cX1_wouldChange 12 = .ok (.iload_n 1, 1) := by decide +kernel
theorem dX1_wouldChange_13 : decode cX1_wouldChange 13 = .ok (.ishl, 1) := by decide +kernel
theorem dX1_wouldChange_14 : decode cX1_wouldChange 14 = .ok (.ixor, 1) := by decide +kernel
theorem dX1_wouldChange_15 : decode cX1_wouldChange 15 = .ok (.invokevirtual 66, 3) := by decide +kernel
theorem dX1_wouldChange_18 : decode cX1_wouldChange 18 = .ok (.istore 5, 2) := by decide +kernel
theorem dX1_wouldChange_20 : decode cX1_wouldChange 20 = .ok (.iload 4, 2) := by decide +kernel
theorem dX1_wouldChange_22 : decode cX1_wouldChange 22 = .ok (.iload 5, 2) := by decide +kernel
theorem dX1_wouldChange_24 : decode cX1_wouldChange 24 = .ok (.if_icmp .ne 5, 3) := by decide +kernel
theorem dX1_wouldChange_27 : decode cX1_wouldChange 27 = .ok (.iconst 0, 1) := by decide +kernel
theorem dX1_wouldChange_28 : decode cX1_wouldChange 28 = .ok (.ireturn, 1) := by decide +kernel
theorem dX1_wouldChange_29 : decode cX1_wouldChange 29 = .ok (.aload_n 0, 1) := by decide +kernel
theorem dX1_wouldChange_30 : decode cX1_wouldChange 30 = .ok (.getfield 9, 3) := by decide +kernel
theorem dX1_wouldChange_33 : decode cX1_wouldChange 33 = .ok (.iload_n 1, 1) := by decide +kernel
theorem dX1_wouldChange_34 : decode cX1_wouldChange 34 = .ok (.iload_n 2, 1) := by decide +kernel
theorem dX1_wouldChange_35 : decode cX1_wouldChange 35 = .ok (.invokevirtual 22, 3) := by decide +kernel
theorem dX1_wouldChange_38 : decode cX1_wouldChange 38 = .ok (.lstore 6, 2) := by decide +kernel
theorem dX1_wouldChange_40 : decode cX1_wouldChange 40 = .ok (.iload 5, 2) := by decide +kernel
theorem dX1_wouldChange_42 : decode cX1_wouldChange 42 = .ok (.ifCond .eq 18, 3) := by decide +kernel
theorem dX1_wouldChange_45 : decode cX1_wouldChange 45 = .ok (.lload 6, 2) := by decide +kernel
theorem dX1_wouldChange_47 : decode cX1_wouldChange 47 = .ok (.lconst 0, 1) := by decide +kernel
theorem dX1_wouldChange_48 : decode cX1_wouldChange 48 = .ok (.lcmp, 1) := by decide +kernel
theorem dX1_wouldChange_49 : decode cX1_wouldChange 49 = .ok (.ifCond .le 7, 3) := by decide +kernel
theorem dX1_wouldChange_52 : decode cX1_wouldChange 52 = .ok (.iconst 1, 1) := by decide +kernel
theorem dX1_wouldChange_53 : decode cX1_wouldChange 53 = .ok (.goto 19, 3) := by decide +kernel
theorem dX1_wouldChange_56 : decode cX1_wouldChange 56 = .ok (.iconst 0, 1) := by decide +kernel
theorem dX1_wouldChange_57 : decode cX1_wouldChange 57 = .ok (.goto 15, 3) := by decide +kernel
theorem dX1_wouldChange_60 : decode cX1_wouldChange 60 = .ok (.lload 6, 2) := by decide +kernel
theorem dX1_wouldChange_62 : decode cX1_wouldChange 62 = .ok (.lconst 0, 1) := by decide +kernel
theorem dX1_wouldChange_63 : decode cX1_wouldChange 63 = .ok (.lcmp, 1) := by decide +kernel
theorem dX1_wouldChange_64 : decode cX1_wouldChange 64 = .ok (.ifCond .ge 7, 3) := by decide +kernel
theorem dX1_wouldChange_67 : decode cX1_wouldChange 67 = .ok (.iconst 1, 1) := by decide +kernel
theorem dX1_wouldChange_68 : decode cX1_wouldChange 68 = .ok (.goto 4, 3) := by decide +kernel
theorem dX1_wouldChange_71 : decode cX1_wouldChange 71 = .ok (.iconst 0, 1) := by decide +kernel
theorem dX1_wouldChange_72 : decode cX1_wouldChange 72 = .ok (.ireturn, 1) := by decide +kernel
set_option maxRecDepth 20000 in
theorem ggX1_isInForceBehind_X3_readersOf : GoodIn wsX1_isInForceBehind wsX3_readersOf := goodIn_r _ [6, 7, 29, 30, 31, 32, 33, 34, 35, 36, 37, 38, 39, 40, 41, 42, 43, 44, 45, 46] (by decide +kernel) (by decide +kernel)
set_option maxRecDepth 20000 in
theorem gX1_isInForceBehind_X3_readersOf : GoodIn wsX1_isInForceBehind (wsV RX1 69 RX3 yX3_readersOf wsX3_readersOf) := goodIn_app (goodIn_of _ (by decide +kernel)) ggX1_isInForceBehind_X3_readersOf
set_option maxRecDepth 20000 in
theorem ggX1_isInForceBehind_J6_bitCount_0f7a4 : GoodIn wsX1_isInForceBehind wsJ6_bitCount_0f7a4 := goodIn_r _ [11, 12, 13, 14] (by decide +kernel) (by decide +kernel)
set_option maxRecDepth 20000 in
theorem gX1_isInForceBehind_J6_bitCount_0f7a4 : GoodIn wsX1_isInForceBehind (va_wsS RX1 72 yJ6_bitCount_0f7a4 wsJ6_bitCount_0f7a4) := goodIn_app (goodIn_of _ (by decide +kernel)) ggX1_isInForceBehind_J6_bitCount_0f7a4
set_option maxRecDepth 20000 in
theorem ggX1_isInForceBehind_X3_isInForceWith : GoodIn wsX1_isInForceBehind wsX3_isInForceWith := goodIn_r _ [18, 19, 20, 21, 22, 23, 24, 25, 9, 10, 11, 12, 13, 14, 29, 30, 31, 32, 33, 34, 35, 36, 37, 38, 39, 40, 41, 42, 43, 44, 45, 46] (by decide +kernel) (by decide +kernel)
set_option maxRecDepth 20000 in
theorem gX1_isInForceBehind_X3_isInForceWith : GoodIn wsX1_isInForceBehind (wsV RX1 77 RX3 yX3_isInForceWith wsX3_isInForceWith) := goodIn_app (goodIn_of _ (by decide +kernel)) ggX1_isInForceBehind_X3_isInForceWith
theorem dX1_isInForceBehind_0 : decode cX1_isInForceBehind 0 = .ok (.aload_n 0, 1) := by decide +kernel
theorem dX1_isInForceBehind_1 : decode cX1_isInForceBehind 1 = .ok (.getfield 9, 3) := by decide +kernel
theorem dX1_isInForceBehind_4 : decode cX1_isInForceBehind 4 = .ok (.iload_n 1, 1) := by decide +kernel
theorem dX1_isInForceBehind_5 : decode cX1_isInForceBehind 5 = .ok (.aload_n 0, 1) := by decide +kernel
theorem dX1_isInForceBehind_6 : decode cX1_isInForceBehind 6 = .ok (.getfield 9, 3) := by decide +kernel
theorem dX1_isInForceBehind_9 : decode cX1_isInForceBehind 9 = .ok (.iload_n 1, 1) := by decide +kernel
theorem dX1_isInForceBehind_10 : decode cX1_isInForceBehind 10 = .ok (.invokevirtual 69, 3) := by decide +kernel
theorem dX1_isInForceBehind_13 : decode cX1_isInForceBehind 13 = .ok (.iload_n 2, 1) := by decide +kernel
theorem dX1_isInForceBehind_14 : decode cX1_isInForceBehind 14 = .ok (.ior, 1) := by decide +kernel
theorem dX1_isInForceBehind_15 : decode cX1_isInForceBehind 15 = .ok (.invokestatic 72, 3) := by decide +kernel
theorem dX1_isInForceBehind_18 : decode cX1_isInForceBehind 18 = .ok (.invokevirtual 77, 3) := by decide +kernel
theorem dX1_isInForceBehind_21 : decode cX1_isInForceBehind 21 = .ok (.ireturn, 1) := by decide +kernel
set_option maxRecDepth 20000 in
theorem ggX1_endersOf_X3_readersOf : GoodIn wsX1_endersOf wsX3_readersOf := goodIn_r _ [6, 7, 38, 39, 40, 41, 42, 43, 44, 45, 46, 47, 48, 49, 50, 51, 52, 53, 54, 55] (by decide +kernel) (by decide +kernel)
set_option maxRecDepth 20000 in
theorem gX1_endersOf_X3_readersOf : GoodIn wsX1_endersOf (wsV RX1 69 RX3 yX3_readersOf wsX3_readersOf) := goodIn_app (goodIn_of _ (by decide +kernel)) ggX1_endersOf_X3_readersOf
set_option maxRecDepth 20000 in
theorem ggX1_endersOf_J6_bitCount_0f7a4 : GoodIn wsX1_endersOf wsJ6_bitCount_0f7a4 := goodIn_r _ [11, 12, 13, 14] (by decide +kernel) (by decide +kernel)
set_option maxRecDepth 20000 in
theorem gX1_endersOf_J6_bitCount_0f7a4 : GoodIn wsX1_endersOf (va_wsS RX1 72 yJ6_bitCount_0f7a4 wsJ6_bitCount_0f7a4) := goodIn_app (goodIn_of _ (by decide +kernel)) ggX1_endersOf_J6_bitCount_0f7a4
set_option maxRecDepth 20000 in
theorem ggX1_endersOf_X3_isInForce : GoodIn wsX1_endersOf wsX3_isInForce := goodIn_r _ [18, 7, 19, 9, 10, 11, 12, 13, 14, 20, 21, 22, 5, 23, 24, 25, 26, 27, 28, 29, 38, 39, 40, 41, 42, 43, 44, 45, 46, 47, 48, 49, 50, 51, 52, 53, 54, 55] (by decide +kernel) (by decide +kernel)
set_option maxRecDepth 20000 in
theorem gX1_endersOf_X3_isInForce : GoodIn wsX1_endersOf (wsV RX1 80 RX3 yX3_isInForce wsX3_isInForce) := goodIn_app (goodIn_of _ (by decide +kernel)) ggX1_endersOf_X3_isInForce
set_option maxRecDepth 20000 in
theorem ggX1_endersOf_X3_isInForceWith : GoodIn wsX1_endersOf wsX3_isInForceWith := goodIn_r _ [23, 24, 25, 26, 27, 28, 29, 19, 9, 10, 11, 12, 13, 14, 38, 39, 40, 41, 42, 43, 44, 45, 46, 47, 48, 49, 50, 51, 52, 53, 54, 55] (by decide +kernel) (by decide +kernel)
set_option maxRecDepth 20000 in
theorem gX1_endersOf_X3_isInForceWith : GoodIn wsX1_endersOf (wsV RX1 77 RX3 yX3_isInForceWith wsX3_isInForceWith) := goodIn_app (goodIn_of _ (by decide +kernel)) ggX1_endersOf_X3_isInForceWith
set_option maxRecDepth 20000 in
theorem ggX1_endersOf_X3_unreadOf : GoodIn wsX1_endersOf wsX3_unreadOf := goodIn_r _ [34, 24, 7, 38, 39, 40, 41, 42, 43, 44, 45, 46, 47, 48, 49, 50, 51, 52, 53, 54, 55] (by decide +kernel) (by decide +kernel)
set_option maxRecDepth 20000 in
theorem gX1_endersOf_X3_unreadOf : GoodIn wsX1_endersOf (wsV RX1 54 RX3 yX3_unreadOf wsX3_unreadOf) := goodIn_app (goodIn_of _ (by decide +kernel)) ggX1_endersOf_X3_unreadOf
theorem dX1_endersOf_0 : decode cX1_endersOf 0 = .ok (.aload_n 0, 1) := by decide +kernel
theorem dX1_endersOf_1 : decode cX1_endersOf 1 = .ok (.getfield 9, 3) := by decide +kernel
theorem dX1_endersOf_4 : decode cX1_endersOf 4 = .ok (.iload_n 1, 1) := by decide +kernel
theorem dX1_endersOf_5 : decode cX1_endersOf 5 = .ok (.invokevirtual 69, 3) := by decide +kernel
theorem dX1_endersOf_8 : decode cX1_endersOf 8 = .ok (.invokestatic 72, 3) := by decide +kernel
theorem dX1_endersOf_11 : decode cX1_endersOf 11 = .ok (.istore_n 2, 1) := by decide +kernel
theorem dX1_endersOf_12 : decode cX1_endersOf 12 = .ok (.aload_n 0, 1) := by decide +kernel
theorem dX1_endersOf_13 : decode cX1_endersOf 13 = .ok (.getfield 9, 3) := by decide +kernel
theorem dX1_endersOf_16 : decode cX1_endersOf 16 = .ok (.iload_n 1, 1) := by decide +kernel
theorem dX1_endersOf_17 : decode cX1_endersOf 17 = .ok (.invokevirtual 80, 3) := by decide +kernel
theorem dX1_endersOf_20 : decode cX1_endersOf 20 = .ok (.ifCond .eq 21, 3) := by decide +kernel
theorem dX1_endersOf_23 : decode cX1_endersOf 23 = .ok (.aload_n 0, 1) := by decide +kernel
theorem dX1_endersOf_24 : decode cX1_endersOf 24 = .ok (.getfield 9, 3) := by decide +kernel
theorem dX1_endersOf_27 : decode cX1_endersOf 27 = .ok (.iload_n 1, 1) := by decide +kernel
theorem dX1_endersOf_28 : decode cX1_endersOf 28 = .ok (.iload_n 2, 1) := by decide +kernel
theorem dX1_endersOf_29 : decode cX1_endersOf 29 = .ok (.iconst 1, 1) := by decide +kernel
theorem dX1_endersOf_30 : decode cX1_endersOf 30 = .ok (.iadd, 1) := by decide +kernel
theorem dX1_endersOf_31 : decode cX1_endersOf 31 = .ok (.invokevirtual 77, 3) := by decide +kernel
theorem dX1_endersOf_34 : decode cX1_endersOf 34 = .ok (.ifCond .ne 7, 3) := by decide +kernel
theorem dX1_endersOf_37 : decode cX1_endersOf 37 = .ok (.iconst 1, 1) := by decide +kernel
theorem dX1_endersOf_38 : decode cX1_endersOf 38 = .ok (.goto 4, 3) := by decide +kernel
theorem dX1_endersOf_41 : decode cX1_endersOf 41 = .ok (.iconst 0, 1) := by decide +kernel
theorem dX1_endersOf_42 : decode cX1_endersOf 42 = .ok (.istore_n 3, 1) := by decide +kernel
theorem dX1_endersOf_43 : decode cX1_endersOf 43 = .ok (.iload_n 3, 1) := by decide +kernel
theorem dX1_endersOf_44 : decode cX1_endersOf 44 = .ok (.ifCond .eq 14, 3) := by decide +kernel
theorem dX1_endersOf_47 : decode cX1_endersOf 47 = .ok (.aload_n 0, 1) := by decide +kernel
theorem dX1_endersOf_48 : decode cX1_endersOf 48 = .ok (.getfield 9, 3) := by decide +kernel
theorem dX1_endersOf_51 : decode cX1_endersOf 51 = .ok (.iload_n 1, 1) := by decide +kernel
theorem dX1_endersOf_52 : decode cX1_endersOf 52 = .ok (.invokevirtual 54, 3) := by decide +kernel
theorem dX1_endersOf_55 : decode cX1_endersOf 55 = .ok (.goto 4, 3) := by decide +kernel
theorem dX1_endersOf_58 : decode cX1_endersOf 58 = .ok (.iconst 0, 1) := by decide +kernel
theorem dX1_endersOf_59 : decode cX1_endersOf 59 = .ok (.ireturn, 1) := by decide +kernel
set_option maxRecDepth 20000 in
theorem ggX1_priceOf_X1_endersOf : GoodIn wsX1_priceOf wsX1_endersOf := goodIn_r _ [6, 1, 7, 8, 9, 10, 11, 12, 13, 14, 15, 16, 17, 18, 19, 20, 21, 22, 23, 24, 25, 26, 27, 28, 29, 30, 31, 32, 33, 34, 35, 36, 37, 38, 39, 69, 70, 71, 72, 73, 74, 75, 76, 77, 78, 79, 80, 81, 82, 83, 84, 85, 86, 87, 88, 89] (by decide +kernel) (by decide +kernel)
set_option maxRecDepth 20000 in
theorem gX1_priceOf_X1_endersOf : GoodIn wsX1_priceOf (wsV RX1 84 RX1 yX1_endersOf wsX1_endersOf) := goodIn_app (goodIn_of _ (by decide +kernel)) ggX1_priceOf_X1_endersOf
set_option maxRecDepth 20000 in
theorem ggX1_priceOf_X3_personCount : GoodIn wsX1_priceOf wsX3_personCount := goodIn_r _ [43, 44, 72, 73, 74, 75, 76, 77, 78, 79, 80, 81, 82, 83, 84, 85, 86, 87, 88, 89] (by decide +kernel) (by decide +kernel)
set_option maxRecDepth 20000 in
theorem gX1_priceOf_X3_personCount : GoodIn wsX1_priceOf (wsV RX1 58 RX3 yX3_personCount wsX3_personCount) := goodIn_app (goodIn_of _ (by decide +kernel)) ggX1_priceOf_X3_personCount
set_option maxRecDepth 20000 in
theorem ggX1_priceOf_X3_isBound : GoodIn wsX1_priceOf wsX3_isBound := goodIn_r _ [48, 29, 72, 73, 74, 75, 76, 77, 78, 79, 80, 81, 82, 83, 84, 85, 86, 87, 88, 89] (by decide +kernel) (by decide +kernel)
set_option maxRecDepth 20000 in
theorem gX1_priceOf_X3_isBound : GoodIn wsX1_priceOf (wsV RX1 87 RX3 yX3_isBound wsX3_isBound) := goodIn_app (goodIn_of _ (by decide +kernel)) ggX1_priceOf_X3_isBound
set_option maxRecDepth 20000 in
theorem ggX1_priceOf_X1_thinkInThousandths : GoodIn wsX1_priceOf wsX1_thinkInThousandths := goodIn_r _ [52, 1, 53, 54, 55, 56, 10, 57, 58, 59, 60, 61, 12, 62, 63, 64, 65, 66, 67, 68, 69, 70, 71, 72, 73, 74, 75, 76, 77, 78, 79, 80, 81, 82, 83, 84, 85, 86, 87, 88, 89] (by decide +kernel) (by decide +kernel)
set_option maxRecDepth 20000 in
theorem gX1_priceOf_X1_thinkInThousandths : GoodIn wsX1_priceOf (wsV RX1 90 RX1 yX1_thinkInThousandths wsX1_thinkInThousandths) := goodIn_app (goodIn_of _ (by decide +kernel)) ggX1_priceOf_X1_thinkInThousandths
theorem dX1_priceOf_0 : decode cX1_priceOf 0 = .ok (.aload_n 0, 1) := by decide +kernel
theorem dX1_priceOf_1 : decode cX1_priceOf 1 = .ok (.iload_n 2, 1) := by decide +kernel
theorem dX1_priceOf_2 : decode cX1_priceOf 2 = .ok (.invokevirtual 84, 3) := by decide +kernel
theorem dX1_priceOf_5 : decode cX1_priceOf 5 = .ok (.iload_n 1, 1) := by decide +kernel
theorem dX1_priceOf_6 : decode cX1_priceOf 6 = .ok (.ishr, 1) := by decide +kernel
theorem dX1_priceOf_7 : decode cX1_priceOf 7 = .ok (.iconst 1, 1) := by decide +kernel
theorem dX1_priceOf_8 : decode cX1_priceOf 8 = .ok (.iand, 1) := by decide +kernel
theorem dX1_priceOf_9 : decode cX1_priceOf 9 = .ok (.ifCond .ne 5, 3) := by decide +kernel
theorem dX1_priceOf_12 : decode cX1_priceOf 12 = .ok (.iconst 0, 1) := by decide +kernel
theorem dX1_priceOf_13 : decode cX1_priceOf 13 = .ok (.ireturn, 1) := by decide +kernel
theorem dX1_priceOf_14 : decode cX1_priceOf 14 = .ok (.lconst 0, 1) := by decide +kernel
theorem dX1_priceOf_15 : decode cX1_priceOf 15 = .ok (.lstore 4, 2) := by decide +kernel
theorem dX1_priceOf_17 : decode cX1_priceOf 17 = .ok (.iconst 0, 1) := by decide +kernel
theorem dX1_priceOf_18 : decode cX1_priceOf 18 = .ok (.istore 6, 2) := by decide +kernel
theorem dX1_priceOf_20 : decode cX1_priceOf 20 = .ok (.iload 6, 2) := by decide +kernel
theorem dX1_priceOf_22 : decode cX1_priceOf 22 = .ok (.aload_n 0, 1) := by decide +kernel
theorem dX1_priceOf_23 : decode cX1_priceOf 23 = .ok (.getfield 9, 3) := by decide +kernel
theorem dX1_priceOf_26 : decode cX1_priceOf 26 = .ok (.invokevirtual 58, 3) := by decide +kernel
theorem dX1_priceOf_29 : decode cX1_priceOf 29 = .ok (.if_icmp .ge 40, 3) := by decide +kernel
theorem dX1_priceOf_32 : decode cX1_priceOf 32 = .ok (.iload 6, 2) := by decide +kernel
theorem dX1_priceOf_34 : decode cX1_priceOf 34 = .ok (.iload_n 1, 1) := by decide +kernel
theorem dX1_priceOf_35 : decode cX1_priceOf 35 = .ok (.if_icmp .eq 28, 3) := by decide +kernel
theorem dX1_priceOf_38 : decode cX1_priceOf 38 = .ok (.aload_n 0, 1) := by decide +kernel
theorem dX1_priceOf_39 : decode cX1_priceOf 39 = .ok (.getfield 9, 3) := by decide +kernel
theorem dX1_priceOf_42 : decode cX1_priceOf 42 = .ok (.iload 6, 2) := by decide +kernel
theorem dX1_priceOf_44 : decode cX1_priceOf 44 = .ok (.iload_n 2, 1) := by decide +kernel
theorem dX1_priceOf_45 : decode cX1_priceOf 45 = .ok (.invokevirtual 87, 3) := by decide +kernel
theorem dX1_priceOf_48 : decode cX1_priceOf 48 = .ok (.ifCond .eq 15, 3) := by decide +kernel
theorem dX1_priceOf_51 : decode cX1_priceOf 51 = .ok (.lload 4, 2) := by decide +kernel
theorem dX1_priceOf_53 : decode cX1_priceOf 53 = .ok (.aload_n 0, 1) := by decide +kernel
theorem dX1_priceOf_54 : decode cX1_priceOf 54 = .ok (.iload 6, 2) := by decide +kernel
theorem dX1_priceOf_56 : decode cX1_priceOf 56 = .ok (.iload_n 2, 1) := by decide +kernel
theorem dX1_priceOf_57 : decode cX1_priceOf 57 = .ok (.invokevirtual 90, 3) := by decide +kernel
theorem dX1_priceOf_60 : decode cX1_priceOf 60 = .ok (.ladd, 1) := by decide +kernel
theorem dX1_priceOf_61 : decode cX1_priceOf 61 = .ok (.lstore 4, 2) := by decide +kernel
theorem dX1_priceOf_63 : decode cX1_priceOf 63 = .ok (.iinc 6 1, 3) := by decide +kernel
theorem dX1_priceOf_66 : decode cX1_priceOf 66 = .ok (.goto (-46), 3) := by decide +kernel
theorem dX1_priceOf_69 : decode cX1_priceOf 69 = .ok (.lload 4, 2) := by decide +kernel
theorem dX1_priceOf_71 : decode cX1_priceOf 71 = .ok (.lconst 0, 1) := by decide +kernel
theorem dX1_priceOf_72 : decode cX1_priceOf 72 = .ok (.lcmp, 1) := by decide +kernel
theorem dX1_priceOf_73 : decode cX1_priceOf 73 = .ok (.ifCond .ge 13, 3) := by decide +kernel
theorem dX1_priceOf_76 : decode cX1_priceOf 76 = .ok (.lload 4, 2) := by decide +kernel
theorem dX1_priceOf_78 : decode cX1_priceOf 78 = .ok (.lneg, 1) := by decide +kernel
theorem dX1_priceOf_79 : decode cX1_priceOf 79 = .ok (.iload_n 3, 1) := by decide +kernel
theorem dX1_priceOf_80 : decode cX1_priceOf 80 = .ok (.i2l, 1) := by decide +kernel
theorem dX1_priceOf_81 : decode cX1_priceOf 81 = .ok (.lmul, 1) := by decide +kernel
theorem dX1_priceOf_82 : decode cX1_priceOf 82 = .ok (.l2i, 1) := by decide +kernel
theorem dX1_priceOf_83 : decode cX1_priceOf 83 = .ok (.goto 4, 3) := by decide +kernel
theorem dX1_priceOf_86 : decode cX1_priceOf 86 = .ok (.iconst 0, 1) := by decide +kernel
theorem dX1_priceOf_87 : decode cX1_priceOf 87 = .ok (.ireturn, 1) := by decide +kernel
set_option maxRecDepth 20000 in
theorem ggX1_thinkInThousandths_X3_thinkBelow : GoodIn wsX1_thinkInThousandths wsX3_thinkBelow := goodIn_r _ [7, 8, 9, 10, 6, 11, 12, 13, 14, 23, 24, 25, 26, 27, 28, 29, 30, 31, 32, 33, 34, 35, 36, 37, 38, 39, 40] (by decide +kernel) (by decide +kernel)
set_option maxRecDepth 20000 in
theorem gX1_thinkInThousandths_X3_thinkBelow : GoodIn wsX1_thinkInThousandths (wsV RX1 93 RX3 yX3_thinkBelow wsX3_thinkBelow) := goodIn_app (goodIn_of _ (by decide +kernel)) ggX1_thinkInThousandths_X3_thinkBelow
set_option maxRecDepth 20000 in
theorem ggX1_thinkInThousandths_X3_thinkAbove : GoodIn wsX1_thinkInThousandths wsX3_thinkAbove := goodIn_r _ [18, 19, 8, 9, 10, 6, 11, 12, 13, 14, 23, 24, 25, 26, 27, 28, 29, 30, 31, 32, 33, 34, 35, 36, 37, 38, 39, 40] (by decide +kernel) (by decide +kernel)
set_option maxRecDepth 20000 in
theorem gX1_thinkInThousandths_X3_thinkAbove : GoodIn wsX1_thinkInThousandths (wsV RX1 22 RX3 yX3_thinkAbove wsX3_thinkAbove) := goodIn_app (goodIn_of _ (by decide +kernel)) ggX1_thinkInThousandths_X3_thinkAbove
theorem dX1_thinkInThousandths_0 : decode cX1_thinkInThousandths 0 = .ok (.aload_n 0, 1) := by decide +kernel
theorem dX1_thinkInThousandths_1 : decode cX1_thinkInThousandths 1 = .ok (.getfield 9, 3) := by decide +kernel
theorem dX1_thinkInThousandths_4 : decode cX1_thinkInThousandths 4 = .ok (.iload_n 1, 1) := by decide +kernel
theorem dX1_thinkInThousandths_5 : decode cX1_thinkInThousandths 5 = .ok (.iload_n 2, 1) := by decide +kernel
theorem dX1_thinkInThousandths_6 : decode cX1_thinkInThousandths 6 = .ok (.invokevirtual 93, 3) := by decide +kernel
theorem dX1_thinkInThousandths_9 : decode cX1_thinkInThousandths 9 = .ok (.lstore_n 3, 1) := by decide +kernel
theorem dX1_thinkInThousandths_10 : decode cX1_thinkInThousandths 10 = .ok (.lload_n 3, 1) := by decide +kernel
theorem dX1_thinkInThousandths_11 : decode cX1_thinkInThousandths 11 = .ok (.lconst 0, 1) := by decide +kernel
theorem dX1_thinkInThousandths_12 : decode cX1_thinkInThousandths 12 = .ok (.lcmp, 1) := by decide +kernel
theorem dX1_thinkInThousandths_13 : decode cX1_thinkInThousandths 13 = .ok (.ifCond .le 21, 3) := by decide +kernel
theorem dX1_thinkInThousandths_16 : decode cX1_thinkInThousandths 16 = .ok (.ldc2_w 96, 3) := by decide +kernel
theorem dX1_thinkInThousandths_19 : decode cX1_thinkInThousandths 19 = .ok (.aload_n 0, 1) := by decide +kernel
theorem dX1_thinkInThousandths_20 : decode cX1_thinkInThousandths 20 = .ok (.getfield 9, 3) := by decide +kernel
theorem dX1_thinkInThousandths_23 : decode cX1_thinkInThousandths 23 = .ok (.iload_n 1, 1) := by decide +kernel
theorem dX1_thinkInThousandths_24 : decode cX1_thinkInThousandths 24 = .ok (.iload_n 2, 1) := by decide +kernel
theorem dX1_thinkInThousandths_25 : decode cX1_thinkInThousandths 25 = .ok (.invokevirtual 22, 3) := by decide +kernel
theorem dX1_thinkInThousandths_28 : decode cX1_thinkInThousandths 28 = .ok (.lmul, 1) := by decide +kernel
theorem dX1_thinkInThousandths_29 : decode cX1_thinkInThousandths 29 = .ok (.lload_n 3, 1) := by decide +kernel
theorem dX1_thinkInThousandths_30 : decode cX1_thinkInThousandths 30 = .ok (.ldiv, 1) := by decide +kernel
theorem dX1_thinkInThousandths_31 : decode cX1_thinkInThousandths 31 = .ok (.goto 4, 3) := by decide +kernel
theorem dX1_thinkInThousandths_34 : decode cX1_thinkInThousandths 34 = .ok (.lconst 0, 1) := by decide +kernel
theorem dX1_thinkInThousandths_35 : decode cX1_thinkInThousandths 35 = .ok (.lreturn, 1) := by decide +kernel
set_option maxRecDepth 20000 in
theorem ggX1_weighPower_X3_boundBy : GoodIn wsX1_weighPower wsX3_boundBy := goodIn_r _ [6, 7, 51, 52, 53, 54, 55, 56, 57, 58, 59, 60, 61, 62, 63, 64, 65, 66, 67, 68] (by decide +kernel) (by decide +kernel)
set_option maxRecDepth 20000 in
theorem gX1_weighPower_X3_boundBy : GoodIn wsX1_weighPower (wsV RX1 98 RX3 yX3_boundBy wsX3_boundBy) := goodIn_app (goodIn_of _ (by decide +kernel)) ggX1_weighPower_X3_boundBy
set_option maxRecDepth 20000 in
theorem ggX1_weighPower_J6_bitCount_0f7a4 : GoodIn wsX1_weighPower wsJ6_bitCount_0f7a4 := goodIn_r _ [11, 12, 13, 14] (by decide +kernel) (by decide +kernel)
set_option maxRecDepth 20000 in
theorem gX1_weighPower_J6_bitCount_0f7a4 : GoodIn wsX1_weighPower (va_wsS RX1 72 yJ6_bitCount_0f7a4 wsJ6_bitCount_0f7a4) := goodIn_app (goodIn_of _ (by decide +kernel)) ggX1_weighPower_J6_bitCount_0f7a4
set_option maxRecDepth 20000 in
theorem ggX1_weighPower_X3_isInForce : GoodIn wsX1_weighPower wsX3_isInForce := goodIn_r _ [18, 19, 20, 9, 10, 11, 12, 13, 14, 21, 22, 23, 5, 24, 7, 25, 26, 27, 28, 29, 51, 52, 53, 54, 55, 56, 57, 58, 59, 60, 61, 62, 63, 64, 65, 66, 67, 68] (by decide +kernel) (by decide +kernel)
set_option maxRecDepth 20000 in
theorem gX1_weighPower_X3_isInForce : GoodIn wsX1_weighPower (wsV RX1 80 RX3 yX3_isInForce wsX3_isInForce) := goodIn_app (goodIn_of _ (by decide +kernel)) ggX1_weighPower_X3_isInForce
set_option maxRecDepth 20000 in
theorem ggX1_weighPower_X3_isInForceWith : GoodIn wsX1_weighPower wsX3_isInForceWith := goodIn_r _ [24, 7, 25, 26, 27, 28, 29, 20, 9, 10, 11, 12, 13, 14, 51, 52, 53, 54, 55, 56, 57, 58, 59, 60, 61, 62, 63, 64, 65, 66, 67, 68] (by decide +kernel) (by decide +kernel)
set_option maxRecDepth 20000 in
theorem gX1_weighPower_X3_isInForceWith : GoodIn wsX1_weighPower (wsV RX1 77 RX3 yX3_isInForceWith wsX3_isInForceWith) := goodIn_app (goodIn_of _ (by decide +kernel)) ggX1_weighPower_X3_isInForceWith
set_option maxRecDepth 20000 in
theorem ggX1_weighPower_X3_unreadOf : GoodIn wsX1_weighPower wsX3_unreadOf := goodIn_r _ [34, 7, 19, 51, 52, 53, 54, 55, 56, 57, 58, 59, 60, 61, 62, 63, 64, 65, 66, 67, 68] (by decide +kernel) (by decide +kernel)
set_option maxRecDepth 20000 in
theorem gX1_weighPower_X3_unreadOf : GoodIn wsX1_weighPower (wsV RX1 54 RX3 yX3_unreadOf wsX3_unreadOf) := goodIn_app (goodIn_of _ (by decide +kernel)) ggX1_weighPower_X3_unreadOf
set_option maxRecDepth 20000 in
theorem ggX1_weighPower_X2_become : GoodIn wsX1_weighPower wsX2_become := goodIn_r _ [39, 40, 41, 28, 42, 43, 44, 45, 46, 38, 47, 69, 70] (by decide +kernel) (by decide +kernel)
set_option maxRecDepth 20000 in
theorem gX1_weighPower_X2_become : GoodIn wsX1_weighPower (wsV RX1 101 RX2 yX2_become wsX2_become) := goodIn_app (goodIn_of _ (by decide +kernel)) ggX1_weighPower_X2_become
theorem dX1_weighPower_0 : decode cX1_weighPower 0 = .ok (.aload_n 0, 1) := by decide +kernel
theorem dX1_weighPower_1 : decode cX1_weighPower 1 = .ok (.getfield 9, 3) := by decide +kernel
theorem dX1_weighPower_4 : decode cX1_weighPower 4 = .ok (.iload_n 1, 1) := by decide +kernel
theorem dX1_weighPower_5 : decode cX1_weighPower 5 = .ok (.invokevirtual 98, 3) := by decide +kernel
theorem dX1_weighPower_8 : decode cX1_weighPower 8 = .ok (.invokestatic 72, 3) := by decide +kernel
theorem dX1_weighPower_11 : decode cX1_weighPower 11 = .ok (.istore_n 3, 1) := by decide +kernel
theorem dX1_weighPower_12 : decode cX1_weighPower 12 = .ok (.aload_n 0, 1) := by decide +kernel
theorem dX1_weighPower_13 : decode cX1_weighPower 13 = .ok (.getfield 9, 3) := by decide +kernel
theorem dX1_weighPower_16 : decode cX1_weighPower 16 = .ok (.iload_n 1, 1) := by decide +kernel
theorem dX1_weighPower_17 : decode cX1_weighPower 17 = .ok (.invokevirtual 80, 3) := by decide +kernel
theorem dX1_weighPower_20 : decode cX1_weighPower 20 = .ok (.ifCond .eq 19, 3) := by decide +kernel
theorem dX1_weighPower_23 : decode cX1_weighPower 23 = .ok (.aload_n 0, 1) := by decide +kernel
theorem dX1_weighPower_24 : decode cX1_weighPower 24 = .ok (.getfield 9, 3) := by decide +kernel
theorem dX1_weighPower_27 : decode cX1_weighPower 27 = .ok (.iload_n 1, 1) := by decide +kernel
theorem dX1_weighPower_28 : decode cX1_weighPower 28 = .ok (.iload_n 3, 1) := by decide +kernel
theorem dX1_weighPower_29 : decode cX1_weighPower 29 = .ok (.invokevirtual 77, 3) := by decide +kernel
theorem dX1_weighPower_32 : decode cX1_weighPower 32 = .ok (.ifCond .ne 7, 3) := by decide +kernel
theorem dX1_weighPower_35 : decode cX1_weighPower 35 = .ok (.iconst 1, 1) := by decide +kernel
theorem dX1_weighPower_36 : decode cX1_weighPower 36 = .ok (.goto 4, 3) := by decide +kernel
theorem dX1_weighPower_39 : decode cX1_weighPower 39 = .ok (.iconst 0, 1) := by decide +kernel
theorem dX1_weighPower_40 : decode cX1_weighPower 40 = .ok (.istore 4, 2) := by decide +kernel
theorem dX1_weighPower_42 : decode cX1_weighPower 42 = .ok (.iload 4, 2) := by decide +kernel
theorem dX1_weighPower_44 : decode cX1_weighPower 44 = .ok (.ifCond .eq 23, 3) := by decide +kernel
theorem dX1_weighPower_47 : decode cX1_weighPower 47 = .ok (.aload_n 2, 1) := by decide +kernel
theorem dX1_weighPower_48 : decode cX1_weighPower 48 = .ok (.lconst 1, 1) := by decide +kernel
theorem dX1_weighPower_49 : decode cX1_weighPower 49 = .ok (.aload_n 0, 1) := by decide +kernel
theorem dX1_weighPower_50 : decode cX1_weighPower 50 = .ok (.getfield 9, 3) := by decide +kernel
theorem dX1_weighPower_53 : decode cX1_weighPower 53 = .ok (.iload_n 1, 1) := by decide +kernel
theorem dX1_weighPower_54 : decode cX1_weighPower 54 = .ok (.invokevirtual 54, 3) := by decide +kernel
theorem dX1_weighPower_57 : decode cX1_weighPower 57 = .ok (.invokestatic 72, 3) := by decide +kernel
theorem dX1_weighPower_60 : decode cX1_weighPower 60 = .ok (.i2l, 1) := by decide +kernel
theorem dX1_weighPower_61 : decode cX1_weighPower 61 = .ok (.invokevirtual 101, 3) := by decide +kernel
theorem dX1_weighPower_64 : decode cX1_weighPower 64 = .ok (.goto 9, 3) := by decide +kernel
theorem dX1_weighPower_67 : decode cX1_weighPower 67 = .ok (.aload_n 2, 1) := by decide +kernel
theorem dX1_weighPower_68 : decode cX1_weighPower 68 = .ok (.lconst 0, 1) := by decide +kernel
theorem dX1_weighPower_69 : decode cX1_weighPower 69 = .ok (.lconst 1, 1) := by decide +kernel
theorem dX1_weighPower_70 : decode cX1_weighPower 70 = .ok (.invokevirtual 101, 3) := by decide +kernel
theorem dX1_weighPower_73 : decode cX1_weighPower 73 = .ok (.return_, 1) := by decide +kernel
set_option maxRecDepth 20000 in
theorem ggX1_weighChance_X3_readersOf : GoodIn wsX1_weighChance wsX3_readersOf := goodIn_r _ [7, 8, 51, 52, 53, 54, 55, 56, 57, 58, 59, 60, 61, 62, 63, 64, 65, 66, 67, 68] (by decide +kernel) (by decide +kernel)
set_option maxRecDepth 20000 in
theorem gX1_weighChance_X3_readersOf : GoodIn wsX1_weighChance (wsV RX1 69 RX3 yX3_readersOf wsX3_readersOf) := goodIn_app (goodIn_of _ (by decide +kernel)) ggX1_weighChance_X3_readersOf
set_option maxRecDepth 20000 in
theorem ggX1_weighChance_J6_bitCount_0f7a4 : GoodIn wsX1_weighChance wsJ6_bitCount_0f7a4 := goodIn_r _ [12, 13, 14, 15] (by decide +kernel) (by decide +kernel)
set_option maxRecDepth 20000 in
theorem gX1_weighChance_J6_bitCount_0f7a4 : GoodIn wsX1_weighChance (va_wsS RX1 72 yJ6_bitCount_0f7a4 wsJ6_bitCount_0f7a4) := goodIn_app (goodIn_of _ (by decide +kernel)) ggX1_weighChance_J6_bitCount_0f7a4
set_option maxRecDepth 20000 in
theorem ggX1_weighChance_X3_unreadOf : GoodIn wsX1_weighChance wsX3_unreadOf := goodIn_r _ [19, 20, 8, 51, 52, 53, 54, 55, 56, 57, 58, 59, 60, 61, 62, 63, 64, 65, 66, 67, 68] (by decide +kernel) (by decide +kernel)
set_option maxRecDepth 20000 in
theorem gX1_weighChance_X3_unreadOf : GoodIn wsX1_weighChance (wsV RX1 54 RX3 yX3_unreadOf wsX3_unreadOf) := goodIn_app (goodIn_of _ (by decide +kernel)) ggX1_weighChance_X3_unreadOf
set_option maxRecDepth 20000 in
theorem ggX1_weighChance_X1_powerOf : GoodIn wsX1_weighChance wsX1_powerOf := goodIn_r _ [24] (by decide +kernel) (by decide +kernel)
set_option maxRecDepth 20000 in
theorem gX1_weighChance_X1_powerOf : GoodIn wsX1_weighChance (va_wsS RX1 108 yX1_powerOf wsX1_powerOf) := goodIn_app (goodIn_of _ (by decide +kernel)) ggX1_weighChance_X1_powerOf
set_option maxRecDepth 20000 in
theorem ggX1_weighChance_X3_isInForceWith : GoodIn wsX1_weighChance wsX3_isInForceWith := goodIn_r _ [28, 20, 29, 30, 31, 32, 33, 34, 10, 11, 12, 13, 14, 15, 51, 52, 53, 54, 55, 56, 57, 58, 59, 60, 61, 62, 63, 64, 65, 66, 67, 68] (by decide +kernel) (by decide +kernel)
set_option maxRecDepth 20000 in
theorem gX1_weighChance_X3_isInForceWith : GoodIn wsX1_weighChance (wsV RX1 77 RX3 yX3_isInForceWith wsX3_isInForceWith) := goodIn_app (goodIn_of _ (by decide +kernel)) ggX1_weighChance_X3_isInForceWith
set_option maxRecDepth 20000 in
theorem ggX1_weighChance_X2_become : GoodIn wsX1_weighChance wsX2_become := goodIn_r _ [39, 40, 41, 32, 42, 43, 44, 45, 46, 38, 47, 69, 70] (by decide +kernel) (by decide +kernel)
set_option maxRecDepth 20000 in
theorem gX1_weighChance_X2_become : GoodIn wsX1_weighChance (wsV RX1 101 RX2 yX2_become wsX2_become) := goodIn_app (goodIn_of _ (by decide +kernel)) ggX1_weighChance_X2_become
theorem dX1_weighChance_0 : decode cX1_weighChance 0 = .ok (.aload_n 0, 1) := by decide +kernel
theorem dX1_weighChance_1 : decode cX1_weighChance 1 = .ok (.getfield 9, 3) := by decide +kernel
theorem dX1_weighChance_4 : decode cX1_weighChance 4 = .ok (.iload_n 1, 1) := by decide +kernel
theorem dX1_weighChance_5 : decode cX1_weighChance 5 = .ok (.invokevirtual 69, 3) := by decide +kernel
theorem dX1_weighChance_8 : decode cX1_weighChance 8 = .ok (.invokestatic 72, 3) := by decide +kernel
theorem dX1_weighChance_11 : decode cX1_weighChance 11 = .ok (.istore 5, 2) := by decide +kernel
theorem dX1_weighChance_13 : decode cX1_weighChance 13 = .ok (.aload_n 0, 1) := by decide +kernel
theorem dX1_weighChance_14 : decode cX1_weighChance 14 = .ok (.getfield 9, 3) := by decide +kernel
theorem dX1_weighChance_17 : decode cX1_weighChance 17 = .ok (.iload_n 1, 1) := by decide +kernel
theorem dX1_weighChance_18 : decode cX1_weighChance 18 = .ok (.invokevirtual 54, 3) := by decide +kernel
theorem dX1_weighChance_21 : decode cX1_weighChance 21 = .ok (.invokestatic 72, 3) := by decide +kernel
theorem dX1_weighChance_24 : decode cX1_weighChance 24 = .ok (.istore 6, 2) := by decide +kernel
theorem dX1_weighChance_26 : decode cX1_weighChance 26 = .ok (.ldc2_w 106, 3) := by decide +kernel
theorem dX1_weighChance_29 : decode cX1_weighChance 29 = .ok (.iload_n 3, 1) := by decide +kernel
theorem dX1_weighChance_30 : decode cX1_weighChance 30 = .ok (.invokestatic 108, 3) := by decide +kernel
theorem dX1_weighChance_33 : decode cX1_weighChance 33 = .ok (.lstore 7, 2) := by decide +kernel
theorem dX1_weighChance_35 : decode cX1_weighChance 35 = .ok (.bipush 100, 2) := by decide +kernel
theorem dX1_weighChance_37 : decode cX1_weighChance 37 = .ok (.iload_n 2, 1) := by decide +kernel
theorem dX1_weighChance_38 : decode cX1_weighChance 38 = .ok (.isub, 1) := by decide +kernel
theorem dX1_weighChance_39 : decode cX1_weighChance 39 = .ok (.i2l, 1) := by decide +kernel
theorem dX1_weighChance_40 : decode cX1_weighChance 40 = .ok (.iload_n 3, 1) := by decide +kernel
theorem dX1_weighChance_41 : decode cX1_weighChance 41 = .ok (.invokestatic 108, 3) := by decide +kernel
theorem dX1_weighChance_44 : decode cX1_weighChance 44 = .ok (.lstore 9, 2) := by decide +kernel
theorem dX1_weighChance_46 : decode cX1_weighChance 46 = .ok (.lconst 0, 1) := by decide +kernel
theorem dX1_weighChance_47 : decode cX1_weighChance 47 = .ok (.lstore 11, 2) := by decide +kernel
theorem dX1_weighChance_49 : decode cX1_weighChance 49 = .ok (.lconst 1, 1) := by decide +kernel
theorem dX1_weighChance_50 : decode cX1_weighChance 50 = .ok (.lstore 13, 2) := by decide +kernel
theorem dX1_weighChance_52 : decode cX1_weighChance 52 = .ok (.iconst 0, 1) := by decide +kernel
theorem dX1_weighChance_53 : decode cX1_weighChance 53 = .ok (.istore 15, 2) := by decide +kernel
theorem dX1_weighChance_55 : decode cX1_weighChance 55 = .ok (.iload 15, 2) := by decide +kernel
theorem dX1_weighChance_57 : decode cX1_weighChance 57 = .ok (.iload 6, 2) := by decide +kernel
theorem dX1_weighChance_59 : decode cX1_weighChance 59 = .ok (.if_icmp .gt 71, 3) := by decide +kernel
theorem dX1_weighChance_62 : decode cX1_weighChance 62 = .ok (.aload_n 0, 1) := by decide +kernel
theorem dX1_weighChance_63 : decode cX1_weighChance 63 = .ok (.getfield 9, 3) := by decide +kernel
theorem dX1_weighChance_66 : decode cX1_weighChance 66 = .ok (.iload_n 1, 1) := by decide +kernel
theorem dX1_weighChance_67 : decode cX1_weighChance 67 = .ok (.iload 5, 2) := by decide +kernel
theorem dX1_weighChance_69 : decode cX1_weighChance 69 = .ok (.iload 15, 2) := by decide +kernel
theorem dX1_weighChance_71 : decode cX1_weighChance 71 = .ok (.iadd, 1) := by decide +kernel
theorem dX1_weighChance_72 : decode cX1_weighChance 72 = .ok (.invokevirtual 77, 3) := by decide +kernel
theorem dX1_weighChance_75 : decode cX1_weighChance 75 = .ok (.ifCond .eq 32, 3) := by decide +kernel
theorem dX1_weighChance_78 : decode cX1_weighChance 78 = .ok (.lload 11, 2) := by decide +kernel
theorem dX1_weighChance_80 : decode cX1_weighChance 80 = .ok (.lload 13, 2) := by decide +kernel
theorem dX1_weighChance_82 : decode cX1_weighChance 82 = .ok (.lload 7, 2) := by decide +kernel
theorem dX1_weighChance_84 : decode cX1_weighChance 84 = .ok (.lload 9, 2) := by decide +kernel
theorem dX1_weighChance_86 : decode cX1_weighChance 86 = .ok (.lsub, 1) := by decide +kernel
theorem dX1_weighChance_87 : decode cX1_weighChance 87 = .ok (.iload 15, 2) := by decide +kernel
theorem dX1_weighChance_89 : decode cX1_weighChance 89 = .ok (.invokestatic 108, 3) := by decide +kernel
theorem dX1_weighChance_92 : decode cX1_weighChance 92 = .ok (.lmul, 1) := by decide +kernel
theorem dX1_weighChance_93 : decode cX1_weighChance 93 = .ok (.lload 9, 2) := by decide +kernel
theorem dX1_weighChance_95 : decode cX1_weighChance 95 = .ok (.iload 6, 2) := by decide +kernel
theorem dX1_weighChance_97 : decode cX1_weighChance 97 = .ok (.iload 15, 2) := by decide +kernel
theorem dX1_weighChance_99 : decode cX1_weighChance 99 = .ok (.isub, 1) := by decide +kernel
theorem dX1_weighChance_100 : decode cX1_weighChance 100 = .ok (.invokestatic 108, 3) := by decide +kernel
theorem dX1_weighChance_103 : decode cX1_weighChance 103 = .ok (.lmul, 1) := by decide +kernel
theorem dX1_weighChance_104 : decode cX1_weighChance 104 = .ok (.ladd, 1) := by decide +kernel
theorem dX1_weighChance_105 : decode cX1_weighChance 105 = .ok (.lstore 11, 2) := by decide +kernel
theorem dX1_weighChance_107 : decode cX1_weighChance 107 = .ok (.lload 13, 2) := by decide +kernel
theorem dX1_weighChance_109 : decode cX1_weighChance 109 = .ok (.iload 6, 2) := by decide +kernel
theorem dX1_weighChance_111 : decode cX1_weighChance 111 = .ok (.iload 15, 2) := by decide +kernel
theorem dX1_weighChance_113 : decode cX1_weighChance 113 = .ok (.isub, 1) := by decide +kernel
theorem dX1_weighChance_114 : decode cX1_weighChance 114 = .ok (.i2l, 1) := by decide +kernel
theorem dX1_weighChance_115 : decode cX1_weighChance 115 = .ok (.lmul, 1) := by decide +kernel
theorem dX1_weighChance_116 : decode cX1_weighChance 116 = .ok (.iload 15, 2) := by decide +kernel
theorem dX1_weighChance_118 : decode cX1_weighChance 118 = .ok (.iconst 1, 1) := by decide +kernel
theorem dX1_weighChance_119 : decode cX1_weighChance 119 = .ok (.iadd, 1) := by decide +kernel
theorem dX1_weighChance_120 : decode cX1_weighChance 120 = .ok (.i2l, 1) := by decide +kernel
theorem dX1_weighChance_121 : decode cX1_weighChance 121 = .ok (.ldiv, 1) := by decide +kernel
theorem dX1_weighChance_122 : decode cX1_weighChance 122 = .ok (.lstore 13, 2) := by decide +kernel
theorem dX1_weighChance_124 : decode cX1_weighChance 124 = .ok (.iinc 15 1, 3) := by decide +kernel
theorem dX1_weighChance_127 : decode cX1_weighChance 127 = .ok (.goto (-72), 3) := by decide +kernel
theorem dX1_weighChance_130 : decode cX1_weighChance 130 = .ok (.aload 4, 2) := by decide +kernel
theorem dX1_weighChance_132 : decode cX1_weighChance 132 = .ok (.lload 11, 2) := by decide +kernel
theorem dX1_weighChance_134 : decode cX1_weighChance 134 = .ok (.lload 7, 2) := by decide +kernel
theorem dX1_weighChance_136 : decode cX1_weighChance 136 = .ok (.iload 6, 2) := by decide +kernel
theorem dX1_weighChance_138 : decode cX1_weighChance 138 = .ok (.invokestatic 108, 3) := by decide +kernel
theorem dX1_weighChance_141 : decode cX1_weighChance 141 = .ok (.invokevirtual 101, 3) := by decide +kernel
theorem dX1_weighChance_144 : decode cX1_weighChance 144 = .ok (.return_, 1) := by decide +kernel
theorem dX1_powerOf_0 : decode cX1_powerOf 0 = .ok (.lconst 1, 1) := by decide +kernel
theorem dX1_powerOf_1 : decode cX1_powerOf 1 = .ok (.lstore_n 3, 1) := by decide +kernel
theorem dX1_powerOf_2 : decode cX1_powerOf 2 = .ok (.iconst 0, 1) := by decide +kernel
theorem dX1_powerOf_3 : decode cX1_powerOf 3 = .ok (.istore 5, 2) := by decide +kernel
theorem dX1_powerOf_5 : decode cX1_powerOf 5 = .ok (.iload 5, 2) := by decide +kernel
theorem dX1_powerOf_7 : decode cX1_powerOf 7 = .ok (.iload_n 2, 1) := by decide +kernel
theorem dX1_powerOf_8 : decode cX1_powerOf 8 = .ok (.if_icmp .ge 13, 3) := by decide +kernel
theorem dX1_powerOf_11 : decode cX1_powerOf 11 = .ok (.lload_n 3, 1) := by decide +kernel
theorem dX1_powerOf_12 : decode cX1_powerOf 12 = .ok (.lload_n 0, 1) := by decide +kernel
theorem dX1_powerOf_13 : decode cX1_powerOf 13 = .ok (.lmul, 1) := by decide +kernel
theorem dX1_powerOf_14 : decode cX1_powerOf 14 = .ok (.lstore_n 3, 1) := by decide +kernel
theorem dX1_powerOf_15 : decode cX1_powerOf 15 = .ok (.iinc 5 1, 3) := by decide +kernel
theorem dX1_powerOf_18 : decode cX1_powerOf 18 = .ok (.goto (-13), 3) := by decide +kernel
theorem dX1_powerOf_21 : decode cX1_powerOf 21 = .ok (.lload_n 3, 1) := by decide +kernel
theorem dX1_powerOf_22 : decode cX1_powerOf 22 = .ok (.lreturn, 1) := by decide +kernel
set_option maxRecDepth 20000 in
theorem ggX1_lastsUnder_X3_become : GoodIn wsX1_lastsUnder wsX3_become := goodIn_r _ [7, 8, 9, 10, 11, 12, 13, 14, 15, 16, 17, 18, 19, 20, 21, 22, 23, 24, 25, 26, 27, 28, 29, 108, 109, 110, 111, 112, 113, 114, 115, 116, 117, 118, 119, 120, 121, 122, 123, 124, 125] (by decide +kernel) (by decide +kernel)
set_option maxRecDepth 20000 in
theorem gX1_lastsUnder_X3_become : GoodIn wsX1_lastsUnder (wsV RX1 32 RX3 yX3_become wsX3_become) := goodIn_app (goodIn_of _ (by decide +kernel)) ggX1_lastsUnder_X3_become
set_option maxRecDepth 20000 in
theorem ggX1_lastsUnder_X3_changeLaw : GoodIn wsX1_lastsUnder wsX3_changeLaw := goodIn_r _ [33, 10, 108, 109, 110, 111, 112, 113, 114, 115, 116, 117, 118, 119, 120, 121, 122, 123, 124, 125] (by decide +kernel) (by decide +kernel)
set_option maxRecDepth 20000 in
theorem gX1_lastsUnder_X3_changeLaw : GoodIn wsX1_lastsUnder (wsV RX1 112 RX3 yX3_changeLaw wsX3_changeLaw) := goodIn_app (goodIn_of _ (by decide +kernel)) ggX1_lastsUnder_X3_changeLaw
set_option maxRecDepth 20000 in
theorem ggX1_lastsUnder_X3_passPaper : GoodIn wsX1_lastsUnder wsX3_passPaper := goodIn_r _ [37, 8, 20, 27, 24, 25, 38, 39, 40, 6, 41, 42, 43, 44, 45, 46, 47, 48, 49, 21, 22, 50, 51, 52, 53, 54, 55, 56, 57, 58, 59, 60, 61, 62, 63, 64, 10, 65, 66, 67, 68, 69, 70, 71, 72, 13, 12, 19, 23, 73, 74, 75, 76, 18, 77, 78, 79, 80, 81, 82, 83, 84, 29, 85, 86, 87, 88, 89, 90, 91, 92, 93, 94, 95, 96, 97, 98, 99, 100, 108, 109, 110, 111, 112, 113, 114, 115, 116, 117, 118, 119, 120, 121, 122, 123, 124, 125] (by decide +kernel) (by decide +kernel)
set_option maxRecDepth 20000 in
theorem gX1_lastsUnder_X3_passPaper : GoodIn wsX1_lastsUnder (wsV RX1 44 RX3 yX3_passPaper wsX3_passPaper) := goodIn_app (goodIn_of _ (by decide +kernel)) ggX1_lastsUnder_X3_passPaper
set_option maxRecDepth 20000 in
theorem ggX1_lastsUnder_X3_endWeek : GoodIn wsX1_lastsUnder wsX3_endWeek := goodIn_r _ [104, 12, 108, 109, 110, 111, 112, 113, 114, 115, 116, 117, 118, 119, 120, 121, 122, 123, 124, 125] (by decide +kernel) (by decide +kernel)
set_option maxRecDepth 20000 in
theorem gX1_lastsUnder_X3_endWeek : GoodIn wsX1_lastsUnder (wsV RX1 48 RX3 yX3_endWeek wsX3_endWeek) := goodIn_app (goodIn_of _ (by decide +kernel)) ggX1_lastsUnder_X3_endWeek
theorem dX1_lastsUnder_0 : decode cX1_lastsUnder 0 = .ok (.aload_n 0, 1) := by decide +kernel
theorem dX1_lastsUnder_1 : decode cX1_lastsUnder 1 = .ok (.getfield 15, 3) := by decide +kernel
theorem dX1_lastsUnder_4 : decode cX1_lastsUnder 4 = .ok (.aload_n 0, 1) := by decide +kernel
theorem dX1_lastsUnder_5 : decode cX1_lastsUnder 5 = .ok (.getfield 9, 3) := by decide +kernel
theorem dX1_lastsUnder_8 : decode cX1_lastsUnder 8 = .ok (.invokevirtual 32, 3) := by decide +kernel
theorem dX1_lastsUnder_11 : decode cX1_lastsUnder 11 = .ok (.aload_n 0, 1) := by decide +kernel
theorem dX1_lastsUnder_12 : decode cX1_lastsUnder 12 = .ok (.getfield 15, 3) := by decide +kernel
theorem dX1_lastsUnder_15 : decode cX1_lastsUnder 15 = .ok (.iload_n 2, 1) := by decide +kernel
theorem dX1_lastsUnder_16 : decode cX1_lastsUnder 16 = .ok (.invokevirtual 112, 3) := by decide +kernel
theorem dX1_lastsUnder_19 : decode cX1_lastsUnder 19 = .ok (.pop, 1) := by decide +kernel
theorem dX1_lastsUnder_20 : decode cX1_lastsUnder 20 = .ok (.iconst 0, 1) := by decide +kernel
theorem dX1_lastsUnder_21 : decode cX1_lastsUnder 21 = .ok (.istore 4, 2) := by decide +kernel
theorem dX1_lastsUnder_23 : decode cX1_lastsUnder 23 = .ok (.iconst 0, 1) := by decide +kernel
theorem dX1_lastsUnder_24 : decode cX1_lastsUnder 24 = .ok (.istore 5, 2) := by decide +kernel
theorem dX1_lastsUnder_26 : decode cX1_lastsUnder 26 = .ok (.iload 5, 2) := by decide +kernel
theorem dX1_lastsUnder_28 : decode cX1_lastsUnder 28 = .ok (.iload_n 3, 1) := by decide +kernel
theorem dX1_lastsUnder_29 : decode cX1_lastsUnder 29 = .ok (.if_icmp .ge 30, 3) := by decide +kernel
theorem dX1_lastsUnder_32 : decode cX1_lastsUnder 32 = .ok (.iload 4, 2) := by decide +kernel
theorem dX1_lastsUnder_34 : decode cX1_lastsUnder 34 = .ok (.aload_n 0, 1) := by decide +kernel
theorem dX1_lastsUnder_35 : decode cX1_lastsUnder 35 = .ok (.getfield 15, 3) := by decide +kernel
theorem dX1_lastsUnder_38 : decode cX1_lastsUnder 38 = .ok (.iload_n 1, 1) := by decide +kernel
theorem dX1_lastsUnder_39 : decode cX1_lastsUnder 39 = .ok (.iconst (-1), 1) := by decide +kernel
theorem dX1_lastsUnder_40 : decode cX1_lastsUnder 40 = .ok (.invokevirtual 44, 3) := by decide +kernel
theorem dX1_lastsUnder_43 : decode cX1_lastsUnder 43 = .ok (.iadd, 1) := by decide +kernel
theorem dX1_lastsUnder_44 : decode cX1_lastsUnder 44 = .ok (.istore 4, 2) := by decide +kernel
theorem dX1_lastsUnder_46 : decode cX1_lastsUnder 46 = .ok (.aload_n 0, 1) := by decide +kernel
theorem dX1_lastsUnder_47 : decode cX1_lastsUnder 47 = .ok (.getfield 15, 3) := by decide +kernel
theorem dX1_lastsUnder_50 : decode cX1_lastsUnder 50 = .ok (.invokevirtual 48, 3) := by decide +kernel
theorem dX1_lastsUnder_53 : decode cX1_lastsUnder 53 = .ok (.iinc 5 1, 3) := by decide +kernel
theorem dX1_lastsUnder_56 : decode cX1_lastsUnder 56 = .ok (.goto (-30), 3) := by decide +kernel
theorem dX1_lastsUnder_59 : decode cX1_lastsUnder 59 = .ok (.iload 4, 2) := by decide +kernel
theorem dX1_lastsUnder_61 : decode cX1_lastsUnder 61 = .ok (.ireturn, 1) := by decide +kernel
set_option maxRecDepth 20000 in
theorem ggX1_longestOf_X3_paperCount : GoodIn wsX1_longestOf wsX3_paperCount := goodIn_r _ [6, 7, 121, 122, 123, 124, 125, 126, 127, 128, 129, 130, 131, 132, 133, 134, 135, 136, 137, 138] (by decide +kernel) (by decide +kernel)
set_option maxRecDepth 20000 in
theorem gX1_longestOf_X3_paperCount : GoodIn wsX1_longestOf (wsV RX1 115 RX3 yX3_paperCount wsX3_paperCount) := goodIn_app (goodIn_of _ (by decide +kernel)) ggX1_longestOf_X3_paperCount
set_option maxRecDepth 20000 in
theorem ggX1_longestOf_X3_lawNow : GoodIn wsX1_longestOf wsX3_lawNow := goodIn_r _ [11, 12, 121, 122, 123, 124, 125, 126, 127, 128, 129, 130, 131, 132, 133, 134, 135, 136, 137, 138] (by decide +kernel) (by decide +kernel)
set_option maxRecDepth 20000 in
theorem gX1_longestOf_X3_lawNow : GoodIn wsX1_longestOf (wsV RX1 118 RX3 yX3_lawNow wsX3_lawNow) := goodIn_app (goodIn_of _ (by decide +kernel)) ggX1_longestOf_X3_lawNow
set_option maxRecDepth 20000 in
theorem ggX1_longestOf_X1_lastsUnder : GoodIn wsX1_longestOf wsX1_lastsUnder := goodIn_r _ [17, 18, 1, 19, 20, 21, 5, 22, 23, 7, 12, 24, 25, 26, 27, 28, 29, 30, 31, 32, 33, 34, 35, 36, 37, 38, 39, 40, 41, 42, 43, 44, 45, 46, 47, 48, 49, 50, 51, 52, 53, 54, 55, 56, 57, 58, 59, 60, 61, 62, 63, 64, 65, 66, 67, 68, 69, 70, 71, 72, 73, 74, 75, 76, 77, 78, 79, 80, 81, 82, 83, 84, 85, 86, 87, 88, 89, 90, 91, 92, 93, 94, 95, 96, 97, 98, 99, 100, 101, 102, 103, 104, 105, 106, 107, 108, 109, 110, 111, 112, 113, 114, 115, 116, 117, 118, 119, 120, 121, 122, 123, 124, 125, 126, 127, 128, 129, 130, 131, 132, 133, 134, 135, 136, 137, 138] (by decide +kernel) (by decide +kernel)
set_option maxRecDepth 20000 in
theorem gX1_longestOf_X1_lastsUnder : GoodIn wsX1_longestOf (wsV RX1 121 RX1 yX1_lastsUnder wsX1_lastsUnder) := goodIn_app (goodIn_of _ (by decide +kernel)) ggX1_longestOf_X1_lastsUnder
theorem dX1_longestOf_0 : decode cX1_longestOf 0 = .ok (.bipush (-9), 2) := by decide +kernel
theorem dX1_longestOf_2 : decode cX1_longestOf 2 = .ok (.istore_n 2, 1) := by decide +kernel
theorem dX1_longestOf_3 : decode cX1_longestOf 3 = .ok (.iconst (-1), 1) := by decide +kernel
theorem dX1_longestOf_4 : decode cX1_longestOf 4 = .ok (.istore_n 3, 1) := by decide +kernel
theorem dX1_longestOf_5 : decode cX1_longestOf 5 = .ok (.iconst 0, 1) := by decide +kernel
theorem dX1_longestOf_6 : decode cX1_longestOf 6 = .ok (.istore 4, 2) := by decide +kernel
theorem dX1_longestOf_8 : decode cX1_longestOf 8 = .ok (.iload 4, 2) := by decide +kernel
theorem dX1_longestOf_10 : decode cX1_longestOf 10 = .ok (.aload_n 0, 1) := by decide +kernel
theorem dX1_longestOf_11 : decode cX1_longestOf 11 = .ok (.getfield 9, 3) := by decide +kernel
theorem dX1_longestOf_14 : decode cX1_longestOf 14 = .ok (.invokevirtual 115, 3) := by decide +kernel
theorem dX1_longestOf_17 : decode cX1_longestOf 17 = .ok (.if_icmp .ge 37, 3) := by decide +kernel
theorem dX1_longestOf_20 : decode cX1_longestOf 20 = .ok (.aload_n 0, 1) := by decide +kernel
theorem dX1_longestOf_21 : decode cX1_longestOf 21 = .ok (.iload 4, 2) := by decide +kernel
theorem dX1_longestOf_23 : decode cX1_longestOf 23 = .ok (.aload_n 0, 1) := by decide +kernel
theorem dX1_longestOf_24 : decode cX1_longestOf 24 = .ok (.getfield 9, 3) := by decide +kernel
theorem dX1_longestOf_27 : decode cX1_longestOf 27 = .ok (.invokevirtual 118, 3) := by decide +kernel
theorem dX1_longestOf_30 : decode cX1_longestOf 30 = .ok (.iload_n 1, 1) := by decide +kernel
theorem dX1_longestOf_31 : decode cX1_longestOf 31 = .ok (.invokevirtual 121, 3) := by decide +kernel
theorem dX1_longestOf_34 : decode cX1_longestOf 34 = .ok (.istore 5, 2) := by decide +kernel
theorem dX1_longestOf_36 : decode cX1_longestOf 36 = .ok (.iload 5, 2) := by decide +kernel
theorem dX1_longestOf_38 : decode cX1_longestOf 38 = .ok (.iload_n 3, 1) := by decide +kernel
theorem dX1_longestOf_39 : decode cX1_longestOf 39 = .ok (.if_icmp .le 9, 3) := by decide +kernel
theorem dX1_longestOf_42 : decode cX1_longestOf 42 = .ok (.iload 4, 2) := by decide +kernel
theorem dX1_longestOf_44 : decode cX1_longestOf 44 = .ok (.istore_n 2, 1) := by decide +kernel
theorem dX1_longestOf_45 : decode cX1_longestOf 45 = .ok (.iload 5, 2) := by decide +kernel
theorem dX1_longestOf_47 : decode cX1_longestOf 47 = .ok (.istore_n 3, 1) := by decide +kernel
theorem dX1_longestOf_48 : decode cX1_longestOf 48 = .ok (.iinc 4 1, 3) := by decide +kernel
theorem dX1_longestOf_51 : decode cX1_longestOf 51 = .ok (.goto (-43), 3) := by decide +kernel
theorem dX1_longestOf_54 : decode cX1_longestOf 54 = .ok (.iload_n 2, 1) := by decide +kernel
theorem dX1_longestOf_55 : decode cX1_longestOf 55 = .ok (.ireturn, 1) := by decide +kernel
set_option maxRecDepth 20000 in
theorem ggX1_drawWeeks_X3_become : GoodIn wsX1_drawWeeks wsX3_become := goodIn_r _ [8, 9, 10, 11, 12, 13, 14, 15, 16, 17, 18, 19, 20, 21, 22, 23, 24, 25, 26, 27, 28, 29, 30, 131, 132, 133, 134, 135, 136, 137, 138, 139, 140, 141, 142, 143, 144, 145, 146, 147, 148] (by decide +kernel) (by decide +kernel)
set_option maxRecDepth 20000 in
theorem gX1_drawWeeks_X3_become : GoodIn wsX1_drawWeeks (wsV RX1 32 RX3 yX3_become wsX3_become) := goodIn_app (goodIn_of _ (by decide +kernel)) ggX1_drawWeeks_X3_become
set_option maxRecDepth 20000 in
theorem ggX1_drawWeeks_X3_personCount : GoodIn wsX1_drawWeeks wsX3_personCount := goodIn_r _ [34, 9, 131, 132, 133, 134, 135, 136, 137, 138, 139, 140, 141, 142, 143, 144, 145, 146, 147, 148] (by decide +kernel) (by decide +kernel)
set_option maxRecDepth 20000 in
theorem gX1_drawWeeks_X3_personCount : GoodIn wsX1_drawWeeks (wsV RX1 58 RX3 yX3_personCount wsX3_personCount) := goodIn_app (goodIn_of _ (by decide +kernel)) ggX1_drawWeeks_X3_personCount
set_option maxRecDepth 20000 in
theorem ggX1_drawWeeks_X1_drawBelow : GoodIn wsX1_drawWeeks wsX1_drawBelow := goodIn_r _ [39, 3, 40, 41, 42, 128, 129, 130] (by decide +kernel) (by decide +kernel)
set_option maxRecDepth 20000 in
theorem gX1_drawWeeks_X1_drawBelow : GoodIn wsX1_drawWeeks (wsV RX1 125 RX1 yX1_drawBelow wsX1_drawBelow) := goodIn_app (goodIn_of _ (by decide +kernel)) ggX1_drawWeeks_X1_drawBelow
set_option maxRecDepth 20000 in
theorem ggX1_drawWeeks_X3_paperCount : GoodIn wsX1_drawWeeks wsX3_paperCount := goodIn_r _ [46, 10, 131, 132, 133, 134, 135, 136, 137, 138, 139, 140, 141, 142, 143, 144, 145, 146, 147, 148] (by decide +kernel) (by decide +kernel)
set_option maxRecDepth 20000 in
theorem gX1_drawWeeks_X3_paperCount : GoodIn wsX1_drawWeeks (wsV RX1 115 RX3 yX3_paperCount wsX3_paperCount) := goodIn_app (goodIn_of _ (by decide +kernel)) ggX1_drawWeeks_X3_paperCount
set_option maxRecDepth 20000 in
theorem ggX1_drawWeeks_X3_canRead : GoodIn wsX1_drawWeeks wsX3_canRead := goodIn_r _ [50, 51, 52, 53, 7, 54, 55, 56, 57, 58, 22, 23, 59, 60, 61, 62, 63, 64, 65, 66, 67, 68, 69, 70, 71, 72, 73, 11, 74, 75, 76, 77, 131, 132, 133, 134, 135, 136, 137, 138, 139, 140, 141, 142, 143, 144, 145, 146, 147, 148] (by decide +kernel) (by decide +kernel)
set_option maxRecDepth 20000 in
theorem gX1_drawWeeks_X3_canRead : GoodIn wsX1_drawWeeks (wsV RX1 36 RX3 yX3_canRead wsX3_canRead) := goodIn_app (goodIn_of _ (by decide +kernel)) ggX1_drawWeeks_X3_canRead
set_option maxRecDepth 20000 in
theorem ggX1_drawWeeks_X3_markRead : GoodIn wsX1_drawWeeks wsX3_markRead := goodIn_r _ [81, 23, 131, 132, 133, 134, 135, 136, 137, 138, 139, 140, 141, 142, 143, 144, 145, 146, 147, 148] (by decide +kernel) (by decide +kernel)
set_option maxRecDepth 20000 in
theorem gX1_drawWeeks_X3_markRead : GoodIn wsX1_drawWeeks (wsV RX1 40 RX3 yX3_markRead wsX3_markRead) := goodIn_app (goodIn_of _ (by decide +kernel)) ggX1_drawWeeks_X3_markRead
set_option maxRecDepth 20000 in
theorem ggX1_drawWeeks_X3_passWeek : GoodIn wsX1_drawWeeks wsX3_passWeek := goodIn_r _ [85, 10, 86, 87, 88, 7, 89, 9, 21, 28, 25, 26, 90, 48, 49, 50, 51, 52, 53, 54, 55, 56, 57, 58, 22, 23, 59, 60, 61, 62, 63, 64, 65, 66, 67, 68, 69, 70, 71, 72, 73, 11, 74, 75, 76, 77, 91, 92, 93, 94, 14, 13, 20, 24, 95, 96, 97, 98, 19, 99, 100, 101, 102, 103, 104, 105, 106, 30, 107, 108, 109, 110, 111, 112, 113, 114, 115, 79, 80, 81, 116, 117, 118, 119, 120, 121, 122, 123, 131, 132, 133, 134, 135, 136, 137, 138, 139, 140, 141, 142, 143, 144, 145, 146, 147, 148] (by decide +kernel) (by decide +kernel)
set_option maxRecDepth 20000 in
theorem gX1_drawWeeks_X3_passWeek : GoodIn wsX1_drawWeeks (wsV RX1 128 RX3 yX3_passWeek wsX3_passWeek) := goodIn_app (goodIn_of _ (by decide +kernel)) ggX1_drawWeeks_X3_passWeek
set_option maxRecDepth 20000 in
theorem ggX1_drawWeeks_X3_hadByAll : GoodIn wsX1_drawWeeks wsX3_hadByAll := goodIn_r _ [127, 9, 21, 131, 132, 133, 134, 135, 136, 137, 138, 139, 140, 141, 142, 143, 144, 145, 146, 147, 148] (by decide +kernel) (by decide +kernel)
set_option maxRecDepth 20000 in
theorem gX1_drawWeeks_X3_hadByAll : GoodIn wsX1_drawWeeks (wsV RX1 131 RX3 yX3_hadByAll wsX3_hadByAll) := goodIn_app (goodIn_of _ (by decide +kernel)) ggX1_drawWeeks_X3_hadByAll
theorem dX1_drawWeeks_0 : decode cX1_drawWeeks 0 = .ok (.aload_n 0, 1) := by decide +kernel
theorem dX1_drawWeeks_1 : decode cX1_drawWeeks 1 = .ok (.getfield 15, 3) := by decide +kernel
theorem dX1_drawWeeks_4 : decode cX1_drawWeeks 4 = .ok (.aload_n 0, 1) := by decide +kernel
theorem dX1_drawWeeks_5 : decode cX1_drawWeeks 5 = .ok (.getfield 9, 3) := by decide +kernel
theorem dX1_drawWeeks_8 : decode cX1_drawWeeks 8 = .ok (.invokevirtual 32, 3) := by decide +kernel
theorem dX1_drawWeeks_11 : decode cX1_drawWeeks 11 = .ok (.aload_n 0, 1) := by decide +kernel
theorem dX1_drawWeeks_12 : decode cX1_drawWeeks 12 = .ok (.iload_n 2, 1) := by decide +kernel
theorem dX1_drawWeeks_13 : decode cX1_drawWeeks 13 = .ok (.putfield 18, 3) := by decide +kernel
theorem dX1_drawWeeks_16 : decode cX1_drawWeeks 16 = .ok (.iconst 0, 1) := by decide +kernel
theorem dX1_drawWeeks_17 : decode cX1_drawWeeks 17 = .ok (.istore_n 3, 1) := by decide +kernel
theorem dX1_drawWeeks_18 : decode cX1_drawWeeks 18 = .ok (.iload_n 3, 1) := by decide +kernel
theorem dX1_drawWeeks_19 : decode cX1_drawWeeks 19 = .ok (.iload_n 1, 1) := by decide +kernel
theorem dX1_drawWeeks_20 : decode cX1_drawWeeks 20 = .ok (.if_icmp .ge 67, 3) := by decide +kernel
theorem dX1_drawWeeks_23 : decode cX1_drawWeeks 23 = .ok (.aload_n 0, 1) := by decide +kernel
theorem dX1_drawWeeks_24 : decode cX1_drawWeeks 24 = .ok (.aload_n 0, 1) := by decide +kernel
theorem dX1_drawWeeks_25 : decode cX1_drawWeeks 25 = .ok (.getfield 15, 3) := by decide +kernel
theorem dX1_drawWeeks_28 : decode cX1_drawWeeks 28 = .ok (.invokevirtual 58, 3) := by decide +kernel
theorem dX1_drawWeeks_31 : decode cX1_drawWeeks 31 = .ok (.invokevirtual 125, 3) := by decide +kernel
theorem dX1_drawWeeks_34 : decode cX1_drawWeeks 34 = .ok (.istore 4, 2) := by decide +kernel
theorem dX1_drawWeeks_36 : decode cX1_drawWeeks 36 = .ok (.aload_n 0, 1) := by decide +kernel
theorem dX1_drawWeeks_37 : decode cX1_drawWeeks 37 = .ok (.aload_n 0, 1) := by decide +kernel
theorem dX1_drawWeeks_38 : decode cX1_drawWeeks 38 = .ok (.getfield 15, 3) := by decide +kernel
theorem dX1_drawWeeks_41 : decode cX1_drawWeeks 41 = .ok (.invokevirtual 115, 3) := by decide +kernel
theorem dX1_drawWeeks_44 : decode cX1_drawWeeks 44 = .ok (.invokevirtual 125, 3) := by decide +kernel
theorem dX1_drawWeeks_47 : decode cX1_drawWeeks 47 = .ok (.istore 5, 2) := by decide +kernel
theorem dX1_drawWeeks_49 : decode cX1_drawWeeks 49 = .ok (.aload_n 0, 1) := by decide +kernel
theorem dX1_drawWeeks_50 : decode cX1_drawWeeks 50 = .ok (.getfield 15, 3) := by decide +kernel
theorem dX1_drawWeeks_53 : decode cX1_drawWeeks 53 = .ok (.iload 4, 2) := by decide +kernel
theorem dX1_drawWeeks_55 : decode cX1_drawWeeks 55 = .ok (.iload 5, 2) := by decide +kernel
theorem dX1_drawWeeks_57 : decode cX1_drawWeeks 57 = .ok (.invokevirtual 36, 3) := by decide +kernel
theorem dX1_drawWeeks_60 : decode cX1_drawWeeks 60 = .ok (.ifCond .eq 14, 3) := by decide +kernel
theorem dX1_drawWeeks_63 : decode cX1_drawWeeks 63 = .ok (.aload_n 0, 1) := by decide +kernel
theorem dX1_drawWeeks_64 : decode cX1_drawWeeks 64 = .ok (.getfield 15, 3) := by decide +kernel
theorem dX1_drawWeeks_67 : decode cX1_drawWeeks 67 = .ok (.iload 4, 2) := by decide +kernel
theorem dX1_drawWeeks_69 : decode cX1_drawWeeks 69 = .ok (.iload 5, 2) := by decide +kernel
theorem dX1_drawWeeks_71 : decode cX1_drawWeeks 71 = .ok (.invokevirtual 40, 3) := by decide +kernel
theorem dX1_drawWeeks_74 : decode cX1_drawWeeks 74 = .ok (.aload_n 0, 1) := by decide +kernel
theorem dX1_drawWeeks_75 : decode cX1_drawWeeks 75 = .ok (.getfield 15, 3) := by decide +kernel
theorem dX1_drawWeeks_78 : decode cX1_drawWeeks 78 = .ok (.invokevirtual 128, 3) := by decide +kernel
theorem dX1_drawWeeks_81 : decode cX1_drawWeeks 81 = .ok (.iinc 3 1, 3) := by decide +kernel
theorem dX1_drawWeeks_84 : decode cX1_drawWeeks 84 = .ok (.goto (-66), 3) := by decide +kernel
theorem dX1_drawWeeks_87 : decode cX1_drawWeeks 87 = .ok (.aload_n 0, 1) := by decide +kernel
theorem dX1_drawWeeks_88 : decode cX1_drawWeeks 88 = .ok (.getfield 15, 3) := by decide +kernel
theorem dX1_drawWeeks_91 : decode cX1_drawWeeks 91 = .ok (.invokevirtual 131, 3) := by decide +kernel
theorem dX1_drawWeeks_94 : decode cX1_drawWeeks 94 = .ok (.aload_n 0, 1) := by decide +kernel
theorem dX1_drawWeeks_95 : decode cX1_drawWeeks 95 = .ok (.getfield 9, 3) := by decide +kernel
theorem dX1_drawWeeks_98 : decode cX1_drawWeeks 98 = .ok (.invokevirtual 131, 3) := by decide +kernel
theorem dX1_drawWeeks_101 : decode cX1_drawWeeks 101 = .ok (.isub, 1) := by decide +kernel
theorem dX1_drawWeeks_102 : decode cX1_drawWeeks 102 = .ok (.ireturn, 1) := by decide +kernel
theorem dX1_drawBelow_0 : decode cX1_drawBelow 0 = .ok (.aload_n 0, 1) := by decide +kernel
theorem dX1_drawBelow_1 : decode cX1_drawBelow 1 = .ok (.aload_n 0, 1) := by decide +kernel
theorem dX1_drawBelow_2 : decode cX1_drawBelow 2 = .ok (.getfield 18, 3) := by decide +kernel
theorem dX1_drawBelow_5 : decode cX1_drawBelow 5 = .ok (.ldc 134, 2) := by decide +kernel
theorem dX1_drawBelow_7 : decode cX1_drawBelow 7 = .ok (.imul, 1) := by decide +kernel
theorem dX1_drawBelow_8 : decode cX1_drawBelow 8 = .ok (.ldc 135, 2) := by decide +kernel
theorem dX1_drawBelow_10 : decode cX1_drawBelow 10 = .ok (.iadd, 1) := by decide +kernel
theorem dX1_drawBelow_11 : decode cX1_drawBelow 11 = .ok (.putfield 18, 3) := by decide +kernel
theorem dX1_drawBelow_14 : decode cX1_drawBelow 14 = .ok (.iload_n 1, 1) := by decide +kernel
theorem dX1_drawBelow_15 : decode cX1_drawBelow 15 = .ok (.ifCond .le 19, 3) := by decide +kernel
theorem dX1_drawBelow_18 : decode cX1_drawBelow 18 = .ok (.aload_n 0, 1) := by decide +kernel
theorem dX1_drawBelow_19 : decode cX1_drawBelow 19 = .ok (.getfield 18, 3) := by decide +kernel
theorem dX1_drawBelow_22 : decode cX1_drawBelow 22 = .ok (.ldc 136, 2) := by decide +kernel
theorem dX1_drawBelow_24 : decode cX1_drawBelow 24 = .ok (.iand, 1) := by decide +kernel
theorem dX1_drawBelow_25 : decode cX1_drawBelow 25 = .ok (.sipush 256, 3) := by decide +kernel
theorem dX1_drawBelow_28 : decode cX1_drawBelow 28 = .ok (.idiv, 1) := by decide +kernel
theorem dX1_drawBelow_29 : decode cX1_drawBelow 29 = .ok (.iload_n 1, 1) := by decide +kernel
theorem dX1_drawBelow_30 : decode cX1_drawBelow 30 = .ok (.irem, 1) := by decide +kernel
theorem dX1_drawBelow_31 : decode cX1_drawBelow 31 = .ok (.goto 4, 3) := by decide +kernel
theorem dX1_drawBelow_34 : decode cX1_drawBelow 34 = .ok (.iconst 0, 1) := by decide +kernel
theorem dX1_drawBelow_35 : decode cX1_drawBelow 35 = .ok (.ireturn, 1) := by decide +kernel
set_option maxRecDepth 20000 in
theorem ggX1_firstThatCanNot_X3_become : GoodIn wsX1_firstThatCanNot wsX3_become := goodIn_r _ [7, 8, 9, 10, 11, 12, 13, 14, 15, 16, 17, 18, 19, 20, 21, 22, 23, 24, 25, 26, 27, 28, 29, 106, 107, 108, 109, 110, 111, 112, 113, 114, 115, 116, 117, 118, 119, 120, 121, 122, 123] (by decide +kernel) (by decide +kernel)
set_option maxRecDepth 20000 in
theorem gX1_firstThatCanNot_X3_become : GoodIn wsX1_firstThatCanNot (wsV RX1 32 RX3 yX3_become wsX3_become) := goodIn_app (goodIn_of _ (by decide +kernel)) ggX1_firstThatCanNot_X3_become
set_option maxRecDepth 20000 in
theorem ggX1_firstThatCanNot_X3_canRead : GoodIn wsX1_firstThatCanNot wsX3_canRead := goodIn_r _ [33, 34, 35, 36, 6, 37, 38, 39, 40, 41, 21, 22, 42, 43, 44, 45, 46, 47, 48, 49, 50, 51, 52, 53, 54, 55, 56, 10, 57, 58, 59, 60, 106, 107, 108, 109, 110, 111, 112, 113, 114, 115, 116, 117, 118, 119, 120, 121, 122, 123] (by decide +kernel) (by decide +kernel)
set_option maxRecDepth 20000 in
theorem gX1_firstThatCanNot_X3_canRead : GoodIn wsX1_firstThatCanNot (wsV RX1 36 RX3 yX3_canRead wsX3_canRead) := goodIn_app (goodIn_of _ (by decide +kernel)) ggX1_firstThatCanNot_X3_canRead
set_option maxRecDepth 20000 in
theorem ggX1_firstThatCanNot_X3_markRead : GoodIn wsX1_firstThatCanNot wsX3_markRead := goodIn_r _ [64, 22, 106, 107, 108, 109, 110, 111, 112, 113, 114, 115, 116, 117, 118, 119, 120, 121, 122, 123] (by decide +kernel) (by decide +kernel)
set_option maxRecDepth 20000 in
theorem gX1_firstThatCanNot_X3_markRead : GoodIn wsX1_firstThatCanNot (wsV RX1 40 RX3 yX3_markRead wsX3_markRead) := goodIn_app (goodIn_of _ (by decide +kernel)) ggX1_firstThatCanNot_X3_markRead
set_option maxRecDepth 20000 in
theorem ggX1_firstThatCanNot_X3_passPaper : GoodIn wsX1_firstThatCanNot wsX3_passPaper := goodIn_r _ [68, 8, 20, 27, 24, 25, 69, 31, 32, 6, 33, 34, 35, 36, 37, 38, 39, 40, 41, 21, 22, 42, 43, 44, 45, 46, 47, 48, 49, 50, 51, 52, 53, 54, 55, 56, 10, 57, 58, 59, 60, 70, 71, 72, 73, 13, 12, 19, 23, 74, 75, 76, 77, 18, 78, 79, 80, 81, 82, 83, 84, 85, 29, 86, 87, 88, 89, 90, 91, 92, 93, 94, 62, 63, 64, 95, 96, 97, 98, 106, 107, 108, 109, 110, 111, 112, 113, 114, 115, 116, 117, 118, 119, 120, 121, 122, 123] (by decide +kernel) (by decide +kernel)
set_option maxRecDepth 20000 in
theorem gX1_firstThatCanNot_X3_passPaper : GoodIn wsX1_firstThatCanNot (wsV RX1 44 RX3 yX3_passPaper wsX3_passPaper) := goodIn_app (goodIn_of _ (by decide +kernel)) ggX1_firstThatCanNot_X3_passPaper
set_option maxRecDepth 20000 in
theorem ggX1_firstThatCanNot_X3_endWeek : GoodIn wsX1_firstThatCanNot wsX3_endWeek := goodIn_r _ [102, 12, 106, 107, 108, 109, 110, 111, 112, 113, 114, 115, 116, 117, 118, 119, 120, 121, 122, 123] (by decide +kernel) (by decide +kernel)
set_option maxRecDepth 20000 in
theorem gX1_firstThatCanNot_X3_endWeek : GoodIn wsX1_firstThatCanNot (wsV RX1 48 RX3 yX3_endWeek wsX3_endWeek) := goodIn_app (goodIn_of _ (by decide +kernel)) ggX1_firstThatCanNot_X3_endWeek
theorem dX1_firstThatCanNot_0 : decode cX1_firstThatCanNot 0 = .ok (.aload_n 0, 1) := by decide +kernel
theorem dX1_firstThatCanNot_1 : decode cX1_firstThatCanNot 1 = .ok (.getfield 15, 3) := by decide +kernel
theorem dX1_firstThatCanNot_4 : decode cX1_firstThatCanNot 4 = .ok (.aload_n 0, 1) := by decide +kernel
theorem dX1_firstThatCanNot_5 : decode cX1_firstThatCanNot 5 = .ok (.getfield 9, 3) := by decide +kernel
theorem dX1_firstThatCanNot_8 : decode cX1_firstThatCanNot 8 = .ok (.invokevirtual 32, 3) := by decide +kernel
theorem dX1_firstThatCanNot_11 : decode cX1_firstThatCanNot 11 = .ok (.iconst 0, 1) := by decide +kernel
theorem dX1_firstThatCanNot_12 : decode cX1_firstThatCanNot 12 = .ok (.istore 4, 2) := by decide +kernel
theorem dX1_firstThatCanNot_14 : decode cX1_firstThatCanNot 14 = .ok (.iload 4, 2) := by decide +kernel
theorem dX1_firstThatCanNot_16 : decode cX1_firstThatCanNot 16 = .ok (.iload_n 3, 1) := by decide +kernel
theorem dX1_firstThatCanNot_17 : decode cX1_firstThatCanNot 17 = .ok (.if_icmp .ge 65, 3) := by decide +kernel
theorem dX1_firstThatCanNot_20 : decode cX1_firstThatCanNot 20 = .ok (.aload_n 2, 1) := by decide +kernel
theorem dX1_firstThatCanNot_21 : decode cX1_firstThatCanNot 21 = .ok (.iload 4, 2) := by decide +kernel
theorem dX1_firstThatCanNot_23 : decode cX1_firstThatCanNot 23 = .ok (.iaload, 1) := by decide +kernel
theorem dX1_firstThatCanNot_24 : decode cX1_firstThatCanNot 24 = .ok (.bipush 9, 2) := by decide +kernel
theorem dX1_firstThatCanNot_26 : decode cX1_firstThatCanNot 26 = .ok (.if_icmp .eq 33, 3) := by decide +kernel
theorem dX1_firstThatCanNot_29 : decode cX1_firstThatCanNot 29 = .ok (.aload_n 0, 1) := by decide +kernel
theorem dX1_firstThatCanNot_30 : decode cX1_firstThatCanNot 30 = .ok (.getfield 15, 3) := by decide +kernel
theorem dX1_firstThatCanNot_33 : decode cX1_firstThatCanNot 33 = .ok (.aload_n 2, 1) := by decide +kernel
theorem dX1_firstThatCanNot_34 : decode cX1_firstThatCanNot 34 = .ok (.iload 4, 2) := by decide +kernel
theorem dX1_firstThatCanNot_36 : decode cX1_firstThatCanNot 36 = .ok (.iaload, 1) := by decide +kernel
theorem dX1_firstThatCanNot_37 : decode cX1_firstThatCanNot 37 = .ok (.iload_n 1, 1) := by decide +kernel
theorem dX1_firstThatCanNot_38 : decode cX1_firstThatCanNot 38 = .ok (.invokevirtual 36, 3) := by decide +kernel
theorem dX1_firstThatCanNot_41 : decode cX1_firstThatCanNot 41 = .ok (.ifCond .ne 6, 3) := by decide +kernel
theorem dX1_firstThatCanNot_44 : decode cX1_firstThatCanNot 44 = .ok (.iload 4, 2) := by decide +kernel
theorem dX1_firstThatCanNot_46 : decode cX1_firstThatCanNot 46 = .ok (.ireturn, 1) := by decide +kernel
theorem dX1_firstThatCanNot_47 : decode cX1_firstThatCanNot 47 = .ok (.aload_n 0, 1) := by decide +kernel
theorem dX1_firstThatCanNot_48 : decode cX1_firstThatCanNot 48 = .ok (.getfield 15, 3) := by decide +kernel
theorem dX1_firstThatCanNot_51 : decode cX1_firstThatCanNot 51 = .ok (.aload_n 2, 1) := by decide +kernel
theorem dX1_firstThatCanNot_52 : decode cX1_firstThatCanNot 52 = .ok (.iload 4, 2) := by decide +kernel
theorem dX1_firstThatCanNot_54 : decode cX1_firstThatCanNot 54 = .ok (.iaload, 1) := by decide +kernel
theorem dX1_firstThatCanNot_55 : decode cX1_firstThatCanNot 55 = .ok (.iload_n 1, 1) := by decide +kernel
theorem dX1_firstThatCanNot_56 : decode cX1_firstThatCanNot 56 = .ok (.invokevirtual 40, 3) := by decide +kernel
theorem dX1_firstThatCanNot_59 : decode cX1_firstThatCanNot 59 = .ok (.aload_n 0, 1) := by decide +kernel
theorem dX1_firstThatCanNot_60 : decode cX1_firstThatCanNot 60 = .ok (.getfield 15, 3) := by decide +kernel
theorem dX1_firstThatCanNot_63 : decode cX1_firstThatCanNot 63 = .ok (.iload_n 1, 1) := by decide +kernel
theorem dX1_firstThatCanNot_64 : decode cX1_firstThatCanNot 64 = .ok (.iconst (-1), 1) := by decide +kernel
theorem dX1_firstThatCanNot_65 : decode cX1_firstThatCanNot 65 = .ok (.invokevirtual 44, 3) := by decide +kernel
theorem dX1_firstThatCanNot_68 : decode cX1_firstThatCanNot 68 = .ok (.pop, 1) := by decide +kernel
theorem dX1_firstThatCanNot_69 : decode cX1_firstThatCanNot 69 = .ok (.aload_n 0, 1) := by decide +kernel
theorem dX1_firstThatCanNot_70 : decode cX1_firstThatCanNot 70 = .ok (.getfield 15, 3) := by decide +kernel
theorem dX1_firstThatCanNot_73 : decode cX1_firstThatCanNot 73 = .ok (.invokevirtual 48, 3) := by decide +kernel
theorem dX1_firstThatCanNot_76 : decode cX1_firstThatCanNot 76 = .ok (.iinc 4 1, 3) := by decide +kernel
theorem dX1_firstThatCanNot_79 : decode cX1_firstThatCanNot 79 = .ok (.goto (-65), 3) := by decide +kernel
theorem dX1_firstThatCanNot_82 : decode cX1_firstThatCanNot 82 = .ok (.bipush (-9), 2) := by decide +kernel
theorem dX1_firstThatCanNot_84 : decode cX1_firstThatCanNot 84 = .ok (.ireturn, 1) := by decide +kernel
theorem dX2_init_0 : decode cX2_init 0 = .ok (.aload_n 0, 1) := by decide +kernel
theorem dX2_init_1 : decode cX2_init 1 = .ok (.invokespecial 1, 3) := by decide +kernel
theorem dX2_init_4 : decode cX2_init 4 = .ok (.aload_n 0, 1) := by decide +kernel
theorem dX2_init_5 : decode cX2_init 5 = .ok (.lconst 0, 1) := by decide +kernel
theorem dX2_init_6 : decode cX2_init 6 = .ok (.putfield 7, 3) := by decide +kernel
theorem dX2_init_9 : decode cX2_init 9 = .ok (.aload_n 0, 1) := by decide +kernel
theorem dX2_init_10 : decode cX2_init 10 = .ok (.lconst 1, 1) := by decide +kernel
theorem dX2_init_11 : decode cX2_init 11 = .ok (.putfield 13, 3) := by decide +kernel
theorem dX2_init_14 : decode cX2_init 14 = .ok (.return_, 1) := by decide +kernel
set_option maxRecDepth 20000 in
theorem ggX2_become_X2_commonOf : GoodIn wsX2_become wsX2_commonOf := goodIn_r _ [10] (by decide +kernel) (by decide +kernel)
set_option maxRecDepth 20000 in
theorem gX2_become_X2_commonOf : GoodIn wsX2_become (va_wsS RX2 22 yX2_commonOf wsX2_commonOf) := goodIn_app (goodIn_of _ (by decide +kernel)) ggX2_become_X2_commonOf
theorem dX2_become_0 : decode cX2_become 0 = .ok (.lload_n 1, 1) := by decide +kernel
theorem dX2_become_1 : decode cX2_become 1 = .ok (.invokestatic 16, 3) := by decide +kernel
theorem dX2_become_4 : decode cX2_become 4 = .ok (.lload_n 3, 1) := by decide +kernel
theorem dX2_become_5 : decode cX2_become 5 = .ok (.invokestatic 22, 3) := by decide +kernel
theorem dX2_become_8 : decode cX2_become 8 = .ok (.lstore 5, 2) := by decide +kernel
theorem dX2_become_10 : decode cX2_become 10 = .ok (.aload_n 0, 1) := by decide +kernel
theorem dX2_become_11 : decode cX2_become 11 = .ok (.lload 5, 2) := by decide +kernel
theorem dX2_become_13 : decode cX2_become 13 = .ok (.lconst 1, 1) := by decide +kernel
theorem dX2_become_14 : decode cX2_become 14 = .ok (.lcmp, 1) := by decide +kernel
theorem dX2_become_15 : decode cX2_become 15 = .ok (.ifCond .le 10, 3) := by decide +kernel
theorem dX2_become_18 : decode cX2_become 18 = .ok (.lload_n 1, 1) := by decide +kernel
theorem dX2_become_19 : decode cX2_become 19 = .ok (.lload 5, 2) := by decide +kernel
theorem dX2_become_21 : decode cX2_become 21 = .ok (.ldiv, 1) := by decide +kernel
theorem dX2_become_22 : decode cX2_become 22 = .ok (.goto 4, 3) := by decide +kernel
theorem dX2_become_25 : decode cX2_become 25 = .ok (.lload_n 1, 1) := by decide +kernel
theorem dX2_become_26 : decode cX2_become 26 = .ok (.putfield 7, 3) := by decide +kernel
theorem dX2_become_29 : decode cX2_become 29 = .ok (.aload_n 0, 1) := by decide +kernel
theorem dX2_become_30 : decode cX2_become 30 = .ok (.lload 5, 2) := by decide +kernel
theorem dX2_become_32 : decode cX2_become 32 = .ok (.lconst 1, 1) := by decide +kernel
theorem dX2_become_33 : decode cX2_become 33 = .ok (.lcmp, 1) := by decide +kernel
theorem dX2_become_34 : decode cX2_become 34 = .ok (.ifCond .le 10, 3) := by decide +kernel
theorem dX2_become_37 : decode cX2_become 37 = .ok (.lload_n 3, 1) := by decide +kernel
theorem dX2_become_38 : decode cX2_become 38 = .ok (.lload 5, 2) := by decide +kernel
theorem dX2_become_40 : decode cX2_become 40 = .ok (.ldiv, 1) := by decide +kernel
theorem dX2_become_41 : decode cX2_become 41 = .ok (.goto 4, 3) := by decide +kernel
theorem dX2_become_44 : decode cX2_become 44 = .ok (.lload_n 3, 1) := by decide +kernel
theorem dX2_become_45 : decode cX2_become 45 = .ok (.putfield 13, 3) := by decide +kernel
theorem dX2_become_48 : decode cX2_become 48 = .ok (.return_, 1) := by decide +kernel
theorem dX2_partOf_0 : decode cX2_partOf 0 = .ok (.iload_n 1, 1) := by decide +kernel
theorem dX2_partOf_1 : decode cX2_partOf 1 = .ok (.ifCond .ne 10, 3) := by decide +kernel
theorem dX2_partOf_4 : decode cX2_partOf 4 = .ok (.aload_n 0, 1) := by decide +kernel
theorem dX2_partOf_5 : decode cX2_partOf 5 = .ok (.getfield 7, 3) := by decide +kernel
theorem dX2_partOf_8 : decode cX2_partOf 8 = .ok (.goto 7, 3) := by decide +kernel
theorem dX2_partOf_11 : decode cX2_partOf 11 = .ok (.aload_n 0, 1) := by decide +kernel
theorem dX2_partOf_12 : decode cX2_partOf 12 = .ok (.getfield 13, 3) := by decide +kernel
theorem dX2_partOf_15 : decode cX2_partOf 15 = .ok (.lreturn, 1) := by decide +kernel
theorem dX2_commonOf_0 : decode cX2_commonOf 0 = .ok (.lload_n 0, 1) := by decide +kernel
theorem dX2_commonOf_1 : decode cX2_commonOf 1 = .ok (.lstore 4, 2) := by decide +kernel
theorem dX2_commonOf_3 : decode cX2_commonOf 3 = .ok (.lload_n 2, 1) := by decide +kernel
theorem dX2_commonOf_4 : decode cX2_commonOf 4 = .ok (.lstore 6, 2) := by decide +kernel
theorem dX2_commonOf_6 : decode cX2_commonOf 6 = .ok (.iconst 0, 1) := by decide +kernel
theorem dX2_commonOf_7 : decode cX2_commonOf 7 = .ok (.istore 8, 2) := by decide +kernel
theorem dX2_commonOf_9 : decode cX2_commonOf 9 = .ok (.iload 8, 2) := by decide +kernel
theorem dX2_commonOf_11 : decode cX2_commonOf 11 = .ok (.sipush 1000, 3) := by decide +kernel
theorem dX2_commonOf_14 : decode cX2_commonOf 14 = .ok (.if_icmp .ge 31, 3) := by decide +kernel
theorem dX2_commonOf_17 : decode cX2_commonOf 17 = .ok (.lload 6, 2) := by decide +kernel
theorem dX2_commonOf_19 : decode cX2_commonOf 19 = .ok (.lconst 0, 1) := by decide +kernel
theorem dX2_commonOf_20 : decode cX2_commonOf 20 = .ok (.lcmp, 1) := by decide +kernel
theorem dX2_commonOf_21 : decode cX2_commonOf 21 = .ok (.ifCond .eq 24, 3) := by decide +kernel
theorem dX2_commonOf_24 : decode cX2_commonOf 24 = .ok (.lload 4, 2) := by decide +kernel
theorem dX2_commonOf_26 : decode cX2_commonOf 26 = .ok (.lload 6, 2) := by decide +kernel
theorem dX2_commonOf_28 : decode cX2_commonOf 28 = .ok (.lrem, 1) := by decide +kernel
theorem dX2_commonOf_29 : decode cX2_commonOf 29 = .ok (.lstore 9, 2) := by decide +kernel
theorem dX2_commonOf_31 : decode cX2_commonOf 31 = .ok (.lload 6, 2) := by decide +kernel
theorem dX2_commonOf_33 : decode cX2_commonOf 33 = .ok (.lstore 4, 2) := by decide +kernel
theorem dX2_commonOf_35 : decode cX2_commonOf 35 = .ok (.lload 9, 2) := by decide +kernel
theorem dX2_commonOf_37 : decode cX2_commonOf 37 = .ok (.lstore 6, 2) := by decide +kernel
theorem dX2_commonOf_39 : decode cX2_commonOf 39 = .ok (.iinc 8 1, 3) := by decide +kernel
theorem dX2_commonOf_42 : decode cX2_commonOf 42 = .ok (.goto (-33), 3) := by decide +kernel
theorem dX2_commonOf_45 : decode cX2_commonOf 45 = .ok (.lload 4, 2) := by decide +kernel
theorem dX2_commonOf_47 : decode cX2_commonOf 47 = .ok (.lreturn, 1) := by decide +kernel
theorem dX4_isNoLaw_0 : decode cX4_isNoLaw 0 = .ok (.iload_n 0, 1) := by decide +kernel
theorem dX4_isNoLaw_1 : decode cX4_isNoLaw 1 = .ok (.ifCond .lt 8, 3) := by decide +kernel
theorem dX4_isNoLaw_4 : decode cX4_isNoLaw 4 = .ok (.iload_n 0, 1) := by decide +kernel
theorem dX4_isNoLaw_5 : decode cX4_isNoLaw 5 = .ok (.iconst 5, 1) := by decide +kernel
theorem dX4_isNoLaw_6 : decode cX4_isNoLaw 6 = .ok (.if_icmp .lt 7, 3) := by decide +kernel
theorem dX4_isNoLaw_9 : decode cX4_isNoLaw 9 = .ok (.iconst 1, 1) := by decide +kernel
theorem dX4_isNoLaw_10 : decode cX4_isNoLaw 10 = .ok (.goto 4, 3) := by decide +kernel
theorem dX4_isNoLaw_13 : decode cX4_isNoLaw 13 = .ok (.iconst 0, 1) := by decide +kernel
theorem dX4_isNoLaw_14 : decode cX4_isNoLaw 14 = .ok (.ireturn, 1) := by decide +kernel
theorem dJ6_bitCount_0f7a4_0 : decode cJ6_bitCount_0f7a4 0 = .ok (.iload_n 0, 1) := by decide +kernel
theorem dJ6_bitCount_0f7a4_1 : decode cJ6_bitCount_0f7a4 1 = .ok (.iload_n 0, 1) := by decide +kernel
theorem dJ6_bitCount_0f7a4_2 : decode cJ6_bitCount_0f7a4 2 = .ok (.iconst 1, 1) := by decide +kernel
theorem dJ6_bitCount_0f7a4_3 : decode cJ6_bitCount_0f7a4 3 = .ok (.iushr, 1) := by decide +kernel
theorem dJ6_bitCount_0f7a4_4 : decode cJ6_bitCount_0f7a4 4 = .ok (.ldc_w 265, 3) := by decide +kernel
theorem dJ6_bitCount_0f7a4_7 : decode cJ6_bitCount_0f7a4 7 = .ok (.iand, 1) := by decide +kernel
theorem dJ6_bitCount_0f7a4_8 : decode cJ6_bitCount_0f7a4 8 = .ok (.isub, 1) := by decide +kernel
theorem dJ6_bitCount_0f7a4_9 : decode cJ6_bitCount_0f7a4 9 = .ok (.istore_n 0, 1) := by decide +kernel
theorem dJ6_bitCount_0f7a4_10 : decode cJ6_bitCount_0f7a4 10 = .ok (.iload_n 0, 1) := by decide +kernel
theorem dJ6_bitCount_0f7a4_11 : decode cJ6_bitCount_0f7a4 11 = .ok (.ldc_w 266, 3) := by decide +kernel
theorem dJ6_bitCount_0f7a4_14 : decode cJ6_bitCount_0f7a4 14 = .ok (.iand, 1) := by decide +kernel
theorem dJ6_bitCount_0f7a4_15 : decode cJ6_bitCount_0f7a4 15 = .ok (.iload_n 0, 1) := by decide +kernel
theorem dJ6_bitCount_0f7a4_16 : decode cJ6_bitCount_0f7a4 16 = .ok (.iconst 2, 1) := by decide +kernel
theorem dJ6_bitCount_0f7a4_17 : decode cJ6_bitCount_0f7a4 17 = .ok (.iushr, 1) := by decide +kernel
theorem dJ6_bitCount_0f7a4_18 : decode cJ6_bitCount_0f7a4 18 = .ok (.ldc_w 266, 3) := by decide +kernel
theorem dJ6_bitCount_0f7a4_21 : decode cJ6_bitCount_0f7a4 21 = .ok (.iand, 1) := by decide +kernel
theorem dJ6_bitCount_0f7a4_22 : decode cJ6_bitCount_0f7a4 22 = .ok (.iadd, 1) := by decide +kernel
theorem dJ6_bitCount_0f7a4_23 : decode cJ6_bitCount_0f7a4 23 = .ok (.istore_n 0, 1) := by decide +kernel
theorem dJ6_bitCount_0f7a4_24 : decode cJ6_bitCount_0f7a4 24 = .ok (.iload_n 0, 1) := by decide +kernel
theorem dJ6_bitCount_0f7a4_25 : decode cJ6_bitCount_0f7a4 25 = .ok (.iload_n 0, 1) := by decide +kernel
theorem dJ6_bitCount_0f7a4_26 : decode cJ6_bitCount_0f7a4 26 = .ok (.iconst 4, 1) := by decide +kernel
theorem dJ6_bitCount_0f7a4_27 : decode cJ6_bitCount_0f7a4 27 = .ok (.iushr, 1) := by decide +kernel
theorem dJ6_bitCount_0f7a4_28 : decode cJ6_bitCount_0f7a4 28 = .ok (.iadd, 1) := by decide +kernel
theorem dJ6_bitCount_0f7a4_29 : decode cJ6_bitCount_0f7a4 29 = .ok (.ldc_w 267, 3) := by decide +kernel
theorem dJ6_bitCount_0f7a4_32 : decode cJ6_bitCount_0f7a4 32 = .ok (.iand, 1) := by decide +kernel
theorem dJ6_bitCount_0f7a4_33 : decode cJ6_bitCount_0f7a4 33 = .ok (.istore_n 0, 1) := by decide +kernel
theorem dJ6_bitCount_0f7a4_34 : decode cJ6_bitCount_0f7a4 34 = .ok (.iload_n 0, 1) := by decide +kernel
theorem dJ6_bitCount_0f7a4_35 : decode cJ6_bitCount_0f7a4 35 = .ok (.iload_n 0, 1) := by decide +kernel
theorem dJ6_bitCount_0f7a4_36 : decode cJ6_bitCount_0f7a4 36 = .ok (.bipush 8, 2) := by decide +kernel
theorem dJ6_bitCount_0f7a4_38 : decode cJ6_bitCount_0f7a4 38 = .ok (.iushr, 1) := by decide +kernel
theorem dJ6_bitCount_0f7a4_39 : decode cJ6_bitCount_0f7a4 39 = .ok (.iadd, 1) := by decide +kernel
theorem dJ6_bitCount_0f7a4_40 : decode cJ6_bitCount_0f7a4 40 = .ok (.istore_n 0, 1) := by decide +kernel
theorem dJ6_bitCount_0f7a4_41 : decode cJ6_bitCount_0f7a4 41 = .ok (.iload_n 0, 1) := by decide +kernel
theorem dJ6_bitCount_0f7a4_42 : decode cJ6_bitCount_0f7a4 42 = .ok (.iload_n 0, 1) := by decide +kernel
theorem dJ6_bitCount_0f7a4_43 : decode cJ6_bitCount_0f7a4 43 = .ok (.bipush 16, 2) := by decide +kernel
theorem dJ6_bitCount_0f7a4_45 : decode cJ6_bitCount_0f7a4 45 = .ok (.iushr, 1) := by decide +kernel
theorem dJ6_bitCount_0f7a4_46 : decode cJ6_bitCount_0f7a4 46 = .ok (.iadd, 1) := by decide +kernel
theorem dJ6_bitCount_0f7a4_47 : decode cJ6_bitCount_0f7a4 47 = .ok (.istore_n 0, 1) := by decide +kernel
theorem dJ6_bitCount_0f7a4_48 : decode cJ6_bitCount_0f7a4 48 = .ok (.iload_n 0, 1) := by decide +kernel
theorem dJ6_bitCount_0f7a4_49 : decode cJ6_bitCount_0f7a4 49 = .ok (.bipush 63, 2) := by decide +kernel
theorem dJ6_bitCount_0f7a4_51 : decode cJ6_bitCount_0f7a4 51 = .ok (.iand, 1) := by decide +kernel
theorem dJ6_bitCount_0f7a4_52 : decode cJ6_bitCount_0f7a4 52 = .ok (.ireturn, 1) := by decide +kernel
theorem dJ9_abs_067f4_0 : decode cJ9_abs_067f4 0 = .ok (.lload_n 0, 1) := by decide +kernel
theorem dJ9_abs_067f4_1 : decode cJ9_abs_067f4 1 = .ok (.lconst 0, 1) := by decide +kernel
theorem dJ9_abs_067f4_2 : decode cJ9_abs_067f4 2 = .ok (.lcmp, 1) := by decide +kernel
theorem dJ9_abs_067f4_3 : decode cJ9_abs_067f4 3 = .ok (.ifCond .ge 8, 3) := by decide +kernel
theorem dJ9_abs_067f4_6 : decode cJ9_abs_067f4 6 = .ok (.lload_n 0, 1) := by decide +kernel
theorem dJ9_abs_067f4_7 : decode cJ9_abs_067f4 7 = .ok (.lneg, 1) := by decide +kernel
theorem dJ9_abs_067f4_8 : decode cJ9_abs_067f4 8 = .ok (.goto 4, 3) := by decide +kernel
theorem dJ9_abs_067f4_11 : decode cJ9_abs_067f4 11 = .ok (.lload_n 0, 1) := by decide +kernel
theorem dJ9_abs_067f4_12 : decode cJ9_abs_067f4 12 = .ok (.lreturn, 1) := by decide +kernel
theorem dJ9_max_7cf53_0 : decode cJ9_max_7cf53 0 = .ok (.iload_n 0, 1) := by decide +kernel
theorem dJ9_max_7cf53_1 : decode cJ9_max_7cf53 1 = .ok (.iload_n 1, 1) := by decide +kernel
theorem dJ9_max_7cf53_2 : decode cJ9_max_7cf53 2 = .ok (.if_icmp .lt 7, 3) := by decide +kernel
theorem dJ9_max_7cf53_5 : decode cJ9_max_7cf53 5 = .ok (.iload_n 0, 1) := by decide +kernel
theorem dJ9_max_7cf53_6 : decode cJ9_max_7cf53 6 = .ok (.goto 4, 3) := by decide +kernel
theorem dJ9_max_7cf53_9 : decode cJ9_max_7cf53 9 = .ok (.iload_n 1, 1) := by decide +kernel
theorem dJ9_max_7cf53_10 : decode cJ9_max_7cf53 10 = .ok (.ireturn, 1) := by decide +kernel
theorem dJ9_min_7cf53_0 : decode cJ9_min_7cf53 0 = .ok (.iload_n 0, 1) := by decide +kernel
theorem dJ9_min_7cf53_1 : decode cJ9_min_7cf53 1 = .ok (.iload_n 1, 1) := by decide +kernel
theorem dJ9_min_7cf53_2 : decode cJ9_min_7cf53 2 = .ok (.if_icmp .gt 7, 3) := by decide +kernel
theorem dJ9_min_7cf53_5 : decode cJ9_min_7cf53 5 = .ok (.iload_n 0, 1) := by decide +kernel
theorem dJ9_min_7cf53_6 : decode cJ9_min_7cf53 6 = .ok (.goto 4, 3) := by decide +kernel
theorem dJ9_min_7cf53_9 : decode cJ9_min_7cf53 9 = .ok (.iload_n 1, 1) := by decide +kernel
theorem dJ9_min_7cf53_10 : decode cJ9_min_7cf53 10 = .ok (.ireturn, 1) := by decide +kernel
set_option maxRecDepth 20000 in
theorem ggJ0_length_8abf5_J0_coder_7d493 : GoodIn wsJ0_length_8abf5 wsJ0_coder_7d493 := goodIn_r _ [6, 7, 8] (by decide +kernel) (by decide +kernel)
set_option maxRecDepth 20000 in
theorem gJ0_length_8abf5_J0_coder_7d493 : GoodIn wsJ0_length_8abf5 (wsV RJ0 335 RJ0 yJ0_coder_7d493 wsJ0_coder_7d493) := goodIn_app (goodIn_of _ (by decide +kernel)) ggJ0_length_8abf5_J0_coder_7d493
theorem dJ0_length_8abf5_0 : decode cJ0_length_8abf5 0 = .ok (.aload_n 0, 1) := by decide +kernel
theorem dJ0_length_8abf5_1 : decode cJ0_length_8abf5 1 = .ok (.getfield 9, 3) := by decide +kernel
theorem dJ0_length_8abf5_4 : decode cJ0_length_8abf5 4 = .ok (.arraylength, 1) := by decide +kernel
theorem dJ0_length_8abf5_5 : decode cJ0_length_8abf5 5 = .ok (.aload_n 0, 1) := by decide +kernel
theorem dJ0_length_8abf5_6 : decode cJ0_length_8abf5 6 = .ok (.invokevirtual 335, 3) := by decide +kernel
theorem dJ0_length_8abf5_9 : decode cJ0_length_8abf5 9 = .ok (.ishr, 1) := by decide +kernel
theorem dJ0_length_8abf5_10 : decode cJ0_length_8abf5 10 = .ok (.ireturn, 1) := by decide +kernel
set_option maxRecDepth 20000 in
theorem ggJ0_indexOf_0f7a4_J0_indexOf_7cf53 : GoodIn wsJ0_indexOf_0f7a4 wsJ0_indexOf_7cf53 := goodIn_r _ [5, 6, 7, 8, 9, 4, 10, 11, 12, 13, 14, 15, 16, 17, 18, 19, 20, 21, 22, 23, 24, 25, 26, 27, 28, 29, 30, 31, 32, 33, 34, 35, 36, 37, 38, 39, 40, 41, 42, 43, 44, 45, 46, 47, 48, 49, 50, 51, 52, 53, 54, 55, 56, 57, 58, 59, 60, 61, 62, 63, 64, 65, 66, 67, 68, 69, 70, 71, 72, 73, 74, 75, 76, 77, 78, 79, 80, 81, 82, 83, 84, 85] (by decide +kernel) (by decide +kernel)
set_option maxRecDepth 20000 in
theorem gJ0_indexOf_0f7a4_J0_indexOf_7cf53 : GoodIn wsJ0_indexOf_0f7a4 (wsV RJ0 633 RJ0 yJ0_indexOf_7cf53 wsJ0_indexOf_7cf53) := goodIn_app (goodIn_of _ (by decide +kernel)) ggJ0_indexOf_0f7a4_J0_indexOf_7cf53
theorem dJ0_indexOf_0f7a4_0 : decode cJ0_indexOf_0f7a4 0 = .ok (.aload_n 0, 1) := by decide +kernel
theorem dJ0_indexOf_0f7a4_1 : decode cJ0_indexOf_0f7a4 1 = .ok (.iload_n 1, 1) := by decide +kernel
theorem dJ0_indexOf_0f7a4_2 : decode cJ0_indexOf_0f7a4 2 = .ok (.iconst 0, 1) := by decide +kernel
theorem dJ0_indexOf_0f7a4_3 : decode cJ0_indexOf_0f7a4 3 = .ok (.invokevirtual 633, 3) := by decide +kernel
theorem dJ0_indexOf_0f7a4_6 : decode cJ0_indexOf_0f7a4 6 = .ok (.ireturn, 1) := by decide +kernel
set_option maxRecDepth 20000 in
theorem ggJ0_indexOf_7cf53_J0_isLatin1_aae02 : GoodIn wsJ0_indexOf_7cf53 wsJ0_isLatin1_aae02 := goodIn_r _ [6, 7, 8] (by decide +kernel) (by decide +kernel)
set_option maxRecDepth 20000 in
theorem gJ0_indexOf_7cf53_J0_isLatin1_aae02 : GoodIn wsJ0_indexOf_7cf53 (wsV RJ0 492 RJ0 yJ0_isLatin1_aae02 wsJ0_isLatin1_aae02) := goodIn_app (goodIn_of _ (by decide +kernel)) ggJ0_indexOf_7cf53_J0_isLatin1_aae02
set_option maxRecDepth 20000 in
theorem ggJ0_indexOf_7cf53_J0_length_8abf5 : GoodIn wsJ0_indexOf_7cf53 wsJ0_length_8abf5 := goodIn_r _ [12, 1, 13, 14, 15, 5, 16, 7, 8] (by decide +kernel) (by decide +kernel)
set_option maxRecDepth 20000 in
theorem gJ0_indexOf_7cf53_J0_length_8abf5 : GoodIn wsJ0_indexOf_7cf53 (wsV RJ0 505 RJ0 yJ0_length_8abf5 wsJ0_length_8abf5) := goodIn_app (goodIn_of _ (by decide +kernel)) ggJ0_indexOf_7cf53_J0_length_8abf5
set_option maxRecDepth 20000 in
theorem ggJ0_indexOf_7cf53_J1_indexOf_4cfef : GoodIn wsJ0_indexOf_7cf53 wsJ1_indexOf_4cfef := goodIn_r _ [20, 21, 22, 23, 24, 25, 26, 27, 28, 29, 19, 30, 31, 32, 33] (by decide +kernel) (by decide +kernel)
set_option maxRecDepth 20000 in
theorem gJ0_indexOf_7cf53_J1_indexOf_4cfef : GoodIn wsJ0_indexOf_7cf53 (va_wsS RJ0 637 yJ1_indexOf_4cfef wsJ1_indexOf_4cfef) := goodIn_app (goodIn_of _ (by decide +kernel)) ggJ0_indexOf_7cf53_J1_indexOf_4cfef
set_option maxRecDepth 20000 in
theorem ggJ0_indexOf_7cf53_J2_indexOf_4cfef : GoodIn wsJ0_indexOf_7cf53 wsJ2_indexOf_4cfef := goodIn_r _ [37, 38, 22, 23, 24, 39, 26, 27, 40, 41, 42, 36, 43, 44, 45, 46, 47, 48, 49, 50, 51, 5, 52, 53, 54, 55, 56, 57, 58, 59, 60, 61, 62, 63, 64, 65, 66, 67, 68, 69, 70, 71, 72, 73, 74, 75, 76, 77, 78, 79, 80, 81] (by decide +kernel) (by decide +kernel)
set_option maxRecDepth 20000 in
theorem gJ0_indexOf_7cf53_J2_indexOf_4cfef : GoodIn wsJ0_indexOf_7cf53 (va_wsS RJ0 640 yJ2_indexOf_4cfef wsJ2_indexOf_4cfef) := goodIn_app (goodIn_of _ (by decide +kernel)) ggJ0_indexOf_7cf53_J2_indexOf_4cfef
theorem dJ0_indexOf_7cf53_0 : decode cJ0_indexOf_7cf53 0 = .ok (.aload_n 0, 1) := by decide +kernel
theorem dJ0_indexOf_7cf53_1 : decode cJ0_indexOf_7cf53 1 = .ok (.invokevirtual 492, 3) := by decide +kernel
theorem dJ0_indexOf_7cf53_4 : decode cJ0_indexOf_7cf53 4 = .ok (.ifCond .eq 19, 3) := by decide +kernel
theorem dJ0_indexOf_7cf53_7 : decode cJ0_indexOf_7cf53 7 = .ok (.aload_n 0, 1) := by decide +kernel
theorem dJ0_indexOf_7cf53_8 : decode cJ0_indexOf_7cf53 8 = .ok (.getfield 9, 3) := by decide +kernel
theorem dJ0_indexOf_7cf53_11 : decode cJ0_indexOf_7cf53 11 = .ok (.iload_n 1, 1) := by decide +kernel
theorem dJ0_indexOf_7cf53_12 : decode cJ0_indexOf_7cf53 12 = .ok (.iload_n 2, 1) := by decide +kernel
theorem dJ0_indexOf_7cf53_13 : decode cJ0_indexOf_7cf53 13 = .ok (.aload_n 0, 1) := by decide +kernel
theorem dJ0_indexOf_7cf53_14 : decode cJ0_indexOf_7cf53 14 = .ok (.invokevirtual 505, 3) := by decide +kernel
theorem dJ0_indexOf_7cf53_17 : decode cJ0_indexOf_7cf53 17 = .ok (.invokestatic 637, 3) := by decide +kernel
theorem dJ0_indexOf_7cf53_20 : decode cJ0_indexOf_7cf53 20 = .ok (.goto 16, 3) := by decide +kernel
theorem dJ0_indexOf_7cf53_23 : decode cJ0_indexOf_7cf53 23 = .ok (.aload_n 0, 1) := by decide +kernel
theorem dJ0_indexOf_7cf53_24 : decode cJ0_indexOf_7cf53 24 = .ok (.getfield 9, 3) := by decide +kernel
theorem dJ0_indexOf_7cf53_27 : decode cJ0_indexOf_7cf53 27 = .ok (.iload_n 1, 1) := by decide +kernel
theorem dJ0_indexOf_7cf53_28 : decode cJ0_indexOf_7cf53 28 = .ok (.iload_n 2, 1) := by decide +kernel
theorem dJ0_indexOf_7cf53_29 : decode cJ0_indexOf_7cf53 29 = .ok (.aload_n 0, 1) := by decide +kernel
theorem dJ0_indexOf_7cf53_30 : decode cJ0_indexOf_7cf53 30 = .ok (.invokevirtual 505, 3) := by decide +kernel
theorem dJ0_indexOf_7cf53_33 : decode cJ0_indexOf_7cf53 33 = .ok (.invokestatic 640, 3) := by decide +kernel
theorem dJ0_indexOf_7cf53_36 : decode cJ0_indexOf_7cf53 36 = .ok (.ireturn, 1) := by decide +kernel
theorem dJ0_coder_7d493_0 : decode cJ0_coder_7d493 0 = .ok (.getstatic 38, 3) := by decide +kernel
theorem dJ0_coder_7d493_3 : decode cJ0_coder_7d493 3 = .ok (.ifCond .eq 10, 3) := by decide +kernel
theorem dJ0_coder_7d493_6 : decode cJ0_coder_7d493 6 = .ok (.aload_n 0, 1) := by decide +kernel
theorem dJ0_coder_7d493_7 : decode cJ0_coder_7d493 7 = .ok (.getfield 15, 3) := by decide +kernel
theorem dJ0_coder_7d493_10 : decode cJ0_coder_7d493 10 = .ok (.goto 4, 3) := by decide +kernel
theorem dJ0_coder_7d493_13 : decode cJ0_coder_7d493 13 = .ok (.iconst 1, 1) := by decide +kernel
theorem dJ0_coder_7d493_14 : decode cJ0_coder_7d493 14 = .ok (.ireturn, 1) := by decide +kernel
theorem dJ0_isLatin1_aae02_0 : decode cJ0_isLatin1_aae02 0 = .ok (.getstatic 38, 3) := by decide +kernel
theorem dJ0_isLatin1_aae02_3 : decode cJ0_isLatin1_aae02 3 = .ok (.ifCond .eq 14, 3) := by decide +kernel
theorem dJ0_isLatin1_aae02_6 : decode cJ0_isLatin1_aae02 6 = .ok (.aload_n 0, 1) := by decide +kernel
theorem dJ0_isLatin1_aae02_7 : decode cJ0_isLatin1_aae02 7 = .ok (.getfield 15, 3) := by decide +kernel
theorem dJ0_isLatin1_aae02_10 : decode cJ0_isLatin1_aae02 10 = .ok (.ifCond .ne 7, 3) := by decide +kernel
theorem dJ0_isLatin1_aae02_13 : decode cJ0_isLatin1_aae02 13 = .ok (.iconst 1, 1) := by decide +kernel
theorem dJ0_isLatin1_aae02_14 : decode cJ0_isLatin1_aae02 14 = .ok (.goto 4, 3) := by decide +kernel
theorem dJ0_isLatin1_aae02_17 : decode cJ0_isLatin1_aae02 17 = .ok (.iconst 0, 1) := by decide +kernel
theorem dJ0_isLatin1_aae02_18 : decode cJ0_isLatin1_aae02 18 = .ok (.ireturn, 1) := by decide +kernel
set_option maxRecDepth 20000 in
theorem ggJ0_checkBoundsBeginEnd_23922_J3_checkFromToIndex_8c36e : GoodIn wsJ0_checkBoundsBeginEnd_23922 wsJ3_checkFromToIndex_8c36e := goodIn_r _ [5] (by decide +kernel) (by decide +kernel)
set_option maxRecDepth 20000 in
theorem gJ0_checkBoundsBeginEnd_23922_J3_checkFromToIndex_8c36e : GoodIn wsJ0_checkBoundsBeginEnd_23922 (va_wsS RJ0 1062 yJ3_checkFromToIndex_8c36e wsJ3_checkFromToIndex_8c36e) := goodIn_app (goodIn_of _ (by decide +kernel)) ggJ0_checkBoundsBeginEnd_23922_J3_checkFromToIndex_8c36e
theorem dJ0_checkBoundsBeginEnd_23922_0 : decode cJ0_checkBoundsBeginEnd_23922 0 = .ok (.iload_n 0, 1) := by decide +kernel
theorem dJ0_checkBoundsBeginEnd_23922_1 : decode cJ0_checkBoundsBeginEnd_23922 1 = .ok (.iload_n 1, 1) := by decide +kernel
theorem dJ0_checkBoundsBeginEnd_23922_2 : decode cJ0_checkBoundsBeginEnd_23922 2 = .ok (.iload_n 2, 1) := by decide +kernel
theorem dJ0_checkBoundsBeginEnd_23922_3 : decode cJ0_checkBoundsBeginEnd_23922 3 = .ok (.getstatic 1053, 3) := by decide +kernel
theorem dJ0_checkBoundsBeginEnd_23922_6 : decode cJ0_checkBoundsBeginEnd_23922 6 = .ok (.invokestatic 1062, 3) := by decide +kernel
theorem dJ0_checkBoundsBeginEnd_23922_9 : decode cJ0_checkBoundsBeginEnd_23922 9 = .ok (.pop, 1) := by decide +kernel
theorem dJ0_checkBoundsBeginEnd_23922_10 : decode cJ0_checkBoundsBeginEnd_23922 10 = .ok (.return_, 1) := by decide +kernel
theorem dJ1_canEncode_9a6ad_0 : decode cJ1_canEncode_9a6ad 0 = .ok (.iload_n 0, 1) := by decide +kernel
theorem dJ1_canEncode_9a6ad_1 : decode cJ1_canEncode_9a6ad 1 = .ok (.ifCond .lt 14, 3) := by decide +kernel
theorem dJ1_canEncode_9a6ad_4 : decode cJ1_canEncode_9a6ad 4 = .ok (.iload_n 0, 1) := by decide +kernel
theorem dJ1_canEncode_9a6ad_5 : decode cJ1_canEncode_9a6ad 5 = .ok (.sipush 255, 3) := by decide +kernel
theorem dJ1_canEncode_9a6ad_8 : decode cJ1_canEncode_9a6ad 8 = .ok (.if_icmp .gt 7, 3) := by decide +kernel
theorem dJ1_canEncode_9a6ad_11 : decode cJ1_canEncode_9a6ad 11 = .ok (.iconst 1, 1) := by decide +kernel
theorem dJ1_canEncode_9a6ad_12 : decode cJ1_canEncode_9a6ad 12 = .ok (.goto 4, 3) := by decide +kernel
theorem dJ1_canEncode_9a6ad_15 : decode cJ1_canEncode_9a6ad 15 = .ok (.iconst 0, 1) := by decide +kernel
theorem dJ1_canEncode_9a6ad_16 : decode cJ1_canEncode_9a6ad 16 = .ok (.ireturn, 1) := by decide +kernel
set_option maxRecDepth 20000 in
theorem ggJ1_indexOf_4cfef_J1_canEncode_9a6ad : GoodIn wsJ1_indexOf_4cfef wsJ1_canEncode_9a6ad := goodIn_r _ [11] (by decide +kernel) (by decide +kernel)
set_option maxRecDepth 20000 in
theorem gJ1_indexOf_4cfef_J1_canEncode_9a6ad : GoodIn wsJ1_indexOf_4cfef (va_wsS RJ1 88 yJ1_canEncode_9a6ad wsJ1_canEncode_9a6ad) := goodIn_app (goodIn_of _ (by decide +kernel)) ggJ1_indexOf_4cfef_J1_canEncode_9a6ad
set_option maxRecDepth 20000 in
theorem ggJ1_indexOf_4cfef_J1_indexOfChar_4cfef : GoodIn wsJ1_indexOf_4cfef wsJ1_indexOfChar_4cfef := goodIn_r _ [14] (by decide +kernel) (by decide +kernel)
set_option maxRecDepth 20000 in
theorem gJ1_indexOf_4cfef_J1_indexOfChar_4cfef : GoodIn wsJ1_indexOf_4cfef (va_wsS RJ1 95 yJ1_indexOfChar_4cfef wsJ1_indexOfChar_4cfef) := goodIn_app (goodIn_of _ (by decide +kernel)) ggJ1_indexOf_4cfef_J1_indexOfChar_4cfef
theorem dJ1_indexOf_4cfef_0 : decode cJ1_indexOf_4cfef 0 = .ok (.iload_n 1, 1) := by decide +kernel
theorem dJ1_indexOf_4cfef_1 : decode cJ1_indexOf_4cfef 1 = .ok (.invokestatic 88, 3) := by decide +kernel
theorem dJ1_indexOf_4cfef_4 : decode cJ1_indexOf_4cfef 4 = .ok (.ifCond .ne 5, 3) := by decide +kernel
theorem dJ1_indexOf_4cfef_7 : decode cJ1_indexOf_4cfef 7 = .ok (.iconst (-1), 1) := by decide +kernel
theorem dJ1_indexOf_4cfef_8 : decode cJ1_indexOf_4cfef 8 = .ok (.ireturn, 1) := by decide +kernel
theorem dJ1_indexOf_4cfef_9 : decode cJ1_indexOf_4cfef 9 = .ok (.iload_n 2, 1) := by decide +kernel
theorem dJ1_indexOf_4cfef_10 : decode cJ1_indexOf_4cfef 10 = .ok (.iconst 0, 1) := by decide +kernel
theorem dJ1_indexOf_4cfef_11 : decode cJ1_indexOf_4cfef 11 = .ok (.invokestatic 92, 3) := by decide +kernel
theorem dJ1_indexOf_4cfef_14 : decode cJ1_indexOf_4cfef 14 = .ok (.istore_n 2, 1) := by decide +kernel
theorem dJ1_indexOf_4cfef_15 : decode cJ1_indexOf_4cfef 15 = .ok (.iload_n 3, 1) := by decide +kernel
theorem dJ1_indexOf_4cfef_16 : decode cJ1_indexOf_4cfef 16 = .ok (.aload_n 0, 1) := by decide +kernel
theorem dJ1_indexOf_4cfef_17 : decode cJ1_indexOf_4cfef 17 = .ok (.arraylength, 1) := by decide +kernel
theorem dJ1_indexOf_4cfef_18 : decode cJ1_indexOf_4cfef 18 = .ok (.invokestatic 38, 3) := by decide +kernel
theorem dJ1_indexOf_4cfef_21 : decode cJ1_indexOf_4cfef 21 = .ok (.istore_n 3, 1) := by decide +kernel
theorem dJ1_indexOf_4cfef_22 : decode cJ1_indexOf_4cfef 22 = .ok (.iload_n 2, 1) := by decide +kernel
theorem dJ1_indexOf_4cfef_23 : decode cJ1_indexOf_4cfef 23 = .ok (.iload_n 3, 1) := by decide +kernel
theorem dJ1_indexOf_4cfef_24 : decode cJ1_indexOf_4cfef 24 = .ok (.if_icmp .lt 5, 3) := by decide +kernel
theorem dJ1_indexOf_4cfef_27 : decode cJ1_indexOf_4cfef 27 = .ok (.iconst (-1), 1) := by decide +kernel
theorem dJ1_indexOf_4cfef_28 : decode cJ1_indexOf_4cfef 28 = .ok (.ireturn, 1) := by decide +kernel
theorem dJ1_indexOf_4cfef_29 : decode cJ1_indexOf_4cfef 29 = .ok (.aload_n 0, 1) := by decide +kernel
theorem dJ1_indexOf_4cfef_30 : decode cJ1_indexOf_4cfef 30 = .ok (.iload_n 1, 1) := by decide +kernel
theorem dJ1_indexOf_4cfef_31 : decode cJ1_indexOf_4cfef 31 = .ok (.iload_n 2, 1) := by decide +kernel
theorem dJ1_indexOf_4cfef_32 : decode cJ1_indexOf_4cfef 32 = .ok (.iload_n 3, 1) := by decide +kernel
theorem dJ1_indexOf_4cfef_33 : decode cJ1_indexOf_4cfef 33 = .ok (.invokestatic 95, 3) := by decide +kernel
theorem dJ1_indexOf_4cfef_36 : decode cJ1_indexOf_4cfef 36 = .ok (.ireturn, 1) := by decide +kernel
theorem dJ1_indexOfChar_4cfef_0 : decode cJ1_indexOfChar_4cfef 0 = .ok (.iload_n 1, 1) := by decide +kernel
theorem dJ1_indexOfChar_4cfef_1 : decode cJ1_indexOfChar_4cfef 1 = .ok (.i2b, 1) := by decide +kernel
theorem dJ1_indexOfChar_4cfef_2 : decode cJ1_indexOfChar_4cfef 2 = .ok (.istore 4, 2) := by decide +kernel
theorem dJ1_indexOfChar_4cfef_4 : decode cJ1_indexOfChar_4cfef 4 = .ok (.iload_n 2, 1) := by decide +kernel
theorem dJ1_indexOfChar_4cfef_5 : decode cJ1_indexOfChar_4cfef 5 = .ok (.istore 5, 2) := by decide +kernel
theorem dJ1_indexOfChar_4cfef_7 : decode cJ1_indexOfChar_4cfef 7 = .ok (.iload 5, 2) := by decide +kernel
theorem dJ1_indexOfChar_4cfef_9 : decode cJ1_indexOfChar_4cfef 9 = .ok (.iload_n 3, 1) := by decide +kernel
theorem dJ1_indexOfChar_4cfef_10 : decode cJ1_indexOfChar_4cfef 10 = .ok (.if_icmp .ge 21, 3) := by decide +kernel
theorem dJ1_indexOfChar_4cfef_13 : decode cJ1_indexOfChar_4cfef 13 = .ok (.aload_n 0, 1) := by decide +kernel
theorem dJ1_indexOfChar_4cfef_14 : decode cJ1_indexOfChar_4cfef 14 = .ok (.iload 5, 2) := by decide +kernel
theorem dJ1_indexOfChar_4cfef_16 : decode cJ1_indexOfChar_4cfef 16 = .ok (.baload, 1) := by decide +kernel
theorem dJ1_indexOfChar_4cfef_17 : decode cJ1_indexOfChar_4cfef 17 = .ok (.iload 4, 2) := by decide +kernel
theorem dJ1_indexOfChar_4cfef_19 : decode cJ1_indexOfChar_4cfef 19 = .ok (.if_icmp .ne 6, 3) := by decide +kernel
theorem dJ1_indexOfChar_4cfef_22 : decode cJ1_indexOfChar_4cfef 22 = .ok (.iload 5, 2) := by decide +kernel
theorem dJ1_indexOfChar_4cfef_24 : decode cJ1_indexOfChar_4cfef 24 = .ok (.ireturn, 1) := by decide +kernel
theorem dJ1_indexOfChar_4cfef_25 : decode cJ1_indexOfChar_4cfef 25 = .ok (.iinc 5 1, 3) := by decide +kernel
theorem dJ1_indexOfChar_4cfef_28 : decode cJ1_indexOfChar_4cfef 28 = .ok (.goto (-21), 3) := by decide +kernel
theorem dJ1_indexOfChar_4cfef_31 : decode cJ1_indexOfChar_4cfef 31 = .ok (.iconst (-1), 1) := by decide +kernel
theorem dJ1_indexOfChar_4cfef_32 : decode cJ1_indexOfChar_4cfef 32 = .ok (.ireturn, 1) := by decide +kernel
