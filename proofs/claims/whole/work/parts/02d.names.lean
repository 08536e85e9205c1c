set_option maxRecDepth 20000 in
theorem ggX4_init_X3_init : GoodIn wsX4_init wsX3_init := goodIn_r _ [29, 30, 2, 3, 31, 32, 33, 34, 35, 23, 36, 37, 38, 39, 40, 41, 42, 43, 44, 45, 46, 47, 48, 49, 72, 73, 74, 75, 76, 77, 78, 79, 80, 81, 82, 83, 84, 85, 86, 87, 88, 89] (by decide +kernel) (by decide +kernel)
set_option maxRecDepth 20000 in
theorem gX4_init_X3_init : GoodIn wsX4_init (wsX3_init) := ggX4_init_X3_init
set_option maxRecDepth 20000 in
theorem ggX4_init_X0_init : GoodIn wsX4_init wsX0_init := goodIn_r _ [52, 53, 2, 3, 23, 54, 55, 56, 57, 58, 100, 101, 102, 103, 104] (by decide +kernel) (by decide +kernel)
set_option maxRecDepth 20000 in
theorem gX4_init_X0_init : GoodIn wsX4_init (wsX0_init) := ggX4_init_X0_init
set_option maxRecDepth 20000 in
theorem ggX4_init_X1_init : GoodIn wsX4_init wsX1_init := goodIn_r _ [61, 62, 2, 3, 63, 64, 65, 105, 106, 107] (by decide +kernel) (by decide +kernel)
set_option maxRecDepth 20000 in
theorem gX4_init_X1_init : GoodIn wsX4_init (wsX1_init) := ggX4_init_X1_init
set_option maxRecDepth 20000 in
theorem ggX4_init_X2_init : GoodIn wsX4_init wsX2_init := goodIn_r _ [68, 69, 2, 3, 70, 71, 108, 109] (by decide +kernel) (by decide +kernel)
set_option maxRecDepth 20000 in
theorem gX4_init_X2_init : GoodIn wsX4_init (wsX2_init) := ggX4_init_X2_init
theorem dX4_init_0 : decode cX4_init 0 = .ok (.aload_n 0, 1) := by decide +kernel
theorem dX4_init_1 : decode cX4_init 1 = .ok (.invokespecial 1, 3) := by decide +kernel
theorem dX4_init_4 : decode cX4_init 4 = .ok (.aload_n 0, 1) := by decide +kernel
theorem dX4_init_5 : decode cX4_init 5 = .ok (.new 7, 3) := by decide +kernel
theorem dX4_init_8 : decode cX4_init 8 = .ok (.dup, 1) := by decide +kernel
theorem dX4_init_9 : decode cX4_init 9 = .ok (.invokespecial 9, 3) := by decide +kernel
theorem dX4_init_12 : decode cX4_init 12 = .ok (.putfield 10, 3) := by decide +kernel
theorem dX4_init_15 : decode cX4_init 15 = .ok (.aload_n 0, 1) := by decide +kernel
theorem dX4_init_16 : decode cX4_init 16 = .ok (.new 7, 3) := by decide +kernel
theorem dX4_init_19 : decode cX4_init 19 = .ok (.dup, 1) := by decide +kernel
theorem dX4_init_20 : decode cX4_init 20 = .ok (.invokespecial 9, 3) := by decide +kernel
theorem dX4_init_23 : decode cX4_init 23 = .ok (.putfield 16, 3) := by decide +kernel
theorem dX4_init_26 : decode cX4_init 26 = .ok (.aload_n 0, 1) := by decide +kernel
theorem dX4_init_27 : decode cX4_init 27 = .ok (.new 7, 3) := by decide +kernel
theorem dX4_init_30 : decode cX4_init 30 = .ok (.dup, 1) := by decide +kernel
theorem dX4_init_31 : decode cX4_init 31 = .ok (.invokespecial 9, 3) := by decide +kernel
theorem dX4_init_34 : decode cX4_init 34 = .ok (.putfield 19, 3) := by decide +kernel
theorem dX4_init_37 : decode cX4_init 37 = .ok (.aload_n 0, 1) := by decide +kernel
theorem dX4_init_38 : decode cX4_init 38 = .ok (.iconst 0, 1) := by decide +kernel
theorem dX4_init_39 : decode cX4_init 39 = .ok (.putfield 22, 3) := by decide +kernel
theorem dX4_init_42 : decode cX4_init 42 = .ok (.aload_n 0, 1) := by decide +kernel
theorem dX4_init_43 : decode cX4_init 43 = .ok (.new 26, 3) := by decide +kernel
theorem dX4_init_46 : decode cX4_init 46 = .ok (.dup, 1) := by decide +kernel
theorem dX4_init_47 : decode cX4_init 47 = .ok (.invokespecial 28, 3) := by decide +kernel
theorem dX4_init_50 : decode cX4_init 50 = .ok (.putfield 29, 3) := by decide +kernel
theorem dX4_init_53 : decode cX4_init 53 = .ok (.aload_n 0, 1) := by decide +kernel
theorem dX4_init_54 : decode cX4_init 54 = .ok (.new 33, 3) := by decide +kernel
theorem dX4_init_57 : decode cX4_init 57 = .ok (.dup, 1) := by decide +kernel
theorem dX4_init_58 : decode cX4_init 58 = .ok (.aload_n 0, 1) := by decide +kernel
theorem dX4_init_59 : decode cX4_init 59 = .ok (.getfield 10, 3) := by decide +kernel
theorem dX4_init_62 : decode cX4_init 62 = .ok (.aload_n 0, 1) := by decide +kernel
theorem dX4_init_63 : decode cX4_init 63 = .ok (.getfield 16, 3) := by decide +kernel
theorem dX4_init_66 : decode cX4_init 66 = .ok (.invokespecial 35, 3) := by decide +kernel
theorem dX4_init_69 : decode cX4_init 69 = .ok (.putfield 38, 3) := by decide +kernel
theorem dX4_init_72 : decode cX4_init 72 = .ok (.aload_n 0, 1) := by decide +kernel
theorem dX4_init_73 : decode cX4_init 73 = .ok (.new 42, 3) := by decide +kernel
theorem dX4_init_76 : decode cX4_init 76 = .ok (.dup, 1) := by decide +kernel
theorem dX4_init_77 : decode cX4_init 77 = .ok (.invokespecial 44, 3) := by decide +kernel
theorem dX4_init_80 : decode cX4_init 80 = .ok (.putfield 45, 3) := by decide +kernel
theorem dX4_init_83 : decode cX4_init 83 = .ok (.aload_n 0, 1) := by decide +kernel
theorem dX4_init_84 : decode cX4_init 84 = .ok (.bipush 12, 2) := by decide +kernel
theorem dX4_init_86 : decode cX4_init 86 = .ok (.newarray .int, 2) := by decide +kernel
theorem dX4_init_88 : decode cX4_init 88 = .ok (.putfield 49, 3) := by decide +kernel
theorem dX4_init_91 : decode cX4_init 91 = .ok (.aload_n 0, 1) := by decide +kernel
theorem dX4_init_92 : decode cX4_init 92 = .ok (.iconst 0, 1) := by decide +kernel
theorem dX4_init_93 : decode cX4_init 93 = .ok (.putfield 53, 3) := by decide +kernel
theorem dX4_init_96 : decode cX4_init 96 = .ok (.aload_n 0, 1) := by decide +kernel
theorem dX4_init_97 : decode cX4_init 97 = .ok (.bipush 7, 2) := by decide +kernel
theorem dX4_init_99 : decode cX4_init 99 = .ok (.newarray .int, 2) := by decide +kernel
theorem dX4_init_101 : decode cX4_init 101 = .ok (.putfield 57, 3) := by decide +kernel
theorem dX4_init_104 : decode cX4_init 104 = .ok (.return_, 1) := by decide +kernel
set_option maxRecDepth 20000 in
theorem ggX4_letter_X4_refuse : GoodIn wsX4_letter wsX4_refuse := goodIn_r _ [6, 7, 19, 20, 21, 22, 23, 24, 25, 26, 27, 28] (by decide +kernel) (by decide +kernel)
set_option maxRecDepth 20000 in
theorem gX4_letter_X4_refuse : GoodIn wsX4_letter (wsV RX4 60 RX4 yX4_refuse wsX4_refuse) := goodIn_app (goodIn_of _ (by decide +kernel)) ggX4_letter_X4_refuse
set_option maxRecDepth 20000 in
theorem ggX4_letter_X0_isFull : GoodIn wsX4_letter wsX0_isFull := goodIn_r _ [12, 13, 29, 30, 31, 32, 33] (by decide +kernel) (by decide +kernel)
set_option maxRecDepth 20000 in
theorem gX4_letter_X0_isFull : GoodIn wsX4_letter (wsV RX4 64 RX0 yX0_isFull wsX0_isFull) := goodIn_app (goodIn_of _ (by decide +kernel)) ggX4_letter_X0_isFull
set_option maxRecDepth 20000 in
theorem ggX4_letter_X0_add : GoodIn wsX4_letter wsX0_add := goodIn_r _ [17, 13, 18, 29, 30, 31, 32, 33] (by decide +kernel) (by decide +kernel)
set_option maxRecDepth 20000 in
theorem gX4_letter_X0_add : GoodIn wsX4_letter (wsV RX4 68 RX0 yX0_add wsX0_add) := goodIn_app (goodIn_of _ (by decide +kernel)) ggX4_letter_X0_add
theorem dX4_letter_0 : decode cX4_letter 0 = .ok (.iload_n 1, 1) := by decide +kernel
theorem dX4_letter_1 : decode cX4_letter 1 = .ok (.ifCond .ge 9, 3) := by decide +kernel
theorem dX4_letter_4 : decode cX4_letter 4 = .ok (.aload_n 0, 1) := by decide +kernel
theorem dX4_letter_5 : decode cX4_letter 5 = .ok (.iconst 4, 1) := by decide +kernel
theorem dX4_letter_6 : decode cX4_letter 6 = .ok (.invokevirtual 60, 3) := by decide +kernel
theorem dX4_letter_9 : decode cX4_letter 9 = .ok (.ireturn, 1) := by decide +kernel
theorem dX4_letter_10 : decode cX4_letter 10 = .ok (.iload_n 1, 1) := by decide +kernel
theorem dX4_letter_11 : decode cX4_letter 11 = .ok (.sipush 255, 3) := by decide +kernel
theorem dX4_letter_14 : decode cX4_letter 14 = .ok (.if_icmp .gt 13, 3) := by decide +kernel
theorem dX4_letter_17 : decode cX4_letter 17 = .ok (.aload_n 0, 1) := by decide +kernel
theorem dX4_letter_18 : decode cX4_letter 18 = .ok (.getfield 29, 3) := by decide +kernel
theorem dX4_letter_21 : decode cX4_letter 21 = .ok (.invokevirtual 64, 3) := by decide +kernel
theorem dX4_letter_24 : decode cX4_letter 24 = .ok (.ifCond .eq 10, 3) := by decide +kernel
theorem dX4_letter_27 : decode cX4_letter 27 = .ok (.aload_n 0, 1) := by decide +kernel
theorem dX4_letter_28 : decode cX4_letter 28 = .ok (.bipush 6, 2) := by decide +kernel
theorem dX4_letter_30 : decode cX4_letter 30 = .ok (.invokevirtual 60, 3) := by decide +kernel
theorem dX4_letter_33 : decode cX4_letter 33 = .ok (.ireturn, 1) := by decide +kernel
theorem dX4_letter_34 : decode cX4_letter 34 = .ok (.aload_n 0, 1) := by decide +kernel
theorem dX4_letter_35 : decode cX4_letter 35 = .ok (.getfield 29, 3) := by decide +kernel
theorem dX4_letter_38 : decode cX4_letter 38 = .ok (.iload_n 1, 1) := by decide +kernel
theorem dX4_letter_39 : decode cX4_letter 39 = .ok (.invokevirtual 68, 3) := by decide +kernel
theorem dX4_letter_42 : decode cX4_letter 42 = .ok (.ireturn, 1) := by decide +kernel
set_option maxRecDepth 20000 in
theorem ggX4_town_X4_settle : GoodIn wsX4_town wsX4_settle := goodIn_r _ [6, 1, 7, 8, 9, 10, 11, 12, 13, 14, 15, 16, 17, 18, 19, 20, 21, 22, 23, 24, 25, 26, 27, 28, 29, 30, 31, 32, 33, 34, 35, 36, 37, 38, 39, 40, 41, 42, 43, 44, 45, 46, 47, 48, 49, 50, 51, 52, 53, 54, 55, 56, 57, 58, 59, 60, 61, 62, 63, 64, 65, 66, 67, 68, 69, 70, 71, 72, 73, 74, 75, 76, 77, 78, 79, 80, 81, 82, 83, 84, 85, 86, 87, 88, 89, 90, 91, 92, 93, 94, 95, 96, 97, 98, 99, 100, 101, 102, 103, 104, 105, 106, 107, 108, 109, 110, 111, 112, 113, 114, 115, 116, 117, 118, 119, 120, 121, 122, 123, 124, 125, 126, 127, 128, 129, 130, 131, 132, 133, 134, 135, 136, 137, 138, 139, 140, 141, 142, 143, 144, 145, 146, 147, 148, 149, 150, 151, 152, 153, 154, 155, 156, 157, 158, 159, 160, 161, 162, 163, 164, 165, 166, 167, 168, 169, 170, 171, 172, 173, 174, 175, 176, 177, 178, 179, 180, 181, 182, 183, 184, 185, 186, 187, 188, 189, 190, 191, 192, 193, 194, 195, 196, 197, 198, 199, 200, 201, 202, 203, 204, 205, 206, 207, 208, 209, 210, 5, 211, 212, 213, 214, 215, 220, 221, 222, 223, 224, 225, 226, 227, 228, 229, 230, 231, 232, 233, 234, 235, 236, 237, 238, 239, 240, 241, 242, 243, 244, 245, 246, 247, 248, 249, 250, 251, 252] (by decide +kernel) (by decide +kernel)
set_option maxRecDepth 20000 in
theorem gX4_town_X4_settle : GoodIn wsX4_town (wsV RX4 71 RX4 yX4_settle wsX4_settle) := goodIn_app (goodIn_of _ (by decide +kernel)) ggX4_town_X4_settle
set_option maxRecDepth 20000 in
theorem ggX4_town_X0_clear : GoodIn wsX4_town wsX0_clear := goodIn_r _ [219, 23, 14, 230, 231, 232, 233, 234] (by decide +kernel) (by decide +kernel)
set_option maxRecDepth 20000 in
theorem gX4_town_X0_clear : GoodIn wsX4_town (wsV RX4 75 RX0 yX0_clear wsX0_clear) := goodIn_app (goodIn_of _ (by decide +kernel)) ggX4_town_X0_clear
theorem dX4_town_0 : decode cX4_town 0 = .ok (.aload_n 0, 1) := by decide +kernel
theorem dX4_town_1 : decode cX4_town 1 = .ok (.invokevirtual 71, 3) := by decide +kernel
theorem dX4_town_4 : decode cX4_town 4 = .ok (.istore_n 1, 1) := by decide +kernel
theorem dX4_town_5 : decode cX4_town 5 = .ok (.aload_n 0, 1) := by decide +kernel
theorem dX4_town_6 : decode cX4_town 6 = .ok (.getfield 29, 3) := by decide +kernel
theorem dX4_town_9 : decode cX4_town 9 = .ok (.invokevirtual 75, 3) := by decide +kernel
theorem dX4_town_12 : decode cX4_town 12 = .ok (.iload_n 1, 1) := by decide +kernel
theorem dX4_town_13 : decode cX4_town 13 = .ok (.ireturn, 1) := by decide +kernel
set_option maxRecDepth 20000 in
theorem ggX4_person_X3_hasPerson : GoodIn wsX4_person wsX3_hasPerson := goodIn_r _ [6, 7, 38, 39, 40, 41, 42, 43, 44, 45, 46, 47, 48, 49, 50, 51, 52, 53, 54, 55] (by decide +kernel) (by decide +kernel)
set_option maxRecDepth 20000 in
theorem gX4_person_X3_hasPerson : GoodIn wsX4_person (wsV RX4 78 RX3 yX3_hasPerson wsX3_hasPerson) := goodIn_app (goodIn_of _ (by decide +kernel)) ggX4_person_X3_hasPerson
set_option maxRecDepth 20000 in
theorem ggX4_person_X4_refuse : GoodIn wsX4_person wsX4_refuse := goodIn_r _ [12, 13, 28, 29, 30, 31, 32, 33, 34, 35, 36, 37] (by decide +kernel) (by decide +kernel)
set_option maxRecDepth 20000 in
theorem gX4_person_X4_refuse : GoodIn wsX4_person (wsV RX4 60 RX4 yX4_refuse wsX4_refuse) := goodIn_app (goodIn_of _ (by decide +kernel)) ggX4_person_X4_refuse
set_option maxRecDepth 20000 in
theorem ggX4_person_X3_personFact : GoodIn wsX4_person wsX3_personFact := goodIn_r _ [17, 18, 19, 20, 21, 22, 23, 24, 25, 5, 26, 27, 38, 39, 40, 41, 42, 43, 44, 45, 46, 47, 48, 49, 50, 51, 52, 53, 54, 55] (by decide +kernel) (by decide +kernel)
set_option maxRecDepth 20000 in
theorem gX4_person_X3_personFact : GoodIn wsX4_person (wsV RX4 82 RX3 yX3_personFact wsX3_personFact) := goodIn_app (goodIn_of _ (by decide +kernel)) ggX4_person_X3_personFact
theorem dX4_person_0 : decode cX4_person 0 = .ok (.aload_n 0, 1) := by decide +kernel
theorem dX4_person_1 : decode cX4_person 1 = .ok (.getfield 10, 3) := by decide +kernel
theorem dX4_person_4 : decode cX4_person 4 = .ok (.iload_n 1, 1) := by decide +kernel
theorem dX4_person_5 : decode cX4_person 5 = .ok (.invokevirtual 78, 3) := by decide +kernel
theorem dX4_person_8 : decode cX4_person 8 = .ok (.ifCond .ne 9, 3) := by decide +kernel
theorem dX4_person_11 : decode cX4_person 11 = .ok (.aload_n 0, 1) := by decide +kernel
theorem dX4_person_12 : decode cX4_person 12 = .ok (.iconst 1, 1) := by decide +kernel
theorem dX4_person_13 : decode cX4_person 13 = .ok (.invokevirtual 60, 3) := by decide +kernel
theorem dX4_person_16 : decode cX4_person 16 = .ok (.ireturn, 1) := by decide +kernel
theorem dX4_person_17 : decode cX4_person 17 = .ok (.iload_n 2, 1) := by decide +kernel
theorem dX4_person_18 : decode cX4_person 18 = .ok (.ifCond .lt 8, 3) := by decide +kernel
theorem dX4_person_21 : decode cX4_person 21 = .ok (.iload_n 2, 1) := by decide +kernel
theorem dX4_person_22 : decode cX4_person 22 = .ok (.iconst 4, 1) := by decide +kernel
theorem dX4_person_23 : decode cX4_person 23 = .ok (.if_icmp .le 9, 3) := by decide +kernel
theorem dX4_person_26 : decode cX4_person 26 = .ok (.aload_n 0, 1) := by decide +kernel
theorem dX4_person_27 : decode cX4_person 27 = .ok (.iconst 2, 1) := by decide +kernel
theorem dX4_person_28 : decode cX4_person 28 = .ok (.invokevirtual 60, 3) := by decide +kernel
theorem dX4_person_31 : decode cX4_person 31 = .ok (.ireturn, 1) := by decide +kernel
theorem dX4_person_32 : decode cX4_person 32 = .ok (.aload_n 0, 1) := by decide +kernel
theorem dX4_person_33 : decode cX4_person 33 = .ok (.getfield 10, 3) := by decide +kernel
theorem dX4_person_36 : decode cX4_person 36 = .ok (.iload_n 1, 1) := by decide +kernel
theorem dX4_person_37 : decode cX4_person 37 = .ok (.iload_n 2, 1) := by decide +kernel
theorem dX4_person_38 : decode cX4_person 38 = .ok (.invokevirtual 82, 3) := by decide +kernel
theorem dX4_person_41 : decode cX4_person 41 = .ok (.ireturn, 1) := by decide +kernel
set_option maxRecDepth 20000 in
theorem ggX4_paper_X3_hasPaper : GoodIn wsX4_paper wsX3_hasPaper := goodIn_r _ [6, 7, 53, 54, 55, 56, 57, 58, 59, 60, 61, 62, 63, 64, 65, 66, 67, 68, 69, 70] (by decide +kernel) (by decide +kernel)
set_option maxRecDepth 20000 in
theorem gX4_paper_X3_hasPaper : GoodIn wsX4_paper (wsV RX4 86 RX3 yX3_hasPaper wsX3_hasPaper) := goodIn_app (goodIn_of _ (by decide +kernel)) ggX4_paper_X3_hasPaper
set_option maxRecDepth 20000 in
theorem ggX4_paper_X4_refuse : GoodIn wsX4_paper wsX4_refuse := goodIn_r _ [12, 13, 43, 44, 45, 46, 47, 48, 49, 50, 51, 52] (by decide +kernel) (by decide +kernel)
set_option maxRecDepth 20000 in
theorem gX4_paper_X4_refuse : GoodIn wsX4_paper (wsV RX4 60 RX4 yX4_refuse wsX4_refuse) := goodIn_app (goodIn_of _ (by decide +kernel)) ggX4_paper_X4_refuse
set_option maxRecDepth 20000 in
theorem ggX4_paper_X3_paperFact : GoodIn wsX4_paper wsX3_paperFact := goodIn_r _ [17, 18, 19, 20, 21, 22, 23, 24, 25, 5, 26, 27, 28, 29, 30, 31, 32, 33, 34, 35, 36, 37, 38, 39, 40, 41, 42, 53, 54, 55, 56, 57, 58, 59, 60, 61, 62, 63, 64, 65, 66, 67, 68, 69, 70] (by decide +kernel) (by decide +kernel)
set_option maxRecDepth 20000 in
theorem gX4_paper_X3_paperFact : GoodIn wsX4_paper (wsV RX4 89 RX3 yX3_paperFact wsX3_paperFact) := goodIn_app (goodIn_of _ (by decide +kernel)) ggX4_paper_X3_paperFact
theorem dX4_paper_0 : decode cX4_paper 0 = .ok (.aload_n 0, 1) := by decide +kernel
theorem dX4_paper_1 : decode cX4_paper 1 = .ok (.getfield 10, 3) := by decide +kernel
theorem dX4_paper_4 : decode cX4_paper 4 = .ok (.iload_n 1, 1) := by decide +kernel
theorem dX4_paper_5 : decode cX4_paper 5 = .ok (.invokevirtual 86, 3) := by decide +kernel
theorem dX4_paper_8 : decode cX4_paper 8 = .ok (.ifCond .ne 9, 3) := by decide +kernel
theorem dX4_paper_11 : decode cX4_paper 11 = .ok (.aload_n 0, 1) := by decide +kernel
theorem dX4_paper_12 : decode cX4_paper 12 = .ok (.iconst 1, 1) := by decide +kernel
theorem dX4_paper_13 : decode cX4_paper 13 = .ok (.invokevirtual 60, 3) := by decide +kernel
theorem dX4_paper_16 : decode cX4_paper 16 = .ok (.ireturn, 1) := by decide +kernel
theorem dX4_paper_17 : decode cX4_paper 17 = .ok (.iload_n 2, 1) := by decide +kernel
theorem dX4_paper_18 : decode cX4_paper 18 = .ok (.ifCond .lt 9, 3) := by decide +kernel
theorem dX4_paper_21 : decode cX4_paper 21 = .ok (.iload_n 2, 1) := by decide +kernel
theorem dX4_paper_22 : decode cX4_paper 22 = .ok (.bipush 7, 2) := by decide +kernel
theorem dX4_paper_24 : decode cX4_paper 24 = .ok (.if_icmp .le 9, 3) := by decide +kernel
theorem dX4_paper_27 : decode cX4_paper 27 = .ok (.aload_n 0, 1) := by decide +kernel
theorem dX4_paper_28 : decode cX4_paper 28 = .ok (.iconst 2, 1) := by decide +kernel
theorem dX4_paper_29 : decode cX4_paper 29 = .ok (.invokevirtual 60, 3) := by decide +kernel
theorem dX4_paper_32 : decode cX4_paper 32 = .ok (.ireturn, 1) := by decide +kernel
theorem dX4_paper_33 : decode cX4_paper 33 = .ok (.aload_n 0, 1) := by decide +kernel
theorem dX4_paper_34 : decode cX4_paper 34 = .ok (.getfield 10, 3) := by decide +kernel
theorem dX4_paper_37 : decode cX4_paper 37 = .ok (.iload_n 1, 1) := by decide +kernel
theorem dX4_paper_38 : decode cX4_paper 38 = .ok (.iload_n 2, 1) := by decide +kernel
theorem dX4_paper_39 : decode cX4_paper 39 = .ok (.invokevirtual 89, 3) := by decide +kernel
theorem dX4_paper_42 : decode cX4_paper 42 = .ok (.ireturn, 1) := by decide +kernel
set_option maxRecDepth 20000 in
theorem ggX4_brings_X3_hasPaper : GoodIn wsX4_brings wsX3_hasPaper := goodIn_r _ [6, 7, 33, 34, 35, 36, 37, 38, 39, 40, 41, 42, 43, 44, 45, 46, 47, 48, 49, 50] (by decide +kernel) (by decide +kernel)
set_option maxRecDepth 20000 in
theorem gX4_brings_X3_hasPaper : GoodIn wsX4_brings (wsV RX4 86 RX3 yX3_hasPaper wsX3_hasPaper) := goodIn_app (goodIn_of _ (by decide +kernel)) ggX4_brings_X3_hasPaper
set_option maxRecDepth 20000 in
theorem ggX4_brings_X4_isNoThing : GoodIn wsX4_brings wsX4_isNoThing := goodIn_r _ [11] (by decide +kernel) (by decide +kernel)
set_option maxRecDepth 20000 in
theorem gX4_brings_X4_isNoThing : GoodIn wsX4_brings (va_wsS RX4 92 yX4_isNoThing wsX4_isNoThing) := goodIn_app (goodIn_of _ (by decide +kernel)) ggX4_brings_X4_isNoThing
set_option maxRecDepth 20000 in
theorem ggX4_brings_X4_refuseFar : GoodIn wsX4_brings wsX4_refuseFar := goodIn_r _ [15, 16, 17, 23, 24, 25, 26, 27, 28, 29, 30, 31, 32] (by decide +kernel) (by decide +kernel)
set_option maxRecDepth 20000 in
theorem gX4_brings_X4_refuseFar : GoodIn wsX4_brings (wsV RX4 95 RX4 yX4_refuseFar wsX4_refuseFar) := goodIn_app (goodIn_of _ (by decide +kernel)) ggX4_brings_X4_refuseFar
set_option maxRecDepth 20000 in
theorem ggX4_brings_X3_gainOf : GoodIn wsX4_brings wsX3_gainOf := goodIn_r _ [21, 22, 33, 34, 35, 36, 37, 38, 39, 40, 41, 42, 43, 44, 45, 46, 47, 48, 49, 50] (by decide +kernel) (by decide +kernel)
set_option maxRecDepth 20000 in
theorem gX4_brings_X3_gainOf : GoodIn wsX4_brings (wsV RX4 98 RX3 yX3_gainOf wsX3_gainOf) := goodIn_app (goodIn_of _ (by decide +kernel)) ggX4_brings_X3_gainOf
theorem dX4_brings_0 : decode cX4_brings 0 = .ok (.aload_n 0, 1) := by decide +kernel
theorem dX4_brings_1 : decode cX4_brings 1 = .ok (.getfield 10, 3) := by decide +kernel
theorem dX4_brings_4 : decode cX4_brings 4 = .ok (.iload_n 1, 1) := by decide +kernel
theorem dX4_brings_5 : decode cX4_brings 5 = .ok (.invokevirtual 86, 3) := by decide +kernel
theorem dX4_brings_8 : decode cX4_brings 8 = .ok (.ifCond .eq 10, 3) := by decide +kernel
theorem dX4_brings_11 : decode cX4_brings 11 = .ok (.iload_n 2, 1) := by decide +kernel
theorem dX4_brings_12 : decode cX4_brings 12 = .ok (.invokestatic 92, 3) := by decide +kernel
theorem dX4_brings_15 : decode cX4_brings 15 = .ok (.ifCond .eq 9, 3) := by decide +kernel
theorem dX4_brings_18 : decode cX4_brings 18 = .ok (.aload_n 0, 1) := by decide +kernel
theorem dX4_brings_19 : decode cX4_brings 19 = .ok (.iconst 1, 1) := by decide +kernel
theorem dX4_brings_20 : decode cX4_brings 20 = .ok (.invokevirtual 95, 3) := by decide +kernel
theorem dX4_brings_23 : decode cX4_brings 23 = .ok (.ireturn, 1) := by decide +kernel
theorem dX4_brings_24 : decode cX4_brings 24 = .ok (.aload_n 0, 1) := by decide +kernel
theorem dX4_brings_25 : decode cX4_brings 25 = .ok (.getfield 10, 3) := by decide +kernel
theorem dX4_brings_28 : decode cX4_brings 28 = .ok (.iload_n 1, 1) := by decide +kernel
theorem dX4_brings_29 : decode cX4_brings 29 = .ok (.iload_n 2, 1) := by decide +kernel
theorem dX4_brings_30 : decode cX4_brings 30 = .ok (.invokevirtual 98, 3) := by decide +kernel
theorem dX4_brings_33 : decode cX4_brings 33 = .ok (.ireturn, 1) := by decide +kernel
set_option maxRecDepth 20000 in
theorem ggX4_truth_X3_hasPaper : GoodIn wsX4_truth wsX3_hasPaper := goodIn_r _ [6, 7, 37, 38, 39, 40, 41, 42, 43, 44, 45, 46, 47, 48, 49, 50, 51, 52, 53, 54] (by decide +kernel) (by decide +kernel)
set_option maxRecDepth 20000 in
theorem gX4_truth_X3_hasPaper : GoodIn wsX4_truth (wsV RX4 86 RX3 yX3_hasPaper wsX3_hasPaper) := goodIn_app (goodIn_of _ (by decide +kernel)) ggX4_truth_X3_hasPaper
set_option maxRecDepth 20000 in
theorem ggX4_truth_X4_isNoThing : GoodIn wsX4_truth wsX4_isNoThing := goodIn_r _ [11] (by decide +kernel) (by decide +kernel)
set_option maxRecDepth 20000 in
theorem gX4_truth_X4_isNoThing : GoodIn wsX4_truth (va_wsS RX4 92 yX4_isNoThing wsX4_isNoThing) := goodIn_app (goodIn_of _ (by decide +kernel)) ggX4_truth_X4_isNoThing
set_option maxRecDepth 20000 in
theorem ggX4_truth_X4_refuse : GoodIn wsX4_truth wsX4_refuse := goodIn_r _ [15, 16, 27, 28, 29, 30, 31, 32, 33, 34, 35, 36] (by decide +kernel) (by decide +kernel)
set_option maxRecDepth 20000 in
theorem gX4_truth_X4_refuse : GoodIn wsX4_truth (wsV RX4 60 RX4 yX4_refuse wsX4_refuse) := goodIn_app (goodIn_of _ (by decide +kernel)) ggX4_truth_X4_refuse
set_option maxRecDepth 20000 in
theorem ggX4_truth_X3_readersOf : GoodIn wsX4_truth wsX3_readersOf := goodIn_r _ [20, 21, 37, 38, 39, 40, 41, 42, 43, 44, 45, 46, 47, 48, 49, 50, 51, 52, 53, 54] (by decide +kernel) (by decide +kernel)
set_option maxRecDepth 20000 in
theorem gX4_truth_X3_readersOf : GoodIn wsX4_truth (wsV RX4 101 RX3 yX3_readersOf wsX3_readersOf) := goodIn_app (goodIn_of _ (by decide +kernel)) ggX4_truth_X3_readersOf
set_option maxRecDepth 20000 in
theorem ggX4_truth_X3_changeTruth : GoodIn wsX4_truth wsX3_changeTruth := goodIn_r _ [25, 26, 37, 38, 39, 40, 41, 42, 43, 44, 45, 46, 47, 48, 49, 50, 51, 52, 53, 54] (by decide +kernel) (by decide +kernel)
set_option maxRecDepth 20000 in
theorem gX4_truth_X3_changeTruth : GoodIn wsX4_truth (wsV RX4 104 RX3 yX3_changeTruth wsX3_changeTruth) := goodIn_app (goodIn_of _ (by decide +kernel)) ggX4_truth_X3_changeTruth
theorem dX4_truth_0 : decode cX4_truth 0 = .ok (.aload_n 0, 1) := by decide +kernel
theorem dX4_truth_1 : decode cX4_truth 1 = .ok (.getfield 10, 3) := by decide +kernel
theorem dX4_truth_4 : decode cX4_truth 4 = .ok (.iload_n 1, 1) := by decide +kernel
theorem dX4_truth_5 : decode cX4_truth 5 = .ok (.invokevirtual 86, 3) := by decide +kernel
theorem dX4_truth_8 : decode cX4_truth 8 = .ok (.ifCond .eq 10, 3) := by decide +kernel
theorem dX4_truth_11 : decode cX4_truth 11 = .ok (.iload_n 2, 1) := by decide +kernel
theorem dX4_truth_12 : decode cX4_truth 12 = .ok (.invokestatic 92, 3) := by decide +kernel
theorem dX4_truth_15 : decode cX4_truth 15 = .ok (.ifCond .eq 9, 3) := by decide +kernel
theorem dX4_truth_18 : decode cX4_truth 18 = .ok (.aload_n 0, 1) := by decide +kernel
theorem dX4_truth_19 : decode cX4_truth 19 = .ok (.iconst 1, 1) := by decide +kernel
theorem dX4_truth_20 : decode cX4_truth 20 = .ok (.invokevirtual 60, 3) := by decide +kernel
theorem dX4_truth_23 : decode cX4_truth 23 = .ok (.ireturn, 1) := by decide +kernel
theorem dX4_truth_24 : decode cX4_truth 24 = .ok (.aload_n 0, 1) := by decide +kernel
theorem dX4_truth_25 : decode cX4_truth 25 = .ok (.getfield 10, 3) := by decide +kernel
theorem dX4_truth_28 : decode cX4_truth 28 = .ok (.iload_n 1, 1) := by decide +kernel
theorem dX4_truth_29 : decode cX4_truth 29 = .ok (.invokevirtual 101, 3) := by decide +kernel
theorem dX4_truth_32 : decode cX4_truth 32 = .ok (.ifCond .eq 9, 3) := by decide +kernel
theorem dX4_truth_35 : decode cX4_truth 35 = .ok (.aload_n 0, 1) := by decide +kernel
theorem dX4_truth_36 : decode cX4_truth 36 = .ok (.iconst 3, 1) := by decide +kernel
theorem dX4_truth_37 : decode cX4_truth 37 = .ok (.invokevirtual 60, 3) := by decide +kernel
theorem dX4_truth_40 : decode cX4_truth 40 = .ok (.ireturn, 1) := by decide +kernel
theorem dX4_truth_41 : decode cX4_truth 41 = .ok (.aload_n 0, 1) := by decide +kernel
theorem dX4_truth_42 : decode cX4_truth 42 = .ok (.getfield 10, 3) := by decide +kernel
theorem dX4_truth_45 : decode cX4_truth 45 = .ok (.iload_n 1, 1) := by decide +kernel
theorem dX4_truth_46 : decode cX4_truth 46 = .ok (.iload_n 2, 1) := by decide +kernel
theorem dX4_truth_47 : decode cX4_truth 47 = .ok (.invokevirtual 104, 3) := by decide +kernel
theorem dX4_truth_50 : decode cX4_truth 50 = .ok (.ireturn, 1) := by decide +kernel
set_option maxRecDepth 20000 in
theorem ggX4_law_X4_isNoLaw : GoodIn wsX4_law wsX4_isNoLaw := goodIn_r _ [5] (by decide +kernel) (by decide +kernel)
set_option maxRecDepth 20000 in
theorem gX4_law_X4_isNoLaw : GoodIn wsX4_law (va_wsS RX4 107 yX4_isNoLaw wsX4_isNoLaw) := goodIn_app (goodIn_of _ (by decide +kernel)) ggX4_law_X4_isNoLaw
set_option maxRecDepth 20000 in
theorem ggX4_law_X4_refuse : GoodIn wsX4_law wsX4_refuse := goodIn_r _ [9, 10, 17, 18, 19, 20, 21, 22, 23, 24, 25, 26] (by decide +kernel) (by decide +kernel)
set_option maxRecDepth 20000 in
theorem gX4_law_X4_refuse : GoodIn wsX4_law (wsV RX4 60 RX4 yX4_refuse wsX4_refuse) := goodIn_app (goodIn_of _ (by decide +kernel)) ggX4_law_X4_refuse
set_option maxRecDepth 20000 in
theorem ggX4_law_X3_changeLaw : GoodIn wsX4_law wsX3_changeLaw := goodIn_r _ [15, 16, 27, 28, 29, 30, 31, 32, 33, 34, 35, 36, 37, 38, 39, 40, 41, 42, 43, 44] (by decide +kernel) (by decide +kernel)
set_option maxRecDepth 20000 in
theorem gX4_law_X3_changeLaw : GoodIn wsX4_law (wsV RX4 110 RX3 yX3_changeLaw wsX3_changeLaw) := goodIn_app (goodIn_of _ (by decide +kernel)) ggX4_law_X3_changeLaw
theorem dX4_law_0 : decode cX4_law 0 = .ok (.iload_n 1, 1) := by decide +kernel
theorem dX4_law_1 : decode cX4_law 1 = .ok (.invokestatic 107, 3) := by decide +kernel
theorem dX4_law_4 : decode cX4_law 4 = .ok (.ifCond .eq 9, 3) := by decide +kernel
theorem dX4_law_7 : decode cX4_law 7 = .ok (.aload_n 0, 1) := by decide +kernel
theorem dX4_law_8 : decode cX4_law 8 = .ok (.iconst 2, 1) := by decide +kernel
theorem dX4_law_9 : decode cX4_law 9 = .ok (.invokevirtual 60, 3) := by decide +kernel
theorem dX4_law_12 : decode cX4_law 12 = .ok (.ireturn, 1) := by decide +kernel
theorem dX4_law_13 : decode cX4_law 13 = .ok (.aload_n 0, 1) := by decide +kernel
theorem dX4_law_14 : decode cX4_law 14 = .ok (.getfield 10, 3) := by decide +kernel
theorem dX4_law_17 : decode cX4_law 17 = .ok (.iload_n 1, 1) := by decide +kernel
theorem dX4_law_18 : decode cX4_law 18 = .ok (.invokevirtual 110, 3) := by decide +kernel
theorem dX4_law_21 : decode cX4_law 21 = .ok (.ireturn, 1) := by decide +kernel
set_option maxRecDepth 20000 in
theorem ggX4_reads_X4_isNoPair : GoodIn wsX4_reads wsX4_isNoPair := goodIn_r _ [6, 1, 7, 8, 9, 10, 11, 12, 13, 14, 15, 16, 17, 66, 67, 68, 69, 70, 71, 72, 73, 74, 75, 76, 77, 78, 79, 80, 81, 82, 83, 84, 85, 86, 87, 88, 89, 90, 91, 92, 93] (by decide +kernel) (by decide +kernel)
set_option maxRecDepth 20000 in
theorem gX4_reads_X4_isNoPair : GoodIn wsX4_reads (wsV RX4 113 RX4 yX4_isNoPair wsX4_isNoPair) := goodIn_app (goodIn_of _ (by decide +kernel)) ggX4_reads_X4_isNoPair
set_option maxRecDepth 20000 in
theorem ggX4_reads_X4_refuse : GoodIn wsX4_reads wsX4_refuse := goodIn_r _ [21, 22, 66, 67, 68, 69, 70, 71, 72, 73, 74, 75] (by decide +kernel) (by decide +kernel)
set_option maxRecDepth 20000 in
theorem gX4_reads_X4_refuse : GoodIn wsX4_reads (wsV RX4 60 RX4 yX4_refuse wsX4_refuse) := goodIn_app (goodIn_of _ (by decide +kernel)) ggX4_reads_X4_refuse
set_option maxRecDepth 20000 in
theorem ggX4_reads_X3_canRead : GoodIn wsX4_reads wsX3_canRead := goodIn_r _ [26, 27, 28, 29, 10, 30, 31, 32, 33, 34, 35, 36, 37, 38, 39, 40, 41, 42, 43, 44, 45, 46, 47, 48, 49, 50, 51, 52, 53, 54, 55, 56, 76, 77, 78, 79, 80, 81, 82, 83, 84, 85, 86, 87, 88, 89, 90, 91, 92, 93] (by decide +kernel) (by decide +kernel)
set_option maxRecDepth 20000 in
theorem gX4_reads_X3_canRead : GoodIn wsX4_reads (wsV RX4 117 RX3 yX3_canRead wsX3_canRead) := goodIn_app (goodIn_of _ (by decide +kernel)) ggX4_reads_X3_canRead
set_option maxRecDepth 20000 in
theorem ggX4_reads_X3_markRead : GoodIn wsX4_reads wsX3_markRead := goodIn_r _ [60, 36, 76, 77, 78, 79, 80, 81, 82, 83, 84, 85, 86, 87, 88, 89, 90, 91, 92, 93] (by decide +kernel) (by decide +kernel)
set_option maxRecDepth 20000 in
theorem gX4_reads_X3_markRead : GoodIn wsX4_reads (wsV RX4 120 RX3 yX3_markRead wsX3_markRead) := goodIn_app (goodIn_of _ (by decide +kernel)) ggX4_reads_X3_markRead
set_option maxRecDepth 20000 in
theorem ggX4_reads_X3_readersOf : GoodIn wsX4_reads wsX3_readersOf := goodIn_r _ [64, 36, 76, 77, 78, 79, 80, 81, 82, 83, 84, 85, 86, 87, 88, 89, 90, 91, 92, 93] (by decide +kernel) (by decide +kernel)
set_option maxRecDepth 20000 in
theorem gX4_reads_X3_readersOf : GoodIn wsX4_reads (wsV RX4 101 RX3 yX3_readersOf wsX3_readersOf) := goodIn_app (goodIn_of _ (by decide +kernel)) ggX4_reads_X3_readersOf
set_option maxRecDepth 20000 in
theorem ggX4_reads_J6_bitCount_0f7a4 : GoodIn wsX4_reads wsJ6_bitCount_0f7a4 := goodIn_r _ [44, 45, 46, 47] (by decide +kernel) (by decide +kernel)
set_option maxRecDepth 20000 in
theorem gX4_reads_J6_bitCount_0f7a4 : GoodIn wsX4_reads (va_wsS RX4 124 yJ6_bitCount_0f7a4 wsJ6_bitCount_0f7a4) := goodIn_app (goodIn_of _ (by decide +kernel)) ggX4_reads_J6_bitCount_0f7a4
theorem dX4_reads_0 : decode cX4_reads 0 = .ok (.aload_n 0, 1) := by decide +kernel
theorem dX4_reads_1 : decode cX4_reads 1 = .ok (.iload_n 1, 1) := by decide +kernel
theorem dX4_reads_2 : decode cX4_reads 2 = .ok (.iload_n 2, 1) := by decide +kernel
theorem dX4_reads_3 : decode cX4_reads 3 = .ok (.invokevirtual 113, 3) := by decide +kernel
theorem dX4_reads_6 : decode cX4_reads 6 = .ok (.ifCond .eq 9, 3) := by decide +kernel
theorem dX4_reads_9 : decode cX4_reads 9 = .ok (.aload_n 0, 1) := by decide +kernel
theorem dX4_reads_10 : decode cX4_reads 10 = .ok (.iconst 1, 1) := by decide +kernel
theorem dX4_reads_11 : decode cX4_reads 11 = .ok (.invokevirtual 60, 3) := by decide +kernel
theorem dX4_reads_14 : decode cX4_reads 14 = .ok (.ireturn, 1) := by decide +kernel
theorem dX4_reads_15 : decode cX4_reads 15 = .ok (.aload_n 0, 1) := by decide +kernel
theorem dX4_reads_16 : decode cX4_reads 16 = .ok (.getfield 10, 3) := by decide +kernel
theorem dX4_reads_19 : decode cX4_reads 19 = .ok (.iload_n 1, 1) := by decide +kernel
theorem dX4_reads_20 : decode cX4_reads 20 = .ok (.iload_n 2, 1) := by decide +kernel
theorem dX4_reads_21 : decode cX4_reads 21 = .ok (.invokevirtual 117, 3) := by decide +kernel
theorem dX4_reads_24 : decode cX4_reads 24 = .ok (.ifCond .ne 9, 3) := by decide +kernel
theorem dX4_reads_27 : decode cX4_reads 27 = .ok (.aload_n 0, 1) := by decide +kernel
theorem dX4_reads_28 : decode cX4_reads 28 = .ok (.iconst 3, 1) := by decide +kernel
theorem dX4_reads_29 : decode cX4_reads 29 = .ok (.invokevirtual 60, 3) := by decide +kernel
theorem dX4_reads_32 : decode cX4_reads 32 = .ok (.ireturn, 1) := by decide +kernel
theorem dX4_reads_33 : decode cX4_reads 33 = .ok (.aload_n 0, 1) := by decide +kernel
theorem dX4_reads_34 : decode cX4_reads 34 = .ok (.getfield 10, 3) := by decide +kernel
theorem dX4_reads_37 : decode cX4_reads 37 = .ok (.iload_n 1, 1) := by decide +kernel
theorem dX4_reads_38 : decode cX4_reads 38 = .ok (.iload_n 2, 1) := by decide +kernel
theorem dX4_reads_39 : decode cX4_reads 39 = .ok (.invokevirtual 120, 3) := by decide +kernel
theorem dX4_reads_42 : decode cX4_reads 42 = .ok (.aload_n 0, 1) := by decide +kernel
theorem dX4_reads_43 : decode cX4_reads 43 = .ok (.getfield 10, 3) := by decide +kernel
theorem dX4_reads_46 : decode cX4_reads 46 = .ok (.iload_n 2, 1) := by decide +kernel
theorem dX4_reads_47 : decode cX4_reads 47 = .ok (.invokevirtual 101, 3) := by decide +kernel
theorem dX4_reads_50 : decode cX4_reads 50 = .ok (.invokestatic 124, 3) := by decide +kernel
theorem dX4_reads_53 : decode cX4_reads 53 = .ok (.ireturn, 1) := by decide +kernel
set_option maxRecDepth 20000 in
theorem ggX4_hear_X4_isNoPair : GoodIn wsX4_hear wsX4_isNoPair := goodIn_r _ [6, 1, 7, 8, 9, 10, 11, 12, 13, 14, 15, 16, 17, 59, 60, 61, 62, 63, 64, 65, 66, 67, 68, 69, 70, 71, 72, 73, 74, 75, 76, 77, 78, 79, 80, 81, 82, 83, 84, 85, 86] (by decide +kernel) (by decide +kernel)
set_option maxRecDepth 20000 in
theorem gX4_hear_X4_isNoPair : GoodIn wsX4_hear (wsV RX4 113 RX4 yX4_isNoPair wsX4_isNoPair) := goodIn_app (goodIn_of _ (by decide +kernel)) ggX4_hear_X4_isNoPair
set_option maxRecDepth 20000 in
theorem ggX4_hear_X4_isNoThing : GoodIn wsX4_hear wsX4_isNoThing := goodIn_r _ [20] (by decide +kernel) (by decide +kernel)
set_option maxRecDepth 20000 in
theorem gX4_hear_X4_isNoThing : GoodIn wsX4_hear (va_wsS RX4 92 yX4_isNoThing wsX4_isNoThing) := goodIn_app (goodIn_of _ (by decide +kernel)) ggX4_hear_X4_isNoThing
set_option maxRecDepth 20000 in
theorem ggX4_hear_X4_refuse : GoodIn wsX4_hear wsX4_refuse := goodIn_r _ [24, 25, 59, 60, 61, 62, 63, 64, 65, 66, 67, 68] (by decide +kernel) (by decide +kernel)
set_option maxRecDepth 20000 in
theorem gX4_hear_X4_refuse : GoodIn wsX4_hear (wsV RX4 60 RX4 yX4_refuse wsX4_refuse) := goodIn_app (goodIn_of _ (by decide +kernel)) ggX4_hear_X4_refuse
set_option maxRecDepth 20000 in
theorem ggX4_hear_X3_isUnread : GoodIn wsX4_hear wsX3_isUnread := goodIn_r _ [29, 30, 31, 32, 10, 33, 34, 35, 69, 70, 71, 72, 73, 74, 75, 76, 77, 78, 79, 80, 81, 82, 83, 84, 85, 86] (by decide +kernel) (by decide +kernel)
set_option maxRecDepth 20000 in
theorem gX4_hear_X3_isUnread : GoodIn wsX4_hear (wsV RX4 129 RX3 yX3_isUnread wsX3_isUnread) := goodIn_app (goodIn_of _ (by decide +kernel)) ggX4_hear_X3_isUnread
set_option maxRecDepth 20000 in
theorem ggX4_hear_X3_heardBy : GoodIn wsX4_hear wsX3_heardBy := goodIn_r _ [39, 40, 69, 70, 71, 72, 73, 74, 75, 76, 77, 78, 79, 80, 81, 82, 83, 84, 85, 86] (by decide +kernel) (by decide +kernel)
set_option maxRecDepth 20000 in
theorem gX4_hear_X3_heardBy : GoodIn wsX4_hear (wsV RX4 132 RX3 yX3_heardBy wsX3_heardBy) := goodIn_app (goodIn_of _ (by decide +kernel)) ggX4_hear_X3_heardBy
set_option maxRecDepth 20000 in
theorem ggX4_hear_X3_clerkSays : GoodIn wsX4_hear wsX3_clerkSays := goodIn_r _ [44, 45, 40, 46, 47, 48, 10, 49, 50, 51, 52, 53, 54, 55, 56, 57, 58, 69, 70, 71, 72, 73, 74, 75, 76, 77, 78, 79, 80, 81, 82, 83, 84, 85, 86] (by decide +kernel) (by decide +kernel)
set_option maxRecDepth 20000 in
theorem gX4_hear_X3_clerkSays : GoodIn wsX4_hear (wsV RX4 135 RX3 yX3_clerkSays wsX3_clerkSays) := goodIn_app (goodIn_of _ (by decide +kernel)) ggX4_hear_X3_clerkSays
theorem dX4_hear_0 : decode cX4_hear 0 = .ok (.aload_n 0, 1) := by decide +kernel
theorem dX4_hear_1 : decode cX4_hear 1 = .ok (.iload_n 1, 1) := by decide +kernel
theorem dX4_hear_2 : decode cX4_hear 2 = .ok (.iload_n 2, 1) := by decide +kernel
theorem dX4_hear_3 : decode cX4_hear 3 = .ok (.invokevirtual 113, 3) := by decide +kernel
theorem dX4_hear_6 : decode cX4_hear 6 = .ok (.ifCond .ne 10, 3) := by decide +kernel
theorem dX4_hear_9 : decode cX4_hear 9 = .ok (.iload_n 3, 1) := by decide +kernel
theorem dX4_hear_10 : decode cX4_hear 10 = .ok (.invokestatic 92, 3) := by decide +kernel
theorem dX4_hear_13 : decode cX4_hear 13 = .ok (.ifCond .eq 9, 3) := by decide +kernel
theorem dX4_hear_16 : decode cX4_hear 16 = .ok (.aload_n 0, 1) := by decide +kernel
theorem dX4_hear_17 : decode cX4_hear 17 = .ok (.iconst 1, 1) := by decide +kernel
theorem dX4_hear_18 : decode cX4_hear 18 = .ok (.invokevirtual 60, 3) := by decide +kernel
theorem dX4_hear_21 : decode cX4_hear 21 = .ok (.ireturn, 1) := by decide +kernel
theorem dX4_hear_22 : decode cX4_hear 22 = .ok (.aload_n 0, 1) := by decide +kernel
theorem dX4_hear_23 : decode cX4_hear 23 = .ok (.getfield 10, 3) := by decide +kernel
theorem dX4_hear_26 : decode cX4_hear 26 = .ok (.iload_n 1, 1) := by decide +kernel
theorem dX4_hear_27 : decode cX4_hear 27 = .ok (.iload_n 2, 1) := by decide +kernel
theorem dX4_hear_28 : decode cX4_hear 28 = .ok (.invokevirtual 129, 3) := by decide +kernel
theorem dX4_hear_31 : decode cX4_hear 31 = .ok (.ifCond .ne 9, 3) := by decide +kernel
theorem dX4_hear_34 : decode cX4_hear 34 = .ok (.aload_n 0, 1) := by decide +kernel
theorem dX4_hear_35 : decode cX4_hear 35 = .ok (.iconst 3, 1) := by decide +kernel
theorem dX4_hear_36 : decode cX4_hear 36 = .ok (.invokevirtual 60, 3) := by decide +kernel
theorem dX4_hear_39 : decode cX4_hear 39 = .ok (.ireturn, 1) := by decide +kernel
theorem dX4_hear_40 : decode cX4_hear 40 = .ok (.aload_n 0, 1) := by decide +kernel
theorem dX4_hear_41 : decode cX4_hear 41 = .ok (.getfield 10, 3) := by decide +kernel
theorem dX4_hear_44 : decode cX4_hear 44 = .ok (.iload_n 1, 1) := by decide +kernel
theorem dX4_hear_45 : decode cX4_hear 45 = .ok (.iload_n 2, 1) := by decide +kernel
theorem dX4_hear_46 : decode cX4_hear 46 = .ok (.invokevirtual 132, 3) := by decide +kernel
theorem dX4_hear_49 : decode cX4_hear 49 = .ok (.iconst 3, 1) := by decide +kernel
theorem dX4_hear_50 : decode cX4_hear 50 = .ok (.if_icmp .lt 10, 3) := by decide +kernel
theorem dX4_hear_53 : decode cX4_hear 53 = .ok (.aload_n 0, 1) := by decide +kernel
theorem dX4_hear_54 : decode cX4_hear 54 = .ok (.bipush 6, 2) := by decide +kernel
theorem dX4_hear_56 : decode cX4_hear 56 = .ok (.invokevirtual 60, 3) := by decide +kernel
theorem dX4_hear_59 : decode cX4_hear 59 = .ok (.ireturn, 1) := by decide +kernel
theorem dX4_hear_60 : decode cX4_hear 60 = .ok (.aload_n 0, 1) := by decide +kernel
theorem dX4_hear_61 : decode cX4_hear 61 = .ok (.getfield 10, 3) := by decide +kernel
theorem dX4_hear_64 : decode cX4_hear 64 = .ok (.iload_n 1, 1) := by decide +kernel
theorem dX4_hear_65 : decode cX4_hear 65 = .ok (.iload_n 2, 1) := by decide +kernel
theorem dX4_hear_66 : decode cX4_hear 66 = .ok (.iload_n 3, 1) := by decide +kernel
theorem dX4_hear_67 : decode cX4_hear 67 = .ok (.invokevirtual 135, 3) := by decide +kernel
theorem dX4_hear_70 : decode cX4_hear 70 = .ok (.ireturn, 1) := by decide +kernel
set_option maxRecDepth 20000 in
theorem ggX4_weight_X4_isNoPair : GoodIn wsX4_weight wsX4_isNoPair := goodIn_r _ [6, 1, 7, 8, 9, 10, 11, 12, 13, 14, 15, 16, 17, 39, 40, 41, 42, 43, 44, 45, 46, 47, 48, 49, 50, 51, 52, 53, 54, 55, 56, 57, 58, 59, 60, 61, 62, 63, 64, 65, 66] (by decide +kernel) (by decide +kernel)
set_option maxRecDepth 20000 in
theorem gX4_weight_X4_isNoPair : GoodIn wsX4_weight (wsV RX4 113 RX4 yX4_isNoPair wsX4_isNoPair) := goodIn_app (goodIn_of _ (by decide +kernel)) ggX4_weight_X4_isNoPair
set_option maxRecDepth 20000 in
theorem ggX4_weight_X4_isNoThing : GoodIn wsX4_weight wsX4_isNoThing := goodIn_r _ [20] (by decide +kernel) (by decide +kernel)
set_option maxRecDepth 20000 in
theorem gX4_weight_X4_isNoThing : GoodIn wsX4_weight (va_wsS RX4 92 yX4_isNoThing wsX4_isNoThing) := goodIn_app (goodIn_of _ (by decide +kernel)) ggX4_weight_X4_isNoThing
set_option maxRecDepth 20000 in
theorem ggX4_weight_X4_refuseFarthest : GoodIn wsX4_weight wsX4_refuseFarthest := goodIn_r _ [24, 25, 26, 39, 40, 41, 42, 43, 44, 45, 46, 47, 48] (by decide +kernel) (by decide +kernel)
set_option maxRecDepth 20000 in
theorem gX4_weight_X4_refuseFarthest : GoodIn wsX4_weight (wsV RX4 139 RX4 yX4_refuseFarthest wsX4_refuseFarthest) := goodIn_app (goodIn_of _ (by decide +kernel)) ggX4_weight_X4_refuseFarthest
set_option maxRecDepth 20000 in
theorem ggX4_weight_X3_isBound : GoodIn wsX4_weight wsX3_isBound := goodIn_r _ [30, 31, 49, 50, 51, 52, 53, 54, 55, 56, 57, 58, 59, 60, 61, 62, 63, 64, 65, 66] (by decide +kernel) (by decide +kernel)
set_option maxRecDepth 20000 in
theorem gX4_weight_X3_isBound : GoodIn wsX4_weight (wsV RX4 143 RX3 yX3_isBound wsX3_isBound) := goodIn_app (goodIn_of _ (by decide +kernel)) ggX4_weight_X3_isBound
set_option maxRecDepth 20000 in
theorem ggX4_weight_X3_weightOf : GoodIn wsX4_weight wsX3_weightOf := goodIn_r _ [35, 36, 37, 38, 49, 50, 51, 52, 53, 54, 55, 56, 57, 58, 59, 60, 61, 62, 63, 64, 65, 66] (by decide +kernel) (by decide +kernel)
set_option maxRecDepth 20000 in
theorem gX4_weight_X3_weightOf : GoodIn wsX4_weight (wsV RX4 146 RX3 yX3_weightOf wsX3_weightOf) := goodIn_app (goodIn_of _ (by decide +kernel)) ggX4_weight_X3_weightOf
theorem dX4_weight_0 : decode cX4_weight 0 = .ok (.aload_n 0, 1) := by decide +kernel
theorem dX4_weight_1 : decode cX4_weight 1 = .ok (.iload_n 1, 1) := by decide +kernel
theorem dX4_weight_2 : decode cX4_weight 2 = .ok (.iload_n 2, 1) := by decide +kernel
theorem dX4_weight_3 : decode cX4_weight 3 = .ok (.invokevirtual 113, 3) := by decide +kernel
theorem dX4_weight_6 : decode cX4_weight 6 = .ok (.ifCond .ne 10, 3) := by decide +kernel
theorem dX4_weight_9 : decode cX4_weight 9 = .ok (.iload_n 3, 1) := by decide +kernel
theorem dX4_weight_10 : decode cX4_weight 10 = .ok (.invokestatic 92, 3) := by decide +kernel
theorem dX4_weight_13 : decode cX4_weight 13 = .ok (.ifCond .eq 9, 3) := by decide +kernel
theorem dX4_weight_16 : decode cX4_weight 16 = .ok (.aload_n 0, 1) := by decide +kernel
theorem dX4_weight_17 : decode cX4_weight 17 = .ok (.iconst 1, 1) := by decide +kernel
theorem dX4_weight_18 : decode cX4_weight 18 = .ok (.invokevirtual 139, 3) := by decide +kernel
theorem dX4_weight_21 : decode cX4_weight 21 = .ok (.lreturn, 1) := by decide +kernel
theorem dX4_weight_22 : decode cX4_weight 22 = .ok (.aload_n 0, 1) := by decide +kernel
theorem dX4_weight_23 : decode cX4_weight 23 = .ok (.getfield 10, 3) := by decide +kernel
theorem dX4_weight_26 : decode cX4_weight 26 = .ok (.iload_n 1, 1) := by decide +kernel
theorem dX4_weight_27 : decode cX4_weight 27 = .ok (.iload_n 2, 1) := by decide +kernel
theorem dX4_weight_28 : decode cX4_weight 28 = .ok (.invokevirtual 143, 3) := by decide +kernel
theorem dX4_weight_31 : decode cX4_weight 31 = .ok (.ifCond .ne 9, 3) := by decide +kernel
theorem dX4_weight_34 : decode cX4_weight 34 = .ok (.aload_n 0, 1) := by decide +kernel
theorem dX4_weight_35 : decode cX4_weight 35 = .ok (.iconst 3, 1) := by decide +kernel
theorem dX4_weight_36 : decode cX4_weight 36 = .ok (.invokevirtual 139, 3) := by decide +kernel
theorem dX4_weight_39 : decode cX4_weight 39 = .ok (.lreturn, 1) := by decide +kernel
theorem dX4_weight_40 : decode cX4_weight 40 = .ok (.aload_n 0, 1) := by decide +kernel
theorem dX4_weight_41 : decode cX4_weight 41 = .ok (.getfield 10, 3) := by decide +kernel
theorem dX4_weight_44 : decode cX4_weight 44 = .ok (.iload_n 1, 1) := by decide +kernel
theorem dX4_weight_45 : decode cX4_weight 45 = .ok (.iload_n 2, 1) := by decide +kernel
theorem dX4_weight_46 : decode cX4_weight 46 = .ok (.iload_n 3, 1) := by decide +kernel
theorem dX4_weight_47 : decode cX4_weight 47 = .ok (.invokevirtual 146, 3) := by decide +kernel
theorem dX4_weight_50 : decode cX4_weight 50 = .ok (.lreturn, 1) := by decide +kernel
set_option maxRecDepth 20000 in
theorem ggX4_think_X4_isNoPair : GoodIn wsX4_think wsX4_isNoPair := goodIn_r _ [7, 1, 8, 9, 10, 11, 12, 13, 14, 15, 16, 17, 18, 67, 68, 69, 70, 71, 72, 73, 74, 75, 76, 77, 78, 79, 80, 81, 82, 83, 84, 85, 86, 87, 88, 89, 90, 91, 92, 93, 94] (by decide +kernel) (by decide +kernel)
set_option maxRecDepth 20000 in
theorem gX4_think_X4_isNoPair : GoodIn wsX4_think (wsV RX4 113 RX4 yX4_isNoPair wsX4_isNoPair) := goodIn_app (goodIn_of _ (by decide +kernel)) ggX4_think_X4_isNoPair
set_option maxRecDepth 20000 in
theorem ggX4_think_X4_refuseFarthest : GoodIn wsX4_think wsX4_refuseFarthest := goodIn_r _ [22, 23, 24, 67, 68, 69, 70, 71, 72, 73, 74, 75, 76] (by decide +kernel) (by decide +kernel)
set_option maxRecDepth 20000 in
theorem gX4_think_X4_refuseFarthest : GoodIn wsX4_think (wsV RX4 139 RX4 yX4_refuseFarthest wsX4_refuseFarthest) := goodIn_app (goodIn_of _ (by decide +kernel)) ggX4_think_X4_refuseFarthest
set_option maxRecDepth 20000 in
theorem ggX4_think_X4_isNoPart : GoodIn wsX4_think wsX4_isNoPart := goodIn_r _ [27] (by decide +kernel) (by decide +kernel)
set_option maxRecDepth 20000 in
theorem gX4_think_X4_isNoPart : GoodIn wsX4_think (va_wsS RX4 150 yX4_isNoPart wsX4_isNoPart) := goodIn_app (goodIn_of _ (by decide +kernel)) ggX4_think_X4_isNoPart
set_option maxRecDepth 20000 in
theorem ggX4_think_X3_isBound : GoodIn wsX4_think wsX3_isBound := goodIn_r _ [31, 32, 77, 78, 79, 80, 81, 82, 83, 84, 85, 86, 87, 88, 89, 90, 91, 92, 93, 94] (by decide +kernel) (by decide +kernel)
set_option maxRecDepth 20000 in
theorem gX4_think_X3_isBound : GoodIn wsX4_think (wsV RX4 143 RX3 yX3_isBound wsX3_isBound) := goodIn_app (goodIn_of _ (by decide +kernel)) ggX4_think_X3_isBound
set_option maxRecDepth 20000 in
theorem ggX4_think_X3_thinkAbove : GoodIn wsX4_think wsX3_thinkAbove := goodIn_r _ [36, 37, 38, 39, 40, 11, 41, 42, 43, 44, 77, 78, 79, 80, 81, 82, 83, 84, 85, 86, 87, 88, 89, 90, 91, 92, 93, 94] (by decide +kernel) (by decide +kernel)
set_option maxRecDepth 20000 in
theorem gX4_think_X3_thinkAbove : GoodIn wsX4_think (wsV RX4 153 RX3 yX3_thinkAbove wsX3_thinkAbove) := goodIn_app (goodIn_of _ (by decide +kernel)) ggX4_think_X3_thinkAbove
set_option maxRecDepth 20000 in
theorem ggX4_think_X3_thinkBelow : GoodIn wsX4_think wsX3_thinkBelow := goodIn_r _ [48, 38, 39, 40, 11, 41, 42, 43, 44, 77, 78, 79, 80, 81, 82, 83, 84, 85, 86, 87, 88, 89, 90, 91, 92, 93, 94] (by decide +kernel) (by decide +kernel)
set_option maxRecDepth 20000 in
theorem gX4_think_X3_thinkBelow : GoodIn wsX4_think (wsV RX4 157 RX3 yX3_thinkBelow wsX3_thinkBelow) := goodIn_app (goodIn_of _ (by decide +kernel)) ggX4_think_X3_thinkBelow
set_option maxRecDepth 20000 in
theorem ggX4_think_X2_become : GoodIn wsX4_think wsX2_become := goodIn_r _ [53, 54, 55, 56, 57, 58, 59, 60, 61, 52, 62, 95, 96] (by decide +kernel) (by decide +kernel)
set_option maxRecDepth 20000 in
theorem gX4_think_X2_become : GoodIn wsX4_think (wsV RX4 160 RX2 yX2_become wsX2_become) := goodIn_app (goodIn_of _ (by decide +kernel)) ggX4_think_X2_become
set_option maxRecDepth 20000 in
theorem ggX4_think_X2_partOf : GoodIn wsX4_think wsX2_partOf := goodIn_r _ [66, 58, 59, 95, 96] (by decide +kernel) (by decide +kernel)
set_option maxRecDepth 20000 in
theorem gX4_think_X2_partOf : GoodIn wsX4_think (wsV RX4 164 RX2 yX2_partOf wsX2_partOf) := goodIn_app (goodIn_of _ (by decide +kernel)) ggX4_think_X2_partOf
theorem dX4_think_0 : decode cX4_think 0 = .ok (.aload_n 0, 1) := by decide +kernel
theorem dX4_think_1 : decode cX4_think 1 = .ok (.iload_n 1, 1) := by decide +kernel
theorem dX4_think_2 : decode cX4_think 2 = .ok (.iload_n 2, 1) := by decide +kernel
theorem dX4_think_3 : decode cX4_think 3 = .ok (.invokevirtual 113, 3) := by decide +kernel
theorem dX4_think_6 : decode cX4_think 6 = .ok (.ifCond .eq 9, 3) := by decide +kernel
theorem dX4_think_9 : decode cX4_think 9 = .ok (.aload_n 0, 1) := by decide +kernel
theorem dX4_think_10 : decode cX4_think 10 = .ok (.iconst 1, 1) := by decide +kernel
theorem dX4_think_11 : decode cX4_think 11 = .ok (.invokevirtual 139, 3) := by decide +kernel
theorem dX4_think_14 : decode cX4_think 14 = .ok (.lreturn, 1) := by decide +kernel
theorem dX4_think_15 : decode cX4_think 15 = .ok (.iload_n 3, 1) := by decide +kernel
theorem dX4_think_16 : decode cX4_think 16 = .ok (.invokestatic 150, 3) := by decide +kernel
theorem dX4_think_19 : decode cX4_think 19 = .ok (.ifCond .eq 9, 3) := by decide +kernel
theorem dX4_think_22 : decode cX4_think 22 = .ok (.aload_n 0, 1) := by decide +kernel
theorem dX4_think_23 : decode cX4_think 23 = .ok (.iconst 2, 1) := by decide +kernel
theorem dX4_think_24 : decode cX4_think 24 = .ok (.invokevirtual 139, 3) := by decide +kernel
theorem dX4_think_27 : decode cX4_think 27 = .ok (.lreturn, 1) := by decide +kernel
theorem dX4_think_28 : decode cX4_think 28 = .ok (.aload_n 0, 1) := by decide +kernel
theorem dX4_think_29 : decode cX4_think 29 = .ok (.getfield 10, 3) := by decide +kernel
theorem dX4_think_32 : decode cX4_think 32 = .ok (.iload_n 1, 1) := by decide +kernel
theorem dX4_think_33 : decode cX4_think 33 = .ok (.iload_n 2, 1) := by decide +kernel
theorem dX4_think_34 : decode cX4_think 34 = .ok (.invokevirtual 143, 3) := by decide +kernel
theorem dX4_think_37 : decode cX4_think 37 = .ok (.ifCond .ne 9, 3) := by decide +kernel
theorem dX4_think_40 : decode cX4_think 40 = .ok (.aload_n 0, 1) := by decide +kernel
theorem dX4_think_41 : decode cX4_think 41 = .ok (.iconst 3, 1) := by decide +kernel
theorem dX4_think_42 : decode cX4_think 42 = .ok (.invokevirtual 139, 3) := by decide +kernel
theorem dX4_think_45 : decode cX4_think 45 = .ok (.lreturn, 1) := by decide +kernel
theorem dX4_think_46 : decode cX4_think 46 = .ok (.aload_n 0, 1) := by decide +kernel
theorem dX4_think_47 : decode cX4_think 47 = .ok (.getfield 45, 3) := by decide +kernel
theorem dX4_think_50 : decode cX4_think 50 = .ok (.aload_n 0, 1) := by decide +kernel
theorem dX4_think_51 : decode cX4_think 51 = .ok (.getfield 10, 3) := by decide +kernel
theorem dX4_think_54 : decode cX4_think 54 = .ok (.iload_n 1, 1) := by decide +kernel
theorem dX4_think_55 : decode cX4_think 55 = .ok (.iload_n 2, 1) := by decide +kernel
theorem dX4_think_56 : decode cX4_think 56 = .ok (.invokevirtual 153, 3) := by decide +kernel
theorem dX4_think_59 : decode cX4_think 59 = .ok (.aload_n 0, 1) := by decide +kernel
theorem dX4_think_60 : decode cX4_think 60 = .ok (.getfield 10, 3) := by decide +kernel
theorem dX4_think_63 : decode cX4_think 63 = .ok (.iload_n 1, 1) := by decide +kernel
theorem dX4_think_64 : decode cX4_think 64 = .ok (.iload_n 2, 1) := by decide +kernel
theorem dX4_think_65 : decode cX4_think 65 = .ok (.invokevirtual 157, 3) := by decide +kernel
theorem dX4_think_68 : decode cX4_think 68 = .ok (.invokevirtual 160, 3) := by decide +kernel
theorem dX4_think_71 : decode cX4_think 71 = .ok (.aload_n 0, 1) := by decide +kernel
theorem dX4_think_72 : decode cX4_think 72 = .ok (.getfield 45, 3) := by decide +kernel
theorem dX4_think_75 : decode cX4_think 75 = .ok (.iload_n 3, 1) := by decide +kernel
theorem dX4_think_76 : decode cX4_think 76 = .ok (.invokevirtual 164, 3) := by decide +kernel
theorem dX4_think_79 : decode cX4_think 79 = .ok (.lreturn, 1) := by decide +kernel
set_option maxRecDepth 20000 in
theorem ggX4_weeks_X4_whyNotSoMany : GoodIn wsX4_weeks wsX4_whyNotSoMany := goodIn_r _ [5] (by decide +kernel) (by decide +kernel)
set_option maxRecDepth 20000 in
theorem gX4_weeks_X4_whyNotSoMany : GoodIn wsX4_weeks (va_wsS RX4 167 yX4_whyNotSoMany wsX4_whyNotSoMany) := goodIn_app (goodIn_of _ (by decide +kernel)) ggX4_weeks_X4_whyNotSoMany
set_option maxRecDepth 20000 in
theorem ggX4_weeks_X4_refuse : GoodIn wsX4_weeks wsX4_refuse := goodIn_r _ [9, 10, 106, 107, 108, 109, 110, 111, 112, 113, 114, 115] (by decide +kernel) (by decide +kernel)
set_option maxRecDepth 20000 in
theorem gX4_weeks_X4_refuse : GoodIn wsX4_weeks (wsV RX4 60 RX4 yX4_refuse wsX4_refuse) := goodIn_app (goodIn_of _ (by decide +kernel)) ggX4_weeks_X4_refuse
set_option maxRecDepth 20000 in
theorem ggX4_weeks_X3_passWeek : GoodIn wsX4_weeks wsX3_passWeek := goodIn_r _ [15, 16, 17, 18, 19, 14, 20, 21, 22, 23, 24, 25, 26, 27, 28, 29, 30, 31, 32, 33, 34, 35, 36, 37, 38, 39, 40, 41, 42, 43, 44, 45, 46, 47, 48, 49, 50, 51, 52, 53, 54, 55, 56, 57, 58, 59, 60, 61, 62, 63, 64, 65, 66, 67, 68, 69, 70, 71, 72, 73, 74, 75, 76, 77, 78, 79, 80, 81, 82, 83, 84, 85, 86, 87, 88, 89, 90, 91, 92, 93, 94, 95, 96, 97, 98, 99, 100, 101, 116, 117, 118, 119, 120, 121, 122, 123, 124, 125, 126, 127, 128, 129, 130, 131, 132, 133] (by decide +kernel) (by decide +kernel)
set_option maxRecDepth 20000 in
theorem gX4_weeks_X3_passWeek : GoodIn wsX4_weeks (wsV RX4 170 RX3 yX3_passWeek wsX3_passWeek) := goodIn_app (goodIn_of _ (by decide +kernel)) ggX4_weeks_X3_passWeek
set_option maxRecDepth 20000 in
theorem ggX4_weeks_X3_weekNow : GoodIn wsX4_weeks wsX3_weekNow := goodIn_r _ [105, 65, 116, 117, 118, 119, 120, 121, 122, 123, 124, 125, 126, 127, 128, 129, 130, 131, 132, 133] (by decide +kernel) (by decide +kernel)
set_option maxRecDepth 20000 in
theorem gX4_weeks_X3_weekNow : GoodIn wsX4_weeks (wsV RX4 173 RX3 yX3_weekNow wsX3_weekNow) := goodIn_app (goodIn_of _ (by decide +kernel)) ggX4_weeks_X3_weekNow
theorem dX4_weeks_0 : decode cX4_weeks 0 = .ok (.iload_n 1, 1) := by decide +kernel
theorem dX4_weeks_1 : decode cX4_weeks 1 = .ok (.bipush 99, 2) := by decide +kernel
theorem dX4_weeks_3 : decode cX4_weeks 3 = .ok (.invokestatic 167, 3) := by decide +kernel
theorem dX4_weeks_6 : decode cX4_weeks 6 = .ok (.istore_n 2, 1) := by decide +kernel
theorem dX4_weeks_7 : decode cX4_weeks 7 = .ok (.iload_n 2, 1) := by decide +kernel
theorem dX4_weeks_8 : decode cX4_weeks 8 = .ok (.ifCond .eq 9, 3) := by decide +kernel
theorem dX4_weeks_11 : decode cX4_weeks 11 = .ok (.aload_n 0, 1) := by decide +kernel
theorem dX4_weeks_12 : decode cX4_weeks 12 = .ok (.iload_n 2, 1) := by decide +kernel
theorem dX4_weeks_13 : decode cX4_weeks 13 = .ok (.invokevirtual 60, 3) := by decide +kernel
theorem dX4_weeks_16 : decode cX4_weeks 16 = .ok (.ireturn, 1) := by decide +kernel
theorem dX4_weeks_17 : decode cX4_weeks 17 = .ok (.iconst 0, 1) := by decide +kernel
theorem dX4_weeks_18 : decode cX4_weeks 18 = .ok (.istore_n 3, 1) := by decide +kernel
theorem dX4_weeks_19 : decode cX4_weeks 19 = .ok (.iload_n 3, 1) := by decide +kernel
theorem dX4_weeks_20 : decode cX4_weeks 20 = .ok (.iload_n 1, 1) := by decide +kernel
theorem dX4_weeks_21 : decode cX4_weeks 21 = .ok (.if_icmp .ge 16, 3) := by decide +kernel
theorem dX4_weeks_24 : decode cX4_weeks 24 = .ok (.aload_n 0, 1) := by decide +kernel
theorem dX4_weeks_25 : decode cX4_weeks 25 = .ok (.getfield 10, 3) := by decide +kernel
theorem dX4_weeks_28 : decode cX4_weeks 28 = .ok (.invokevirtual 170, 3) := by decide +kernel
theorem dX4_weeks_31 : decode cX4_weeks 31 = .ok (.iinc 3 1, 3) := by decide +kernel
theorem dX4_weeks_34 : decode cX4_weeks 34 = .ok (.goto (-15), 3) := by decide +kernel
theorem dX4_weeks_37 : decode cX4_weeks 37 = .ok (.aload_n 0, 1) := by decide +kernel
theorem dX4_weeks_38 : decode cX4_weeks 38 = .ok (.getfield 10, 3) := by decide +kernel
theorem dX4_weeks_41 : decode cX4_weeks 41 = .ok (.invokevirtual 173, 3) := by decide +kernel
theorem dX4_weeks_44 : decode cX4_weeks 44 = .ok (.ireturn, 1) := by decide +kernel
set_option maxRecDepth 20000 in
theorem ggX4_had_X3_hasPerson : GoodIn wsX4_had wsX3_hasPerson := goodIn_r _ [6, 7, 30, 31, 32, 33, 34, 35, 36, 37, 38, 39, 40, 41, 42, 43, 44, 45, 46, 47] (by decide +kernel) (by decide +kernel)
set_option maxRecDepth 20000 in
theorem gX4_had_X3_hasPerson : GoodIn wsX4_had (wsV RX4 78 RX3 yX3_hasPerson wsX3_hasPerson) := goodIn_app (goodIn_of _ (by decide +kernel)) ggX4_had_X3_hasPerson
set_option maxRecDepth 20000 in
theorem ggX4_had_X4_refuseFar : GoodIn wsX4_had wsX4_refuseFar := goodIn_r _ [12, 13, 14, 20, 21, 22, 23, 24, 25, 26, 27, 28, 29] (by decide +kernel) (by decide +kernel)
set_option maxRecDepth 20000 in
theorem gX4_had_X4_refuseFar : GoodIn wsX4_had (wsV RX4 95 RX4 yX4_refuseFar wsX4_refuseFar) := goodIn_app (goodIn_of _ (by decide +kernel)) ggX4_had_X4_refuseFar
set_option maxRecDepth 20000 in
theorem ggX4_had_X3_hadBy : GoodIn wsX4_had wsX3_hadBy := goodIn_r _ [18, 19, 30, 31, 32, 33, 34, 35, 36, 37, 38, 39, 40, 41, 42, 43, 44, 45, 46, 47] (by decide +kernel) (by decide +kernel)
set_option maxRecDepth 20000 in
theorem gX4_had_X3_hadBy : GoodIn wsX4_had (wsV RX4 176 RX3 yX3_hadBy wsX3_hadBy) := goodIn_app (goodIn_of _ (by decide +kernel)) ggX4_had_X3_hadBy
theorem dX4_had_0 : decode cX4_had 0 = .ok (.aload_n 0, 1) := by decide +kernel
theorem dX4_had_1 : decode cX4_had 1 = .ok (.getfield 10, 3) := by decide +kernel
theorem dX4_had_4 : decode cX4_had 4 = .ok (.iload_n 1, 1) := by decide +kernel
theorem dX4_had_5 : decode cX4_had 5 = .ok (.invokevirtual 78, 3) := by decide +kernel
theorem dX4_had_8 : decode cX4_had 8 = .ok (.ifCond .ne 9, 3) := by decide +kernel
theorem dX4_had_11 : decode cX4_had 11 = .ok (.aload_n 0, 1) := by decide +kernel
theorem dX4_had_12 : decode cX4_had 12 = .ok (.iconst 1, 1) := by decide +kernel
theorem dX4_had_13 : decode cX4_had 13 = .ok (.invokevirtual 95, 3) := by decide +kernel
theorem dX4_had_16 : decode cX4_had 16 = .ok (.ireturn, 1) := by decide +kernel
theorem dX4_had_17 : decode cX4_had 17 = .ok (.aload_n 0, 1) := by decide +kernel
theorem dX4_had_18 : decode cX4_had 18 = .ok (.getfield 10, 3) := by decide +kernel
theorem dX4_had_21 : decode cX4_had 21 = .ok (.iload_n 1, 1) := by decide +kernel
theorem dX4_had_22 : decode cX4_had 22 = .ok (.invokevirtual 176, 3) := by decide +kernel
theorem dX4_had_25 : decode cX4_had 25 = .ok (.ireturn, 1) := by decide +kernel
set_option maxRecDepth 20000 in
theorem ggX4_liars_X3_hasPaper : GoodIn wsX4_liars wsX3_hasPaper := goodIn_r _ [6, 7, 30, 31, 32, 33, 34, 35, 36, 37, 38, 39, 40, 41, 42, 43, 44, 45, 46, 47] (by decide +kernel) (by decide +kernel)
set_option maxRecDepth 20000 in
theorem gX4_liars_X3_hasPaper : GoodIn wsX4_liars (wsV RX4 86 RX3 yX3_hasPaper wsX3_hasPaper) := goodIn_app (goodIn_of _ (by decide +kernel)) ggX4_liars_X3_hasPaper
set_option maxRecDepth 20000 in
theorem ggX4_liars_X4_refuse : GoodIn wsX4_liars wsX4_refuse := goodIn_r _ [12, 13, 20, 21, 22, 23, 24, 25, 26, 27, 28, 29] (by decide +kernel) (by decide +kernel)
set_option maxRecDepth 20000 in
theorem gX4_liars_X4_refuse : GoodIn wsX4_liars (wsV RX4 60 RX4 yX4_refuse wsX4_refuse) := goodIn_app (goodIn_of _ (by decide +kernel)) ggX4_liars_X4_refuse
set_option maxRecDepth 20000 in
theorem ggX4_liars_X3_liarsOf : GoodIn wsX4_liars wsX3_liarsOf := goodIn_r _ [17, 18, 19, 30, 31, 32, 33, 34, 35, 36, 37, 38, 39, 40, 41, 42, 43, 44, 45, 46, 47] (by decide +kernel) (by decide +kernel)
set_option maxRecDepth 20000 in
theorem gX4_liars_X3_liarsOf : GoodIn wsX4_liars (wsV RX4 179 RX3 yX3_liarsOf wsX3_liarsOf) := goodIn_app (goodIn_of _ (by decide +kernel)) ggX4_liars_X3_liarsOf
theorem dX4_liars_0 : decode cX4_liars 0 = .ok (.aload_n 0, 1) := by decide +kernel
theorem dX4_liars_1 : decode cX4_liars 1 = .ok (.getfield 10, 3) := by decide +kernel
theorem dX4_liars_4 : decode cX4_liars 4 = .ok (.iload_n 1, 1) := by decide +kernel
theorem dX4_liars_5 : decode cX4_liars 5 = .ok (.invokevirtual 86, 3) := by decide +kernel
theorem dX4_liars_8 : decode cX4_liars 8 = .ok (.ifCond .ne 9, 3) := by decide +kernel
theorem dX4_liars_11 : decode cX4_liars 11 = .ok (.aload_n 0, 1) := by decide +kernel
theorem dX4_liars_12 : decode cX4_liars 12 = .ok (.iconst 1, 1) := by decide +kernel
theorem dX4_liars_13 : decode cX4_liars 13 = .ok (.invokevirtual 60, 3) := by decide +kernel
theorem dX4_liars_16 : decode cX4_liars 16 = .ok (.ireturn, 1) := by decide +kernel
theorem dX4_liars_17 : decode cX4_liars 17 = .ok (.aload_n 0, 1) := by decide +kernel
theorem dX4_liars_18 : decode cX4_liars 18 = .ok (.getfield 10, 3) := by decide +kernel
theorem dX4_liars_21 : decode cX4_liars 21 = .ok (.iload_n 1, 1) := by decide +kernel
theorem dX4_liars_22 : decode cX4_liars 22 = .ok (.invokevirtual 179, 3) := by decide +kernel
theorem dX4_liars_25 : decode cX4_liars 25 = .ok (.ireturn, 1) := by decide +kernel
set_option maxRecDepth 20000 in
theorem ggX4_when_X4_isNoPair : GoodIn wsX4_when wsX4_isNoPair := goodIn_r _ [6, 7, 8, 9, 10, 11, 12, 13, 14, 15, 16, 17, 18, 141, 142, 143, 144, 145, 146, 147, 148, 149, 150, 151, 152, 153, 154, 155, 156, 157, 158, 159, 160, 161, 162, 163, 164, 165, 166, 167, 168] (by decide +kernel) (by decide +kernel)
set_option maxRecDepth 20000 in
theorem gX4_when_X4_isNoPair : GoodIn wsX4_when (wsV RX4 113 RX4 yX4_isNoPair wsX4_isNoPair) := goodIn_app (goodIn_of _ (by decide +kernel)) ggX4_when_X4_isNoPair
set_option maxRecDepth 20000 in
theorem ggX4_when_X4_refuse : GoodIn wsX4_when wsX4_refuse := goodIn_r _ [22, 23, 141, 142, 143, 144, 145, 146, 147, 148, 149, 150] (by decide +kernel) (by decide +kernel)
set_option maxRecDepth 20000 in
theorem gX4_when_X4_refuse : GoodIn wsX4_when (wsV RX4 60 RX4 yX4_refuse wsX4_refuse) := goodIn_app (goodIn_of _ (by decide +kernel)) ggX4_when_X4_refuse
set_option maxRecDepth 20000 in
theorem ggX4_when_X4_whyNotWhen : GoodIn wsX4_when wsX4_whyNotWhen := goodIn_r _ [27, 7, 28, 29, 5, 30, 31, 32, 33, 11, 34, 35, 36, 37, 38, 39, 40, 141, 142, 143, 144, 145, 146, 147, 148, 149, 150, 151, 152, 153, 154, 155, 156, 157, 158, 159, 160, 161, 162, 163, 164, 165, 166, 167, 168] (by decide +kernel) (by decide +kernel)
set_option maxRecDepth 20000 in
theorem gX4_when_X4_whyNotWhen : GoodIn wsX4_when (wsV RX4 182 RX4 yX4_whyNotWhen wsX4_whyNotWhen) := goodIn_app (goodIn_of _ (by decide +kernel)) ggX4_when_X4_whyNotWhen
set_option maxRecDepth 20000 in
theorem ggX4_when_X1_bestWeek : GoodIn wsX4_when wsX1_bestWeek := goodIn_r _ [45, 46, 47, 48, 49, 11, 50, 51, 52, 53, 54, 55, 40, 56, 57, 58, 59, 60, 44, 61, 62, 63, 64, 65, 66, 13, 18, 67, 68, 69, 70, 71, 72, 73, 74, 75, 76, 77, 39, 78, 79, 80, 81, 82, 83, 84, 85, 86, 32, 33, 34, 35, 36, 37, 38, 87, 88, 89, 90, 91, 92, 93, 94, 95, 96, 97, 98, 99, 100, 101, 102, 103, 104, 105, 106, 107, 108, 109, 110, 111, 112, 113, 114, 115, 116, 117, 118, 119, 120, 121, 122, 123, 124, 125, 126, 127, 128, 129, 130, 131, 132, 133, 134, 135, 136, 137, 138, 139, 140, 169, 170, 171, 151, 152, 153, 154, 155, 156, 157, 158, 159, 160, 161, 162, 163, 164, 165, 166, 167, 168] (by decide +kernel) (by decide +kernel)
set_option maxRecDepth 20000 in
theorem gX4_when_X1_bestWeek : GoodIn wsX4_when (wsV RX4 185 RX1 yX1_bestWeek wsX1_bestWeek) := goodIn_app (goodIn_of _ (by decide +kernel)) ggX4_when_X1_bestWeek
theorem dX4_when_0 : decode cX4_when 0 = .ok (.aload_n 0, 1) := by decide +kernel
theorem dX4_when_1 : decode cX4_when 1 = .ok (.iload_n 1, 1) := by decide +kernel
theorem dX4_when_2 : decode cX4_when 2 = .ok (.iload_n 2, 1) := by decide +kernel
theorem dX4_when_3 : decode cX4_when 3 = .ok (.invokevirtual 113, 3) := by decide +kernel
theorem dX4_when_6 : decode cX4_when 6 = .ok (.ifCond .eq 9, 3) := by decide +kernel
theorem dX4_when_9 : decode cX4_when 9 = .ok (.aload_n 0, 1) := by decide +kernel
theorem dX4_when_10 : decode cX4_when 10 = .ok (.iconst 1, 1) := by decide +kernel
theorem dX4_when_11 : decode cX4_when 11 = .ok (.invokevirtual 60, 3) := by decide +kernel
theorem dX4_when_14 : decode cX4_when 14 = .ok (.ireturn, 1) := by decide +kernel
theorem dX4_when_15 : decode cX4_when 15 = .ok (.aload_n 0, 1) := by decide +kernel
theorem dX4_when_16 : decode cX4_when 16 = .ok (.iload_n 1, 1) := by decide +kernel
theorem dX4_when_17 : decode cX4_when 17 = .ok (.iload_n 2, 1) := by decide +kernel
theorem dX4_when_18 : decode cX4_when 18 = .ok (.iload_n 3, 1) := by decide +kernel
theorem dX4_when_19 : decode cX4_when 19 = .ok (.invokevirtual 182, 3) := by decide +kernel
theorem dX4_when_22 : decode cX4_when 22 = .ok (.istore 4, 2) := by decide +kernel
theorem dX4_when_24 : decode cX4_when 24 = .ok (.iload 4, 2) := by decide +kernel
theorem dX4_when_26 : decode cX4_when 26 = .ok (.ifCond .eq 10, 3) := by decide +kernel
theorem dX4_when_29 : decode cX4_when 29 = .ok (.aload_n 0, 1) := by decide +kernel
theorem dX4_when_30 : decode cX4_when 30 = .ok (.iload 4, 2) := by decide +kernel
theorem dX4_when_32 : decode cX4_when 32 = .ok (.invokevirtual 60, 3) := by decide +kernel
theorem dX4_when_35 : decode cX4_when 35 = .ok (.ireturn, 1) := by decide +kernel
theorem dX4_when_36 : decode cX4_when 36 = .ok (.aload_n 0, 1) := by decide +kernel
theorem dX4_when_37 : decode cX4_when 37 = .ok (.getfield 38, 3) := by decide +kernel
theorem dX4_when_40 : decode cX4_when 40 = .ok (.iload_n 1, 1) := by decide +kernel
theorem dX4_when_41 : decode cX4_when 41 = .ok (.iload_n 2, 1) := by decide +kernel
theorem dX4_when_42 : decode cX4_when 42 = .ok (.iload_n 3, 1) := by decide +kernel
theorem dX4_when_43 : decode cX4_when 43 = .ok (.invokevirtual 185, 3) := by decide +kernel
theorem dX4_when_46 : decode cX4_when 46 = .ok (.ireturn, 1) := by decide +kernel
set_option maxRecDepth 20000 in
theorem ggX4_mean_X4_isNoPair : GoodIn wsX4_mean wsX4_isNoPair := goodIn_r _ [8, 3, 9, 10, 11, 12, 13, 14, 15, 16, 17, 18, 19, 166, 167, 168, 169, 170, 171, 172, 173, 174, 175, 176, 177, 178, 179, 180, 181, 182, 183, 184, 185, 186, 187, 188, 189, 190, 191, 192, 193] (by decide +kernel) (by decide +kernel)
set_option maxRecDepth 20000 in
theorem gX4_mean_X4_isNoPair : GoodIn wsX4_mean (wsV RX4 113 RX4 yX4_isNoPair wsX4_isNoPair) := goodIn_app (goodIn_of _ (by decide +kernel)) ggX4_mean_X4_isNoPair
set_option maxRecDepth 20000 in
theorem ggX4_mean_X4_refuseFarthest : GoodIn wsX4_mean wsX4_refuseFarthest := goodIn_r _ [23, 24, 25, 166, 167, 168, 169, 170, 171, 172, 173, 174, 175] (by decide +kernel) (by decide +kernel)
set_option maxRecDepth 20000 in
theorem gX4_mean_X4_refuseFarthest : GoodIn wsX4_mean (wsV RX4 139 RX4 yX4_refuseFarthest wsX4_refuseFarthest) := goodIn_app (goodIn_of _ (by decide +kernel)) ggX4_mean_X4_refuseFarthest
set_option maxRecDepth 20000 in
theorem ggX4_mean_X4_isNoPart : GoodIn wsX4_mean wsX4_isNoPart := goodIn_r _ [28] (by decide +kernel) (by decide +kernel)
set_option maxRecDepth 20000 in
theorem gX4_mean_X4_isNoPart : GoodIn wsX4_mean (va_wsS RX4 150 yX4_isNoPart wsX4_isNoPart) := goodIn_app (goodIn_of _ (by decide +kernel)) ggX4_mean_X4_isNoPart
set_option maxRecDepth 20000 in
theorem ggX4_mean_X4_whyNotWhen : GoodIn wsX4_mean wsX4_whyNotWhen := goodIn_r _ [32, 3, 33, 34, 7, 35, 36, 37, 38, 12, 39, 40, 41, 42, 43, 44, 45, 166, 167, 168, 169, 170, 171, 172, 173, 174, 175, 176, 177, 178, 179, 180, 181, 182, 183, 184, 185, 186, 187, 188, 189, 190, 191, 192, 193] (by decide +kernel) (by decide +kernel)
set_option maxRecDepth 20000 in
theorem gX4_mean_X4_whyNotWhen : GoodIn wsX4_mean (wsV RX4 182 RX4 yX4_whyNotWhen wsX4_whyNotWhen) := goodIn_app (goodIn_of _ (by decide +kernel)) ggX4_mean_X4_whyNotWhen
set_option maxRecDepth 20000 in
theorem ggX4_mean_X1_bestWeek : GoodIn wsX4_mean wsX1_bestWeek := goodIn_r _ [50, 51, 52, 53, 54, 12, 55, 56, 57, 58, 59, 60, 45, 61, 62, 63, 64, 65, 49, 66, 67, 68, 69, 70, 71, 14, 19, 72, 73, 74, 75, 76, 77, 78, 79, 80, 81, 82, 44, 83, 84, 85, 86, 87, 88, 89, 90, 91, 37, 38, 39, 40, 41, 42, 43, 92, 93, 94, 95, 96, 97, 98, 99, 100, 101, 102, 103, 104, 105, 106, 107, 108, 109, 110, 111, 112, 113, 114, 115, 116, 117, 118, 119, 120, 121, 122, 123, 124, 125, 126, 127, 128, 129, 130, 131, 132, 133, 134, 135, 136, 137, 138, 139, 140, 141, 142, 143, 144, 145, 194, 195, 196, 176, 177, 178, 179, 180, 181, 182, 183, 184, 185, 186, 187, 188, 189, 190, 191, 192, 193] (by decide +kernel) (by decide +kernel)
set_option maxRecDepth 20000 in
theorem gX4_mean_X1_bestWeek : GoodIn wsX4_mean (wsV RX4 185 RX1 yX1_bestWeek wsX1_bestWeek) := goodIn_app (goodIn_of _ (by decide +kernel)) ggX4_mean_X1_bestWeek
set_option maxRecDepth 20000 in
theorem ggX4_mean_X1_lastsIfReadAt : GoodIn wsX4_mean wsX1_lastsIfReadAt := goodIn_r _ [66, 67, 51, 68, 69, 70, 12, 71, 14, 19, 72, 73, 74, 75, 76, 77, 78, 79, 80, 81, 82, 44, 45, 83, 61, 84, 85, 56, 86, 62, 87, 88, 89, 90, 91, 37, 38, 39, 40, 41, 42, 43, 92, 93, 94, 95, 96, 97, 98, 99, 100, 101, 102, 103, 104, 105, 106, 107, 108, 109, 110, 111, 112, 113, 114, 115, 116, 117, 118, 119, 120, 121, 122, 123, 124, 125, 126, 127, 128, 53, 54, 55, 57, 58, 59, 60, 129, 130, 131, 132, 133, 134, 135, 136, 137, 138, 139, 140, 141, 142, 143, 144, 145, 194, 195, 196, 176, 177, 178, 179, 180, 181, 182, 183, 184, 185, 186, 187, 188, 189, 190, 191, 192, 193] (by decide +kernel) (by decide +kernel)
set_option maxRecDepth 20000 in
theorem gX4_mean_X1_lastsIfReadAt : GoodIn wsX4_mean (wsV RX4 188 RX1 yX1_lastsIfReadAt wsX1_lastsIfReadAt) := goodIn_app (goodIn_of _ (by decide +kernel)) ggX4_mean_X1_lastsIfReadAt
set_option maxRecDepth 20000 in
theorem ggX4_mean_X3_thinkAbove : GoodIn wsX4_mean wsX3_thinkAbove := goodIn_r _ [55, 56, 57, 58, 59, 12, 60, 45, 61, 62, 176, 177, 178, 179, 180, 181, 182, 183, 184, 185, 186, 187, 188, 189, 190, 191, 192, 193] (by decide +kernel) (by decide +kernel)
set_option maxRecDepth 20000 in
theorem gX4_mean_X3_thinkAbove : GoodIn wsX4_mean (wsV RX4 153 RX3 yX3_thinkAbove wsX3_thinkAbove) := goodIn_app (goodIn_of _ (by decide +kernel)) ggX4_mean_X3_thinkAbove
set_option maxRecDepth 20000 in
theorem ggX4_mean_X3_thinkBelow : GoodIn wsX4_mean wsX3_thinkBelow := goodIn_r _ [132, 57, 58, 59, 12, 60, 45, 61, 62, 176, 177, 178, 179, 180, 181, 182, 183, 184, 185, 186, 187, 188, 189, 190, 191, 192, 193] (by decide +kernel) (by decide +kernel)
set_option maxRecDepth 20000 in
theorem gX4_mean_X3_thinkBelow : GoodIn wsX4_mean (wsV RX4 157 RX3 yX3_thinkBelow wsX3_thinkBelow) := goodIn_app (goodIn_of _ (by decide +kernel)) ggX4_mean_X3_thinkBelow
set_option maxRecDepth 20000 in
theorem ggX4_mean_X2_become : GoodIn wsX4_mean wsX2_become := goodIn_r _ [153, 154, 155, 109, 156, 157, 158, 159, 160, 152, 161, 197, 198] (by decide +kernel) (by decide +kernel)
set_option maxRecDepth 20000 in
theorem gX4_mean_X2_become : GoodIn wsX4_mean (wsV RX4 160 RX2 yX2_become wsX2_become) := goodIn_app (goodIn_of _ (by decide +kernel)) ggX4_mean_X2_become
set_option maxRecDepth 20000 in
theorem ggX4_mean_X2_partOf : GoodIn wsX4_mean wsX2_partOf := goodIn_r _ [165, 157, 158, 197, 198] (by decide +kernel) (by decide +kernel)
set_option maxRecDepth 20000 in
theorem gX4_mean_X2_partOf : GoodIn wsX4_mean (wsV RX4 164 RX2 yX2_partOf wsX2_partOf) := goodIn_app (goodIn_of _ (by decide +kernel)) ggX4_mean_X2_partOf
theorem dX4_mean_0 : decode cX4_mean 0 = .ok (.aload_n 0, 1) := by decide +kernel
theorem dX4_mean_1 : decode cX4_mean 1 = .ok (.iload_n 1, 1) := by decide +kernel
theorem dX4_mean_2 : decode cX4_mean 2 = .ok (.iload_n 2, 1) := by decide +kernel
theorem dX4_mean_3 : decode cX4_mean 3 = .ok (.invokevirtual 113, 3) := by decide +kernel
theorem dX4_mean_6 : decode cX4_mean 6 = .ok (.ifCond .eq 9, 3) := by decide +kernel
theorem dX4_mean_9 : decode cX4_mean 9 = .ok (.aload_n 0, 1) := by decide +kernel
theorem dX4_mean_10 : decode cX4_mean 10 = .ok (.iconst 1, 1) := by decide +kernel
theorem dX4_mean_11 : decode cX4_mean 11 = .ok (.invokevirtual 139, 3) := by decide +kernel
theorem dX4_mean_14 : decode cX4_mean 14 = .ok (.lreturn, 1) := by decide +kernel
theorem dX4_mean_15 : decode cX4_mean 15 = .ok (.iload 4, 2) := by decide +kernel
theorem dX4_mean_17 : decode cX4_mean 17 = .ok (.invokestatic 150, 3) := by decide +kernel
theorem dX4_mean_20 : decode cX4_mean 20 = .ok (.ifCond .eq 9, 3) := by decide +kernel
theorem dX4_mean_23 : decode cX4_mean 23 = .ok (.aload_n 0, 1) := by decide +kernel
theorem dX4_mean_24 : decode cX4_mean 24 = .ok (.iconst 2, 1) := by decide +kernel
theorem dX4_mean_25 : decode cX4_mean 25 = .ok (.invokevirtual 139, 3) := by decide +kernel
theorem dX4_mean_28 : decode cX4_mean 28 = .ok (.lreturn, 1) := by decide +kernel
theorem dX4_mean_29 : decode cX4_mean 29 = .ok (.aload_n 0, 1) := by decide +kernel
theorem dX4_mean_30 : decode cX4_mean 30 = .ok (.iload_n 1, 1) := by decide +kernel
theorem dX4_mean_31 : decode cX4_mean 31 = .ok (.iload_n 2, 1) := by decide +kernel
theorem dX4_mean_32 : decode cX4_mean 32 = .ok (.iload_n 3, 1) := by decide +kernel
theorem dX4_mean_33 : decode cX4_mean 33 = .ok (.invokevirtual 182, 3) := by decide +kernel
theorem dX4_mean_36 : decode cX4_mean 36 = .ok (.istore 5, 2) := by decide +kernel
theorem dX4_mean_38 : decode cX4_mean 38 = .ok (.iload 5, 2) := by decide +kernel
theorem dX4_mean_40 : decode cX4_mean 40 = .ok (.ifCond .eq 10, 3) := by decide +kernel
theorem dX4_mean_43 : decode cX4_mean 43 = .ok (.aload_n 0, 1) := by decide +kernel
theorem dX4_mean_44 : decode cX4_mean 44 = .ok (.iload 5, 2) := by decide +kernel
theorem dX4_mean_46 : decode cX4_mean 46 = .ok (.invokevirtual 139, 3) := by decide +kernel
theorem dX4_mean_49 : decode cX4_mean 49 = .ok (.lreturn, 1) := by decide +kernel
theorem dX4_mean_50 : decode cX4_mean 50 = .ok (.aload_n 0, 1) := by decide +kernel
theorem dX4_mean_51 : decode cX4_mean 51 = .ok (.getfield 38, 3) := by decide +kernel
theorem dX4_mean_54 : decode cX4_mean 54 = .ok (.iload_n 1, 1) := by decide +kernel
theorem dX4_mean_55 : decode cX4_mean 55 = .ok (.iload_n 2, 1) := by decide +kernel
theorem dX4_mean_56 : decode cX4_mean 56 = .ok (.iload_n 3, 1) := by decide +kernel
theorem dX4_mean_57 : decode cX4_mean 57 = .ok (.invokevirtual 185, 3) := by decide +kernel
theorem dX4_mean_60 : decode cX4_mean 60 = .ok (.istore 6, 2) := by decide +kernel
theorem dX4_mean_62 : decode cX4_mean 62 = .ok (.aload_n 0, 1) := by decide +kernel
theorem dX4_mean_63 : decode cX4_mean 63 = .ok (.getfield 38, 3) := by decide +kernel
theorem dX4_mean_66 : decode cX4_mean 66 = .ok (.iload_n 1, 1) := by decide +kernel
theorem dX4_mean_67 : decode cX4_mean 67 = .ok (.iload_n 2, 1) := by decide +kernel
theorem dX4_mean_68 : decode cX4_mean 68 = .ok (.iload_n 3, 1) := by decide +kernel
theorem dX4_mean_69 : decode cX4_mean 69 = .ok (.iload 6, 2) := by decide +kernel
theorem dX4_mean_71 : decode cX4_mean 71 = .ok (.invokevirtual 188, 3) := by decide +kernel
theorem dX4_mean_74 : decode cX4_mean 74 = .ok (.i2l, 1) := by decide +kernel
theorem dX4_mean_75 : decode cX4_mean 75 = .ok (.lstore 7, 2) := by decide +kernel
theorem dX4_mean_77 : decode cX4_mean 77 = .ok (.aload_n 0, 1) := by decide +kernel
theorem dX4_mean_78 : decode cX4_mean 78 = .ok (.getfield 45, 3) := by decide +kernel
theorem dX4_mean_81 : decode cX4_mean 81 = .ok (.lload 7, 2) := by decide +kernel
theorem dX4_mean_83 : decode cX4_mean 83 = .ok (.aload_n 0, 1) := by decide +kernel
theorem dX4_mean_84 : decode cX4_mean 84 = .ok (.getfield 10, 3) := by decide +kernel
theorem dX4_mean_87 : decode cX4_mean 87 = .ok (.iload_n 1, 1) := by decide +kernel
theorem dX4_mean_88 : decode cX4_mean 88 = .ok (.iload_n 2, 1) := by decide +kernel
theorem dX4_mean_89 : decode cX4_mean 89 = .ok (.invokevirtual 153, 3) := by decide +kernel
theorem dX4_mean_92 : decode cX4_mean 92 = .ok (.lmul, 1) := by decide +kernel
theorem dX4_mean_93 : decode cX4_mean 93 = .ok (.aload_n 0, 1) := by decide +kernel
theorem dX4_mean_94 : decode cX4_mean 94 = .ok (.getfield 10, 3) := by decide +kernel
theorem dX4_mean_97 : decode cX4_mean 97 = .ok (.iload_n 1, 1) := by decide +kernel
theorem dX4_mean_98 : decode cX4_mean 98 = .ok (.iload_n 2, 1) := by decide +kernel
theorem dX4_mean_99 : decode cX4_mean 99 = .ok (.invokevirtual 157, 3) := by decide +kernel
theorem dX4_mean_102 : decode cX4_mean 102 = .ok (.invokevirtual 160, 3) := by decide +kernel
theorem dX4_mean_105 : decode cX4_mean 105 = .ok (.aload_n 0, 1) := by decide +kernel
theorem dX4_mean_106 : decode cX4_mean 106 = .ok (.getfield 45, 3) := by decide +kernel
theorem dX4_mean_109 : decode cX4_mean 109 = .ok (.iload 4, 2) := by decide +kernel
theorem dX4_mean_111 : decode cX4_mean 111 = .ok (.invokevirtual 164, 3) := by decide +kernel
theorem dX4_mean_114 : decode cX4_mean 114 = .ok (.lreturn, 1) := by decide +kernel
set_option maxRecDepth 20000 in
theorem ggX4_rests_X3_hasPaper : GoodIn wsX4_rests wsX3_hasPaper := goodIn_r _ [7, 8, 86, 87, 88, 89, 90, 91, 92, 93, 94, 95, 96, 97, 98, 99, 100, 101, 102, 103] (by decide +kernel) (by decide +kernel)
set_option maxRecDepth 20000 in
theorem gX4_rests_X3_hasPaper : GoodIn wsX4_rests (wsV RX4 86 RX3 yX3_hasPaper wsX3_hasPaper) := goodIn_app (goodIn_of _ (by decide +kernel)) ggX4_rests_X3_hasPaper
set_option maxRecDepth 20000 in
theorem ggX4_rests_X4_refuse : GoodIn wsX4_rests wsX4_refuse := goodIn_r _ [13, 14, 76, 77, 78, 79, 80, 81, 82, 83, 84, 85] (by decide +kernel) (by decide +kernel)
set_option maxRecDepth 20000 in
theorem gX4_rests_X4_refuse : GoodIn wsX4_rests (wsV RX4 60 RX4 yX4_refuse wsX4_refuse) := goodIn_app (goodIn_of _ (by decide +kernel)) ggX4_rests_X4_refuse
set_option maxRecDepth 20000 in
theorem ggX4_rests_X1_countRests : GoodIn wsX4_rests wsX1_countRests := goodIn_r _ [19, 20, 21, 22, 18, 23, 24, 25, 26, 27, 6, 28, 29, 30, 31, 32, 33, 34, 35, 36, 37, 38, 39, 40, 41, 42, 43, 44, 45, 46, 47, 48, 49, 50, 51, 52, 53, 54, 55, 56, 57, 58, 59, 60, 61, 62, 63, 64, 65, 66, 67, 68, 69, 70, 71, 72, 73, 74, 75, 104, 105, 106, 86, 87, 88, 89, 90, 91, 92, 93, 94, 95, 96, 97, 98, 99, 100, 101, 102, 103] (by decide +kernel) (by decide +kernel)
set_option maxRecDepth 20000 in
theorem gX4_rests_X1_countRests : GoodIn wsX4_rests (wsV RX4 192 RX1 yX1_countRests wsX1_countRests) := goodIn_app (goodIn_of _ (by decide +kernel)) ggX4_rests_X1_countRests
theorem dX4_rests_0 : decode cX4_rests 0 = .ok (.aload_n 0, 1) := by decide +kernel
theorem dX4_rests_1 : decode cX4_rests 1 = .ok (.getfield 10, 3) := by decide +kernel
theorem dX4_rests_4 : decode cX4_rests 4 = .ok (.iload_n 1, 1) := by decide +kernel
theorem dX4_rests_5 : decode cX4_rests 5 = .ok (.invokevirtual 86, 3) := by decide +kernel
theorem dX4_rests_8 : decode cX4_rests 8 = .ok (.ifCond .ne 9, 3) := by decide +kernel
theorem dX4_rests_11 : decode cX4_rests 11 = .ok (.aload_n 0, 1) := by decide +kernel
theorem dX4_rests_12 : decode cX4_rests 12 = .ok (.iconst 1, 1) := by decide +kernel
theorem dX4_rests_13 : decode cX4_rests 13 = .ok (.invokevirtual 60, 3) := by decide +kernel
theorem dX4_rests_16 : decode cX4_rests 16 = .ok (.ireturn, 1) := by decide +kernel
theorem dX4_rests_17 : decode cX4_rests 17 = .ok (.aload_n 0, 1) := by decide +kernel
theorem dX4_rests_18 : decode cX4_rests 18 = .ok (.getfield 38, 3) := by decide +kernel
theorem dX4_rests_21 : decode cX4_rests 21 = .ok (.iload_n 1, 1) := by decide +kernel
theorem dX4_rests_22 : decode cX4_rests 22 = .ok (.invokevirtual 192, 3) := by decide +kernel
theorem dX4_rests_25 : decode cX4_rests 25 = .ok (.ireturn, 1) := by decide +kernel
set_option maxRecDepth 20000 in
theorem ggX4_rest_X3_hasPaper : GoodIn wsX4_rest wsX3_hasPaper := goodIn_r _ [7, 8, 86, 87, 88, 89, 90, 91, 92, 93, 94, 95, 96, 97, 98, 99, 100, 101, 102, 103] (by decide +kernel) (by decide +kernel)
set_option maxRecDepth 20000 in
theorem gX4_rest_X3_hasPaper : GoodIn wsX4_rest (wsV RX4 86 RX3 yX3_hasPaper wsX3_hasPaper) := goodIn_app (goodIn_of _ (by decide +kernel)) ggX4_rest_X3_hasPaper
set_option maxRecDepth 20000 in
theorem ggX4_rest_X4_refuse : GoodIn wsX4_rest wsX4_refuse := goodIn_r _ [13, 14, 76, 77, 78, 79, 80, 81, 82, 83, 84, 85] (by decide +kernel) (by decide +kernel)
set_option maxRecDepth 20000 in
theorem gX4_rest_X4_refuse : GoodIn wsX4_rest (wsV RX4 60 RX4 yX4_refuse wsX4_refuse) := goodIn_app (goodIn_of _ (by decide +kernel)) ggX4_rest_X4_refuse
set_option maxRecDepth 20000 in
theorem ggX4_rest_X1_firstRest : GoodIn wsX4_rest wsX1_firstRest := goodIn_r _ [19, 20, 21, 22, 18, 23, 24, 25, 26, 27, 6, 28, 29, 30, 31, 32, 33, 34, 35, 36, 37, 38, 39, 40, 41, 42, 43, 44, 45, 46, 47, 48, 49, 50, 51, 52, 53, 54, 55, 56, 57, 58, 59, 60, 61, 62, 63, 64, 65, 66, 67, 68, 69, 70, 71, 72, 73, 74, 75, 104, 105, 106, 86, 87, 88, 89, 90, 91, 92, 93, 94, 95, 96, 97, 98, 99, 100, 101, 102, 103] (by decide +kernel) (by decide +kernel)
set_option maxRecDepth 20000 in
theorem gX4_rest_X1_firstRest : GoodIn wsX4_rest (wsV RX4 195 RX1 yX1_firstRest wsX1_firstRest) := goodIn_app (goodIn_of _ (by decide +kernel)) ggX4_rest_X1_firstRest
theorem dX4_rest_0 : decode cX4_rest 0 = .ok (.aload_n 0, 1) := by decide +kernel
theorem dX4_rest_1 : decode cX4_rest 1 = .ok (.getfield 10, 3) := by decide +kernel
theorem dX4_rest_4 : decode cX4_rest 4 = .ok (.iload_n 1, 1) := by decide +kernel
theorem dX4_rest_5 : decode cX4_rest 5 = .ok (.invokevirtual 86, 3) := by decide +kernel
theorem dX4_rest_8 : decode cX4_rest 8 = .ok (.ifCond .ne 9, 3) := by decide +kernel
theorem dX4_rest_11 : decode cX4_rest 11 = .ok (.aload_n 0, 1) := by decide +kernel
theorem dX4_rest_12 : decode cX4_rest 12 = .ok (.iconst 1, 1) := by decide +kernel
theorem dX4_rest_13 : decode cX4_rest 13 = .ok (.invokevirtual 60, 3) := by decide +kernel
theorem dX4_rest_16 : decode cX4_rest 16 = .ok (.ireturn, 1) := by decide +kernel
theorem dX4_rest_17 : decode cX4_rest 17 = .ok (.aload_n 0, 1) := by decide +kernel
theorem dX4_rest_18 : decode cX4_rest 18 = .ok (.getfield 38, 3) := by decide +kernel
theorem dX4_rest_21 : decode cX4_rest 21 = .ok (.iload_n 1, 1) := by decide +kernel
theorem dX4_rest_22 : decode cX4_rest 22 = .ok (.invokevirtual 195, 3) := by decide +kernel
theorem dX4_rest_25 : decode cX4_rest 25 = .ok (.ireturn, 1) := by decide +kernel
set_option maxRecDepth 20000 in
theorem ggX4_ends_X3_hasPaper : GoodIn wsX4_ends wsX3_hasPaper := goodIn_r _ [7, 8, 63, 64, 65, 66, 67, 68, 69, 70, 71, 72, 73, 74, 75, 76, 77, 78, 79, 80] (by decide +kernel) (by decide +kernel)
set_option maxRecDepth 20000 in
theorem gX4_ends_X3_hasPaper : GoodIn wsX4_ends (wsV RX4 86 RX3 yX3_hasPaper wsX3_hasPaper) := goodIn_app (goodIn_of _ (by decide +kernel)) ggX4_ends_X3_hasPaper
set_option maxRecDepth 20000 in
theorem ggX4_ends_X4_refuse : GoodIn wsX4_ends wsX4_refuse := goodIn_r _ [13, 14, 53, 54, 55, 56, 57, 58, 59, 60, 61, 62] (by decide +kernel) (by decide +kernel)
set_option maxRecDepth 20000 in
theorem gX4_ends_X4_refuse : GoodIn wsX4_ends (wsV RX4 60 RX4 yX4_refuse wsX4_refuse) := goodIn_app (goodIn_of _ (by decide +kernel)) ggX4_ends_X4_refuse
set_option maxRecDepth 20000 in
theorem ggX4_ends_X1_endersOf : GoodIn wsX4_ends wsX1_endersOf := goodIn_r _ [19, 20, 21, 22, 23, 6, 24, 25, 26, 27, 28, 29, 30, 31, 32, 33, 34, 35, 36, 37, 38, 39, 40, 41, 42, 43, 44, 45, 46, 47, 48, 49, 50, 51, 52, 81, 82, 83, 63, 64, 65, 66, 67, 68, 69, 70, 71, 72, 73, 74, 75, 76, 77, 78, 79, 80] (by decide +kernel) (by decide +kernel)
set_option maxRecDepth 20000 in
theorem gX4_ends_X1_endersOf : GoodIn wsX4_ends (wsV RX4 198 RX1 yX1_endersOf wsX1_endersOf) := goodIn_app (goodIn_of _ (by decide +kernel)) ggX4_ends_X1_endersOf
theorem dX4_ends_0 : decode cX4_ends 0 = .ok (.aload_n 0, 1) := by decide +kernel
theorem dX4_ends_1 : decode cX4_ends 1 = .ok (.getfield 10, 3) := by decide +kernel
theorem dX4_ends_4 : decode cX4_ends 4 = .ok (.iload_n 1, 1) := by decide +kernel
theorem dX4_ends_5 : decode cX4_ends 5 = .ok (.invokevirtual 86, 3) := by decide +kernel
theorem dX4_ends_8 : decode cX4_ends 8 = .ok (.ifCond .ne 9, 3) := by decide +kernel
theorem dX4_ends_11 : decode cX4_ends 11 = .ok (.aload_n 0, 1) := by decide +kernel
theorem dX4_ends_12 : decode cX4_ends 12 = .ok (.iconst 1, 1) := by decide +kernel
theorem dX4_ends_13 : decode cX4_ends 13 = .ok (.invokevirtual 60, 3) := by decide +kernel
theorem dX4_ends_16 : decode cX4_ends 16 = .ok (.ireturn, 1) := by decide +kernel
theorem dX4_ends_17 : decode cX4_ends 17 = .ok (.aload_n 0, 1) := by decide +kernel
theorem dX4_ends_18 : decode cX4_ends 18 = .ok (.getfield 38, 3) := by decide +kernel
theorem dX4_ends_21 : decode cX4_ends 21 = .ok (.iload_n 1, 1) := by decide +kernel
theorem dX4_ends_22 : decode cX4_ends 22 = .ok (.invokevirtual 198, 3) := by decide +kernel
theorem dX4_ends_25 : decode cX4_ends 25 = .ok (.ireturn, 1) := by decide +kernel
set_option maxRecDepth 20000 in
theorem ggX4_asks_X4_isNoPair : GoodIn wsX4_asks wsX4_isNoPair := goodIn_r _ [7, 1, 8, 9, 10, 11, 12, 13, 14, 15, 16, 17, 18, 98, 99, 100, 101, 102, 103, 104, 105, 106, 107, 108, 109, 110, 111, 112, 113, 114, 115, 116, 117, 118, 119, 120, 121, 122, 123, 124, 125] (by decide +kernel) (by decide +kernel)
set_option maxRecDepth 20000 in
theorem gX4_asks_X4_isNoPair : GoodIn wsX4_asks (wsV RX4 113 RX4 yX4_isNoPair wsX4_isNoPair) := goodIn_app (goodIn_of _ (by decide +kernel)) ggX4_asks_X4_isNoPair
set_option maxRecDepth 20000 in
theorem ggX4_asks_X4_refuse : GoodIn wsX4_asks wsX4_refuse := goodIn_r _ [22, 23, 98, 99, 100, 101, 102, 103, 104, 105, 106, 107] (by decide +kernel) (by decide +kernel)
set_option maxRecDepth 20000 in
theorem gX4_asks_X4_refuse : GoodIn wsX4_asks (wsV RX4 60 RX4 yX4_refuse wsX4_refuse) := goodIn_app (goodIn_of _ (by decide +kernel)) ggX4_asks_X4_refuse
set_option maxRecDepth 20000 in
theorem ggX4_asks_X4_whyNotSoMany : GoodIn wsX4_asks wsX4_whyNotSoMany := goodIn_r _ [26] (by decide +kernel) (by decide +kernel)
set_option maxRecDepth 20000 in
theorem gX4_asks_X4_whyNotSoMany : GoodIn wsX4_asks (va_wsS RX4 167 yX4_whyNotSoMany wsX4_whyNotSoMany) := goodIn_app (goodIn_of _ (by decide +kernel)) ggX4_asks_X4_whyNotSoMany
set_option maxRecDepth 20000 in
theorem ggX4_asks_X3_isBound : GoodIn wsX4_asks wsX3_isBound := goodIn_r _ [30, 31, 108, 109, 110, 111, 112, 113, 114, 115, 116, 117, 118, 119, 120, 121, 122, 123, 124, 125] (by decide +kernel) (by decide +kernel)
set_option maxRecDepth 20000 in
theorem gX4_asks_X3_isBound : GoodIn wsX4_asks (wsV RX4 143 RX3 yX3_isBound wsX3_isBound) := goodIn_app (goodIn_of _ (by decide +kernel)) ggX4_asks_X3_isBound
set_option maxRecDepth 20000 in
theorem ggX4_asks_X1_priceOf : GoodIn wsX4_asks wsX1_priceOf := goodIn_r _ [36, 37, 38, 39, 40, 35, 41, 42, 43, 44, 11, 45, 46, 47, 48, 49, 50, 51, 52, 53, 54, 55, 56, 57, 58, 59, 60, 61, 62, 31, 63, 64, 65, 66, 67, 68, 69, 70, 71, 72, 73, 74, 75, 76, 13, 77, 28, 29, 30, 78, 79, 80, 81, 82, 83, 84, 85, 86, 87, 88, 89, 90, 91, 92, 93, 94, 95, 96, 97, 126, 127, 128, 108, 109, 110, 111, 112, 113, 114, 115, 116, 117, 118, 119, 120, 121, 122, 123, 124, 125] (by decide +kernel) (by decide +kernel)
set_option maxRecDepth 20000 in
theorem gX4_asks_X1_priceOf : GoodIn wsX4_asks (wsV RX4 201 RX1 yX1_priceOf wsX1_priceOf) := goodIn_app (goodIn_of _ (by decide +kernel)) ggX4_asks_X1_priceOf
theorem dX4_asks_0 : decode cX4_asks 0 = .ok (.aload_n 0, 1) := by decide +kernel
theorem dX4_asks_1 : decode cX4_asks 1 = .ok (.iload_n 1, 1) := by decide +kernel
theorem dX4_asks_2 : decode cX4_asks 2 = .ok (.iload_n 2, 1) := by decide +kernel
theorem dX4_asks_3 : decode cX4_asks 3 = .ok (.invokevirtual 113, 3) := by decide +kernel
theorem dX4_asks_6 : decode cX4_asks 6 = .ok (.ifCond .eq 9, 3) := by decide +kernel
theorem dX4_asks_9 : decode cX4_asks 9 = .ok (.aload_n 0, 1) := by decide +kernel
theorem dX4_asks_10 : decode cX4_asks 10 = .ok (.iconst 1, 1) := by decide +kernel
theorem dX4_asks_11 : decode cX4_asks 11 = .ok (.invokevirtual 60, 3) := by decide +kernel
theorem dX4_asks_14 : decode cX4_asks 14 = .ok (.ireturn, 1) := by decide +kernel
theorem dX4_asks_15 : decode cX4_asks 15 = .ok (.iload_n 3, 1) := by decide +kernel
theorem dX4_asks_16 : decode cX4_asks 16 = .ok (.bipush 99, 2) := by decide +kernel
theorem dX4_asks_18 : decode cX4_asks 18 = .ok (.invokestatic 167, 3) := by decide +kernel
theorem dX4_asks_21 : decode cX4_asks 21 = .ok (.istore 4, 2) := by decide +kernel
theorem dX4_asks_23 : decode cX4_asks 23 = .ok (.iload 4, 2) := by decide +kernel
theorem dX4_asks_25 : decode cX4_asks 25 = .ok (.ifCond .eq 10, 3) := by decide +kernel
theorem dX4_asks_28 : decode cX4_asks 28 = .ok (.aload_n 0, 1) := by decide +kernel
theorem dX4_asks_29 : decode cX4_asks 29 = .ok (.iload 4, 2) := by decide +kernel
theorem dX4_asks_31 : decode cX4_asks 31 = .ok (.invokevirtual 60, 3) := by decide +kernel
theorem dX4_asks_34 : decode cX4_asks 34 = .ok (.ireturn, 1) := by decide +kernel
theorem dX4_asks_35 : decode cX4_asks 35 = .ok (.aload_n 0, 1) := by decide +kernel
theorem dX4_asks_36 : decode cX4_asks 36 = .ok (.getfield 10, 3) := by decide +kernel
theorem dX4_asks_39 : decode cX4_asks 39 = .ok (.iload_n 1, 1) := by decide +kernel
theorem dX4_asks_40 : decode cX4_asks 40 = .ok (.iload_n 2, 1) := by decide +kernel
theorem dX4_asks_41 : decode cX4_asks 41 = .ok (.invokevirtual 143, 3) := by decide +kernel
theorem dX4_asks_44 : decode cX4_asks 44 = .ok (.ifCond .ne 9, 3) := by decide +kernel
theorem dX4_asks_47 : decode cX4_asks 47 = .ok (.aload_n 0, 1) := by decide +kernel
theorem dX4_asks_48 : decode cX4_asks 48 = .ok (.iconst 3, 1) := by decide +kernel
theorem dX4_asks_49 : decode cX4_asks 49 = .ok (.invokevirtual 60, 3) := by decide +kernel
theorem dX4_asks_52 : decode cX4_asks 52 = .ok (.ireturn, 1) := by decide +kernel
theorem dX4_asks_53 : decode cX4_asks 53 = .ok (.aload_n 0, 1) := by decide +kernel
theorem dX4_asks_54 : decode cX4_asks 54 = .ok (.getfield 38, 3) := by decide +kernel
theorem dX4_asks_57 : decode cX4_asks 57 = .ok (.iload_n 1, 1) := by decide +kernel
theorem dX4_asks_58 : decode cX4_asks 58 = .ok (.iload_n 2, 1) := by decide +kernel
theorem dX4_asks_59 : decode cX4_asks 59 = .ok (.iload_n 3, 1) := by decide +kernel
theorem dX4_asks_60 : decode cX4_asks 60 = .ok (.invokevirtual 201, 3) := by decide +kernel
theorem dX4_asks_63 : decode cX4_asks 63 = .ok (.ireturn, 1) := by decide +kernel
set_option maxRecDepth 20000 in
theorem ggX4_power_X4_isNoPair : GoodIn wsX4_power wsX4_isNoPair := goodIn_r _ [8, 1, 9, 10, 11, 12, 13, 14, 15, 16, 17, 18, 19, 88, 89, 90, 91, 92, 93, 94, 95, 96, 97, 98, 99, 100, 101, 102, 103, 104, 105, 106, 107, 108, 109, 110, 111, 112, 113, 114, 115] (by decide +kernel) (by decide +kernel)
set_option maxRecDepth 20000 in
theorem gX4_power_X4_isNoPair : GoodIn wsX4_power (wsV RX4 113 RX4 yX4_isNoPair wsX4_isNoPair) := goodIn_app (goodIn_of _ (by decide +kernel)) ggX4_power_X4_isNoPair
set_option maxRecDepth 20000 in
theorem ggX4_power_X4_refuse : GoodIn wsX4_power wsX4_refuse := goodIn_r _ [23, 24, 88, 89, 90, 91, 92, 93, 94, 95, 96, 97] (by decide +kernel) (by decide +kernel)
set_option maxRecDepth 20000 in
theorem gX4_power_X4_refuse : GoodIn wsX4_power (wsV RX4 60 RX4 yX4_refuse wsX4_refuse) := goodIn_app (goodIn_of _ (by decide +kernel)) ggX4_power_X4_refuse
set_option maxRecDepth 20000 in
theorem ggX4_power_X4_isNoPart : GoodIn wsX4_power wsX4_isNoPart := goodIn_r _ [27] (by decide +kernel) (by decide +kernel)
set_option maxRecDepth 20000 in
theorem gX4_power_X4_isNoPart : GoodIn wsX4_power (va_wsS RX4 150 yX4_isNoPart wsX4_isNoPart) := goodIn_app (goodIn_of _ (by decide +kernel)) ggX4_power_X4_isNoPart
set_option maxRecDepth 20000 in
theorem ggX4_power_X3_isUnread : GoodIn wsX4_power wsX3_isUnread := goodIn_r _ [31, 32, 33, 34, 12, 35, 36, 37, 98, 99, 100, 101, 102, 103, 104, 105, 106, 107, 108, 109, 110, 111, 112, 113, 114, 115] (by decide +kernel) (by decide +kernel)
set_option maxRecDepth 20000 in
theorem gX4_power_X3_isUnread : GoodIn wsX4_power (wsV RX4 129 RX3 yX3_isUnread wsX3_isUnread) := goodIn_app (goodIn_of _ (by decide +kernel)) ggX4_power_X3_isUnread
set_option maxRecDepth 20000 in
theorem ggX4_power_X1_weighPower : GoodIn wsX4_power wsX1_weighPower := goodIn_r _ [42, 43, 44, 45, 46, 12, 47, 36, 48, 49, 50, 51, 52, 53, 54, 55, 56, 57, 58, 37, 59, 60, 61, 62, 63, 64, 65, 66, 67, 68, 69, 70, 33, 34, 35, 71, 72, 73, 74, 75, 76, 77, 78, 79, 80, 81, 82, 83, 116, 117, 118, 98, 99, 100, 101, 102, 103, 104, 105, 106, 107, 108, 109, 110, 111, 112, 113, 114, 115, 119, 120] (by decide +kernel) (by decide +kernel)
set_option maxRecDepth 20000 in
theorem gX4_power_X1_weighPower : GoodIn wsX4_power (wsV RX4 204 RX1 yX1_weighPower wsX1_weighPower) := goodIn_app (goodIn_of _ (by decide +kernel)) ggX4_power_X1_weighPower
set_option maxRecDepth 20000 in
theorem ggX4_power_X2_partOf : GoodIn wsX4_power wsX2_partOf := goodIn_r _ [87, 79, 80, 119, 120] (by decide +kernel) (by decide +kernel)
set_option maxRecDepth 20000 in
theorem gX4_power_X2_partOf : GoodIn wsX4_power (wsV RX4 164 RX2 yX2_partOf wsX2_partOf) := goodIn_app (goodIn_of _ (by decide +kernel)) ggX4_power_X2_partOf
theorem dX4_power_0 : decode cX4_power 0 = .ok (.aload_n 0, 1) := by decide +kernel
theorem dX4_power_1 : decode cX4_power 1 = .ok (.iload_n 1, 1) := by decide +kernel
theorem dX4_power_2 : decode cX4_power 2 = .ok (.iload_n 2, 1) := by decide +kernel
theorem dX4_power_3 : decode cX4_power 3 = .ok (.invokevirtual 113, 3) := by decide +kernel
theorem dX4_power_6 : decode cX4_power 6 = .ok (.ifCond .eq 9, 3) := by decide +kernel
theorem dX4_power_9 : decode cX4_power 9 = .ok (.aload_n 0, 1) := by decide +kernel
theorem dX4_power_10 : decode cX4_power 10 = .ok (.iconst 1, 1) := by decide +kernel
theorem dX4_power_11 : decode cX4_power 11 = .ok (.invokevirtual 60, 3) := by decide +kernel
theorem dX4_power_14 : decode cX4_power 14 = .ok (.ireturn, 1) := by decide +kernel
theorem dX4_power_15 : decode cX4_power 15 = .ok (.iload_n 3, 1) := by decide +kernel
theorem dX4_power_16 : decode cX4_power 16 = .ok (.invokestatic 150, 3) := by decide +kernel
theorem dX4_power_19 : decode cX4_power 19 = .ok (.ifCond .eq 9, 3) := by decide +kernel
theorem dX4_power_22 : decode cX4_power 22 = .ok (.aload_n 0, 1) := by decide +kernel
theorem dX4_power_23 : decode cX4_power 23 = .ok (.iconst 2, 1) := by decide +kernel
theorem dX4_power_24 : decode cX4_power 24 = .ok (.invokevirtual 60, 3) := by decide +kernel
theorem dX4_power_27 : decode cX4_power 27 = .ok (.ireturn, 1) := by decide +kernel
theorem dX4_power_28 : decode cX4_power 28 = .ok (.aload_n 0, 1) := by decide +kernel
theorem dX4_power_29 : decode cX4_power 29 = .ok (.getfield 10, 3) := by decide +kernel
theorem dX4_power_32 : decode cX4_power 32 = .ok (.iload_n 1, 1) := by decide +kernel
theorem dX4_power_33 : decode cX4_power 33 = .ok (.iload_n 2, 1) := by decide +kernel
theorem dX4_power_34 : decode cX4_power 34 = .ok (.invokevirtual 129, 3) := by decide +kernel
theorem dX4_power_37 : decode cX4_power 37 = .ok (.ifCond .ne 9, 3) := by decide +kernel
theorem dX4_power_40 : decode cX4_power 40 = .ok (.aload_n 0, 1) := by decide +kernel
theorem dX4_power_41 : decode cX4_power 41 = .ok (.iconst 3, 1) := by decide +kernel
theorem dX4_power_42 : decode cX4_power 42 = .ok (.invokevirtual 60, 3) := by decide +kernel
theorem dX4_power_45 : decode cX4_power 45 = .ok (.ireturn, 1) := by decide +kernel
theorem dX4_power_46 : decode cX4_power 46 = .ok (.aload_n 0, 1) := by decide +kernel
theorem dX4_power_47 : decode cX4_power 47 = .ok (.getfield 38, 3) := by decide +kernel
theorem dX4_power_50 : decode cX4_power 50 = .ok (.iload_n 2, 1) := by decide +kernel
theorem dX4_power_51 : decode cX4_power 51 = .ok (.aload_n 0, 1) := by decide +kernel
theorem dX4_power_52 : decode cX4_power 52 = .ok (.getfield 45, 3) := by decide +kernel
theorem dX4_power_55 : decode cX4_power 55 = .ok (.invokevirtual 204, 3) := by decide +kernel
theorem dX4_power_58 : decode cX4_power 58 = .ok (.aload_n 0, 1) := by decide +kernel
theorem dX4_power_59 : decode cX4_power 59 = .ok (.getfield 45, 3) := by decide +kernel
theorem dX4_power_62 : decode cX4_power 62 = .ok (.iload_n 3, 1) := by decide +kernel
theorem dX4_power_63 : decode cX4_power 63 = .ok (.invokevirtual 164, 3) := by decide +kernel
theorem dX4_power_66 : decode cX4_power 66 = .ok (.l2i, 1) := by decide +kernel
theorem dX4_power_67 : decode cX4_power 67 = .ok (.ireturn, 1) := by decide +kernel
set_option maxRecDepth 20000 in
theorem ggX4_chance_X3_hasPaper : GoodIn wsX4_chance wsX3_hasPaper := goodIn_r _ [8, 9, 86, 87, 88, 89, 90, 91, 92, 93, 94, 95, 96, 97, 98, 99, 100, 101, 102, 103] (by decide +kernel) (by decide +kernel)
set_option maxRecDepth 20000 in
theorem gX4_chance_X3_hasPaper : GoodIn wsX4_chance (wsV RX4 86 RX3 yX3_hasPaper wsX3_hasPaper) := goodIn_app (goodIn_of _ (by decide +kernel)) ggX4_chance_X3_hasPaper
set_option maxRecDepth 20000 in
theorem ggX4_chance_X4_refuseFarthest : GoodIn wsX4_chance wsX4_refuseFarthest := goodIn_r _ [14, 15, 16, 76, 77, 78, 79, 80, 81, 82, 83, 84, 85] (by decide +kernel) (by decide +kernel)
set_option maxRecDepth 20000 in
theorem gX4_chance_X4_refuseFarthest : GoodIn wsX4_chance (wsV RX4 139 RX4 yX4_refuseFarthest wsX4_refuseFarthest) := goodIn_app (goodIn_of _ (by decide +kernel)) ggX4_chance_X4_refuseFarthest
set_option maxRecDepth 20000 in
theorem ggX4_chance_X4_isNoPart : GoodIn wsX4_chance wsX4_isNoPart := goodIn_r _ [19] (by decide +kernel) (by decide +kernel)
set_option maxRecDepth 20000 in
theorem gX4_chance_X4_isNoPart : GoodIn wsX4_chance (va_wsS RX4 150 yX4_isNoPart wsX4_isNoPart) := goodIn_app (goodIn_of _ (by decide +kernel)) ggX4_chance_X4_isNoPart
set_option maxRecDepth 20000 in
theorem ggX4_chance_X3_unreadOf : GoodIn wsX4_chance wsX3_unreadOf := goodIn_r _ [23, 24, 25, 86, 87, 88, 89, 90, 91, 92, 93, 94, 95, 96, 97, 98, 99, 100, 101, 102, 103] (by decide +kernel) (by decide +kernel)
set_option maxRecDepth 20000 in
theorem gX4_chance_X3_unreadOf : GoodIn wsX4_chance (wsV RX4 208 RX3 yX3_unreadOf wsX3_unreadOf) := goodIn_app (goodIn_of _ (by decide +kernel)) ggX4_chance_X3_unreadOf
set_option maxRecDepth 20000 in
theorem ggX4_chance_J6_bitCount_0f7a4 : GoodIn wsX4_chance wsJ6_bitCount_0f7a4 := goodIn_r _ [29, 30, 31, 32] (by decide +kernel) (by decide +kernel)
set_option maxRecDepth 20000 in
theorem gX4_chance_J6_bitCount_0f7a4 : GoodIn wsX4_chance (va_wsS RX4 124 yJ6_bitCount_0f7a4 wsJ6_bitCount_0f7a4) := goodIn_app (goodIn_of _ (by decide +kernel)) ggX4_chance_J6_bitCount_0f7a4
set_option maxRecDepth 20000 in
theorem ggX4_chance_X1_weighChance : GoodIn wsX4_chance wsX1_weighChance := goodIn_r _ [37, 38, 39, 40, 41, 42, 7, 43, 25, 44, 27, 28, 29, 30, 31, 32, 45, 21, 22, 23, 24, 46, 47, 36, 48, 49, 50, 51, 52, 53, 54, 55, 56, 57, 58, 59, 60, 61, 62, 63, 64, 65, 66, 67, 68, 69, 70, 71, 104, 105, 106, 86, 87, 88, 89, 90, 91, 92, 93, 94, 95, 96, 97, 98, 99, 100, 101, 102, 103, 107, 108] (by decide +kernel) (by decide +kernel)
set_option maxRecDepth 20000 in
theorem gX4_chance_X1_weighChance : GoodIn wsX4_chance (wsV RX4 211 RX1 yX1_weighChance wsX1_weighChance) := goodIn_app (goodIn_of _ (by decide +kernel)) ggX4_chance_X1_weighChance
set_option maxRecDepth 20000 in
theorem ggX4_chance_X2_partOf : GoodIn wsX4_chance wsX2_partOf := goodIn_r _ [75, 67, 68, 107, 108] (by decide +kernel) (by decide +kernel)
set_option maxRecDepth 20000 in
theorem gX4_chance_X2_partOf : GoodIn wsX4_chance (wsV RX4 164 RX2 yX2_partOf wsX2_partOf) := goodIn_app (goodIn_of _ (by decide +kernel)) ggX4_chance_X2_partOf
theorem dX4_chance_0 : decode cX4_chance 0 = .ok (.aload_n 0, 1) := by decide +kernel
theorem dX4_chance_1 : decode cX4_chance 1 = .ok (.getfield 10, 3) := by decide +kernel
theorem dX4_chance_4 : decode cX4_chance 4 = .ok (.iload_n 1, 1) := by decide +kernel
theorem dX4_chance_5 : decode cX4_chance 5 = .ok (.invokevirtual 86, 3) := by decide +kernel
theorem dX4_chance_8 : decode cX4_chance 8 = .ok (.ifCond .ne 9, 3) := by decide +kernel
theorem dX4_chance_11 : decode cX4_chance 11 = .ok (.aload_n 0, 1) := by decide +kernel
theorem dX4_chance_12 : decode cX4_chance 12 = .ok (.iconst 1, 1) := by decide +kernel
theorem dX4_chance_13 : decode cX4_chance 13 = .ok (.invokevirtual 139, 3) := by decide +kernel
theorem dX4_chance_16 : decode cX4_chance 16 = .ok (.lreturn, 1) := by decide +kernel
theorem dX4_chance_17 : decode cX4_chance 17 = .ok (.iload 4, 2) := by decide +kernel
theorem dX4_chance_19 : decode cX4_chance 19 = .ok (.invokestatic 150, 3) := by decide +kernel
theorem dX4_chance_22 : decode cX4_chance 22 = .ok (.ifCond .eq 9, 3) := by decide +kernel
theorem dX4_chance_25 : decode cX4_chance 25 = .ok (.aload_n 0, 1) := by decide +kernel
theorem dX4_chance_26 : decode cX4_chance 26 = .ok (.iconst 2, 1) := by decide +kernel
theorem dX4_chance_27 : decode cX4_chance 27 = .ok (.invokevirtual 139, 3) := by decide +kernel
theorem dX4_chance_30 : decode cX4_chance 30 = .ok (.lreturn, 1) := by decide +kernel
theorem dX4_chance_31 : decode cX4_chance 31 = .ok (.iload_n 2, 1) := by decide +kernel
theorem dX4_chance_32 : decode cX4_chance 32 = .ok (.ifCond .lt 7, 3) := by decide +kernel
theorem dX4_chance_35 : decode cX4_chance 35 = .ok (.iload_n 3, 1) := by decide +kernel
theorem dX4_chance_36 : decode cX4_chance 36 = .ok (.ifCond .ge 9, 3) := by decide +kernel
theorem dX4_chance_39 : decode cX4_chance 39 = .ok (.aload_n 0, 1) := by decide +kernel
theorem dX4_chance_40 : decode cX4_chance 40 = .ok (.iconst 4, 1) := by decide +kernel
theorem dX4_chance_41 : decode cX4_chance 41 = .ok (.invokevirtual 139, 3) := by decide +kernel
theorem dX4_chance_44 : decode cX4_chance 44 = .ok (.lreturn, 1) := by decide +kernel
theorem dX4_chance_45 : decode cX4_chance 45 = .ok (.iload_n 2, 1) := by decide +kernel
theorem dX4_chance_46 : decode cX4_chance 46 = .ok (.bipush 100, 2) := by decide +kernel
theorem dX4_chance_48 : decode cX4_chance 48 = .ok (.if_icmp .gt 27, 3) := by decide +kernel
theorem dX4_chance_51 : decode cX4_chance 51 = .ok (.iload_n 3, 1) := by decide +kernel
theorem dX4_chance_52 : decode cX4_chance 52 = .ok (.bipush 8, 2) := by decide +kernel
theorem dX4_chance_54 : decode cX4_chance 54 = .ok (.if_icmp .gt 21, 3) := by decide +kernel
theorem dX4_chance_57 : decode cX4_chance 57 = .ok (.iload_n 3, 1) := by decide +kernel
theorem dX4_chance_58 : decode cX4_chance 58 = .ok (.aload_n 0, 1) := by decide +kernel
theorem dX4_chance_59 : decode cX4_chance 59 = .ok (.getfield 10, 3) := by decide +kernel
theorem dX4_chance_62 : decode cX4_chance 62 = .ok (.iload_n 1, 1) := by decide +kernel
theorem dX4_chance_63 : decode cX4_chance 63 = .ok (.invokevirtual 208, 3) := by decide +kernel
theorem dX4_chance_66 : decode cX4_chance 66 = .ok (.invokestatic 124, 3) := by decide +kernel
theorem dX4_chance_69 : decode cX4_chance 69 = .ok (.imul, 1) := by decide +kernel
theorem dX4_chance_70 : decode cX4_chance 70 = .ok (.bipush 8, 2) := by decide +kernel
theorem dX4_chance_72 : decode cX4_chance 72 = .ok (.if_icmp .le 10, 3) := by decide +kernel
theorem dX4_chance_75 : decode cX4_chance 75 = .ok (.aload_n 0, 1) := by decide +kernel
theorem dX4_chance_76 : decode cX4_chance 76 = .ok (.bipush 6, 2) := by decide +kernel
theorem dX4_chance_78 : decode cX4_chance 78 = .ok (.invokevirtual 139, 3) := by decide +kernel
theorem dX4_chance_81 : decode cX4_chance 81 = .ok (.lreturn, 1) := by decide +kernel
theorem dX4_chance_82 : decode cX4_chance 82 = .ok (.aload_n 0, 1) := by decide +kernel
theorem dX4_chance_83 : decode cX4_chance 83 = .ok (.getfield 38, 3) := by decide +kernel
theorem dX4_chance_86 : decode cX4_chance 86 = .ok (.iload_n 1, 1) := by decide +kernel
theorem dX4_chance_87 : decode cX4_chance 87 = .ok (.iload_n 2, 1) := by decide +kernel
theorem dX4_chance_88 : decode cX4_chance 88 = .ok (.iload_n 3, 1) := by decide +kernel
theorem dX4_chance_89 : decode cX4_chance 89 = .ok (.aload_n 0, 1) := by decide +kernel
theorem dX4_chance_90 : decode cX4_chance 90 = .ok (.getfield 45, 3) := by decide +kernel
theorem dX4_chance_93 : decode cX4_chance 93 = .ok (.invokevirtual 211, 3) := by decide +kernel
theorem dX4_chance_96 : decode cX4_chance 96 = .ok (.aload_n 0, 1) := by decide +kernel
theorem dX4_chance_97 : decode cX4_chance 97 = .ok (.getfield 45, 3) := by decide +kernel
theorem dX4_chance_100 : decode cX4_chance 100 = .ok (.iload 4, 2) := by decide +kernel
theorem dX4_chance_102 : decode cX4_chance 102 = .ok (.invokevirtual 164, 3) := by decide +kernel
theorem dX4_chance_105 : decode cX4_chance 105 = .ok (.lreturn, 1) := by decide +kernel
set_option maxRecDepth 20000 in
theorem ggX4_laws_X3_hasPaper : GoodIn wsX4_laws wsX3_hasPaper := goodIn_r _ [7, 8, 138, 139, 140, 141, 142, 143, 144, 145, 146, 147, 148, 149, 150, 151, 152, 153, 154, 155] (by decide +kernel) (by decide +kernel)
set_option maxRecDepth 20000 in
theorem gX4_laws_X3_hasPaper : GoodIn wsX4_laws (wsV RX4 86 RX3 yX3_hasPaper wsX3_hasPaper) := goodIn_app (goodIn_of _ (by decide +kernel)) ggX4_laws_X3_hasPaper
set_option maxRecDepth 20000 in
theorem ggX4_laws_X4_refuse : GoodIn wsX4_laws wsX4_refuse := goodIn_r _ [13, 14, 128, 129, 130, 131, 132, 133, 134, 135, 136, 137] (by decide +kernel) (by decide +kernel)
set_option maxRecDepth 20000 in
theorem gX4_laws_X4_refuse : GoodIn wsX4_laws (wsV RX4 60 RX4 yX4_refuse wsX4_refuse) := goodIn_app (goodIn_of _ (by decide +kernel)) ggX4_laws_X4_refuse
set_option maxRecDepth 20000 in
theorem ggX4_laws_X4_isNoLaw : GoodIn wsX4_laws wsX4_isNoLaw := goodIn_r _ [17] (by decide +kernel) (by decide +kernel)
set_option maxRecDepth 20000 in
theorem gX4_laws_X4_isNoLaw : GoodIn wsX4_laws (va_wsS RX4 107 yX4_isNoLaw wsX4_isNoLaw) := goodIn_app (goodIn_of _ (by decide +kernel)) ggX4_laws_X4_isNoLaw
set_option maxRecDepth 20000 in
theorem ggX4_laws_X4_whyNotSoMany : GoodIn wsX4_laws wsX4_whyNotSoMany := goodIn_r _ [20] (by decide +kernel) (by decide +kernel)
set_option maxRecDepth 20000 in
theorem gX4_laws_X4_whyNotSoMany : GoodIn wsX4_laws (va_wsS RX4 167 yX4_whyNotSoMany wsX4_whyNotSoMany) := goodIn_app (goodIn_of _ (by decide +kernel)) ggX4_laws_X4_whyNotSoMany
set_option maxRecDepth 20000 in
theorem ggX4_laws_X1_lastsUnder : GoodIn wsX4_laws wsX1_lastsUnder := goodIn_r _ [25, 26, 27, 28, 29, 30, 6, 31, 32, 8, 33, 34, 35, 36, 37, 38, 39, 40, 41, 42, 43, 44, 45, 46, 47, 48, 49, 50, 51, 52, 53, 54, 55, 56, 57, 58, 59, 60, 61, 62, 63, 64, 65, 66, 67, 68, 69, 70, 71, 72, 73, 74, 75, 76, 77, 78, 79, 80, 81, 82, 83, 84, 85, 86, 87, 88, 89, 90, 91, 92, 93, 94, 95, 96, 97, 98, 99, 100, 101, 102, 103, 104, 105, 106, 107, 108, 109, 110, 111, 112, 113, 114, 115, 116, 117, 118, 119, 120, 121, 122, 123, 124, 125, 126, 127, 156, 157, 158, 138, 139, 140, 141, 142, 143, 144, 145, 146, 147, 148, 149, 150, 151, 152, 153, 154, 155] (by decide +kernel) (by decide +kernel)
set_option maxRecDepth 20000 in
theorem gX4_laws_X1_lastsUnder : GoodIn wsX4_laws (wsV RX4 215 RX1 yX1_lastsUnder wsX1_lastsUnder) := goodIn_app (goodIn_of _ (by decide +kernel)) ggX4_laws_X1_lastsUnder
theorem dX4_laws_0 : decode cX4_laws 0 = .ok (.aload_n 0, 1) := by decide +kernel
theorem dX4_laws_1 : decode cX4_laws 1 = .ok (.getfield 10, 3) := by decide +kernel
theorem dX4_laws_4 : decode cX4_laws 4 = .ok (.iload_n 1, 1) := by decide +kernel
theorem dX4_laws_5 : decode cX4_laws 5 = .ok (.invokevirtual 86, 3) := by decide +kernel
theorem dX4_laws_8 : decode cX4_laws 8 = .ok (.ifCond .ne 9, 3) := by decide +kernel
theorem dX4_laws_11 : decode cX4_laws 11 = .ok (.aload_n 0, 1) := by decide +kernel
theorem dX4_laws_12 : decode cX4_laws 12 = .ok (.iconst 1, 1) := by decide +kernel
theorem dX4_laws_13 : decode cX4_laws 13 = .ok (.invokevirtual 60, 3) := by decide +kernel
theorem dX4_laws_16 : decode cX4_laws 16 = .ok (.ireturn, 1) := by decide +kernel
theorem dX4_laws_17 : decode cX4_laws 17 = .ok (.iload_n 2, 1) := by decide +kernel
theorem dX4_laws_18 : decode cX4_laws 18 = .ok (.invokestatic 107, 3) := by decide +kernel
theorem dX4_laws_21 : decode cX4_laws 21 = .ok (.ifCond .eq 9, 3) := by decide +kernel
theorem dX4_laws_24 : decode cX4_laws 24 = .ok (.aload_n 0, 1) := by decide +kernel
theorem dX4_laws_25 : decode cX4_laws 25 = .ok (.iconst 2, 1) := by decide +kernel
theorem dX4_laws_26 : decode cX4_laws 26 = .ok (.invokevirtual 60, 3) := by decide +kernel
theorem dX4_laws_29 : decode cX4_laws 29 = .ok (.ireturn, 1) := by decide +kernel
theorem dX4_laws_30 : decode cX4_laws 30 = .ok (.iload_n 3, 1) := by decide +kernel
theorem dX4_laws_31 : decode cX4_laws 31 = .ok (.bipush 60, 2) := by decide +kernel
theorem dX4_laws_33 : decode cX4_laws 33 = .ok (.invokestatic 167, 3) := by decide +kernel
theorem dX4_laws_36 : decode cX4_laws 36 = .ok (.istore 4, 2) := by decide +kernel
theorem dX4_laws_38 : decode cX4_laws 38 = .ok (.iload 4, 2) := by decide +kernel
theorem dX4_laws_40 : decode cX4_laws 40 = .ok (.ifCond .eq 10, 3) := by decide +kernel
theorem dX4_laws_43 : decode cX4_laws 43 = .ok (.aload_n 0, 1) := by decide +kernel
theorem dX4_laws_44 : decode cX4_laws 44 = .ok (.iload 4, 2) := by decide +kernel
theorem dX4_laws_46 : decode cX4_laws 46 = .ok (.invokevirtual 60, 3) := by decide +kernel
theorem dX4_laws_49 : decode cX4_laws 49 = .ok (.ireturn, 1) := by decide +kernel
theorem dX4_laws_50 : decode cX4_laws 50 = .ok (.aload_n 0, 1) := by decide +kernel
theorem dX4_laws_51 : decode cX4_laws 51 = .ok (.getfield 38, 3) := by decide +kernel
theorem dX4_laws_54 : decode cX4_laws 54 = .ok (.iload_n 1, 1) := by decide +kernel
theorem dX4_laws_55 : decode cX4_laws 55 = .ok (.iload_n 2, 1) := by decide +kernel
theorem dX4_laws_56 : decode cX4_laws 56 = .ok (.iload_n 3, 1) := by decide +kernel
theorem dX4_laws_57 : decode cX4_laws 57 = .ok (.invokevirtual 215, 3) := by decide +kernel
theorem dX4_laws_60 : decode cX4_laws 60 = .ok (.ireturn, 1) := by decide +kernel
set_option maxRecDepth 20000 in
theorem ggX4_lasting_X4_whyNotSoMany : GoodIn wsX4_lasting wsX4_whyNotSoMany := goodIn_r _ [5] (by decide +kernel) (by decide +kernel)
set_option maxRecDepth 20000 in
theorem gX4_lasting_X4_whyNotSoMany : GoodIn wsX4_lasting (va_wsS RX4 167 yX4_whyNotSoMany wsX4_whyNotSoMany) := goodIn_app (goodIn_of _ (by decide +kernel)) ggX4_lasting_X4_whyNotSoMany
set_option maxRecDepth 20000 in
theorem ggX4_lasting_X4_refuse : GoodIn wsX4_lasting wsX4_refuse := goodIn_r _ [9, 10, 132, 133, 134, 135, 136, 137, 138, 139, 140, 141] (by decide +kernel) (by decide +kernel)
set_option maxRecDepth 20000 in
theorem gX4_lasting_X4_refuse : GoodIn wsX4_lasting (wsV RX4 60 RX4 yX4_refuse wsX4_refuse) := goodIn_app (goodIn_of _ (by decide +kernel)) ggX4_lasting_X4_refuse
set_option maxRecDepth 20000 in
theorem ggX4_lasting_X1_longestOf : GoodIn wsX4_lasting wsX1_longestOf := goodIn_r _ [15, 16, 17, 18, 19, 20, 21, 22, 23, 24, 25, 26, 27, 28, 29, 30, 14, 31, 32, 33, 34, 35, 36, 37, 38, 39, 40, 41, 42, 43, 44, 45, 46, 47, 48, 49, 50, 51, 52, 53, 54, 55, 56, 57, 58, 59, 60, 61, 62, 63, 64, 65, 66, 67, 68, 69, 70, 71, 72, 73, 74, 75, 76, 77, 78, 79, 80, 81, 82, 83, 84, 85, 86, 87, 88, 89, 90, 91, 92, 93, 94, 95, 96, 97, 98, 99, 100, 101, 102, 103, 104, 105, 106, 107, 108, 109, 110, 111, 112, 113, 114, 115, 116, 117, 118, 119, 120, 121, 122, 123, 124, 125, 126, 127, 128, 129, 130, 131, 142, 143, 144, 145, 146, 147, 148, 149, 150, 151, 152, 153, 154, 155, 156, 157, 158, 159, 160, 161, 162] (by decide +kernel) (by decide +kernel)
set_option maxRecDepth 20000 in
theorem gX4_lasting_X1_longestOf : GoodIn wsX4_lasting (wsV RX4 218 RX1 yX1_longestOf wsX1_longestOf) := goodIn_app (goodIn_of _ (by decide +kernel)) ggX4_lasting_X1_longestOf
theorem dX4_lasting_0 : decode cX4_lasting 0 = .ok (.iload_n 1, 1) := by decide +kernel
theorem dX4_lasting_1 : decode cX4_lasting 1 = .ok (.bipush 60, 2) := by decide +kernel
theorem dX4_lasting_3 : decode cX4_lasting 3 = .ok (.invokestatic 167, 3) := by decide +kernel
theorem dX4_lasting_6 : decode cX4_lasting 6 = .ok (.istore_n 2, 1) := by decide +kernel
theorem dX4_lasting_7 : decode cX4_lasting 7 = .ok (.iload_n 2, 1) := by decide +kernel
theorem dX4_lasting_8 : decode cX4_lasting 8 = .ok (.ifCond .eq 9, 3) := by decide +kernel
theorem dX4_lasting_11 : decode cX4_lasting 11 = .ok (.aload_n 0, 1) := by decide +kernel
theorem dX4_lasting_12 : decode cX4_lasting 12 = .ok (.iload_n 2, 1) := by decide +kernel
theorem dX4_lasting_13 : decode cX4_lasting 13 = .ok (.invokevirtual 60, 3) := by decide +kernel
theorem dX4_lasting_16 : decode cX4_lasting 16 = .ok (.ireturn, 1) := by decide +kernel
theorem dX4_lasting_17 : decode cX4_lasting 17 = .ok (.aload_n 0, 1) := by decide +kernel
theorem dX4_lasting_18 : decode cX4_lasting 18 = .ok (.getfield 38, 3) := by decide +kernel
theorem dX4_lasting_21 : decode cX4_lasting 21 = .ok (.iload_n 1, 1) := by decide +kernel
theorem dX4_lasting_22 : decode cX4_lasting 22 = .ok (.invokevirtual 218, 3) := by decide +kernel
theorem dX4_lasting_25 : decode cX4_lasting 25 = .ok (.ireturn, 1) := by decide +kernel
set_option maxRecDepth 20000 in
theorem ggX4_lots_X4_whyNotSoMany : GoodIn wsX4_lots wsX4_whyNotSoMany := goodIn_r _ [6] (by decide +kernel) (by decide +kernel)
set_option maxRecDepth 20000 in
theorem gX4_lots_X4_whyNotSoMany : GoodIn wsX4_lots (va_wsS RX4 167 yX4_whyNotSoMany wsX4_whyNotSoMany) := goodIn_app (goodIn_of _ (by decide +kernel)) ggX4_lots_X4_whyNotSoMany
set_option maxRecDepth 20000 in
theorem ggX4_lots_X3_personCount : GoodIn wsX4_lots wsX3_personCount := goodIn_r _ [11, 12, 156, 157, 158, 159, 160, 161, 162, 163, 164, 165, 166, 167, 168, 169, 170, 171, 172, 173] (by decide +kernel) (by decide +kernel)
set_option maxRecDepth 20000 in
theorem gX4_lots_X3_personCount : GoodIn wsX4_lots (wsV RX4 221 RX3 yX3_personCount wsX3_personCount) := goodIn_app (goodIn_of _ (by decide +kernel)) ggX4_lots_X3_personCount
set_option maxRecDepth 20000 in
theorem ggX4_lots_X3_paperCount : GoodIn wsX4_lots wsX3_paperCount := goodIn_r _ [16, 17, 156, 157, 158, 159, 160, 161, 162, 163, 164, 165, 166, 167, 168, 169, 170, 171, 172, 173] (by decide +kernel) (by decide +kernel)
set_option maxRecDepth 20000 in
theorem gX4_lots_X3_paperCount : GoodIn wsX4_lots (wsV RX4 224 RX3 yX3_paperCount wsX3_paperCount) := goodIn_app (goodIn_of _ (by decide +kernel)) ggX4_lots_X3_paperCount
set_option maxRecDepth 20000 in
theorem ggX4_lots_X4_refuseFar : GoodIn wsX4_lots wsX4_refuseFar := goodIn_r _ [21, 22, 23, 146, 147, 148, 149, 150, 151, 152, 153, 154, 155] (by decide +kernel) (by decide +kernel)
set_option maxRecDepth 20000 in
theorem gX4_lots_X4_refuseFar : GoodIn wsX4_lots (wsV RX4 95 RX4 yX4_refuseFar wsX4_refuseFar) := goodIn_app (goodIn_of _ (by decide +kernel)) ggX4_lots_X4_refuseFar
set_option maxRecDepth 20000 in
theorem ggX4_lots_X1_drawWeeks : GoodIn wsX4_lots wsX1_drawWeeks := goodIn_r _ [28, 29, 30, 31, 32, 33, 34, 10, 35, 12, 17, 36, 37, 38, 39, 40, 41, 42, 43, 44, 45, 46, 47, 48, 49, 50, 51, 52, 53, 54, 55, 56, 8, 9, 11, 57, 58, 59, 27, 60, 61, 62, 63, 64, 14, 15, 16, 65, 66, 67, 68, 69, 70, 71, 72, 73, 74, 75, 76, 77, 78, 79, 80, 81, 82, 83, 84, 85, 86, 87, 88, 89, 90, 91, 92, 93, 94, 95, 96, 97, 98, 99, 100, 101, 102, 103, 104, 105, 106, 107, 108, 109, 110, 111, 112, 113, 114, 115, 116, 117, 118, 119, 120, 121, 122, 123, 124, 125, 126, 127, 128, 129, 130, 131, 132, 133, 134, 135, 136, 137, 138, 139, 140, 141, 142, 143, 144, 145, 174, 175, 176, 156, 157, 158, 159, 160, 161, 162, 163, 164, 165, 166, 167, 168, 169, 170, 171, 172, 173] (by decide +kernel) (by decide +kernel)
set_option maxRecDepth 20000 in
theorem gX4_lots_X1_drawWeeks : GoodIn wsX4_lots (wsV RX4 227 RX1 yX1_drawWeeks wsX1_drawWeeks) := goodIn_app (goodIn_of _ (by decide +kernel)) ggX4_lots_X1_drawWeeks
theorem dX4_lots_0 : decode cX4_lots 0 = .ok (.iload_n 1, 1) := by decide +kernel
theorem dX4_lots_1 : decode cX4_lots 1 = .ok (.bipush 60, 2) := by decide +kernel
theorem dX4_lots_3 : decode cX4_lots 3 = .ok (.invokestatic 167, 3) := by decide +kernel
theorem dX4_lots_6 : decode cX4_lots 6 = .ok (.istore_n 3, 1) := by decide +kernel
theorem dX4_lots_7 : decode cX4_lots 7 = .ok (.iload_n 3, 1) := by decide +kernel
theorem dX4_lots_8 : decode cX4_lots 8 = .ok (.ifCond .ne 25, 3) := by decide +kernel
theorem dX4_lots_11 : decode cX4_lots 11 = .ok (.aload_n 0, 1) := by decide +kernel
theorem dX4_lots_12 : decode cX4_lots 12 = .ok (.getfield 10, 3) := by decide +kernel
theorem dX4_lots_15 : decode cX4_lots 15 = .ok (.invokevirtual 221, 3) := by decide +kernel
theorem dX4_lots_18 : decode cX4_lots 18 = .ok (.ifCond .eq 13, 3) := by decide +kernel
theorem dX4_lots_21 : decode cX4_lots 21 = .ok (.aload_n 0, 1) := by decide +kernel
theorem dX4_lots_22 : decode cX4_lots 22 = .ok (.getfield 10, 3) := by decide +kernel
theorem dX4_lots_25 : decode cX4_lots 25 = .ok (.invokevirtual 224, 3) := by decide +kernel
theorem dX4_lots_28 : decode cX4_lots 28 = .ok (.ifCond .ne 5, 3) := by decide +kernel
theorem dX4_lots_31 : decode cX4_lots 31 = .ok (.iconst 3, 1) := by decide +kernel
theorem dX4_lots_32 : decode cX4_lots 32 = .ok (.istore_n 3, 1) := by decide +kernel
theorem dX4_lots_33 : decode cX4_lots 33 = .ok (.iload_n 3, 1) := by decide +kernel
theorem dX4_lots_34 : decode cX4_lots 34 = .ok (.ifCond .eq 9, 3) := by decide +kernel
theorem dX4_lots_37 : decode cX4_lots 37 = .ok (.aload_n 0, 1) := by decide +kernel
theorem dX4_lots_38 : decode cX4_lots 38 = .ok (.iload_n 3, 1) := by decide +kernel
theorem dX4_lots_39 : decode cX4_lots 39 = .ok (.invokevirtual 95, 3) := by decide +kernel
theorem dX4_lots_42 : decode cX4_lots 42 = .ok (.ireturn, 1) := by decide +kernel
theorem dX4_lots_43 : decode cX4_lots 43 = .ok (.aload_n 0, 1) := by decide +kernel
theorem dX4_lots_44 : decode cX4_lots 44 = .ok (.getfield 38, 3) := by decide +kernel
theorem dX4_lots_47 : decode cX4_lots 47 = .ok (.iload_n 1, 1) := by decide +kernel
theorem dX4_lots_48 : decode cX4_lots 48 = .ok (.iload_n 2, 1) := by decide +kernel
theorem dX4_lots_49 : decode cX4_lots 49 = .ok (.invokevirtual 227, 3) := by decide +kernel
theorem dX4_lots_52 : decode cX4_lots 52 = .ok (.ireturn, 1) := by decide +kernel
set_option maxRecDepth 20000 in
theorem ggX4_row_X4_refuse : GoodIn wsX4_row wsX4_refuse := goodIn_r _ [7, 8, 9, 10, 11, 12, 13, 14, 15, 16, 17, 18] (by decide +kernel) (by decide +kernel)
set_option maxRecDepth 20000 in
theorem gX4_row_X4_refuse : GoodIn wsX4_row (wsV RX4 60 RX4 yX4_refuse wsX4_refuse) := goodIn_app (goodIn_of _ (by decide +kernel)) ggX4_row_X4_refuse
theorem dX4_row_0 : decode cX4_row 0 = .ok (.iload_n 1, 1) := by decide +kernel
theorem dX4_row_1 : decode cX4_row 1 = .ok (.ifCond .ge 9, 3) := by decide +kernel
theorem dX4_row_4 : decode cX4_row 4 = .ok (.aload_n 0, 1) := by decide +kernel
theorem dX4_row_5 : decode cX4_row 5 = .ok (.iconst 4, 1) := by decide +kernel
theorem dX4_row_6 : decode cX4_row 6 = .ok (.invokevirtual 60, 3) := by decide +kernel
theorem dX4_row_9 : decode cX4_row 9 = .ok (.ireturn, 1) := by decide +kernel
theorem dX4_row_10 : decode cX4_row 10 = .ok (.iload_n 1, 1) := by decide +kernel
theorem dX4_row_11 : decode cX4_row 11 = .ok (.bipush 9, 2) := by decide +kernel
theorem dX4_row_13 : decode cX4_row 13 = .ok (.if_icmp .gt 12, 3) := by decide +kernel
theorem dX4_row_16 : decode cX4_row 16 = .ok (.aload_n 0, 1) := by decide +kernel
theorem dX4_row_17 : decode cX4_row 17 = .ok (.getfield 53, 3) := by decide +kernel
theorem dX4_row_20 : decode cX4_row 20 = .ok (.bipush 12, 2) := by decide +kernel
theorem dX4_row_22 : decode cX4_row 22 = .ok (.if_icmp .lt 10, 3) := by decide +kernel
theorem dX4_row_25 : decode cX4_row 25 = .ok (.aload_n 0, 1) := by decide +kernel
theorem dX4_row_26 : decode cX4_row 26 = .ok (.bipush 6, 2) := by decide +kernel
theorem dX4_row_28 : decode cX4_row 28 = .ok (.invokevirtual 60, 3) := by decide +kernel
theorem dX4_row_31 : decode cX4_row 31 = .ok (.ireturn, 1) := by decide +kernel
theorem dX4_row_32 : decode cX4_row 32 = .ok (.aload_n 0, 1) := by decide +kernel
theorem dX4_row_33 : decode cX4_row 33 = .ok (.getfield 49, 3) := by decide +kernel
theorem dX4_row_36 : decode cX4_row 36 = .ok (.aload_n 0, 1) := by decide +kernel
theorem dX4_row_37 : decode cX4_row 37 = .ok (.getfield 53, 3) := by decide +kernel
theorem dX4_row_40 : decode cX4_row 40 = .ok (.iload_n 1, 1) := by decide +kernel
theorem dX4_row_41 : decode cX4_row 41 = .ok (.iastore, 1) := by decide +kernel
theorem dX4_row_42 : decode cX4_row 42 = .ok (.aload_n 0, 1) := by decide +kernel
theorem dX4_row_43 : decode cX4_row 43 = .ok (.dup, 1) := by decide +kernel
theorem dX4_row_44 : decode cX4_row 44 = .ok (.getfield 53, 3) := by decide +kernel
theorem dX4_row_47 : decode cX4_row 47 = .ok (.iconst 1, 1) := by decide +kernel
theorem dX4_row_48 : decode cX4_row 48 = .ok (.iadd, 1) := by decide +kernel
theorem dX4_row_49 : decode cX4_row 49 = .ok (.putfield 53, 3) := by decide +kernel
theorem dX4_row_52 : decode cX4_row 52 = .ok (.aload_n 0, 1) := by decide +kernel
theorem dX4_row_53 : decode cX4_row 53 = .ok (.getfield 53, 3) := by decide +kernel
theorem dX4_row_56 : decode cX4_row 56 = .ok (.ireturn, 1) := by decide +kernel
set_option maxRecDepth 20000 in
theorem ggX4_judge_X3_hasPaper : GoodIn wsX4_judge wsX3_hasPaper := goodIn_r _ [9, 10, 132, 133, 134, 135, 136, 137, 138, 139, 140, 141, 142, 143, 144, 145, 146, 147, 148, 149] (by decide +kernel) (by decide +kernel)
set_option maxRecDepth 20000 in
theorem gX4_judge_X3_hasPaper : GoodIn wsX4_judge (wsV RX4 86 RX3 yX3_hasPaper wsX3_hasPaper) := goodIn_app (goodIn_of _ (by decide +kernel)) ggX4_judge_X3_hasPaper
set_option maxRecDepth 20000 in
theorem ggX4_judge_X4_refuse : GoodIn wsX4_judge wsX4_refuse := goodIn_r _ [15, 16, 122, 123, 124, 125, 126, 127, 128, 129, 130, 131] (by decide +kernel) (by decide +kernel)
set_option maxRecDepth 20000 in
theorem gX4_judge_X4_refuse : GoodIn wsX4_judge (wsV RX4 60 RX4 yX4_refuse wsX4_refuse) := goodIn_app (goodIn_of _ (by decide +kernel)) ggX4_judge_X4_refuse
set_option maxRecDepth 20000 in
theorem ggX4_judge_X1_firstThatCanNot : GoodIn wsX4_judge wsX1_firstThatCanNot := goodIn_r _ [21, 22, 23, 24, 25, 26, 8, 27, 28, 10, 29, 30, 31, 32, 33, 34, 35, 36, 37, 38, 39, 40, 41, 42, 43, 44, 45, 46, 47, 48, 49, 50, 51, 52, 53, 54, 55, 56, 57, 58, 59, 60, 61, 62, 63, 64, 65, 66, 67, 68, 69, 70, 71, 72, 73, 74, 75, 76, 77, 78, 79, 80, 81, 82, 83, 84, 85, 86, 87, 88, 89, 90, 91, 92, 93, 94, 95, 96, 97, 98, 99, 100, 101, 102, 103, 104, 105, 106, 107, 108, 109, 110, 111, 112, 113, 114, 115, 116, 117, 118, 119, 120, 121, 150, 151, 152, 132, 133, 134, 135, 136, 137, 138, 139, 140, 141, 142, 143, 144, 145, 146, 147, 148, 149] (by decide +kernel) (by decide +kernel)
set_option maxRecDepth 20000 in
theorem gX4_judge_X1_firstThatCanNot : GoodIn wsX4_judge (wsV RX4 230 RX1 yX1_firstThatCanNot wsX1_firstThatCanNot) := goodIn_app (goodIn_of _ (by decide +kernel)) ggX4_judge_X1_firstThatCanNot
theorem dX4_judge_0 : decode cX4_judge 0 = .ok (.aload_n 0, 1) := by decide +kernel
theorem dX4_judge_1 : decode cX4_judge 1 = .ok (.getfield 10, 3) := by decide +kernel
theorem dX4_judge_4 : decode cX4_judge 4 = .ok (.iload_n 1, 1) := by decide +kernel
theorem dX4_judge_5 : decode cX4_judge 5 = .ok (.invokevirtual 86, 3) := by decide +kernel
theorem dX4_judge_8 : decode cX4_judge 8 = .ok (.ifCond .ne 9, 3) := by decide +kernel
theorem dX4_judge_11 : decode cX4_judge 11 = .ok (.aload_n 0, 1) := by decide +kernel
theorem dX4_judge_12 : decode cX4_judge 12 = .ok (.iconst 1, 1) := by decide +kernel
theorem dX4_judge_13 : decode cX4_judge 13 = .ok (.invokevirtual 60, 3) := by decide +kernel
theorem dX4_judge_16 : decode cX4_judge 16 = .ok (.ireturn, 1) := by decide +kernel
theorem dX4_judge_17 : decode cX4_judge 17 = .ok (.aload_n 0, 1) := by decide +kernel
theorem dX4_judge_18 : decode cX4_judge 18 = .ok (.getfield 38, 3) := by decide +kernel
theorem dX4_judge_21 : decode cX4_judge 21 = .ok (.iload_n 1, 1) := by decide +kernel
theorem dX4_judge_22 : decode cX4_judge 22 = .ok (.aload_n 0, 1) := by decide +kernel
theorem dX4_judge_23 : decode cX4_judge 23 = .ok (.getfield 49, 3) := by decide +kernel
theorem dX4_judge_26 : decode cX4_judge 26 = .ok (.aload_n 0, 1) := by decide +kernel
theorem dX4_judge_27 : decode cX4_judge 27 = .ok (.getfield 53, 3) := by decide +kernel
theorem dX4_judge_30 : decode cX4_judge 30 = .ok (.invokevirtual 230, 3) := by decide +kernel
theorem dX4_judge_33 : decode cX4_judge 33 = .ok (.istore_n 2, 1) := by decide +kernel
theorem dX4_judge_34 : decode cX4_judge 34 = .ok (.aload_n 0, 1) := by decide +kernel
theorem dX4_judge_35 : decode cX4_judge 35 = .ok (.iconst 0, 1) := by decide +kernel
theorem dX4_judge_36 : decode cX4_judge 36 = .ok (.putfield 53, 3) := by decide +kernel
theorem dX4_judge_39 : decode cX4_judge 39 = .ok (.iload_n 2, 1) := by decide +kernel
theorem dX4_judge_40 : decode cX4_judge 40 = .ok (.ireturn, 1) := by decide +kernel
set_option maxRecDepth 20000 in
theorem ggX4_image_X3_become : GoodIn wsX4_image wsX3_become := goodIn_r _ [8, 9, 10, 11, 12, 13, 14, 15, 16, 17, 18, 19, 20, 21, 22, 23, 24, 25, 26, 27, 28, 29, 30, 45, 46, 47, 48, 49, 50, 51, 52, 53, 54, 55, 56, 57, 58, 59, 60, 61, 62] (by decide +kernel) (by decide +kernel)
set_option maxRecDepth 20000 in
theorem gX4_image_X3_become : GoodIn wsX4_image (wsV RX4 234 RX3 yX3_become wsX3_become) := goodIn_app (goodIn_of _ (by decide +kernel)) ggX4_image_X3_become
set_option maxRecDepth 20000 in
theorem ggX4_image_X3_weekNow : GoodIn wsX4_image wsX3_weekNow := goodIn_r _ [34, 13, 45, 46, 47, 48, 49, 50, 51, 52, 53, 54, 55, 56, 57, 58, 59, 60, 61, 62] (by decide +kernel) (by decide +kernel)
set_option maxRecDepth 20000 in
theorem gX4_image_X3_weekNow : GoodIn wsX4_image (wsV RX4 173 RX3 yX3_weekNow wsX3_weekNow) := goodIn_app (goodIn_of _ (by decide +kernel)) ggX4_image_X3_weekNow
theorem dX4_image_0 : decode cX4_image 0 = .ok (.aload_n 0, 1) := by decide +kernel
theorem dX4_image_1 : decode cX4_image 1 = .ok (.getfield 19, 3) := by decide +kernel
theorem dX4_image_4 : decode cX4_image 4 = .ok (.aload_n 0, 1) := by decide +kernel
theorem dX4_image_5 : decode cX4_image 5 = .ok (.getfield 10, 3) := by decide +kernel
theorem dX4_image_8 : decode cX4_image 8 = .ok (.invokevirtual 234, 3) := by decide +kernel
theorem dX4_image_11 : decode cX4_image 11 = .ok (.aload_n 0, 1) := by decide +kernel
theorem dX4_image_12 : decode cX4_image 12 = .ok (.iconst 1, 1) := by decide +kernel
theorem dX4_image_13 : decode cX4_image 13 = .ok (.putfield 22, 3) := by decide +kernel
theorem dX4_image_16 : decode cX4_image 16 = .ok (.aload_n 0, 1) := by decide +kernel
theorem dX4_image_17 : decode cX4_image 17 = .ok (.getfield 10, 3) := by decide +kernel
theorem dX4_image_20 : decode cX4_image 20 = .ok (.invokevirtual 173, 3) := by decide +kernel
theorem dX4_image_23 : decode cX4_image 23 = .ok (.ireturn, 1) := by decide +kernel
set_option maxRecDepth 20000 in
theorem ggX4_on_X4_refuse : GoodIn wsX4_on wsX4_refuse := goodIn_r _ [8, 9, 41, 42, 43, 44, 45, 46, 47, 48, 49, 50] (by decide +kernel) (by decide +kernel)
set_option maxRecDepth 20000 in
theorem gX4_on_X4_refuse : GoodIn wsX4_on (wsV RX4 60 RX4 yX4_refuse wsX4_refuse) := goodIn_app (goodIn_of _ (by decide +kernel)) ggX4_on_X4_refuse
set_option maxRecDepth 20000 in
theorem ggX4_on_X3_become : GoodIn wsX4_on wsX3_become := goodIn_r _ [14, 15, 16, 17, 18, 19, 20, 21, 22, 23, 24, 25, 26, 27, 28, 29, 30, 31, 32, 33, 34, 35, 36, 51, 52, 53, 54, 55, 56, 57, 58, 59, 60, 61, 62, 63, 64, 65, 66, 67, 68] (by decide +kernel) (by decide +kernel)
set_option maxRecDepth 20000 in
theorem gX4_on_X3_become : GoodIn wsX4_on (wsV RX4 234 RX3 yX3_become wsX3_become) := goodIn_app (goodIn_of _ (by decide +kernel)) ggX4_on_X3_become
set_option maxRecDepth 20000 in
theorem ggX4_on_X3_weekNow : GoodIn wsX4_on wsX3_weekNow := goodIn_r _ [40, 19, 51, 52, 53, 54, 55, 56, 57, 58, 59, 60, 61, 62, 63, 64, 65, 66, 67, 68] (by decide +kernel) (by decide +kernel)
set_option maxRecDepth 20000 in
theorem gX4_on_X3_weekNow : GoodIn wsX4_on (wsV RX4 173 RX3 yX3_weekNow wsX3_weekNow) := goodIn_app (goodIn_of _ (by decide +kernel)) ggX4_on_X3_weekNow
theorem dX4_on_0 : decode cX4_on 0 = .ok (.aload_n 0, 1) := by decide +kernel
theorem dX4_on_1 : decode cX4_on 1 = .ok (.getfield 22, 3) := by decide +kernel
theorem dX4_on_4 : decode cX4_on 4 = .ok (.ifCond .ne 9, 3) := by decide +kernel
theorem dX4_on_7 : decode cX4_on 7 = .ok (.aload_n 0, 1) := by decide +kernel
theorem dX4_on_8 : decode cX4_on 8 = .ok (.iconst 3, 1) := by decide +kernel
theorem dX4_on_9 : decode cX4_on 9 = .ok (.invokevirtual 60, 3) := by decide +kernel
theorem dX4_on_12 : decode cX4_on 12 = .ok (.ireturn, 1) := by decide +kernel
theorem dX4_on_13 : decode cX4_on 13 = .ok (.aload_n 0, 1) := by decide +kernel
theorem dX4_on_14 : decode cX4_on 14 = .ok (.getfield 10, 3) := by decide +kernel
theorem dX4_on_17 : decode cX4_on 17 = .ok (.aload_n 0, 1) := by decide +kernel
theorem dX4_on_18 : decode cX4_on 18 = .ok (.getfield 19, 3) := by decide +kernel
theorem dX4_on_21 : decode cX4_on 21 = .ok (.invokevirtual 234, 3) := by decide +kernel
theorem dX4_on_24 : decode cX4_on 24 = .ok (.aload_n 0, 1) := by decide +kernel
theorem dX4_on_25 : decode cX4_on 25 = .ok (.getfield 10, 3) := by decide +kernel
theorem dX4_on_28 : decode cX4_on 28 = .ok (.invokevirtual 173, 3) := by decide +kernel
theorem dX4_on_31 : decode cX4_on 31 = .ok (.ireturn, 1) := by decide +kernel
set_option maxRecDepth 20000 in
theorem ggX4_count_X3_personCount : GoodIn wsX4_count wsX3_personCount := goodIn_r _ [8, 9, 77, 78, 79, 80, 81, 82, 83, 84, 85, 86, 87, 88, 89, 90, 91, 92, 93, 94] (by decide +kernel) (by decide +kernel)
set_option maxRecDepth 20000 in
theorem gX4_count_X3_personCount : GoodIn wsX4_count (wsV RX4 221 RX3 yX3_personCount wsX3_personCount) := goodIn_app (goodIn_of _ (by decide +kernel)) ggX4_count_X3_personCount
set_option maxRecDepth 20000 in
theorem ggX4_count_X3_paperCount : GoodIn wsX4_count wsX3_paperCount := goodIn_r _ [13, 14, 77, 78, 79, 80, 81, 82, 83, 84, 85, 86, 87, 88, 89, 90, 91, 92, 93, 94] (by decide +kernel) (by decide +kernel)
set_option maxRecDepth 20000 in
theorem gX4_count_X3_paperCount : GoodIn wsX4_count (wsV RX4 224 RX3 yX3_paperCount wsX3_paperCount) := goodIn_app (goodIn_of _ (by decide +kernel)) ggX4_count_X3_paperCount
set_option maxRecDepth 20000 in
theorem ggX4_count_X3_weekNow : GoodIn wsX4_count wsX3_weekNow := goodIn_r _ [18, 19, 77, 78, 79, 80, 81, 82, 83, 84, 85, 86, 87, 88, 89, 90, 91, 92, 93, 94] (by decide +kernel) (by decide +kernel)
set_option maxRecDepth 20000 in
theorem gX4_count_X3_weekNow : GoodIn wsX4_count (wsV RX4 173 RX3 yX3_weekNow wsX3_weekNow) := goodIn_app (goodIn_of _ (by decide +kernel)) ggX4_count_X3_weekNow
set_option maxRecDepth 20000 in
theorem ggX4_count_X3_papersInForce : GoodIn wsX4_count wsX3_papersInForce := goodIn_r _ [23, 14, 24, 25, 26, 7, 27, 28, 29, 30, 31, 32, 33, 34, 35, 36, 37, 38, 39, 40, 41, 42, 43, 44, 45, 77, 78, 79, 80, 81, 82, 83, 84, 85, 86, 87, 88, 89, 90, 91, 92, 93, 94] (by decide +kernel) (by decide +kernel)
set_option maxRecDepth 20000 in
theorem gX4_count_X3_papersInForce : GoodIn wsX4_count (wsV RX4 237 RX3 yX3_papersInForce wsX3_papersInForce) := goodIn_app (goodIn_of _ (by decide +kernel)) ggX4_count_X3_papersInForce
set_option maxRecDepth 20000 in
theorem ggX4_count_X3_lawNow : GoodIn wsX4_count wsX3_lawNow := goodIn_r _ [49, 41, 77, 78, 79, 80, 81, 82, 83, 84, 85, 86, 87, 88, 89, 90, 91, 92, 93, 94] (by decide +kernel) (by decide +kernel)
set_option maxRecDepth 20000 in
theorem gX4_count_X3_lawNow : GoodIn wsX4_count (wsV RX4 240 RX3 yX3_lawNow wsX3_lawNow) := goodIn_app (goodIn_of _ (by decide +kernel)) ggX4_count_X3_lawNow
set_option maxRecDepth 20000 in
theorem ggX4_count_X3_clerkNow : GoodIn wsX4_count wsX3_clerkNow := goodIn_r _ [53, 54, 77, 78, 79, 80, 81, 82, 83, 84, 85, 86, 87, 88, 89, 90, 91, 92, 93, 94] (by decide +kernel) (by decide +kernel)
set_option maxRecDepth 20000 in
theorem gX4_count_X3_clerkNow : GoodIn wsX4_count (wsV RX4 243 RX3 yX3_clerkNow wsX3_clerkNow) := goodIn_app (goodIn_of _ (by decide +kernel)) ggX4_count_X3_clerkNow
set_option maxRecDepth 20000 in
theorem ggX4_count_X0_howMany : GoodIn wsX4_count wsX0_howMany := goodIn_r _ [59, 60, 95, 96, 97, 98, 99] (by decide +kernel) (by decide +kernel)
set_option maxRecDepth 20000 in
theorem gX4_count_X0_howMany : GoodIn wsX4_count (wsV RX4 246 RX0 yX0_howMany wsX0_howMany) := goodIn_app (goodIn_of _ (by decide +kernel)) ggX4_count_X0_howMany
set_option maxRecDepth 20000 in
theorem ggX4_count_X4_refusalsOf : GoodIn wsX4_count wsX4_refusalsOf := goodIn_r _ [65, 66, 67, 68, 69, 70, 71, 72, 73, 74, 75, 76] (by decide +kernel) (by decide +kernel)
set_option maxRecDepth 20000 in
theorem gX4_count_X4_refusalsOf : GoodIn wsX4_count (wsV RX4 249 RX4 yX4_refusalsOf wsX4_refusalsOf) := goodIn_app (goodIn_of _ (by decide +kernel)) ggX4_count_X4_refusalsOf
theorem dX4_count_0 : decode cX4_count 0 = .ok (.iload_n 1, 1) := by decide +kernel
theorem dX4_count_1 : decode cX4_count 1 = .ok (.tableswitch 108 0 7 #[47, 55, 63, 71, 79, 87, 95, 100], 47) := by decide +kernel
theorem dX4_count_48 : decode cX4_count 48 = .ok (.aload_n 0, 1) := by decide +kernel
theorem dX4_count_49 : decode cX4_count 49 = .ok (.getfield 10, 3) := by decide +kernel
theorem dX4_count_52 : decode cX4_count 52 = .ok (.invokevirtual 221, 3) := by decide +kernel
theorem dX4_count_55 : decode cX4_count 55 = .ok (.ireturn, 1) := by decide +kernel
theorem dX4_count_56 : decode cX4_count 56 = .ok (.aload_n 0, 1) := by decide +kernel
theorem dX4_count_57 : decode cX4_count 57 = .ok (.getfield 10, 3) := by decide +kernel
theorem dX4_count_60 : decode cX4_count 60 = .ok (.invokevirtual 224, 3) := by decide +kernel
theorem dX4_count_63 : decode cX4_count 63 = .ok (.ireturn, 1) := by decide +kernel
theorem dX4_count_64 : decode cX4_count 64 = .ok (.aload_n 0, 1) := by decide +kernel
theorem dX4_count_65 : decode cX4_count 65 = .ok (.getfield 10, 3) := by decide +kernel
theorem dX4_count_68 : decode cX4_count 68 = .ok (.invokevirtual 173, 3) := by decide +kernel
theorem dX4_count_71 : decode cX4_count 71 = .ok (.ireturn, 1) := by decide +kernel
theorem dX4_count_72 : decode cX4_count 72 = .ok (.aload_n 0, 1) := by decide +kernel
theorem dX4_count_73 : decode cX4_count 73 = .ok (.getfield 10, 3) := by decide +kernel
theorem dX4_count_76 : decode cX4_count 76 = .ok (.invokevirtual 237, 3) := by decide +kernel
theorem dX4_count_79 : decode cX4_count 79 = .ok (.ireturn, 1) := by decide +kernel
theorem dX4_count_80 : decode cX4_count 80 = .ok (.aload_n 0, 1) := by decide +kernel
theorem dX4_count_81 : decode cX4_count 81 = .ok (.getfield 10, 3) := by decide +kernel
theorem dX4_count_84 : decode cX4_count 84 = .ok (.invokevirtual 240, 3) := by decide +kernel
theorem dX4_count_87 : decode cX4_count 87 = .ok (.ireturn, 1) := by decide +kernel
theorem dX4_count_88 : decode cX4_count 88 = .ok (.aload_n 0, 1) := by decide +kernel
theorem dX4_count_89 : decode cX4_count 89 = .ok (.getfield 10, 3) := by decide +kernel
theorem dX4_count_92 : decode cX4_count 92 = .ok (.invokevirtual 243, 3) := by decide +kernel
theorem dX4_count_95 : decode cX4_count 95 = .ok (.ireturn, 1) := by decide +kernel
theorem dX4_count_96 : decode cX4_count 96 = .ok (.aload_n 0, 1) := by decide +kernel
theorem dX4_count_97 : decode cX4_count 97 = .ok (.getfield 53, 3) := by decide +kernel
theorem dX4_count_100 : decode cX4_count 100 = .ok (.ireturn, 1) := by decide +kernel
theorem dX4_count_101 : decode cX4_count 101 = .ok (.aload_n 0, 1) := by decide +kernel
theorem dX4_count_102 : decode cX4_count 102 = .ok (.getfield 29, 3) := by decide +kernel
theorem dX4_count_105 : decode cX4_count 105 = .ok (.invokevirtual 246, 3) := by decide +kernel
theorem dX4_count_108 : decode cX4_count 108 = .ok (.ireturn, 1) := by decide +kernel
theorem dX4_count_109 : decode cX4_count 109 = .ok (.aload_n 0, 1) := by decide +kernel
theorem dX4_count_110 : decode cX4_count 110 = .ok (.iload_n 1, 1) := by decide +kernel
theorem dX4_count_111 : decode cX4_count 111 = .ok (.bipush 10, 2) := by decide +kernel
theorem dX4_count_113 : decode cX4_count 113 = .ok (.isub, 1) := by decide +kernel
theorem dX4_count_114 : decode cX4_count 114 = .ok (.invokevirtual 249, 3) := by decide +kernel
theorem dX4_count_117 : decode cX4_count 117 = .ok (.ireturn, 1) := by decide +kernel
theorem dX4_refusalsOf_0 : decode cX4_refusalsOf 0 = .ok (.iload_n 1, 1) := by decide +kernel
theorem dX4_refusalsOf_1 : decode cX4_refusalsOf 1 = .ok (.iconst 1, 1) := by decide +kernel
theorem dX4_refusalsOf_2 : decode cX4_refusalsOf 2 = .ok (.if_icmp .lt 9, 3) := by decide +kernel
theorem dX4_refusalsOf_5 : decode cX4_refusalsOf 5 = .ok (.iload_n 1, 1) := by decide +kernel
theorem dX4_refusalsOf_6 : decode cX4_refusalsOf 6 = .ok (.bipush 6, 2) := by decide +kernel
theorem dX4_refusalsOf_8 : decode cX4_refusalsOf 8 = .ok (.if_icmp .le 6, 3) := by decide +kernel
theorem dX4_refusalsOf_11 : decode cX4_refusalsOf 11 = .ok (.bipush (-9), 2) := by decide +kernel
theorem dX4_refusalsOf_13 : decode cX4_refusalsOf 13 = .ok (.ireturn, 1) := by decide +kernel
theorem dX4_refusalsOf_14 : decode cX4_refusalsOf 14 = .ok (.aload_n 0, 1) := by decide +kernel
theorem dX4_refusalsOf_15 : decode cX4_refusalsOf 15 = .ok (.getfield 57, 3) := by decide +kernel
theorem dX4_refusalsOf_18 : decode cX4_refusalsOf 18 = .ok (.iload_n 1, 1) := by decide +kernel
theorem dX4_refusalsOf_19 : decode cX4_refusalsOf 19 = .ok (.iaload, 1) := by decide +kernel
theorem dX4_refusalsOf_20 : decode cX4_refusalsOf 20 = .ok (.ireturn, 1) := by decide +kernel
theorem dX4_refuse_0 : decode cX4_refuse 0 = .ok (.aload_n 0, 1) := by decide +kernel
theorem dX4_refuse_1 : decode cX4_refuse 1 = .ok (.getfield 57, 3) := by decide +kernel
theorem dX4_refuse_4 : decode cX4_refuse 4 = .ok (.iload_n 1, 1) := by decide +kernel
theorem dX4_refuse_5 : decode cX4_refuse 5 = .ok (.dup2, 1) := by decide +kernel
theorem dX4_refuse_6 : decode cX4_refuse 6 = .ok (.iaload, 1) := by decide +kernel
theorem dX4_refuse_7 : decode cX4_refuse 7 = .ok (.iconst 1, 1) := by decide +kernel
theorem dX4_refuse_8 : decode cX4_refuse 8 = .ok (.iadd, 1) := by decide +kernel
theorem dX4_refuse_9 : decode cX4_refuse 9 = .ok (.iastore, 1) := by decide +kernel
theorem dX4_refuse_10 : decode cX4_refuse 10 = .ok (.iload_n 1, 1) := by decide +kernel
theorem dX4_refuse_11 : decode cX4_refuse 11 = .ok (.ineg, 1) := by decide +kernel
theorem dX4_refuse_12 : decode cX4_refuse 12 = .ok (.ireturn, 1) := by decide +kernel
theorem dX4_refuseFar_0 : decode cX4_refuseFar 0 = .ok (.aload_n 0, 1) := by decide +kernel
theorem dX4_refuseFar_1 : decode cX4_refuseFar 1 = .ok (.getfield 57, 3) := by decide +kernel
theorem dX4_refuseFar_4 : decode cX4_refuseFar 4 = .ok (.iload_n 1, 1) := by decide +kernel
theorem dX4_refuseFar_5 : decode cX4_refuseFar 5 = .ok (.dup2, 1) := by decide +kernel
theorem dX4_refuseFar_6 : decode cX4_refuseFar 6 = .ok (.iaload, 1) := by decide +kernel
theorem dX4_refuseFar_7 : decode cX4_refuseFar 7 = .ok (.iconst 1, 1) := by decide +kernel
theorem dX4_refuseFar_8 : decode cX4_refuseFar 8 = .ok (.iadd, 1) := by decide +kernel
theorem dX4_refuseFar_9 : decode cX4_refuseFar 9 = .ok (.iastore, 1) := by decide +kernel
theorem dX4_refuseFar_10 : decode cX4_refuseFar 10 = .ok (.ldc 252, 2) := by decide +kernel
theorem dX4_refuseFar_12 : decode cX4_refuseFar 12 = .ok (.iload_n 1, 1) := by decide +kernel
theorem dX4_refuseFar_13 : decode cX4_refuseFar 13 = .ok (.iadd, 1) := by decide +kernel
theorem dX4_refuseFar_14 : decode cX4_refuseFar 14 = .ok (.ireturn, 1) := by decide +kernel
theorem dX4_refuseFarthest_0 : decode cX4_refuseFarthest 0 = .ok (.aload_n 0, 1) := by decide +kernel
theorem dX4_refuseFarthest_1 : decode cX4_refuseFarthest 1 = .ok (.getfield 57, 3) := by decide +kernel
theorem dX4_refuseFarthest_4 : decode cX4_refuseFarthest 4 = .ok (.iload_n 1, 1) := by decide +kernel
theorem dX4_refuseFarthest_5 : decode cX4_refuseFarthest 5 = .ok (.dup2, 1) := by decide +kernel
theorem dX4_refuseFarthest_6 : decode cX4_refuseFarthest 6 = .ok (.iaload, 1) := by decide +kernel
theorem dX4_refuseFarthest_7 : decode cX4_refuseFarthest 7 = .ok (.iconst 1, 1) := by decide +kernel
theorem dX4_refuseFarthest_8 : decode cX4_refuseFarthest 8 = .ok (.iadd, 1) := by decide +kernel
theorem dX4_refuseFarthest_9 : decode cX4_refuseFarthest 9 = .ok (.iastore, 1) := by decide +kernel
theorem dX4_refuseFarthest_10 : decode cX4_refuseFarthest 10 = .ok (.ldc2_w 253, 3) := by decide +kernel
theorem dX4_refuseFarthest_13 : decode cX4_refuseFarthest 13 = .ok (.iload_n 1, 1) := by decide +kernel
theorem dX4_refuseFarthest_14 : decode cX4_refuseFarthest 14 = .ok (.i2l, 1) := by decide +kernel
theorem dX4_refuseFarthest_15 : decode cX4_refuseFarthest 15 = .ok (.ladd, 1) := by decide +kernel
theorem dX4_refuseFarthest_16 : decode cX4_refuseFarthest 16 = .ok (.lreturn, 1) := by decide +kernel
set_option maxRecDepth 20000 in
theorem ggX4_isNoPair_X3_hasPerson : GoodIn wsX4_isNoPair wsX3_hasPerson := goodIn_r _ [6, 7, 23, 24, 25, 26, 27, 28, 29, 30, 31, 32, 33, 34, 35, 36, 37, 38, 39, 40] (by decide +kernel) (by decide +kernel)
set_option maxRecDepth 20000 in
theorem gX4_isNoPair_X3_hasPerson : GoodIn wsX4_isNoPair (wsV RX4 78 RX3 yX3_hasPerson wsX3_hasPerson) := goodIn_app (goodIn_of _ (by decide +kernel)) ggX4_isNoPair_X3_hasPerson
set_option maxRecDepth 20000 in
theorem ggX4_isNoPair_X3_hasPaper : GoodIn wsX4_isNoPair wsX3_hasPaper := goodIn_r _ [11, 12, 23, 24, 25, 26, 27, 28, 29, 30, 31, 32, 33, 34, 35, 36, 37, 38, 39, 40] (by decide +kernel) (by decide +kernel)
set_option maxRecDepth 20000 in
theorem gX4_isNoPair_X3_hasPaper : GoodIn wsX4_isNoPair (wsV RX4 86 RX3 yX3_hasPaper wsX3_hasPaper) := goodIn_app (goodIn_of _ (by decide +kernel)) ggX4_isNoPair_X3_hasPaper
theorem dX4_isNoPair_0 : decode cX4_isNoPair 0 = .ok (.aload_n 0, 1) := by decide +kernel
theorem dX4_isNoPair_1 : decode cX4_isNoPair 1 = .ok (.getfield 10, 3) := by decide +kernel
theorem dX4_isNoPair_4 : decode cX4_isNoPair 4 = .ok (.iload_n 1, 1) := by decide +kernel
theorem dX4_isNoPair_5 : decode cX4_isNoPair 5 = .ok (.invokevirtual 78, 3) := by decide +kernel
theorem dX4_isNoPair_8 : decode cX4_isNoPair 8 = .ok (.ifCond .eq 14, 3) := by decide +kernel
theorem dX4_isNoPair_11 : decode cX4_isNoPair 11 = .ok (.aload_n 0, 1) := by decide +kernel
theorem dX4_isNoPair_12 : decode cX4_isNoPair 12 = .ok (.getfield 10, 3) := by decide +kernel
theorem dX4_isNoPair_15 : decode cX4_isNoPair 15 = .ok (.iload_n 2, 1) := by decide +kernel
theorem dX4_isNoPair_16 : decode cX4_isNoPair 16 = .ok (.invokevirtual 86, 3) := by decide +kernel
theorem dX4_isNoPair_19 : decode cX4_isNoPair 19 = .ok (.ifCond .ne 7, 3) := by decide +kernel
theorem dX4_isNoPair_22 : decode cX4_isNoPair 22 = .ok (.iconst 1, 1) := by decide +kernel
theorem dX4_isNoPair_23 : decode cX4_isNoPair 23 = .ok (.goto 4, 3) := by decide +kernel
theorem dX4_isNoPair_26 : decode cX4_isNoPair 26 = .ok (.iconst 0, 1) := by decide +kernel
theorem dX4_isNoPair_27 : decode cX4_isNoPair 27 = .ok (.ireturn, 1) := by decide +kernel
theorem dX4_isNoThing_0 : decode cX4_isNoThing 0 = .ok (.iload_n 0, 1) := by decide +kernel
theorem dX4_isNoThing_1 : decode cX4_isNoThing 1 = .ok (.ifCond .lt 8, 3) := by decide +kernel
theorem dX4_isNoThing_4 : decode cX4_isNoThing 4 = .ok (.iload_n 0, 1) := by decide +kernel
theorem dX4_isNoThing_5 : decode cX4_isNoThing 5 = .ok (.iconst 3, 1) := by decide +kernel
theorem dX4_isNoThing_6 : decode cX4_isNoThing 6 = .ok (.if_icmp .lt 7, 3) := by decide +kernel
theorem dX4_isNoThing_9 : decode cX4_isNoThing 9 = .ok (.iconst 1, 1) := by decide +kernel
theorem dX4_isNoThing_10 : decode cX4_isNoThing 10 = .ok (.goto 4, 3) := by decide +kernel
theorem dX4_isNoThing_13 : decode cX4_isNoThing 13 = .ok (.iconst 0, 1) := by decide +kernel
theorem dX4_isNoThing_14 : decode cX4_isNoThing 14 = .ok (.ireturn, 1) := by decide +kernel
theorem dX4_isNoPart_0 : decode cX4_isNoPart 0 = .ok (.iload_n 0, 1) := by decide +kernel
theorem dX4_isNoPart_1 : decode cX4_isNoPart 1 = .ok (.ifCond .eq 12, 3) := by decide +kernel
theorem dX4_isNoPart_4 : decode cX4_isNoPart 4 = .ok (.iload_n 0, 1) := by decide +kernel
theorem dX4_isNoPart_5 : decode cX4_isNoPart 5 = .ok (.iconst 1, 1) := by decide +kernel
theorem dX4_isNoPart_6 : decode cX4_isNoPart 6 = .ok (.if_icmp .eq 7, 3) := by decide +kernel
theorem dX4_isNoPart_9 : decode cX4_isNoPart 9 = .ok (.iconst 1, 1) := by decide +kernel
theorem dX4_isNoPart_10 : decode cX4_isNoPart 10 = .ok (.goto 4, 3) := by decide +kernel
theorem dX4_isNoPart_13 : decode cX4_isNoPart 13 = .ok (.iconst 0, 1) := by decide +kernel
theorem dX4_isNoPart_14 : decode cX4_isNoPart 14 = .ok (.ireturn, 1) := by decide +kernel
theorem dX4_whyNotSoMany_0 : decode cX4_whyNotSoMany 0 = .ok (.iload_n 0, 1) := by decide +kernel
theorem dX4_whyNotSoMany_1 : decode cX4_whyNotSoMany 1 = .ok (.iconst 1, 1) := by decide +kernel
theorem dX4_whyNotSoMany_2 : decode cX4_whyNotSoMany 2 = .ok (.if_icmp .ge 5, 3) := by decide +kernel
theorem dX4_whyNotSoMany_5 : decode cX4_whyNotSoMany 5 = .ok (.iconst 4, 1) := by decide +kernel
theorem dX4_whyNotSoMany_6 : decode cX4_whyNotSoMany 6 = .ok (.ireturn, 1) := by decide +kernel
theorem dX4_whyNotSoMany_7 : decode cX4_whyNotSoMany 7 = .ok (.iload_n 0, 1) := by decide +kernel
theorem dX4_whyNotSoMany_8 : decode cX4_whyNotSoMany 8 = .ok (.iload_n 1, 1) := by decide +kernel
theorem dX4_whyNotSoMany_9 : decode cX4_whyNotSoMany 9 = .ok (.if_icmp .le 8, 3) := by decide +kernel
theorem dX4_whyNotSoMany_12 : decode cX4_whyNotSoMany 12 = .ok (.bipush 6, 2) := by decide +kernel
theorem dX4_whyNotSoMany_14 : decode cX4_whyNotSoMany 14 = .ok (.goto 4, 3) := by decide +kernel
theorem dX4_whyNotSoMany_17 : decode cX4_whyNotSoMany 17 = .ok (.iconst 0, 1) := by decide +kernel
theorem dX4_whyNotSoMany_18 : decode cX4_whyNotSoMany 18 = .ok (.ireturn, 1) := by decide +kernel
set_option maxRecDepth 20000 in
theorem ggX4_whyNotWhen_X4_whyNotSoMany : GoodIn wsX4_whyNotWhen wsX4_whyNotSoMany := goodIn_r _ [5] (by decide +kernel) (by decide +kernel)
set_option maxRecDepth 20000 in
theorem gX4_whyNotWhen_X4_whyNotSoMany : GoodIn wsX4_whyNotWhen (va_wsS RX4 167 yX4_whyNotSoMany wsX4_whyNotSoMany) := goodIn_app (goodIn_of _ (by decide +kernel)) ggX4_whyNotWhen_X4_whyNotSoMany
set_option maxRecDepth 20000 in
theorem ggX4_whyNotWhen_X3_isUnread : GoodIn wsX4_whyNotWhen wsX3_isUnread := goodIn_r _ [10, 11, 12, 13, 9, 14, 15, 16, 27, 28, 29, 30, 31, 32, 33, 34, 35, 36, 37, 38, 39, 40, 41, 42, 43, 44] (by decide +kernel) (by decide +kernel)
set_option maxRecDepth 20000 in
theorem gX4_whyNotWhen_X3_isUnread : GoodIn wsX4_whyNotWhen (wsV RX4 129 RX3 yX3_isUnread wsX3_isUnread) := goodIn_app (goodIn_of _ (by decide +kernel)) ggX4_whyNotWhen_X3_isUnread
theorem dX4_whyNotWhen_0 : decode cX4_whyNotWhen 0 = .ok (.iload_n 3, 1) := by decide +kernel
theorem dX4_whyNotWhen_1 : decode cX4_whyNotWhen 1 = .ok (.bipush 20, 2) := by decide +kernel
theorem dX4_whyNotWhen_3 : decode cX4_whyNotWhen 3 = .ok (.invokestatic 167, 3) := by decide +kernel
theorem dX4_whyNotWhen_6 : decode cX4_whyNotWhen 6 = .ok (.istore 4, 2) := by decide +kernel
theorem dX4_whyNotWhen_8 : decode cX4_whyNotWhen 8 = .ok (.iload 4, 2) := by decide +kernel
theorem dX4_whyNotWhen_10 : decode cX4_whyNotWhen 10 = .ok (.ifCond .ne 18, 3) := by decide +kernel
theorem dX4_whyNotWhen_13 : decode cX4_whyNotWhen 13 = .ok (.aload_n 0, 1) := by decide +kernel
theorem dX4_whyNotWhen_14 : decode cX4_whyNotWhen 14 = .ok (.getfield 10, 3) := by decide +kernel
theorem dX4_whyNotWhen_17 : decode cX4_whyNotWhen 17 = .ok (.iload_n 1, 1) := by decide +kernel
theorem dX4_whyNotWhen_18 : decode cX4_whyNotWhen 18 = .ok (.iload_n 2, 1) := by decide +kernel
theorem dX4_whyNotWhen_19 : decode cX4_whyNotWhen 19 = .ok (.invokevirtual 129, 3) := by decide +kernel
theorem dX4_whyNotWhen_22 : decode cX4_whyNotWhen 22 = .ok (.ifCond .ne 6, 3) := by decide +kernel
theorem dX4_whyNotWhen_25 : decode cX4_whyNotWhen 25 = .ok (.iconst 3, 1) := by decide +kernel
theorem dX4_whyNotWhen_26 : decode cX4_whyNotWhen 26 = .ok (.istore 4, 2) := by decide +kernel
theorem dX4_whyNotWhen_28 : decode cX4_whyNotWhen 28 = .ok (.iload 4, 2) := by decide +kernel
theorem dX4_whyNotWhen_30 : decode cX4_whyNotWhen 30 = .ok (.ireturn, 1) := by decide +kernel
set_option maxRecDepth 20000 in
theorem ggX4_settle_X0_brokenPlace : GoodIn wsX4_settle wsX0_brokenPlace := goodIn_r _ [8, 9, 10, 11, 12, 7, 13, 14, 15, 16, 17, 18, 19, 20, 21, 22, 23, 24, 25, 26, 27, 28, 29, 30, 31, 32, 33, 34, 35, 36, 37, 38, 39, 40, 41, 42, 43, 44, 45, 46, 47, 48, 49, 50, 51, 52, 53, 54, 55, 56, 57, 58, 59, 60, 61, 62, 63, 64, 65, 66, 67, 68, 69, 70, 71, 72, 73, 74, 75, 76, 77, 78, 79, 80, 81, 82, 83, 84, 85, 86, 87, 88, 89, 90, 91, 92, 93, 94, 95, 96, 97, 98, 99, 100, 101, 102, 103, 104, 105, 106, 107, 108, 109, 110, 111, 112, 113, 114, 115, 116, 117, 118, 119, 120, 121, 122, 123, 124, 125, 126, 127, 128, 129, 130, 131, 132, 133, 134, 222, 223, 224, 225, 226] (by decide +kernel) (by decide +kernel)
set_option maxRecDepth 20000 in
theorem gX4_settle_X0_brokenPlace : GoodIn wsX4_settle (wsV RX4 255 RX0 yX0_brokenPlace wsX0_brokenPlace) := goodIn_app (goodIn_of _ (by decide +kernel)) ggX4_settle_X0_brokenPlace
set_option maxRecDepth 20000 in
theorem ggX4_settle_X3_become : GoodIn wsX4_settle wsX3_become := goodIn_r _ [139, 140, 141, 142, 143, 144, 145, 146, 147, 148, 149, 150, 151, 152, 153, 154, 155, 156, 157, 158, 159, 160, 161, 227, 228, 229, 230, 231, 232, 233, 234, 235, 236, 237, 238, 239, 240, 241, 242, 243, 244] (by decide +kernel) (by decide +kernel)
set_option maxRecDepth 20000 in
theorem gX4_settle_X3_become : GoodIn wsX4_settle (wsV RX4 234 RX3 yX3_become wsX3_become) := goodIn_app (goodIn_of _ (by decide +kernel)) ggX4_settle_X3_become
set_option maxRecDepth 20000 in
theorem ggX4_settle_X0_rewind : GoodIn wsX4_settle wsX0_rewind := goodIn_r _ [13, 9, 222, 223, 224, 225, 226] (by decide +kernel) (by decide +kernel)
set_option maxRecDepth 20000 in
theorem gX4_settle_X0_rewind : GoodIn wsX4_settle (wsV RX4 258 RX0 yX0_rewind wsX0_rewind) := goodIn_app (goodIn_of _ (by decide +kernel)) ggX4_settle_X0_rewind
set_option maxRecDepth 20000 in
theorem ggX4_settle_X0_hasMore : GoodIn wsX4_settle wsX0_hasMore := goodIn_r _ [134, 9, 18, 222, 223, 224, 225, 226] (by decide +kernel) (by decide +kernel)
set_option maxRecDepth 20000 in
theorem gX4_settle_X0_hasMore : GoodIn wsX4_settle (wsV RX4 261 RX0 yX0_hasMore wsX0_hasMore) := goodIn_app (goodIn_of _ (by decide +kernel)) ggX4_settle_X0_hasMore
set_option maxRecDepth 20000 in
theorem ggX4_settle_X0_place : GoodIn wsX4_settle wsX0_place := goodIn_r _ [167, 9, 222, 223, 224, 225, 226] (by decide +kernel) (by decide +kernel)
set_option maxRecDepth 20000 in
theorem gX4_settle_X0_place : GoodIn wsX4_settle (wsV RX4 264 RX0 yX0_place wsX0_place) := goodIn_app (goodIn_of _ (by decide +kernel)) ggX4_settle_X0_place
set_option maxRecDepth 20000 in
theorem ggX4_settle_X0_nextStatement : GoodIn wsX4_settle wsX0_nextStatement := goodIn_r _ [17, 9, 18, 19, 20, 21, 22, 23, 7, 24, 25, 26, 27, 28, 29, 30, 31, 32, 33, 34, 35, 36, 37, 38, 39, 40, 41, 42, 43, 44, 45, 46, 47, 48, 49, 50, 51, 52, 53, 54, 55, 56, 57, 58, 59, 60, 61, 62, 63, 64, 65, 66, 67, 68, 69, 70, 71, 72, 73, 74, 75, 76, 77, 78, 79, 80, 81, 82, 83, 84, 85, 86, 87, 88, 89, 90, 91, 92, 93, 94, 95, 96, 97, 98, 99, 100, 101, 102, 103, 104, 105, 106, 107, 108, 109, 110, 111, 112, 113, 114, 115, 116, 117, 118, 119, 120, 121, 122, 123, 124, 125, 126, 127, 128, 129, 130, 222, 223, 224, 225, 226] (by decide +kernel) (by decide +kernel)
set_option maxRecDepth 20000 in
theorem gX4_settle_X0_nextStatement : GoodIn wsX4_settle (wsV RX4 267 RX0 yX0_nextStatement wsX0_nextStatement) := goodIn_app (goodIn_of _ (by decide +kernel)) ggX4_settle_X0_nextStatement
set_option maxRecDepth 20000 in
theorem ggX4_settle_X3_takes : GoodIn wsX4_settle wsX3_takes := goodIn_r _ [172, 173, 174, 175, 7, 176, 20, 177, 178, 179, 180, 29, 181, 182, 183, 138, 184, 140, 145, 150, 151, 152, 185, 186, 187, 188, 141, 153, 154, 155, 156, 157, 158, 159, 189, 190, 191, 192, 160, 161, 193, 194, 195, 196, 197, 198, 199, 200, 201, 202, 203, 204, 142, 205, 206, 207, 208, 209, 210, 211, 143, 222, 223, 224, 225, 226, 227, 228, 229, 230, 231, 232, 233, 234, 235, 236, 237, 238, 239, 240, 241, 242, 243, 244] (by decide +kernel) (by decide +kernel)
set_option maxRecDepth 20000 in
theorem gX4_settle_X3_takes : GoodIn wsX4_settle (wsV RX4 270 RX3 yX3_takes wsX3_takes) := goodIn_app (goodIn_of _ (by decide +kernel)) ggX4_settle_X3_takes
theorem dX4_settle_0 : decode cX4_settle 0 = .ok (.aload_n 0, 1) := by decide +kernel
theorem dX4_settle_1 : decode cX4_settle 1 = .ok (.getfield 29, 3) := by decide +kernel
theorem dX4_settle_4 : decode cX4_settle 4 = .ok (.invokevirtual 255, 3) := by decide +kernel
theorem dX4_settle_7 : decode cX4_settle 7 = .ok (.istore_n 1, 1) := by decide +kernel
theorem dX4_settle_8 : decode cX4_settle 8 = .ok (.iload_n 1, 1) := by decide +kernel
theorem dX4_settle_9 : decode cX4_settle 9 = .ok (.ifCond .lt 9, 3) := by decide +kernel
theorem dX4_settle_12 : decode cX4_settle 12 = .ok (.sipush (-1000), 3) := by decide +kernel
theorem dX4_settle_15 : decode cX4_settle 15 = .ok (.iload_n 1, 1) := by decide +kernel
theorem dX4_settle_16 : decode cX4_settle 16 = .ok (.isub, 1) := by decide +kernel
theorem dX4_settle_17 : decode cX4_settle 17 = .ok (.ireturn, 1) := by decide +kernel
theorem dX4_settle_18 : decode cX4_settle 18 = .ok (.aload_n 0, 1) := by decide +kernel
theorem dX4_settle_19 : decode cX4_settle 19 = .ok (.getfield 16, 3) := by decide +kernel
theorem dX4_settle_22 : decode cX4_settle 22 = .ok (.aload_n 0, 1) := by decide +kernel
theorem dX4_settle_23 : decode cX4_settle 23 = .ok (.getfield 10, 3) := by decide +kernel
theorem dX4_settle_26 : decode cX4_settle 26 = .ok (.invokevirtual 234, 3) := by decide +kernel
theorem dX4_settle_29 : decode cX4_settle 29 = .ok (.aload_n 0, 1) := by decide +kernel
theorem dX4_settle_30 : decode cX4_settle 30 = .ok (.getfield 29, 3) := by decide +kernel
theorem dX4_settle_33 : decode cX4_settle 33 = .ok (.invokevirtual 258, 3) := by decide +kernel
theorem dX4_settle_36 : decode cX4_settle 36 = .ok (.iconst 0, 1) := by decide +kernel
theorem dX4_settle_37 : decode cX4_settle 37 = .ok (.istore_n 2, 1) := by decide +kernel
theorem dX4_settle_38 : decode cX4_settle 38 = .ok (.aload_n 0, 1) := by decide +kernel
theorem dX4_settle_39 : decode cX4_settle 39 = .ok (.getfield 29, 3) := by decide +kernel
theorem dX4_settle_42 : decode cX4_settle 42 = .ok (.invokevirtual 261, 3) := by decide +kernel
theorem dX4_settle_45 : decode cX4_settle 45 = .ok (.ifCond .eq 53, 3) := by decide +kernel
theorem dX4_settle_48 : decode cX4_settle 48 = .ok (.iload_n 2, 1) := by decide +kernel
theorem dX4_settle_49 : decode cX4_settle 49 = .ok (.bipush 64, 2) := by decide +kernel
theorem dX4_settle_51 : decode cX4_settle 51 = .ok (.if_icmp .ge 47, 3) := by decide +kernel
theorem dX4_settle_54 : decode cX4_settle 54 = .ok (.aload_n 0, 1) := by decide +kernel
theorem dX4_settle_55 : decode cX4_settle 55 = .ok (.getfield 29, 3) := by decide +kernel
theorem dX4_settle_58 : decode cX4_settle 58 = .ok (.invokevirtual 264, 3) := by decide +kernel
theorem dX4_settle_61 : decode cX4_settle 61 = .ok (.istore_n 3, 1) := by decide +kernel
theorem dX4_settle_62 : decode cX4_settle 62 = .ok (.aload_n 0, 1) := by decide +kernel
theorem dX4_settle_63 : decode cX4_settle 63 = .ok (.getfield 29, 3) := by decide +kernel
theorem dX4_settle_66 : decode cX4_settle 66 = .ok (.invokevirtual 267, 3) := by decide +kernel
theorem dX4_settle_69 : decode cX4_settle 69 = .ok (.ifCond .eq 17, 3) := by decide +kernel
theorem dX4_settle_72 : decode cX4_settle 72 = .ok (.aload_n 0, 1) := by decide +kernel
theorem dX4_settle_73 : decode cX4_settle 73 = .ok (.getfield 16, 3) := by decide +kernel
theorem dX4_settle_76 : decode cX4_settle 76 = .ok (.aload_n 0, 1) := by decide +kernel
theorem dX4_settle_77 : decode cX4_settle 77 = .ok (.getfield 29, 3) := by decide +kernel
theorem dX4_settle_80 : decode cX4_settle 80 = .ok (.invokevirtual 270, 3) := by decide +kernel
theorem dX4_settle_83 : decode cX4_settle 83 = .ok (.ifCond .ne 9, 3) := by decide +kernel
theorem dX4_settle_86 : decode cX4_settle 86 = .ok (.sipush (-2000), 3) := by decide +kernel
theorem dX4_settle_89 : decode cX4_settle 89 = .ok (.iload_n 3, 1) := by decide +kernel
theorem dX4_settle_90 : decode cX4_settle 90 = .ok (.isub, 1) := by decide +kernel
theorem dX4_settle_91 : decode cX4_settle 91 = .ok (.ireturn, 1) := by decide +kernel
theorem dX4_settle_92 : decode cX4_settle 92 = .ok (.iinc 2 1, 3) := by decide +kernel
theorem dX4_settle_95 : decode cX4_settle 95 = .ok (.goto (-57), 3) := by decide +kernel
theorem dX4_settle_98 : decode cX4_settle 98 = .ok (.aload_n 0, 1) := by decide +kernel
theorem dX4_settle_99 : decode cX4_settle 99 = .ok (.getfield 10, 3) := by decide +kernel
theorem dX4_settle_102 : decode cX4_settle 102 = .ok (.aload_n 0, 1) := by decide +kernel
theorem dX4_settle_103 : decode cX4_settle 103 = .ok (.getfield 16, 3) := by decide +kernel
theorem dX4_settle_106 : decode cX4_settle 106 = .ok (.invokevirtual 234, 3) := by decide +kernel
theorem dX4_settle_109 : decode cX4_settle 109 = .ok (.iload_n 2, 1) := by decide +kernel
theorem dX4_settle_110 : decode cX4_settle 110 = .ok (.ireturn, 1) := by decide +kernel
