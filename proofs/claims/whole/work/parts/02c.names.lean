theorem dX3_init_0 : decode cX3_init 0 = .ok (.aload_n 0, 1) := by decide +kernel
theorem dX3_init_1 : decode cX3_init 1 = .ok (.invokespecial 3, 3) := by decide +kernel
theorem dX3_init_4 : decode cX3_init 4 = .ok (.aload_n 0, 1) := by decide +kernel
theorem dX3_init_5 : decode cX3_init 5 = .ok (.iconst 0, 1) := by decide +kernel
theorem dX3_init_6 : decode cX3_init 6 = .ok (.putfield 9, 3) := by decide +kernel
theorem dX3_init_9 : decode cX3_init 9 = .ok (.aload_n 0, 1) := by decide +kernel
theorem dX3_init_10 : decode cX3_init 10 = .ok (.iconst 0, 1) := by decide +kernel
theorem dX3_init_11 : decode cX3_init 11 = .ok (.putfield 15, 3) := by decide +kernel
theorem dX3_init_14 : decode cX3_init 14 = .ok (.aload_n 0, 1) := by decide +kernel
theorem dX3_init_15 : decode cX3_init 15 = .ok (.iconst 0, 1) := by decide +kernel
theorem dX3_init_16 : decode cX3_init 16 = .ok (.putfield 18, 3) := by decide +kernel
theorem dX3_init_19 : decode cX3_init 19 = .ok (.aload_n 0, 1) := by decide +kernel
theorem dX3_init_20 : decode cX3_init 20 = .ok (.bipush 50, 2) := by decide +kernel
theorem dX3_init_22 : decode cX3_init 22 = .ok (.putfield 21, 3) := by decide +kernel
theorem dX3_init_25 : decode cX3_init 25 = .ok (.aload_n 0, 1) := by decide +kernel
theorem dX3_init_26 : decode cX3_init 26 = .ok (.iconst 0, 1) := by decide +kernel
theorem dX3_init_27 : decode cX3_init 27 = .ok (.putfield 24, 3) := by decide +kernel
theorem dX3_init_30 : decode cX3_init 30 = .ok (.aload_n 0, 1) := by decide +kernel
theorem dX3_init_31 : decode cX3_init 31 = .ok (.bipush 6, 2) := by decide +kernel
theorem dX3_init_33 : decode cX3_init 33 = .ok (.newarray .int, 2) := by decide +kernel
theorem dX3_init_35 : decode cX3_init 35 = .ok (.putfield 27, 3) := by decide +kernel
theorem dX3_init_38 : decode cX3_init 38 = .ok (.aload_n 0, 1) := by decide +kernel
theorem dX3_init_39 : decode cX3_init 39 = .ok (.bipush 6, 2) := by decide +kernel
theorem dX3_init_41 : decode cX3_init 41 = .ok (.newarray .int, 2) := by decide +kernel
theorem dX3_init_43 : decode cX3_init 43 = .ok (.putfield 31, 3) := by decide +kernel
theorem dX3_init_46 : decode cX3_init 46 = .ok (.aload_n 0, 1) := by decide +kernel
theorem dX3_init_47 : decode cX3_init 47 = .ok (.bipush 6, 2) := by decide +kernel
theorem dX3_init_49 : decode cX3_init 49 = .ok (.newarray .int, 2) := by decide +kernel
theorem dX3_init_51 : decode cX3_init 51 = .ok (.putfield 34, 3) := by decide +kernel
theorem dX3_init_54 : decode cX3_init 54 = .ok (.aload_n 0, 1) := by decide +kernel
theorem dX3_init_55 : decode cX3_init 55 = .ok (.bipush 6, 2) := by decide +kernel
theorem dX3_init_57 : decode cX3_init 57 = .ok (.newarray .int, 2) := by decide +kernel
theorem dX3_init_59 : decode cX3_init 59 = .ok (.putfield 37, 3) := by decide +kernel
theorem dX3_init_62 : decode cX3_init 62 = .ok (.aload_n 0, 1) := by decide +kernel
theorem dX3_init_63 : decode cX3_init 63 = .ok (.iconst 5, 1) := by decide +kernel
theorem dX3_init_64 : decode cX3_init 64 = .ok (.newarray .int, 2) := by decide +kernel
theorem dX3_init_66 : decode cX3_init 66 = .ok (.putfield 40, 3) := by decide +kernel
theorem dX3_init_69 : decode cX3_init 69 = .ok (.aload_n 0, 1) := by decide +kernel
theorem dX3_init_70 : decode cX3_init 70 = .ok (.iconst 5, 1) := by decide +kernel
theorem dX3_init_71 : decode cX3_init 71 = .ok (.newarray .int, 2) := by decide +kernel
theorem dX3_init_73 : decode cX3_init 73 = .ok (.putfield 43, 3) := by decide +kernel
theorem dX3_init_76 : decode cX3_init 76 = .ok (.aload_n 0, 1) := by decide +kernel
theorem dX3_init_77 : decode cX3_init 77 = .ok (.iconst 5, 1) := by decide +kernel
theorem dX3_init_78 : decode cX3_init 78 = .ok (.newarray .int, 2) := by decide +kernel
theorem dX3_init_80 : decode cX3_init 80 = .ok (.putfield 46, 3) := by decide +kernel
theorem dX3_init_83 : decode cX3_init 83 = .ok (.aload_n 0, 1) := by decide +kernel
theorem dX3_init_84 : decode cX3_init 84 = .ok (.iconst 5, 1) := by decide +kernel
theorem dX3_init_85 : decode cX3_init 85 = .ok (.newarray .int, 2) := by decide +kernel
theorem dX3_init_87 : decode cX3_init 87 = .ok (.putfield 49, 3) := by decide +kernel
theorem dX3_init_90 : decode cX3_init 90 = .ok (.aload_n 0, 1) := by decide +kernel
theorem dX3_init_91 : decode cX3_init 91 = .ok (.iconst 5, 1) := by decide +kernel
theorem dX3_init_92 : decode cX3_init 92 = .ok (.newarray .int, 2) := by decide +kernel
theorem dX3_init_94 : decode cX3_init 94 = .ok (.putfield 52, 3) := by decide +kernel
theorem dX3_init_97 : decode cX3_init 97 = .ok (.aload_n 0, 1) := by decide +kernel
theorem dX3_init_98 : decode cX3_init 98 = .ok (.bipush 15, 2) := by decide +kernel
theorem dX3_init_100 : decode cX3_init 100 = .ok (.newarray .int, 2) := by decide +kernel
theorem dX3_init_102 : decode cX3_init 102 = .ok (.putfield 55, 3) := by decide +kernel
theorem dX3_init_105 : decode cX3_init 105 = .ok (.aload_n 0, 1) := by decide +kernel
theorem dX3_init_106 : decode cX3_init 106 = .ok (.bipush 15, 2) := by decide +kernel
theorem dX3_init_108 : decode cX3_init 108 = .ok (.newarray .int, 2) := by decide +kernel
theorem dX3_init_110 : decode cX3_init 110 = .ok (.putfield 58, 3) := by decide +kernel
theorem dX3_init_113 : decode cX3_init 113 = .ok (.aload_n 0, 1) := by decide +kernel
theorem dX3_init_114 : decode cX3_init 114 = .ok (.bipush 30, 2) := by decide +kernel
theorem dX3_init_116 : decode cX3_init 116 = .ok (.newarray .int, 2) := by decide +kernel
theorem dX3_init_118 : decode cX3_init 118 = .ok (.putfield 61, 3) := by decide +kernel
theorem dX3_init_121 : decode cX3_init 121 = .ok (.aload_n 0, 1) := by decide +kernel
theorem dX3_init_122 : decode cX3_init 122 = .ok (.bipush 90, 2) := by decide +kernel
theorem dX3_init_124 : decode cX3_init 124 = .ok (.newarray .long, 2) := by decide +kernel
theorem dX3_init_126 : decode cX3_init 126 = .ok (.putfield 64, 3) := by decide +kernel
theorem dX3_init_129 : decode cX3_init 129 = .ok (.return_, 1) := by decide +kernel
theorem dX3_become_0 : decode cX3_become 0 = .ok (.aload_n 0, 1) := by decide +kernel
theorem dX3_become_1 : decode cX3_become 1 = .ok (.aload_n 1, 1) := by decide +kernel
theorem dX3_become_2 : decode cX3_become 2 = .ok (.getfield 9, 3) := by decide +kernel
theorem dX3_become_5 : decode cX3_become 5 = .ok (.putfield 9, 3) := by decide +kernel
theorem dX3_become_8 : decode cX3_become 8 = .ok (.aload_n 0, 1) := by decide +kernel
theorem dX3_become_9 : decode cX3_become 9 = .ok (.aload_n 1, 1) := by decide +kernel
theorem dX3_become_10 : decode cX3_become 10 = .ok (.getfield 15, 3) := by decide +kernel
theorem dX3_become_13 : decode cX3_become 13 = .ok (.putfield 15, 3) := by decide +kernel
theorem dX3_become_16 : decode cX3_become 16 = .ok (.aload_n 0, 1) := by decide +kernel
theorem dX3_become_17 : decode cX3_become 17 = .ok (.aload_n 1, 1) := by decide +kernel
theorem dX3_become_18 : decode cX3_become 18 = .ok (.getfield 18, 3) := by decide +kernel
theorem dX3_become_21 : decode cX3_become 21 = .ok (.putfield 18, 3) := by decide +kernel
theorem dX3_become_24 : decode cX3_become 24 = .ok (.aload_n 0, 1) := by decide +kernel
theorem dX3_become_25 : decode cX3_become 25 = .ok (.aload_n 1, 1) := by decide +kernel
theorem dX3_become_26 : decode cX3_become 26 = .ok (.getfield 21, 3) := by decide +kernel
theorem dX3_become_29 : decode cX3_become 29 = .ok (.putfield 21, 3) := by decide +kernel
theorem dX3_become_32 : decode cX3_become 32 = .ok (.aload_n 0, 1) := by decide +kernel
theorem dX3_become_33 : decode cX3_become 33 = .ok (.aload_n 1, 1) := by decide +kernel
theorem dX3_become_34 : decode cX3_become 34 = .ok (.getfield 24, 3) := by decide +kernel
theorem dX3_become_37 : decode cX3_become 37 = .ok (.putfield 24, 3) := by decide +kernel
theorem dX3_become_40 : decode cX3_become 40 = .ok (.aload_n 1, 1) := by decide +kernel
theorem dX3_become_41 : decode cX3_become 41 = .ok (.getfield 27, 3) := by decide +kernel
theorem dX3_become_44 : decode cX3_become 44 = .ok (.iconst 0, 1) := by decide +kernel
theorem dX3_become_45 : decode cX3_become 45 = .ok (.aload_n 0, 1) := by decide +kernel
theorem dX3_become_46 : decode cX3_become 46 = .ok (.getfield 27, 3) := by decide +kernel
theorem dX3_become_49 : decode cX3_become 49 = .ok (.iconst 0, 1) := by decide +kernel
theorem dX3_become_50 : decode cX3_become 50 = .ok (.bipush 6, 2) := by decide +kernel
theorem dX3_become_52 : decode cX3_become 52 = .ok (.invokestatic 68, 3) := by decide +kernel
theorem dX3_become_55 : decode cX3_become 55 = .ok (.aload_n 1, 1) := by decide +kernel
theorem dX3_become_56 : decode cX3_become 56 = .ok (.getfield 31, 3) := by decide +kernel
theorem dX3_become_59 : decode cX3_become 59 = .ok (.iconst 0, 1) := by decide +kernel
theorem dX3_become_60 : decode cX3_become 60 = .ok (.aload_n 0, 1) := by decide +kernel
theorem dX3_become_61 : decode cX3_become 61 = .ok (.getfield 31, 3) := by decide +kernel
theorem dX3_become_64 : decode cX3_become 64 = .ok (.iconst 0, 1) := by decide +kernel
theorem dX3_become_65 : decode cX3_become 65 = .ok (.bipush 6, 2) := by decide +kernel
theorem dX3_become_67 : decode cX3_become 67 = .ok (.invokestatic 68, 3) := by decide +kernel
theorem dX3_become_70 : decode cX3_become 70 = .ok (.aload_n 1, 1) := by decide +kernel
theorem dX3_become_71 : decode cX3_become 71 = .ok (.getfield 34, 3) := by decide +kernel
theorem dX3_become_74 : decode cX3_become 74 = .ok (.iconst 0, 1) := by decide +kernel
theorem dX3_become_75 : decode cX3_become 75 = .ok (.aload_n 0, 1) := by decide +kernel
theorem dX3_become_76 : decode cX3_become 76 = .ok (.getfield 34, 3) := by decide +kernel
theorem dX3_become_79 : decode cX3_become 79 = .ok (.iconst 0, 1) := by decide +kernel
theorem dX3_become_80 : decode cX3_become 80 = .ok (.bipush 6, 2) := by decide +kernel
theorem dX3_become_82 : decode cX3_become 82 = .ok (.invokestatic 68, 3) := by decide +kernel
theorem dX3_become_85 : decode cX3_become 85 = .ok (.aload_n 1, 1) := by decide +kernel
theorem dX3_become_86 : decode cX3_become 86 = .ok (.getfield 37, 3) := by decide +kernel
theorem dX3_become_89 : decode cX3_become 89 = .ok (.iconst 0, 1) := by decide +kernel
theorem dX3_become_90 : decode cX3_become 90 = .ok (.aload_n 0, 1) := by decide +kernel
theorem dX3_become_91 : decode cX3_become 91 = .ok (.getfield 37, 3) := by decide +kernel
theorem dX3_become_94 : decode cX3_become 94 = .ok (.iconst 0, 1) := by decide +kernel
theorem dX3_become_95 : decode cX3_become 95 = .ok (.bipush 6, 2) := by decide +kernel
theorem dX3_become_97 : decode cX3_become 97 = .ok (.invokestatic 68, 3) := by decide +kernel
theorem dX3_become_100 : decode cX3_become 100 = .ok (.aload_n 1, 1) := by decide +kernel
theorem dX3_become_101 : decode cX3_become 101 = .ok (.getfield 40, 3) := by decide +kernel
theorem dX3_become_104 : decode cX3_become 104 = .ok (.iconst 0, 1) := by decide +kernel
theorem dX3_become_105 : decode cX3_become 105 = .ok (.aload_n 0, 1) := by decide +kernel
theorem dX3_become_106 : decode cX3_become 106 = .ok (.getfield 40, 3) := by decide +kernel
theorem dX3_become_109 : decode cX3_become 109 = .ok (.iconst 0, 1) := by decide +kernel
theorem dX3_become_110 : decode cX3_become 110 = .ok (.iconst 5, 1) := by decide +kernel
theorem dX3_become_111 : decode cX3_become 111 = .ok (.invokestatic 68, 3) := by decide +kernel
theorem dX3_become_114 : decode cX3_become 114 = .ok (.aload_n 1, 1) := by decide +kernel
theorem dX3_become_115 : decode cX3_become 115 = .ok (.getfield 43, 3) := by decide +kernel
theorem dX3_become_118 : decode cX3_become 118 = .ok (.iconst 0, 1) := by decide +kernel
theorem dX3_become_119 : decode cX3_become 119 = .ok (.aload_n 0, 1) := by decide +kernel
theorem dX3_become_120 : decode cX3_become 120 = .ok (.getfield 43, 3) := by decide +kernel
theorem dX3_become_123 : decode cX3_become 123 = .ok (.iconst 0, 1) := by decide +kernel
theorem dX3_become_124 : decode cX3_become 124 = .ok (.iconst 5, 1) := by decide +kernel
theorem dX3_become_125 : decode cX3_become 125 = .ok (.invokestatic 68, 3) := by decide +kernel
theorem dX3_become_128 : decode cX3_become 128 = .ok (.aload_n 1, 1) := by decide +kernel
theorem dX3_become_129 : decode cX3_become 129 = .ok (.getfield 46, 3) := by decide +kernel
theorem dX3_become_132 : decode cX3_become 132 = .ok (.iconst 0, 1) := by decide +kernel
theorem dX3_become_133 : decode cX3_become 133 = .ok (.aload_n 0, 1) := by decide +kernel
theorem dX3_become_134 : decode cX3_become 134 = .ok (.getfield 46, 3) := by decide +kernel
theorem dX3_become_137 : decode cX3_become 137 = .ok (.iconst 0, 1) := by decide +kernel
theorem dX3_become_138 : decode cX3_become 138 = .ok (.iconst 5, 1) := by decide +kernel
theorem dX3_become_139 : decode cX3_become 139 = .ok (.invokestatic 68, 3) := by decide +kernel
theorem dX3_become_142 : decode cX3_become 142 = .ok (.aload_n 1, 1) := by decide +kernel
theorem dX3_become_143 : decode cX3_become 143 = .ok (.getfield 49, 3) := by decide +kernel
theorem dX3_become_146 : decode cX3_become 146 = .ok (.iconst 0, 1) := by decide +kernel
theorem dX3_become_147 : decode cX3_become 147 = .ok (.aload_n 0, 1) := by decide +kernel
theorem dX3_become_148 : decode cX3_become 148 = .ok (.getfield 49, 3) := by decide +kernel
theorem dX3_become_151 : decode cX3_become 151 = .ok (.iconst 0, 1) := by decide +kernel
theorem dX3_become_152 : decode cX3_become 152 = .ok (.iconst 5, 1) := by decide +kernel
theorem dX3_become_153 : decode cX3_become 153 = .ok (.invokestatic 68, 3) := by decide +kernel
theorem dX3_become_156 : decode cX3_become 156 = .ok (.aload_n 1, 1) := by decide +kernel
theorem dX3_become_157 : decode cX3_become 157 = .ok (.getfield 52, 3) := by decide +kernel
theorem dX3_become_160 : decode cX3_become 160 = .ok (.iconst 0, 1) := by decide +kernel
theorem dX3_become_161 : decode cX3_become 161 = .ok (.aload_n 0, 1) := by decide +kernel
theorem dX3_become_162 : decode cX3_become 162 = .ok (.getfield 52, 3) := by decide +kernel
theorem dX3_become_165 : decode cX3_become 165 = .ok (.iconst 0, 1) := by decide +kernel
theorem dX3_become_166 : decode cX3_become 166 = .ok (.iconst 5, 1) := by decide +kernel
theorem dX3_become_167 : decode cX3_become 167 = .ok (.invokestatic 68, 3) := by decide +kernel
theorem dX3_become_170 : decode cX3_become 170 = .ok (.aload_n 1, 1) := by decide +kernel
theorem dX3_become_171 : decode cX3_become 171 = .ok (.getfield 55, 3) := by decide +kernel
theorem dX3_become_174 : decode cX3_become 174 = .ok (.iconst 0, 1) := by decide +kernel
theorem dX3_become_175 : decode cX3_become 175 = .ok (.aload_n 0, 1) := by decide +kernel
theorem dX3_become_176 : decode cX3_become 176 = .ok (.getfield 55, 3) := by decide +kernel
theorem dX3_become_179 : decode cX3_become 179 = .ok (.iconst 0, 1) := by decide +kernel
theorem dX3_become_180 : decode cX3_become 180 = .ok (.bipush 15, 2) := by decide +kernel
theorem dX3_become_182 : decode cX3_become 182 = .ok (.invokestatic 68, 3) := by decide +kernel
theorem dX3_become_185 : decode cX3_become 185 = .ok (.aload_n 1, 1) := by decide +kernel
theorem dX3_become_186 : decode cX3_become 186 = .ok (.getfield 58, 3) := by decide +kernel
theorem dX3_become_189 : decode cX3_become 189 = .ok (.iconst 0, 1) := by decide +kernel
theorem dX3_become_190 : decode cX3_become 190 = .ok (.aload_n 0, 1) := by decide +kernel
theorem dX3_become_191 : decode cX3_become 191 = .ok (.getfield 58, 3) := by decide +kernel
theorem dX3_become_194 : decode cX3_become 194 = .ok (.iconst 0, 1) := by decide +kernel
theorem dX3_become_195 : decode cX3_become 195 = .ok (.bipush 15, 2) := by decide +kernel
theorem dX3_become_197 : decode cX3_become 197 = .ok (.invokestatic 68, 3) := by decide +kernel
theorem dX3_become_200 : decode cX3_become 200 = .ok (.aload_n 1, 1) := by decide +kernel
theorem dX3_become_201 : decode cX3_become 201 = .ok (.getfield 61, 3) := by decide +kernel
theorem dX3_become_204 : decode cX3_become 204 = .ok (.iconst 0, 1) := by decide +kernel
theorem dX3_become_205 : decode cX3_become 205 = .ok (.aload_n 0, 1) := by decide +kernel
theorem dX3_become_206 : decode cX3_become 206 = .ok (.getfield 61, 3) := by decide +kernel
theorem dX3_become_209 : decode cX3_become 209 = .ok (.iconst 0, 1) := by decide +kernel
theorem dX3_become_210 : decode cX3_become 210 = .ok (.bipush 30, 2) := by decide +kernel
theorem dX3_become_212 : decode cX3_become 212 = .ok (.invokestatic 68, 3) := by decide +kernel
theorem dX3_become_215 : decode cX3_become 215 = .ok (.aload_n 1, 1) := by decide +kernel
theorem dX3_become_216 : decode cX3_become 216 = .ok (.getfield 64, 3) := by decide +kernel
theorem dX3_become_219 : decode cX3_become 219 = .ok (.iconst 0, 1) := by decide +kernel
theorem dX3_become_220 : decode cX3_become 220 = .ok (.aload_n 0, 1) := by decide +kernel
theorem dX3_become_221 : decode cX3_become 221 = .ok (.getfield 64, 3) := by decide +kernel
theorem dX3_become_224 : decode cX3_become 224 = .ok (.iconst 0, 1) := by decide +kernel
theorem dX3_become_225 : decode cX3_become 225 = .ok (.bipush 90, 2) := by decide +kernel
theorem dX3_become_227 : decode cX3_become 227 = .ok (.invokestatic 68, 3) := by decide +kernel
theorem dX3_become_230 : decode cX3_become 230 = .ok (.return_, 1) := by decide +kernel
set_option maxRecDepth 20000 in
theorem ggX3_takes_X0_sortOfStatement : GoodIn wsX3_takes wsX0_sortOfStatement := goodIn_r _ [5, 6, 61, 62, 63, 64, 65] (by decide +kernel) (by decide +kernel)
set_option maxRecDepth 20000 in
theorem gX3_takes_X0_sortOfStatement : GoodIn wsX3_takes (wsV RX3 74 RX0 yX0_sortOfStatement wsX0_sortOfStatement) := goodIn_app (goodIn_of _ (by decide +kernel)) ggX3_takes_X0_sortOfStatement
set_option maxRecDepth 20000 in
theorem ggX3_takes_X0_number : GoodIn wsX3_takes wsX0_number := goodIn_r _ [10, 11, 61, 62, 63, 64, 65] (by decide +kernel) (by decide +kernel)
set_option maxRecDepth 20000 in
theorem gX3_takes_X0_number : GoodIn wsX3_takes (wsV RX3 80 RX0 yX0_number wsX0_number) := goodIn_app (goodIn_of _ (by decide +kernel)) ggX3_takes_X0_number
set_option maxRecDepth 20000 in
theorem ggX3_takes_X3_takesPerson : GoodIn wsX3_takes wsX3_takesPerson := goodIn_r _ [16, 17, 18, 19, 20, 21, 66, 67, 68, 69, 70, 71, 72, 73, 74, 75, 76, 77, 78, 79, 80, 81, 82, 83] (by decide +kernel) (by decide +kernel)
set_option maxRecDepth 20000 in
theorem gX3_takes_X3_takesPerson : GoodIn wsX3_takes (wsV RX3 84 RX3 yX3_takesPerson wsX3_takesPerson) := goodIn_app (goodIn_of _ (by decide +kernel)) ggX3_takes_X3_takesPerson
set_option maxRecDepth 20000 in
theorem ggX3_takes_X3_takesPaper : GoodIn wsX3_takes wsX3_takesPaper := goodIn_r _ [25, 26, 17, 27, 28, 29, 30, 31, 32, 33, 7, 8, 9, 4, 10, 11, 34, 35, 36, 15, 37, 38, 39, 40, 41, 42, 43, 44, 45, 46, 47, 66, 67, 68, 69, 70, 71, 72, 73, 74, 75, 76, 77, 78, 79, 80, 81, 82, 83, 61, 62, 63, 64, 65] (by decide +kernel) (by decide +kernel)
set_option maxRecDepth 20000 in
theorem gX3_takes_X3_takesPaper : GoodIn wsX3_takes (wsV RX3 88 RX3 yX3_takesPaper wsX3_takesPaper) := goodIn_app (goodIn_of _ (by decide +kernel)) ggX3_takes_X3_takesPaper
set_option maxRecDepth 20000 in
theorem ggX3_takes_X3_takesLaw : GoodIn wsX3_takes wsX3_takesLaw := goodIn_r _ [51, 52, 53, 54, 55, 66, 67, 68, 69, 70, 71, 72, 73, 74, 75, 76, 77, 78, 79, 80, 81, 82, 83] (by decide +kernel) (by decide +kernel)
set_option maxRecDepth 20000 in
theorem gX3_takes_X3_takesLaw : GoodIn wsX3_takes (wsV RX3 92 RX3 yX3_takesLaw wsX3_takesLaw) := goodIn_app (goodIn_of _ (by decide +kernel)) ggX3_takes_X3_takesLaw
set_option maxRecDepth 20000 in
theorem ggX3_takes_X3_takesClerk : GoodIn wsX3_takes wsX3_takesClerk := goodIn_r _ [59, 60, 66, 67, 68, 69, 70, 71, 72, 73, 74, 75, 76, 77, 78, 79, 80, 81, 82, 83] (by decide +kernel) (by decide +kernel)
set_option maxRecDepth 20000 in
theorem gX3_takes_X3_takesClerk : GoodIn wsX3_takes (wsV RX3 96 RX3 yX3_takesClerk wsX3_takesClerk) := goodIn_app (goodIn_of _ (by decide +kernel)) ggX3_takes_X3_takesClerk
theorem dX3_takes_0 : decode cX3_takes 0 = .ok (.aload_n 1, 1) := by decide +kernel
theorem dX3_takes_1 : decode cX3_takes 1 = .ok (.invokevirtual 74, 3) := by decide +kernel
theorem dX3_takes_4 : decode cX3_takes 4 = .ok (.lookupswitch 72 #[(97, 56), (108, 62), (112, 36)], 36) := by decide +kernel
theorem dX3_takes_40 : decode cX3_takes 40 = .ok (.aload_n 0, 1) := by decide +kernel
theorem dX3_takes_41 : decode cX3_takes 41 = .ok (.aload_n 1, 1) := by decide +kernel
theorem dX3_takes_42 : decode cX3_takes 42 = .ok (.iconst 0, 1) := by decide +kernel
theorem dX3_takes_43 : decode cX3_takes 43 = .ok (.invokevirtual 80, 3) := by decide +kernel
theorem dX3_takes_46 : decode cX3_takes 46 = .ok (.aload_n 1, 1) := by decide +kernel
theorem dX3_takes_47 : decode cX3_takes 47 = .ok (.iconst 1, 1) := by decide +kernel
theorem dX3_takes_48 : decode cX3_takes 48 = .ok (.invokevirtual 80, 3) := by decide +kernel
theorem dX3_takes_51 : decode cX3_takes 51 = .ok (.aload_n 1, 1) := by decide +kernel
theorem dX3_takes_52 : decode cX3_takes 52 = .ok (.iconst 2, 1) := by decide +kernel
theorem dX3_takes_53 : decode cX3_takes 53 = .ok (.invokevirtual 80, 3) := by decide +kernel
theorem dX3_takes_56 : decode cX3_takes 56 = .ok (.invokevirtual 84, 3) := by decide +kernel
theorem dX3_takes_59 : decode cX3_takes 59 = .ok (.ireturn, 1) := by decide +kernel
theorem dX3_takes_60 : decode cX3_takes 60 = .ok (.aload_n 0, 1) := by decide +kernel
theorem dX3_takes_61 : decode cX3_takes 61 = .ok (.aload_n 1, 1) := by decide +kernel
theorem dX3_takes_62 : decode cX3_takes 62 = .ok (.invokevirtual 88, 3) := by decide +kernel
theorem dX3_takes_65 : decode cX3_takes 65 = .ok (.ireturn, 1) := by decide +kernel
theorem dX3_takes_66 : decode cX3_takes 66 = .ok (.aload_n 0, 1) := by decide +kernel
theorem dX3_takes_67 : decode cX3_takes 67 = .ok (.aload_n 1, 1) := by decide +kernel
theorem dX3_takes_68 : decode cX3_takes 68 = .ok (.iconst 0, 1) := by decide +kernel
theorem dX3_takes_69 : decode cX3_takes 69 = .ok (.invokevirtual 80, 3) := by decide +kernel
theorem dX3_takes_72 : decode cX3_takes 72 = .ok (.invokevirtual 92, 3) := by decide +kernel
theorem dX3_takes_75 : decode cX3_takes 75 = .ok (.ireturn, 1) := by decide +kernel
theorem dX3_takes_76 : decode cX3_takes 76 = .ok (.aload_n 0, 1) := by decide +kernel
theorem dX3_takes_77 : decode cX3_takes 77 = .ok (.aload_n 1, 1) := by decide +kernel
theorem dX3_takes_78 : decode cX3_takes 78 = .ok (.iconst 0, 1) := by decide +kernel
theorem dX3_takes_79 : decode cX3_takes 79 = .ok (.invokevirtual 80, 3) := by decide +kernel
theorem dX3_takes_82 : decode cX3_takes 82 = .ok (.invokevirtual 96, 3) := by decide +kernel
theorem dX3_takes_85 : decode cX3_takes 85 = .ok (.ireturn, 1) := by decide +kernel
theorem dX3_takesPerson_0 : decode cX3_takesPerson 0 = .ok (.aload_n 0, 1) := by decide +kernel
theorem dX3_takesPerson_1 : decode cX3_takesPerson 1 = .ok (.getfield 9, 3) := by decide +kernel
theorem dX3_takesPerson_4 : decode cX3_takesPerson 4 = .ok (.bipush 6, 2) := by decide +kernel
theorem dX3_takesPerson_6 : decode cX3_takesPerson 6 = .ok (.if_icmp .lt 5, 3) := by decide +kernel
theorem dX3_takesPerson_9 : decode cX3_takesPerson 9 = .ok (.iconst 0, 1) := by decide +kernel
theorem dX3_takesPerson_10 : decode cX3_takesPerson 10 = .ok (.ireturn, 1) := by decide +kernel
theorem dX3_takesPerson_11 : decode cX3_takesPerson 11 = .ok (.aload_n 0, 1) := by decide +kernel
theorem dX3_takesPerson_12 : decode cX3_takesPerson 12 = .ok (.getfield 27, 3) := by decide +kernel
theorem dX3_takesPerson_15 : decode cX3_takesPerson 15 = .ok (.aload_n 0, 1) := by decide +kernel
theorem dX3_takesPerson_16 : decode cX3_takesPerson 16 = .ok (.getfield 9, 3) := by decide +kernel
theorem dX3_takesPerson_19 : decode cX3_takesPerson 19 = .ok (.iload_n 1, 1) := by decide +kernel
theorem dX3_takesPerson_20 : decode cX3_takesPerson 20 = .ok (.iastore, 1) := by decide +kernel
theorem dX3_takesPerson_21 : decode cX3_takesPerson 21 = .ok (.aload_n 0, 1) := by decide +kernel
theorem dX3_takesPerson_22 : decode cX3_takesPerson 22 = .ok (.getfield 31, 3) := by decide +kernel
theorem dX3_takesPerson_25 : decode cX3_takesPerson 25 = .ok (.aload_n 0, 1) := by decide +kernel
theorem dX3_takesPerson_26 : decode cX3_takesPerson 26 = .ok (.getfield 9, 3) := by decide +kernel
theorem dX3_takesPerson_29 : decode cX3_takesPerson 29 = .ok (.iload_n 2, 1) := by decide +kernel
theorem dX3_takesPerson_30 : decode cX3_takesPerson 30 = .ok (.iastore, 1) := by decide +kernel
theorem dX3_takesPerson_31 : decode cX3_takesPerson 31 = .ok (.aload_n 0, 1) := by decide +kernel
theorem dX3_takesPerson_32 : decode cX3_takesPerson 32 = .ok (.getfield 34, 3) := by decide +kernel
theorem dX3_takesPerson_35 : decode cX3_takesPerson 35 = .ok (.aload_n 0, 1) := by decide +kernel
theorem dX3_takesPerson_36 : decode cX3_takesPerson 36 = .ok (.getfield 9, 3) := by decide +kernel
theorem dX3_takesPerson_39 : decode cX3_takesPerson 39 = .ok (.iload_n 3, 1) := by decide +kernel
theorem dX3_takesPerson_40 : decode cX3_takesPerson 40 = .ok (.iastore, 1) := by decide +kernel
theorem dX3_takesPerson_41 : decode cX3_takesPerson 41 = .ok (.aload_n 0, 1) := by decide +kernel
theorem dX3_takesPerson_42 : decode cX3_takesPerson 42 = .ok (.getfield 37, 3) := by decide +kernel
theorem dX3_takesPerson_45 : decode cX3_takesPerson 45 = .ok (.aload_n 0, 1) := by decide +kernel
theorem dX3_takesPerson_46 : decode cX3_takesPerson 46 = .ok (.getfield 9, 3) := by decide +kernel
theorem dX3_takesPerson_49 : decode cX3_takesPerson 49 = .ok (.iconst 0, 1) := by decide +kernel
theorem dX3_takesPerson_50 : decode cX3_takesPerson 50 = .ok (.iastore, 1) := by decide +kernel
theorem dX3_takesPerson_51 : decode cX3_takesPerson 51 = .ok (.aload_n 0, 1) := by decide +kernel
theorem dX3_takesPerson_52 : decode cX3_takesPerson 52 = .ok (.dup, 1) := by decide +kernel
theorem dX3_takesPerson_53 : decode cX3_takesPerson 53 = .ok (.getfield 9, 3) := by decide +kernel
theorem dX3_takesPerson_56 : decode cX3_takesPerson 56 = .ok (.iconst 1, 1) := by decide +kernel
theorem dX3_takesPerson_57 : decode cX3_takesPerson 57 = .ok (.iadd, 1) := by decide +kernel
theorem dX3_takesPerson_58 : decode cX3_takesPerson 58 = .ok (.putfield 9, 3) := by decide +kernel
theorem dX3_takesPerson_61 : decode cX3_takesPerson 61 = .ok (.iconst 1, 1) := by decide +kernel
theorem dX3_takesPerson_62 : decode cX3_takesPerson 62 = .ok (.ireturn, 1) := by decide +kernel
set_option maxRecDepth 20000 in
theorem ggX3_takesPaper_X0_number : GoodIn wsX3_takesPaper wsX0_number := goodIn_r _ [14, 15, 49, 50, 51, 52, 53] (by decide +kernel) (by decide +kernel)
set_option maxRecDepth 20000 in
theorem gX3_takesPaper_X0_number : GoodIn wsX3_takesPaper (wsV RX3 80 RX0 yX0_number wsX0_number) := goodIn_app (goodIn_of _ (by decide +kernel)) ggX3_takesPaper_X0_number
set_option maxRecDepth 20000 in
theorem ggX3_takesPaper_X3_weighFirst : GoodIn wsX3_takesPaper wsX3_weighFirst := goodIn_r _ [20, 21, 22, 8, 23, 24, 25, 19, 26, 27, 28, 29, 30, 31, 32, 33, 34, 35, 36, 37, 38, 39, 40, 41, 42, 43, 44, 45, 46, 47, 48] (by decide +kernel) (by decide +kernel)
set_option maxRecDepth 20000 in
theorem gX3_takesPaper_X3_weighFirst : GoodIn wsX3_takesPaper (wsV RX3 99 RX3 yX3_weighFirst wsX3_weighFirst) := goodIn_app (goodIn_of _ (by decide +kernel)) ggX3_takesPaper_X3_weighFirst
theorem dX3_takesPaper_0 : decode cX3_takesPaper 0 = .ok (.aload_n 1, 1) := by decide +kernel
theorem dX3_takesPaper_1 : decode cX3_takesPaper 1 = .ok (.iconst 0, 1) := by decide +kernel
theorem dX3_takesPaper_2 : decode cX3_takesPaper 2 = .ok (.invokevirtual 80, 3) := by decide +kernel
theorem dX3_takesPaper_5 : decode cX3_takesPaper 5 = .ok (.istore_n 2, 1) := by decide +kernel
theorem dX3_takesPaper_6 : decode cX3_takesPaper 6 = .ok (.bipush 100, 2) := by decide +kernel
theorem dX3_takesPaper_8 : decode cX3_takesPaper 8 = .ok (.aload_n 1, 1) := by decide +kernel
theorem dX3_takesPaper_9 : decode cX3_takesPaper 9 = .ok (.iconst 1, 1) := by decide +kernel
theorem dX3_takesPaper_10 : decode cX3_takesPaper 10 = .ok (.invokevirtual 80, 3) := by decide +kernel
theorem dX3_takesPaper_13 : decode cX3_takesPaper 13 = .ok (.isub, 1) := by decide +kernel
theorem dX3_takesPaper_14 : decode cX3_takesPaper 14 = .ok (.aload_n 1, 1) := by decide +kernel
theorem dX3_takesPaper_15 : decode cX3_takesPaper 15 = .ok (.iconst 2, 1) := by decide +kernel
theorem dX3_takesPaper_16 : decode cX3_takesPaper 16 = .ok (.invokevirtual 80, 3) := by decide +kernel
theorem dX3_takesPaper_19 : decode cX3_takesPaper 19 = .ok (.isub, 1) := by decide +kernel
theorem dX3_takesPaper_20 : decode cX3_takesPaper 20 = .ok (.istore_n 3, 1) := by decide +kernel
theorem dX3_takesPaper_21 : decode cX3_takesPaper 21 = .ok (.aload_n 0, 1) := by decide +kernel
theorem dX3_takesPaper_22 : decode cX3_takesPaper 22 = .ok (.getfield 15, 3) := by decide +kernel
theorem dX3_takesPaper_25 : decode cX3_takesPaper 25 = .ok (.iconst 5, 1) := by decide +kernel
theorem dX3_takesPaper_26 : decode cX3_takesPaper 26 = .ok (.if_icmp .ge 21, 3) := by decide +kernel
theorem dX3_takesPaper_29 : decode cX3_takesPaper 29 = .ok (.iload_n 2, 1) := by decide +kernel
theorem dX3_takesPaper_30 : decode cX3_takesPaper 30 = .ok (.ifCond .eq 17, 3) := by decide +kernel
theorem dX3_takesPaper_33 : decode cX3_takesPaper 33 = .ok (.iload_n 2, 1) := by decide +kernel
theorem dX3_takesPaper_34 : decode cX3_takesPaper 34 = .ok (.iconst 1, 1) := by decide +kernel
theorem dX3_takesPaper_35 : decode cX3_takesPaper 35 = .ok (.aload_n 0, 1) := by decide +kernel
theorem dX3_takesPaper_36 : decode cX3_takesPaper 36 = .ok (.getfield 9, 3) := by decide +kernel
theorem dX3_takesPaper_39 : decode cX3_takesPaper 39 = .ok (.ishl, 1) := by decide +kernel
theorem dX3_takesPaper_40 : decode cX3_takesPaper 40 = .ok (.if_icmp .ge 7, 3) := by decide +kernel
theorem dX3_takesPaper_43 : decode cX3_takesPaper 43 = .ok (.iload_n 3, 1) := by decide +kernel
theorem dX3_takesPaper_44 : decode cX3_takesPaper 44 = .ok (.ifCond .ge 5, 3) := by decide +kernel
theorem dX3_takesPaper_47 : decode cX3_takesPaper 47 = .ok (.iconst 0, 1) := by decide +kernel
theorem dX3_takesPaper_48 : decode cX3_takesPaper 48 = .ok (.ireturn, 1) := by decide +kernel
theorem dX3_takesPaper_49 : decode cX3_takesPaper 49 = .ok (.aload_n 0, 1) := by decide +kernel
theorem dX3_takesPaper_50 : decode cX3_takesPaper 50 = .ok (.getfield 40, 3) := by decide +kernel
theorem dX3_takesPaper_53 : decode cX3_takesPaper 53 = .ok (.aload_n 0, 1) := by decide +kernel
theorem dX3_takesPaper_54 : decode cX3_takesPaper 54 = .ok (.getfield 15, 3) := by decide +kernel
theorem dX3_takesPaper_57 : decode cX3_takesPaper 57 = .ok (.iload_n 2, 1) := by decide +kernel
theorem dX3_takesPaper_58 : decode cX3_takesPaper 58 = .ok (.iastore, 1) := by decide +kernel
theorem dX3_takesPaper_59 : decode cX3_takesPaper 59 = .ok (.aload_n 0, 1) := by decide +kernel
theorem dX3_takesPaper_60 : decode cX3_takesPaper 60 = .ok (.getfield 43, 3) := by decide +kernel
theorem dX3_takesPaper_63 : decode cX3_takesPaper 63 = .ok (.aload_n 0, 1) := by decide +kernel
theorem dX3_takesPaper_64 : decode cX3_takesPaper 64 = .ok (.getfield 15, 3) := by decide +kernel
theorem dX3_takesPaper_67 : decode cX3_takesPaper 67 = .ok (.iconst 0, 1) := by decide +kernel
theorem dX3_takesPaper_68 : decode cX3_takesPaper 68 = .ok (.iastore, 1) := by decide +kernel
theorem dX3_takesPaper_69 : decode cX3_takesPaper 69 = .ok (.aload_n 0, 1) := by decide +kernel
theorem dX3_takesPaper_70 : decode cX3_takesPaper 70 = .ok (.getfield 46, 3) := by decide +kernel
theorem dX3_takesPaper_73 : decode cX3_takesPaper 73 = .ok (.aload_n 0, 1) := by decide +kernel
theorem dX3_takesPaper_74 : decode cX3_takesPaper 74 = .ok (.getfield 15, 3) := by decide +kernel
theorem dX3_takesPaper_77 : decode cX3_takesPaper 77 = .ok (.iconst 0, 1) := by decide +kernel
theorem dX3_takesPaper_78 : decode cX3_takesPaper 78 = .ok (.iastore, 1) := by decide +kernel
theorem dX3_takesPaper_79 : decode cX3_takesPaper 79 = .ok (.aload_n 0, 1) := by decide +kernel
theorem dX3_takesPaper_80 : decode cX3_takesPaper 80 = .ok (.getfield 49, 3) := by decide +kernel
theorem dX3_takesPaper_83 : decode cX3_takesPaper 83 = .ok (.aload_n 0, 1) := by decide +kernel
theorem dX3_takesPaper_84 : decode cX3_takesPaper 84 = .ok (.getfield 15, 3) := by decide +kernel
theorem dX3_takesPaper_87 : decode cX3_takesPaper 87 = .ok (.iconst 0, 1) := by decide +kernel
theorem dX3_takesPaper_88 : decode cX3_takesPaper 88 = .ok (.iastore, 1) := by decide +kernel
theorem dX3_takesPaper_89 : decode cX3_takesPaper 89 = .ok (.aload_n 0, 1) := by decide +kernel
theorem dX3_takesPaper_90 : decode cX3_takesPaper 90 = .ok (.getfield 52, 3) := by decide +kernel
theorem dX3_takesPaper_93 : decode cX3_takesPaper 93 = .ok (.aload_n 0, 1) := by decide +kernel
theorem dX3_takesPaper_94 : decode cX3_takesPaper 94 = .ok (.getfield 15, 3) := by decide +kernel
theorem dX3_takesPaper_97 : decode cX3_takesPaper 97 = .ok (.iconst 0, 1) := by decide +kernel
theorem dX3_takesPaper_98 : decode cX3_takesPaper 98 = .ok (.iastore, 1) := by decide +kernel
theorem dX3_takesPaper_99 : decode cX3_takesPaper 99 = .ok (.aload_n 0, 1) := by decide +kernel
theorem dX3_takesPaper_100 : decode cX3_takesPaper 100 = .ok (.getfield 15, 3) := by decide +kernel
theorem dX3_takesPaper_103 : decode cX3_takesPaper 103 = .ok (.iconst 3, 1) := by decide +kernel
theorem dX3_takesPaper_104 : decode cX3_takesPaper 104 = .ok (.imul, 1) := by decide +kernel
theorem dX3_takesPaper_105 : decode cX3_takesPaper 105 = .ok (.istore 4, 2) := by decide +kernel
theorem dX3_takesPaper_107 : decode cX3_takesPaper 107 = .ok (.aload_n 0, 1) := by decide +kernel
theorem dX3_takesPaper_108 : decode cX3_takesPaper 108 = .ok (.getfield 55, 3) := by decide +kernel
theorem dX3_takesPaper_111 : decode cX3_takesPaper 111 = .ok (.iload 4, 2) := by decide +kernel
theorem dX3_takesPaper_113 : decode cX3_takesPaper 113 = .ok (.aload_n 1, 1) := by decide +kernel
theorem dX3_takesPaper_114 : decode cX3_takesPaper 114 = .ok (.iconst 1, 1) := by decide +kernel
theorem dX3_takesPaper_115 : decode cX3_takesPaper 115 = .ok (.invokevirtual 80, 3) := by decide +kernel
theorem dX3_takesPaper_118 : decode cX3_takesPaper 118 = .ok (.iastore, 1) := by decide +kernel
theorem dX3_takesPaper_119 : decode cX3_takesPaper 119 = .ok (.aload_n 0, 1) := by decide +kernel
theorem dX3_takesPaper_120 : decode cX3_takesPaper 120 = .ok (.getfield 55, 3) := by decide +kernel
theorem dX3_takesPaper_123 : decode cX3_takesPaper 123 = .ok (.iload 4, 2) := by decide +kernel
theorem dX3_takesPaper_125 : decode cX3_takesPaper 125 = .ok (.iconst 1, 1) := by decide +kernel
theorem dX3_takesPaper_126 : decode cX3_takesPaper 126 = .ok (.iadd, 1) := by decide +kernel
theorem dX3_takesPaper_127 : decode cX3_takesPaper 127 = .ok (.aload_n 1, 1) := by decide +kernel
theorem dX3_takesPaper_128 : decode cX3_takesPaper 128 = .ok (.iconst 2, 1) := by decide +kernel
theorem dX3_takesPaper_129 : decode cX3_takesPaper 129 = .ok (.invokevirtual 80, 3) := by decide +kernel
theorem dX3_takesPaper_132 : decode cX3_takesPaper 132 = .ok (.iastore, 1) := by decide +kernel
theorem dX3_takesPaper_133 : decode cX3_takesPaper 133 = .ok (.aload_n 0, 1) := by decide +kernel
theorem dX3_takesPaper_134 : decode cX3_takesPaper 134 = .ok (.getfield 55, 3) := by decide +kernel
theorem dX3_takesPaper_137 : decode cX3_takesPaper 137 = .ok (.iload 4, 2) := by decide +kernel
theorem dX3_takesPaper_139 : decode cX3_takesPaper 139 = .ok (.iconst 2, 1) := by decide +kernel
theorem dX3_takesPaper_140 : decode cX3_takesPaper 140 = .ok (.iadd, 1) := by decide +kernel
theorem dX3_takesPaper_141 : decode cX3_takesPaper 141 = .ok (.iload_n 3, 1) := by decide +kernel
theorem dX3_takesPaper_142 : decode cX3_takesPaper 142 = .ok (.iastore, 1) := by decide +kernel
theorem dX3_takesPaper_143 : decode cX3_takesPaper 143 = .ok (.iconst 0, 1) := by decide +kernel
theorem dX3_takesPaper_144 : decode cX3_takesPaper 144 = .ok (.istore 5, 2) := by decide +kernel
theorem dX3_takesPaper_146 : decode cX3_takesPaper 146 = .ok (.iload 5, 2) := by decide +kernel
theorem dX3_takesPaper_148 : decode cX3_takesPaper 148 = .ok (.iconst 3, 1) := by decide +kernel
theorem dX3_takesPaper_149 : decode cX3_takesPaper 149 = .ok (.if_icmp .ge 29, 3) := by decide +kernel
theorem dX3_takesPaper_152 : decode cX3_takesPaper 152 = .ok (.aload_n 0, 1) := by decide +kernel
theorem dX3_takesPaper_153 : decode cX3_takesPaper 153 = .ok (.getfield 58, 3) := by decide +kernel
theorem dX3_takesPaper_156 : decode cX3_takesPaper 156 = .ok (.iload 4, 2) := by decide +kernel
theorem dX3_takesPaper_158 : decode cX3_takesPaper 158 = .ok (.iload 5, 2) := by decide +kernel
theorem dX3_takesPaper_160 : decode cX3_takesPaper 160 = .ok (.iadd, 1) := by decide +kernel
theorem dX3_takesPaper_161 : decode cX3_takesPaper 161 = .ok (.aload_n 1, 1) := by decide +kernel
theorem dX3_takesPaper_162 : decode cX3_takesPaper 162 = .ok (.iconst 3, 1) := by decide +kernel
theorem dX3_takesPaper_163 : decode cX3_takesPaper 163 = .ok (.iload 5, 2) := by decide +kernel
theorem dX3_takesPaper_165 : decode cX3_takesPaper 165 = .ok (.iadd, 1) := by decide +kernel
theorem dX3_takesPaper_166 : decode cX3_takesPaper 166 = .ok (.invokevirtual 80, 3) := by decide +kernel
theorem dX3_takesPaper_169 : decode cX3_takesPaper 169 = .ok (.iconst 4, 1) := by decide +kernel
theorem dX3_takesPaper_170 : decode cX3_takesPaper 170 = .ok (.isub, 1) := by decide +kernel
theorem dX3_takesPaper_171 : decode cX3_takesPaper 171 = .ok (.iastore, 1) := by decide +kernel
theorem dX3_takesPaper_172 : decode cX3_takesPaper 172 = .ok (.iinc 5 1, 3) := by decide +kernel
theorem dX3_takesPaper_175 : decode cX3_takesPaper 175 = .ok (.goto (-29), 3) := by decide +kernel
theorem dX3_takesPaper_178 : decode cX3_takesPaper 178 = .ok (.iconst 0, 1) := by decide +kernel
theorem dX3_takesPaper_179 : decode cX3_takesPaper 179 = .ok (.istore 5, 2) := by decide +kernel
theorem dX3_takesPaper_181 : decode cX3_takesPaper 181 = .ok (.iload 5, 2) := by decide +kernel
theorem dX3_takesPaper_183 : decode cX3_takesPaper 183 = .ok (.bipush 6, 2) := by decide +kernel
theorem dX3_takesPaper_185 : decode cX3_takesPaper 185 = .ok (.if_icmp .ge 19, 3) := by decide +kernel
theorem dX3_takesPaper_188 : decode cX3_takesPaper 188 = .ok (.aload_n 0, 1) := by decide +kernel
theorem dX3_takesPaper_189 : decode cX3_takesPaper 189 = .ok (.iload 5, 2) := by decide +kernel
theorem dX3_takesPaper_191 : decode cX3_takesPaper 191 = .ok (.aload_n 0, 1) := by decide +kernel
theorem dX3_takesPaper_192 : decode cX3_takesPaper 192 = .ok (.getfield 15, 3) := by decide +kernel
theorem dX3_takesPaper_195 : decode cX3_takesPaper 195 = .ok (.invokevirtual 99, 3) := by decide +kernel
theorem dX3_takesPaper_198 : decode cX3_takesPaper 198 = .ok (.iinc 5 1, 3) := by decide +kernel
theorem dX3_takesPaper_201 : decode cX3_takesPaper 201 = .ok (.goto (-20), 3) := by decide +kernel
theorem dX3_takesPaper_204 : decode cX3_takesPaper 204 = .ok (.aload_n 0, 1) := by decide +kernel
theorem dX3_takesPaper_205 : decode cX3_takesPaper 205 = .ok (.dup, 1) := by decide +kernel
theorem dX3_takesPaper_206 : decode cX3_takesPaper 206 = .ok (.getfield 15, 3) := by decide +kernel
theorem dX3_takesPaper_209 : decode cX3_takesPaper 209 = .ok (.iconst 1, 1) := by decide +kernel
theorem dX3_takesPaper_210 : decode cX3_takesPaper 210 = .ok (.iadd, 1) := by decide +kernel
theorem dX3_takesPaper_211 : decode cX3_takesPaper 211 = .ok (.putfield 15, 3) := by decide +kernel
theorem dX3_takesPaper_214 : decode cX3_takesPaper 214 = .ok (.iconst 1, 1) := by decide +kernel
theorem dX3_takesPaper_215 : decode cX3_takesPaper 215 = .ok (.ireturn, 1) := by decide +kernel
set_option maxRecDepth 20000 in
theorem ggX3_weighFirst_X3_lessenWeights : GoodIn wsX3_weighFirst wsX3_lessenWeights := goodIn_r _ [8, 2, 9, 10, 11, 12, 13, 14, 15, 16, 17, 18, 19, 20, 21, 22, 23, 24, 25, 26, 27, 28, 29, 30] (by decide +kernel) (by decide +kernel)
set_option maxRecDepth 20000 in
theorem gX3_weighFirst_X3_lessenWeights : GoodIn wsX3_weighFirst (wsV RX3 103 RX3 yX3_lessenWeights wsX3_lessenWeights) := goodIn_app (goodIn_of _ (by decide +kernel)) ggX3_weighFirst_X3_lessenWeights
theorem dX3_weighFirst_0 : decode cX3_weighFirst 0 = .ok (.aload_n 0, 1) := by decide +kernel
theorem dX3_weighFirst_1 : decode cX3_weighFirst 1 = .ok (.getfield 61, 3) := by decide +kernel
theorem dX3_weighFirst_4 : decode cX3_weighFirst 4 = .ok (.iload_n 2, 1) := by decide +kernel
theorem dX3_weighFirst_5 : decode cX3_weighFirst 5 = .ok (.bipush 6, 2) := by decide +kernel
theorem dX3_weighFirst_7 : decode cX3_weighFirst 7 = .ok (.imul, 1) := by decide +kernel
theorem dX3_weighFirst_8 : decode cX3_weighFirst 8 = .ok (.iload_n 1, 1) := by decide +kernel
theorem dX3_weighFirst_9 : decode cX3_weighFirst 9 = .ok (.iadd, 1) := by decide +kernel
theorem dX3_weighFirst_10 : decode cX3_weighFirst 10 = .ok (.iconst 0, 1) := by decide +kernel
theorem dX3_weighFirst_11 : decode cX3_weighFirst 11 = .ok (.iastore, 1) := by decide +kernel
theorem dX3_weighFirst_12 : decode cX3_weighFirst 12 = .ok (.iload_n 2, 1) := by decide +kernel
theorem dX3_weighFirst_13 : decode cX3_weighFirst 13 = .ok (.bipush 6, 2) := by decide +kernel
theorem dX3_weighFirst_15 : decode cX3_weighFirst 15 = .ok (.imul, 1) := by decide +kernel
theorem dX3_weighFirst_16 : decode cX3_weighFirst 16 = .ok (.iload_n 1, 1) := by decide +kernel
theorem dX3_weighFirst_17 : decode cX3_weighFirst 17 = .ok (.iadd, 1) := by decide +kernel
theorem dX3_weighFirst_18 : decode cX3_weighFirst 18 = .ok (.iconst 3, 1) := by decide +kernel
theorem dX3_weighFirst_19 : decode cX3_weighFirst 19 = .ok (.imul, 1) := by decide +kernel
theorem dX3_weighFirst_20 : decode cX3_weighFirst 20 = .ok (.istore_n 3, 1) := by decide +kernel
theorem dX3_weighFirst_21 : decode cX3_weighFirst 21 = .ok (.iconst 0, 1) := by decide +kernel
theorem dX3_weighFirst_22 : decode cX3_weighFirst 22 = .ok (.istore 4, 2) := by decide +kernel
theorem dX3_weighFirst_24 : decode cX3_weighFirst 24 = .ok (.iload 4, 2) := by decide +kernel
theorem dX3_weighFirst_26 : decode cX3_weighFirst 26 = .ok (.iconst 3, 1) := by decide +kernel
theorem dX3_weighFirst_27 : decode cX3_weighFirst 27 = .ok (.if_icmp .ge 30, 3) := by decide +kernel
theorem dX3_weighFirst_30 : decode cX3_weighFirst 30 = .ok (.aload_n 0, 1) := by decide +kernel
theorem dX3_weighFirst_31 : decode cX3_weighFirst 31 = .ok (.getfield 64, 3) := by decide +kernel
theorem dX3_weighFirst_34 : decode cX3_weighFirst 34 = .ok (.iload_n 3, 1) := by decide +kernel
theorem dX3_weighFirst_35 : decode cX3_weighFirst 35 = .ok (.iload 4, 2) := by decide +kernel
theorem dX3_weighFirst_37 : decode cX3_weighFirst 37 = .ok (.iadd, 1) := by decide +kernel
theorem dX3_weighFirst_38 : decode cX3_weighFirst 38 = .ok (.aload_n 0, 1) := by decide +kernel
theorem dX3_weighFirst_39 : decode cX3_weighFirst 39 = .ok (.getfield 55, 3) := by decide +kernel
theorem dX3_weighFirst_42 : decode cX3_weighFirst 42 = .ok (.iload_n 2, 1) := by decide +kernel
theorem dX3_weighFirst_43 : decode cX3_weighFirst 43 = .ok (.iconst 3, 1) := by decide +kernel
theorem dX3_weighFirst_44 : decode cX3_weighFirst 44 = .ok (.imul, 1) := by decide +kernel
theorem dX3_weighFirst_45 : decode cX3_weighFirst 45 = .ok (.iload 4, 2) := by decide +kernel
theorem dX3_weighFirst_47 : decode cX3_weighFirst 47 = .ok (.iadd, 1) := by decide +kernel
theorem dX3_weighFirst_48 : decode cX3_weighFirst 48 = .ok (.iaload, 1) := by decide +kernel
theorem dX3_weighFirst_49 : decode cX3_weighFirst 49 = .ok (.i2l, 1) := by decide +kernel
theorem dX3_weighFirst_50 : decode cX3_weighFirst 50 = .ok (.lastore, 1) := by decide +kernel
theorem dX3_weighFirst_51 : decode cX3_weighFirst 51 = .ok (.iinc 4 1, 3) := by decide +kernel
theorem dX3_weighFirst_54 : decode cX3_weighFirst 54 = .ok (.goto (-30), 3) := by decide +kernel
theorem dX3_weighFirst_57 : decode cX3_weighFirst 57 = .ok (.aload_n 0, 1) := by decide +kernel
theorem dX3_weighFirst_58 : decode cX3_weighFirst 58 = .ok (.iload_n 3, 1) := by decide +kernel
theorem dX3_weighFirst_59 : decode cX3_weighFirst 59 = .ok (.invokevirtual 103, 3) := by decide +kernel
theorem dX3_weighFirst_62 : decode cX3_weighFirst 62 = .ok (.return_, 1) := by decide +kernel
set_option maxRecDepth 20000 in
theorem ggX3_takesLaw_X4_isNoLaw : GoodIn wsX3_takesLaw wsX4_isNoLaw := goodIn_r _ [4] (by decide +kernel) (by decide +kernel)
set_option maxRecDepth 20000 in
theorem gX3_takesLaw_X4_isNoLaw_n107 : GoodIn wsX3_takesLaw (wsX4_isNoLaw) := ggX3_takesLaw_X4_isNoLaw
theorem dX3_takesLaw_0 : decode cX3_takesLaw 0 = .ok (.iload_n 1, 1) := by decide +kernel
theorem dX3_takesLaw_1 : decode cX3_takesLaw 1 = .ok (.invokestatic 107, 3) := by decide +kernel
theorem dX3_takesLaw_4 : decode cX3_takesLaw 4 = .ok (.ifCond .eq 5, 3) := by decide +kernel
theorem dX3_takesLaw_7 : decode cX3_takesLaw 7 = .ok (.iconst 0, 1) := by decide +kernel
theorem dX3_takesLaw_8 : decode cX3_takesLaw 8 = .ok (.ireturn, 1) := by decide +kernel
theorem dX3_takesLaw_9 : decode cX3_takesLaw 9 = .ok (.aload_n 0, 1) := by decide +kernel
theorem dX3_takesLaw_10 : decode cX3_takesLaw 10 = .ok (.iload_n 1, 1) := by decide +kernel
theorem dX3_takesLaw_11 : decode cX3_takesLaw 11 = .ok (.putfield 18, 3) := by decide +kernel
theorem dX3_takesLaw_14 : decode cX3_takesLaw 14 = .ok (.iconst 1, 1) := by decide +kernel
theorem dX3_takesLaw_15 : decode cX3_takesLaw 15 = .ok (.ireturn, 1) := by decide +kernel
theorem dX3_takesClerk_0 : decode cX3_takesClerk 0 = .ok (.iload_n 1, 1) := by decide +kernel
theorem dX3_takesClerk_1 : decode cX3_takesClerk 1 = .ok (.bipush 100, 2) := by decide +kernel
theorem dX3_takesClerk_3 : decode cX3_takesClerk 3 = .ok (.if_icmp .le 5, 3) := by decide +kernel
theorem dX3_takesClerk_6 : decode cX3_takesClerk 6 = .ok (.iconst 0, 1) := by decide +kernel
theorem dX3_takesClerk_7 : decode cX3_takesClerk 7 = .ok (.ireturn, 1) := by decide +kernel
theorem dX3_takesClerk_8 : decode cX3_takesClerk 8 = .ok (.aload_n 0, 1) := by decide +kernel
theorem dX3_takesClerk_9 : decode cX3_takesClerk 9 = .ok (.iload_n 1, 1) := by decide +kernel
theorem dX3_takesClerk_10 : decode cX3_takesClerk 10 = .ok (.putfield 21, 3) := by decide +kernel
theorem dX3_takesClerk_13 : decode cX3_takesClerk 13 = .ok (.iconst 1, 1) := by decide +kernel
theorem dX3_takesClerk_14 : decode cX3_takesClerk 14 = .ok (.ireturn, 1) := by decide +kernel
theorem dX3_changeTruth_0 : decode cX3_changeTruth 0 = .ok (.aload_n 0, 1) := by decide +kernel
theorem dX3_changeTruth_1 : decode cX3_changeTruth 1 = .ok (.getfield 49, 3) := by decide +kernel
theorem dX3_changeTruth_4 : decode cX3_changeTruth 4 = .ok (.iload_n 1, 1) := by decide +kernel
theorem dX3_changeTruth_5 : decode cX3_changeTruth 5 = .ok (.iaload, 1) := by decide +kernel
theorem dX3_changeTruth_6 : decode cX3_changeTruth 6 = .ok (.istore_n 3, 1) := by decide +kernel
theorem dX3_changeTruth_7 : decode cX3_changeTruth 7 = .ok (.aload_n 0, 1) := by decide +kernel
theorem dX3_changeTruth_8 : decode cX3_changeTruth 8 = .ok (.getfield 49, 3) := by decide +kernel
theorem dX3_changeTruth_11 : decode cX3_changeTruth 11 = .ok (.iload_n 1, 1) := by decide +kernel
theorem dX3_changeTruth_12 : decode cX3_changeTruth 12 = .ok (.iload_n 2, 1) := by decide +kernel
theorem dX3_changeTruth_13 : decode cX3_changeTruth 13 = .ok (.iastore, 1) := by decide +kernel
theorem dX3_changeTruth_14 : decode cX3_changeTruth 14 = .ok (.iload_n 3, 1) := by decide +kernel
theorem dX3_changeTruth_15 : decode cX3_changeTruth 15 = .ok (.ireturn, 1) := by decide +kernel
theorem dX3_changeLaw_0 : decode cX3_changeLaw 0 = .ok (.aload_n 0, 1) := by decide +kernel
theorem dX3_changeLaw_1 : decode cX3_changeLaw 1 = .ok (.getfield 18, 3) := by decide +kernel
theorem dX3_changeLaw_4 : decode cX3_changeLaw 4 = .ok (.istore_n 2, 1) := by decide +kernel
theorem dX3_changeLaw_5 : decode cX3_changeLaw 5 = .ok (.aload_n 0, 1) := by decide +kernel
theorem dX3_changeLaw_6 : decode cX3_changeLaw 6 = .ok (.iload_n 1, 1) := by decide +kernel
theorem dX3_changeLaw_7 : decode cX3_changeLaw 7 = .ok (.putfield 18, 3) := by decide +kernel
theorem dX3_changeLaw_10 : decode cX3_changeLaw 10 = .ok (.iload_n 2, 1) := by decide +kernel
theorem dX3_changeLaw_11 : decode cX3_changeLaw 11 = .ok (.ireturn, 1) := by decide +kernel
theorem dX3_hasPerson_0 : decode cX3_hasPerson 0 = .ok (.iload_n 1, 1) := by decide +kernel
theorem dX3_hasPerson_1 : decode cX3_hasPerson 1 = .ok (.ifCond .lt 15, 3) := by decide +kernel
theorem dX3_hasPerson_4 : decode cX3_hasPerson 4 = .ok (.iload_n 1, 1) := by decide +kernel
theorem dX3_hasPerson_5 : decode cX3_hasPerson 5 = .ok (.aload_n 0, 1) := by decide +kernel
theorem dX3_hasPerson_6 : decode cX3_hasPerson 6 = .ok (.getfield 9, 3) := by decide +kernel
theorem dX3_hasPerson_9 : decode cX3_hasPerson 9 = .ok (.if_icmp .ge 7, 3) := by decide +kernel
theorem dX3_hasPerson_12 : decode cX3_hasPerson 12 = .ok (.iconst 1, 1) := by decide +kernel
theorem dX3_hasPerson_13 : decode cX3_hasPerson 13 = .ok (.goto 4, 3) := by decide +kernel
theorem dX3_hasPerson_16 : decode cX3_hasPerson 16 = .ok (.iconst 0, 1) := by decide +kernel
theorem dX3_hasPerson_17 : decode cX3_hasPerson 17 = .ok (.ireturn, 1) := by decide +kernel
theorem dX3_hasPaper_0 : decode cX3_hasPaper 0 = .ok (.iload_n 1, 1) := by decide +kernel
theorem dX3_hasPaper_1 : decode cX3_hasPaper 1 = .ok (.ifCond .lt 15, 3) := by decide +kernel
theorem dX3_hasPaper_4 : decode cX3_hasPaper 4 = .ok (.iload_n 1, 1) := by decide +kernel
theorem dX3_hasPaper_5 : decode cX3_hasPaper 5 = .ok (.aload_n 0, 1) := by decide +kernel
theorem dX3_hasPaper_6 : decode cX3_hasPaper 6 = .ok (.getfield 15, 3) := by decide +kernel
theorem dX3_hasPaper_9 : decode cX3_hasPaper 9 = .ok (.if_icmp .ge 7, 3) := by decide +kernel
theorem dX3_hasPaper_12 : decode cX3_hasPaper 12 = .ok (.iconst 1, 1) := by decide +kernel
theorem dX3_hasPaper_13 : decode cX3_hasPaper 13 = .ok (.goto 4, 3) := by decide +kernel
theorem dX3_hasPaper_16 : decode cX3_hasPaper 16 = .ok (.iconst 0, 1) := by decide +kernel
theorem dX3_hasPaper_17 : decode cX3_hasPaper 17 = .ok (.ireturn, 1) := by decide +kernel
theorem dX3_personCount_0 : decode cX3_personCount 0 = .ok (.aload_n 0, 1) := by decide +kernel
theorem dX3_personCount_1 : decode cX3_personCount 1 = .ok (.getfield 9, 3) := by decide +kernel
theorem dX3_personCount_4 : decode cX3_personCount 4 = .ok (.ireturn, 1) := by decide +kernel
theorem dX3_paperCount_0 : decode cX3_paperCount 0 = .ok (.aload_n 0, 1) := by decide +kernel
theorem dX3_paperCount_1 : decode cX3_paperCount 1 = .ok (.getfield 15, 3) := by decide +kernel
theorem dX3_paperCount_4 : decode cX3_paperCount 4 = .ok (.ireturn, 1) := by decide +kernel
theorem dX3_weekNow_0 : decode cX3_weekNow 0 = .ok (.aload_n 0, 1) := by decide +kernel
theorem dX3_weekNow_1 : decode cX3_weekNow 1 = .ok (.getfield 24, 3) := by decide +kernel
theorem dX3_weekNow_4 : decode cX3_weekNow 4 = .ok (.ireturn, 1) := by decide +kernel
theorem dX3_lawNow_0 : decode cX3_lawNow 0 = .ok (.aload_n 0, 1) := by decide +kernel
theorem dX3_lawNow_1 : decode cX3_lawNow 1 = .ok (.getfield 18, 3) := by decide +kernel
theorem dX3_lawNow_4 : decode cX3_lawNow 4 = .ok (.ireturn, 1) := by decide +kernel
theorem dX3_clerkNow_0 : decode cX3_clerkNow 0 = .ok (.aload_n 0, 1) := by decide +kernel
theorem dX3_clerkNow_1 : decode cX3_clerkNow 1 = .ok (.getfield 21, 3) := by decide +kernel
theorem dX3_clerkNow_4 : decode cX3_clerkNow 4 = .ok (.ireturn, 1) := by decide +kernel
set_option maxRecDepth 20000 in
theorem ggX3_personFact_X3_papersWith : GoodIn wsX3_personFact wsX3_papersWith := goodIn_r _ [10, 11, 12, 13, 14, 15, 16, 17, 18, 19, 20, 21, 22, 23, 24, 25, 26, 27, 28, 29] (by decide +kernel) (by decide +kernel)
set_option maxRecDepth 20000 in
theorem gX3_personFact_X3_papersWith : GoodIn wsX3_personFact (wsV RX3 110 RX3 yX3_papersWith wsX3_papersWith) := goodIn_app (goodIn_of _ (by decide +kernel)) ggX3_personFact_X3_papersWith
theorem dX3_personFact_0 : decode cX3_personFact 0 = .ok (.iload_n 2, 1) := by decide +kernel
theorem dX3_personFact_1 : decode cX3_personFact 1 = .ok (.tableswitch 62 0 3 #[31, 38, 45, 52], 31) := by decide +kernel
theorem dX3_personFact_32 : decode cX3_personFact 32 = .ok (.aload_n 0, 1) := by decide +kernel
theorem dX3_personFact_33 : decode cX3_personFact 33 = .ok (.getfield 27, 3) := by decide +kernel
theorem dX3_personFact_36 : decode cX3_personFact 36 = .ok (.iload_n 1, 1) := by decide +kernel
theorem dX3_personFact_37 : decode cX3_personFact 37 = .ok (.iaload, 1) := by decide +kernel
theorem dX3_personFact_38 : decode cX3_personFact 38 = .ok (.ireturn, 1) := by decide +kernel
theorem dX3_personFact_39 : decode cX3_personFact 39 = .ok (.aload_n 0, 1) := by decide +kernel
theorem dX3_personFact_40 : decode cX3_personFact 40 = .ok (.getfield 31, 3) := by decide +kernel
theorem dX3_personFact_43 : decode cX3_personFact 43 = .ok (.iload_n 1, 1) := by decide +kernel
theorem dX3_personFact_44 : decode cX3_personFact 44 = .ok (.iaload, 1) := by decide +kernel
theorem dX3_personFact_45 : decode cX3_personFact 45 = .ok (.ireturn, 1) := by decide +kernel
theorem dX3_personFact_46 : decode cX3_personFact 46 = .ok (.aload_n 0, 1) := by decide +kernel
theorem dX3_personFact_47 : decode cX3_personFact 47 = .ok (.getfield 34, 3) := by decide +kernel
theorem dX3_personFact_50 : decode cX3_personFact 50 = .ok (.iload_n 1, 1) := by decide +kernel
theorem dX3_personFact_51 : decode cX3_personFact 51 = .ok (.iaload, 1) := by decide +kernel
theorem dX3_personFact_52 : decode cX3_personFact 52 = .ok (.ireturn, 1) := by decide +kernel
theorem dX3_personFact_53 : decode cX3_personFact 53 = .ok (.aload_n 0, 1) := by decide +kernel
theorem dX3_personFact_54 : decode cX3_personFact 54 = .ok (.aload_n 0, 1) := by decide +kernel
theorem dX3_personFact_55 : decode cX3_personFact 55 = .ok (.getfield 40, 3) := by decide +kernel
theorem dX3_personFact_58 : decode cX3_personFact 58 = .ok (.iload_n 1, 1) := by decide +kernel
theorem dX3_personFact_59 : decode cX3_personFact 59 = .ok (.invokevirtual 110, 3) := by decide +kernel
theorem dX3_personFact_62 : decode cX3_personFact 62 = .ok (.ireturn, 1) := by decide +kernel
theorem dX3_personFact_63 : decode cX3_personFact 63 = .ok (.aload_n 0, 1) := by decide +kernel
theorem dX3_personFact_64 : decode cX3_personFact 64 = .ok (.aload_n 0, 1) := by decide +kernel
theorem dX3_personFact_65 : decode cX3_personFact 65 = .ok (.getfield 43, 3) := by decide +kernel
theorem dX3_personFact_68 : decode cX3_personFact 68 = .ok (.iload_n 1, 1) := by decide +kernel
theorem dX3_personFact_69 : decode cX3_personFact 69 = .ok (.invokevirtual 110, 3) := by decide +kernel
theorem dX3_personFact_72 : decode cX3_personFact 72 = .ok (.ireturn, 1) := by decide +kernel
theorem dX3_papersWith_0 : decode cX3_papersWith 0 = .ok (.iconst 0, 1) := by decide +kernel
theorem dX3_papersWith_1 : decode cX3_papersWith 1 = .ok (.istore_n 3, 1) := by decide +kernel
theorem dX3_papersWith_2 : decode cX3_papersWith 2 = .ok (.iconst 0, 1) := by decide +kernel
theorem dX3_papersWith_3 : decode cX3_papersWith 3 = .ok (.istore 4, 2) := by decide +kernel
theorem dX3_papersWith_5 : decode cX3_papersWith 5 = .ok (.iload 4, 2) := by decide +kernel
theorem dX3_papersWith_7 : decode cX3_papersWith 7 = .ok (.aload_n 0, 1) := by decide +kernel
theorem dX3_papersWith_8 : decode cX3_papersWith 8 = .ok (.getfield 15, 3) := by decide +kernel
theorem dX3_papersWith_11 : decode cX3_papersWith 11 = .ok (.if_icmp .ge 23, 3) := by decide +kernel
theorem dX3_papersWith_14 : decode cX3_papersWith 14 = .ok (.iload_n 3, 1) := by decide +kernel
theorem dX3_papersWith_15 : decode cX3_papersWith 15 = .ok (.aload_n 1, 1) := by decide +kernel
theorem dX3_papersWith_16 : decode cX3_papersWith 16 = .ok (.iload 4, 2) := by decide +kernel
theorem dX3_papersWith_18 : decode cX3_papersWith 18 = .ok (.iaload, 1) := by decide +kernel
theorem dX3_papersWith_19 : decode cX3_papersWith 19 = .ok (.iload_n 2, 1) := by decide +kernel
theorem dX3_papersWith_20 : decode cX3_papersWith 20 = .ok (.ishr, 1) := by decide +kernel
theorem dX3_papersWith_21 : decode cX3_papersWith 21 = .ok (.iconst 1, 1) := by decide +kernel
theorem dX3_papersWith_22 : decode cX3_papersWith 22 = .ok (.iand, 1) := by decide +kernel
theorem dX3_papersWith_23 : decode cX3_papersWith 23 = .ok (.iload 4, 2) := by decide +kernel
theorem dX3_papersWith_25 : decode cX3_papersWith 25 = .ok (.ishl, 1) := by decide +kernel
theorem dX3_papersWith_26 : decode cX3_papersWith 26 = .ok (.ior, 1) := by decide +kernel
theorem dX3_papersWith_27 : decode cX3_papersWith 27 = .ok (.istore_n 3, 1) := by decide +kernel
theorem dX3_papersWith_28 : decode cX3_papersWith 28 = .ok (.iinc 4 1, 3) := by decide +kernel
theorem dX3_papersWith_31 : decode cX3_papersWith 31 = .ok (.goto (-26), 3) := by decide +kernel
theorem dX3_papersWith_34 : decode cX3_papersWith 34 = .ok (.iload_n 3, 1) := by decide +kernel
theorem dX3_papersWith_35 : decode cX3_papersWith 35 = .ok (.ireturn, 1) := by decide +kernel
set_option maxRecDepth 20000 in
theorem ggX3_paperFact_X3_isInForce : GoodIn wsX3_paperFact wsX3_isInForce := goodIn_r _ [10, 3, 11, 12, 13, 14, 15, 16, 17, 18, 19, 20, 9, 21, 1, 22, 23, 24, 25, 26, 27, 28, 29, 30, 31, 32, 33, 34, 35, 36, 37, 38, 39, 40, 41, 42, 43, 44] (by decide +kernel) (by decide +kernel)
set_option maxRecDepth 20000 in
theorem gX3_paperFact_X3_isInForce : GoodIn wsX3_paperFact (wsV RX3 114 RX3 yX3_isInForce wsX3_isInForce) := goodIn_app (goodIn_of _ (by decide +kernel)) ggX3_paperFact_X3_isInForce
theorem dX3_paperFact_0 : decode cX3_paperFact 0 = .ok (.iload_n 2, 1) := by decide +kernel
theorem dX3_paperFact_1 : decode cX3_paperFact 1 = .ok (.tableswitch 89 0 7 #[47, 89, 89, 89, 54, 61, 68, 82], 47) := by decide +kernel
theorem dX3_paperFact_48 : decode cX3_paperFact 48 = .ok (.aload_n 0, 1) := by decide +kernel
theorem dX3_paperFact_49 : decode cX3_paperFact 49 = .ok (.getfield 40, 3) := by decide +kernel
theorem dX3_paperFact_52 : decode cX3_paperFact 52 = .ok (.iload_n 1, 1) := by decide +kernel
theorem dX3_paperFact_53 : decode cX3_paperFact 53 = .ok (.iaload, 1) := by decide +kernel
theorem dX3_paperFact_54 : decode cX3_paperFact 54 = .ok (.ireturn, 1) := by decide +kernel
theorem dX3_paperFact_55 : decode cX3_paperFact 55 = .ok (.aload_n 0, 1) := by decide +kernel
theorem dX3_paperFact_56 : decode cX3_paperFact 56 = .ok (.getfield 49, 3) := by decide +kernel
theorem dX3_paperFact_59 : decode cX3_paperFact 59 = .ok (.iload_n 1, 1) := by decide +kernel
theorem dX3_paperFact_60 : decode cX3_paperFact 60 = .ok (.iaload, 1) := by decide +kernel
theorem dX3_paperFact_61 : decode cX3_paperFact 61 = .ok (.ireturn, 1) := by decide +kernel
theorem dX3_paperFact_62 : decode cX3_paperFact 62 = .ok (.aload_n 0, 1) := by decide +kernel
theorem dX3_paperFact_63 : decode cX3_paperFact 63 = .ok (.getfield 43, 3) := by decide +kernel
theorem dX3_paperFact_66 : decode cX3_paperFact 66 = .ok (.iload_n 1, 1) := by decide +kernel
theorem dX3_paperFact_67 : decode cX3_paperFact 67 = .ok (.iaload, 1) := by decide +kernel
theorem dX3_paperFact_68 : decode cX3_paperFact 68 = .ok (.ireturn, 1) := by decide +kernel
theorem dX3_paperFact_69 : decode cX3_paperFact 69 = .ok (.aload_n 0, 1) := by decide +kernel
theorem dX3_paperFact_70 : decode cX3_paperFact 70 = .ok (.iload_n 1, 1) := by decide +kernel
theorem dX3_paperFact_71 : decode cX3_paperFact 71 = .ok (.invokevirtual 114, 3) := by decide +kernel
theorem dX3_paperFact_74 : decode cX3_paperFact 74 = .ok (.ifCond .eq 7, 3) := by decide +kernel
theorem dX3_paperFact_77 : decode cX3_paperFact 77 = .ok (.iconst 1, 1) := by decide +kernel
theorem dX3_paperFact_78 : decode cX3_paperFact 78 = .ok (.goto 4, 3) := by decide +kernel
theorem dX3_paperFact_81 : decode cX3_paperFact 81 = .ok (.iconst 0, 1) := by decide +kernel
theorem dX3_paperFact_82 : decode cX3_paperFact 82 = .ok (.ireturn, 1) := by decide +kernel
theorem dX3_paperFact_83 : decode cX3_paperFact 83 = .ok (.aload_n 0, 1) := by decide +kernel
theorem dX3_paperFact_84 : decode cX3_paperFact 84 = .ok (.getfield 52, 3) := by decide +kernel
theorem dX3_paperFact_87 : decode cX3_paperFact 87 = .ok (.iload_n 1, 1) := by decide +kernel
theorem dX3_paperFact_88 : decode cX3_paperFact 88 = .ok (.iaload, 1) := by decide +kernel
theorem dX3_paperFact_89 : decode cX3_paperFact 89 = .ok (.ireturn, 1) := by decide +kernel
theorem dX3_paperFact_90 : decode cX3_paperFact 90 = .ok (.iload_n 2, 1) := by decide +kernel
theorem dX3_paperFact_91 : decode cX3_paperFact 91 = .ok (.iconst 1, 1) := by decide +kernel
theorem dX3_paperFact_92 : decode cX3_paperFact 92 = .ok (.if_icmp .lt 23, 3) := by decide +kernel
theorem dX3_paperFact_95 : decode cX3_paperFact 95 = .ok (.iload_n 2, 1) := by decide +kernel
theorem dX3_paperFact_96 : decode cX3_paperFact 96 = .ok (.iconst 3, 1) := by decide +kernel
theorem dX3_paperFact_97 : decode cX3_paperFact 97 = .ok (.if_icmp .gt 18, 3) := by decide +kernel
theorem dX3_paperFact_100 : decode cX3_paperFact 100 = .ok (.aload_n 0, 1) := by decide +kernel
theorem dX3_paperFact_101 : decode cX3_paperFact 101 = .ok (.getfield 55, 3) := by decide +kernel
theorem dX3_paperFact_104 : decode cX3_paperFact 104 = .ok (.iload_n 1, 1) := by decide +kernel
theorem dX3_paperFact_105 : decode cX3_paperFact 105 = .ok (.iconst 3, 1) := by decide +kernel
theorem dX3_paperFact_106 : decode cX3_paperFact 106 = .ok (.imul, 1) := by decide +kernel
theorem dX3_paperFact_107 : decode cX3_paperFact 107 = .ok (.iload_n 2, 1) := by decide +kernel
theorem dX3_paperFact_108 : decode cX3_paperFact 108 = .ok (.iadd, 1) := by decide +kernel
theorem dX3_paperFact_109 : decode cX3_paperFact 109 = .ok (.iconst 1, 1) := by decide +kernel
theorem dX3_paperFact_110 : decode cX3_paperFact 110 = .ok (.isub, 1) := by decide +kernel
theorem dX3_paperFact_111 : decode cX3_paperFact 111 = .ok (.iaload, 1) := by decide +kernel
theorem dX3_paperFact_112 : decode cX3_paperFact 112 = .ok (.goto 4, 3) := by decide +kernel
theorem dX3_paperFact_115 : decode cX3_paperFact 115 = .ok (.iconst 0, 1) := by decide +kernel
theorem dX3_paperFact_116 : decode cX3_paperFact 116 = .ok (.ireturn, 1) := by decide +kernel
set_option maxRecDepth 20000 in
theorem ggX3_papersInForce_X3_isInForce : GoodIn wsX3_papersInForce wsX3_isInForce := goodIn_r _ [6, 7, 8, 9, 10, 11, 12, 13, 14, 15, 16, 17, 5, 18, 19, 20, 21, 22, 23, 24, 25, 26, 27, 28, 29, 30, 31, 32, 33, 34, 35, 36, 37, 38, 39, 40, 41, 42] (by decide +kernel) (by decide +kernel)
set_option maxRecDepth 20000 in
theorem gX3_papersInForce_X3_isInForce : GoodIn wsX3_papersInForce (wsV RX3 114 RX3 yX3_isInForce wsX3_isInForce) := goodIn_app (goodIn_of _ (by decide +kernel)) ggX3_papersInForce_X3_isInForce
theorem dX3_papersInForce_0 : decode cX3_papersInForce 0 = .ok (.iconst 0, 1) := by decide +kernel
theorem dX3_papersInForce_1 : decode cX3_papersInForce 1 = .ok (.istore_n 1, 1) := by decide +kernel
theorem dX3_papersInForce_2 : decode cX3_papersInForce 2 = .ok (.iconst 0, 1) := by decide +kernel
theorem dX3_papersInForce_3 : decode cX3_papersInForce 3 = .ok (.istore_n 2, 1) := by decide +kernel
theorem dX3_papersInForce_4 : decode cX3_papersInForce 4 = .ok (.iload_n 2, 1) := by decide +kernel
theorem dX3_papersInForce_5 : decode cX3_papersInForce 5 = .ok (.aload_n 0, 1) := by decide +kernel
theorem dX3_papersInForce_6 : decode cX3_papersInForce 6 = .ok (.getfield 15, 3) := by decide +kernel
theorem dX3_papersInForce_9 : decode cX3_papersInForce 9 = .ok (.if_icmp .ge 25, 3) := by decide +kernel
theorem dX3_papersInForce_12 : decode cX3_papersInForce 12 = .ok (.iload_n 1, 1) := by decide +kernel
theorem dX3_papersInForce_13 : decode cX3_papersInForce 13 = .ok (.aload_n 0, 1) := by decide +kernel
theorem dX3_papersInForce_14 : decode cX3_papersInForce 14 = .ok (.iload_n 2, 1) := by decide +kernel
theorem dX3_papersInForce_15 : decode cX3_papersInForce 15 = .ok (.invokevirtual 114, 3) := by decide +kernel
theorem dX3_papersInForce_18 : decode cX3_papersInForce 18 = .ok (.ifCond .eq 7, 3) := by decide +kernel
theorem dX3_papersInForce_21 : decode cX3_papersInForce 21 = .ok (.iconst 1, 1) := by decide +kernel
theorem dX3_papersInForce_22 : decode cX3_papersInForce 22 = .ok (.goto 4, 3) := by decide +kernel
theorem dX3_papersInForce_25 : decode cX3_papersInForce 25 = .ok (.iconst 0, 1) := by decide +kernel
theorem dX3_papersInForce_26 : decode cX3_papersInForce 26 = .ok (.iadd, 1) := by decide +kernel
theorem dX3_papersInForce_27 : decode cX3_papersInForce 27 = .ok (.istore_n 1, 1) := by decide +kernel
theorem dX3_papersInForce_28 : decode cX3_papersInForce 28 = .ok (.iinc 2 1, 3) := by decide +kernel
theorem dX3_papersInForce_31 : decode cX3_papersInForce 31 = .ok (.goto (-27), 3) := by decide +kernel
theorem dX3_papersInForce_34 : decode cX3_papersInForce 34 = .ok (.iload_n 1, 1) := by decide +kernel
theorem dX3_papersInForce_35 : decode cX3_papersInForce 35 = .ok (.ireturn, 1) := by decide +kernel
theorem dX3_gainOf_0 : decode cX3_gainOf 0 = .ok (.aload_n 0, 1) := by decide +kernel
theorem dX3_gainOf_1 : decode cX3_gainOf 1 = .ok (.getfield 58, 3) := by decide +kernel
theorem dX3_gainOf_4 : decode cX3_gainOf 4 = .ok (.iload_n 1, 1) := by decide +kernel
theorem dX3_gainOf_5 : decode cX3_gainOf 5 = .ok (.iconst 3, 1) := by decide +kernel
theorem dX3_gainOf_6 : decode cX3_gainOf 6 = .ok (.imul, 1) := by decide +kernel
theorem dX3_gainOf_7 : decode cX3_gainOf 7 = .ok (.iload_n 2, 1) := by decide +kernel
theorem dX3_gainOf_8 : decode cX3_gainOf 8 = .ok (.iadd, 1) := by decide +kernel
theorem dX3_gainOf_9 : decode cX3_gainOf 9 = .ok (.iaload, 1) := by decide +kernel
theorem dX3_gainOf_10 : decode cX3_gainOf 10 = .ok (.ireturn, 1) := by decide +kernel
theorem dX3_boundBy_0 : decode cX3_boundBy 0 = .ok (.aload_n 0, 1) := by decide +kernel
theorem dX3_boundBy_1 : decode cX3_boundBy 1 = .ok (.getfield 40, 3) := by decide +kernel
theorem dX3_boundBy_4 : decode cX3_boundBy 4 = .ok (.iload_n 1, 1) := by decide +kernel
theorem dX3_boundBy_5 : decode cX3_boundBy 5 = .ok (.iaload, 1) := by decide +kernel
theorem dX3_boundBy_6 : decode cX3_boundBy 6 = .ok (.ireturn, 1) := by decide +kernel
theorem dX3_readersOf_0 : decode cX3_readersOf 0 = .ok (.aload_n 0, 1) := by decide +kernel
theorem dX3_readersOf_1 : decode cX3_readersOf 1 = .ok (.getfield 43, 3) := by decide +kernel
theorem dX3_readersOf_4 : decode cX3_readersOf 4 = .ok (.iload_n 1, 1) := by decide +kernel
theorem dX3_readersOf_5 : decode cX3_readersOf 5 = .ok (.iaload, 1) := by decide +kernel
theorem dX3_readersOf_6 : decode cX3_readersOf 6 = .ok (.ireturn, 1) := by decide +kernel
theorem dX3_unreadOf_0 : decode cX3_unreadOf 0 = .ok (.aload_n 0, 1) := by decide +kernel
theorem dX3_unreadOf_1 : decode cX3_unreadOf 1 = .ok (.getfield 40, 3) := by decide +kernel
theorem dX3_unreadOf_4 : decode cX3_unreadOf 4 = .ok (.iload_n 1, 1) := by decide +kernel
theorem dX3_unreadOf_5 : decode cX3_unreadOf 5 = .ok (.iaload, 1) := by decide +kernel
theorem dX3_unreadOf_6 : decode cX3_unreadOf 6 = .ok (.aload_n 0, 1) := by decide +kernel
theorem dX3_unreadOf_7 : decode cX3_unreadOf 7 = .ok (.getfield 43, 3) := by decide +kernel
theorem dX3_unreadOf_10 : decode cX3_unreadOf 10 = .ok (.iload_n 1, 1) := by decide +kernel
theorem dX3_unreadOf_11 : decode cX3_unreadOf 11 = .ok (.iaload, 1) := by decide +kernel
theorem dX3_unreadOf_12 : decode cX3_unreadOf 12 = .ok (.iconst (-1), 1) := by decide +kernel
theorem dX3_unreadOf_13 : decode cX3_unreadOf 13 = .ok (.ixor, 1) := by decide +kernel
theorem dX3_unreadOf_14 : decode cX3_unreadOf 14 = .ok (.iand, 1) := by decide +kernel
theorem dX3_unreadOf_15 : decode cX3_unreadOf 15 = .ok (.ireturn, 1) := by decide +kernel
theorem dX3_liarsOf_0 : decode cX3_liarsOf 0 = .ok (.aload_n 0, 1) := by decide +kernel
theorem dX3_liarsOf_1 : decode cX3_liarsOf 1 = .ok (.getfield 46, 3) := by decide +kernel
theorem dX3_liarsOf_4 : decode cX3_liarsOf 4 = .ok (.iload_n 1, 1) := by decide +kernel
theorem dX3_liarsOf_5 : decode cX3_liarsOf 5 = .ok (.iaload, 1) := by decide +kernel
theorem dX3_liarsOf_6 : decode cX3_liarsOf 6 = .ok (.aload_n 0, 1) := by decide +kernel
theorem dX3_liarsOf_7 : decode cX3_liarsOf 7 = .ok (.getfield 43, 3) := by decide +kernel
theorem dX3_liarsOf_10 : decode cX3_liarsOf 10 = .ok (.iload_n 1, 1) := by decide +kernel
theorem dX3_liarsOf_11 : decode cX3_liarsOf 11 = .ok (.iaload, 1) := by decide +kernel
theorem dX3_liarsOf_12 : decode cX3_liarsOf 12 = .ok (.iconst (-1), 1) := by decide +kernel
theorem dX3_liarsOf_13 : decode cX3_liarsOf 13 = .ok (.ixor, 1) := by decide +kernel
theorem dX3_liarsOf_14 : decode cX3_liarsOf 14 = .ok (.iand, 1) := by decide +kernel
theorem dX3_liarsOf_15 : decode cX3_liarsOf 15 = .ok (.ireturn, 1) := by decide +kernel
theorem dX3_hadBy_0 : decode cX3_hadBy 0 = .ok (.aload_n 0, 1) := by decide +kernel
theorem dX3_hadBy_1 : decode cX3_hadBy 1 = .ok (.getfield 37, 3) := by decide +kernel
theorem dX3_hadBy_4 : decode cX3_hadBy 4 = .ok (.iload_n 1, 1) := by decide +kernel
theorem dX3_hadBy_5 : decode cX3_hadBy 5 = .ok (.iaload, 1) := by decide +kernel
theorem dX3_hadBy_6 : decode cX3_hadBy 6 = .ok (.ireturn, 1) := by decide +kernel
theorem dX3_hadByAll_0 : decode cX3_hadByAll 0 = .ok (.iconst 0, 1) := by decide +kernel
theorem dX3_hadByAll_1 : decode cX3_hadByAll 1 = .ok (.istore_n 1, 1) := by decide +kernel
theorem dX3_hadByAll_2 : decode cX3_hadByAll 2 = .ok (.iconst 0, 1) := by decide +kernel
theorem dX3_hadByAll_3 : decode cX3_hadByAll 3 = .ok (.istore_n 2, 1) := by decide +kernel
theorem dX3_hadByAll_4 : decode cX3_hadByAll 4 = .ok (.iload_n 2, 1) := by decide +kernel
theorem dX3_hadByAll_5 : decode cX3_hadByAll 5 = .ok (.aload_n 0, 1) := by decide +kernel
theorem dX3_hadByAll_6 : decode cX3_hadByAll 6 = .ok (.getfield 9, 3) := by decide +kernel
theorem dX3_hadByAll_9 : decode cX3_hadByAll 9 = .ok (.if_icmp .ge 18, 3) := by decide +kernel
theorem dX3_hadByAll_12 : decode cX3_hadByAll 12 = .ok (.iload_n 1, 1) := by decide +kernel
theorem dX3_hadByAll_13 : decode cX3_hadByAll 13 = .ok (.aload_n 0, 1) := by decide +kernel
theorem dX3_hadByAll_14 : decode cX3_hadByAll 14 = .ok (.getfield 37, 3) := by decide +kernel
theorem dX3_hadByAll_17 : decode cX3_hadByAll 17 = .ok (.iload_n 2, 1) := by decide +kernel
theorem dX3_hadByAll_18 : decode cX3_hadByAll 18 = .ok (.iaload, 1) := by decide +kernel
theorem dX3_hadByAll_19 : decode cX3_hadByAll 19 = .ok (.iadd, 1) := by decide +kernel
theorem dX3_hadByAll_20 : decode cX3_hadByAll 20 = .ok (.istore_n 1, 1) := by decide +kernel
theorem dX3_hadByAll_21 : decode cX3_hadByAll 21 = .ok (.iinc 2 1, 3) := by decide +kernel
theorem dX3_hadByAll_24 : decode cX3_hadByAll 24 = .ok (.goto (-20), 3) := by decide +kernel
theorem dX3_hadByAll_27 : decode cX3_hadByAll 27 = .ok (.iload_n 1, 1) := by decide +kernel
theorem dX3_hadByAll_28 : decode cX3_hadByAll 28 = .ok (.ireturn, 1) := by decide +kernel
theorem dX3_heardBy_0 : decode cX3_heardBy 0 = .ok (.aload_n 0, 1) := by decide +kernel
theorem dX3_heardBy_1 : decode cX3_heardBy 1 = .ok (.getfield 61, 3) := by decide +kernel
theorem dX3_heardBy_4 : decode cX3_heardBy 4 = .ok (.iload_n 2, 1) := by decide +kernel
theorem dX3_heardBy_5 : decode cX3_heardBy 5 = .ok (.bipush 6, 2) := by decide +kernel
theorem dX3_heardBy_7 : decode cX3_heardBy 7 = .ok (.imul, 1) := by decide +kernel
theorem dX3_heardBy_8 : decode cX3_heardBy 8 = .ok (.iload_n 1, 1) := by decide +kernel
theorem dX3_heardBy_9 : decode cX3_heardBy 9 = .ok (.iadd, 1) := by decide +kernel
theorem dX3_heardBy_10 : decode cX3_heardBy 10 = .ok (.iaload, 1) := by decide +kernel
theorem dX3_heardBy_11 : decode cX3_heardBy 11 = .ok (.ireturn, 1) := by decide +kernel
theorem dX3_isBound_0 : decode cX3_isBound 0 = .ok (.aload_n 0, 1) := by decide +kernel
theorem dX3_isBound_1 : decode cX3_isBound 1 = .ok (.getfield 40, 3) := by decide +kernel
theorem dX3_isBound_4 : decode cX3_isBound 4 = .ok (.iload_n 2, 1) := by decide +kernel
theorem dX3_isBound_5 : decode cX3_isBound 5 = .ok (.iaload, 1) := by decide +kernel
theorem dX3_isBound_6 : decode cX3_isBound 6 = .ok (.iload_n 1, 1) := by decide +kernel
theorem dX3_isBound_7 : decode cX3_isBound 7 = .ok (.ishr, 1) := by decide +kernel
theorem dX3_isBound_8 : decode cX3_isBound 8 = .ok (.iconst 1, 1) := by decide +kernel
theorem dX3_isBound_9 : decode cX3_isBound 9 = .ok (.iand, 1) := by decide +kernel
theorem dX3_isBound_10 : decode cX3_isBound 10 = .ok (.ifCond .eq 7, 3) := by decide +kernel
theorem dX3_isBound_13 : decode cX3_isBound 13 = .ok (.iconst 1, 1) := by decide +kernel
theorem dX3_isBound_14 : decode cX3_isBound 14 = .ok (.goto 4, 3) := by decide +kernel
theorem dX3_isBound_17 : decode cX3_isBound 17 = .ok (.iconst 0, 1) := by decide +kernel
theorem dX3_isBound_18 : decode cX3_isBound 18 = .ok (.ireturn, 1) := by decide +kernel
set_option maxRecDepth 20000 in
theorem ggX3_isUnread_X3_unreadOf : GoodIn wsX3_isUnread wsX3_unreadOf := goodIn_r _ [5, 6, 7, 8, 9, 10, 11, 12, 13, 14, 15, 16, 17, 18, 19, 20, 21, 22, 23, 24, 25] (by decide +kernel) (by decide +kernel)
set_option maxRecDepth 20000 in
theorem gX3_isUnread_X3_unreadOf : GoodIn wsX3_isUnread (wsV RX3 117 RX3 yX3_unreadOf wsX3_unreadOf) := goodIn_app (goodIn_of _ (by decide +kernel)) ggX3_isUnread_X3_unreadOf
theorem dX3_isUnread_0 : decode cX3_isUnread 0 = .ok (.aload_n 0, 1) := by decide +kernel
theorem dX3_isUnread_1 : decode cX3_isUnread 1 = .ok (.iload_n 2, 1) := by decide +kernel
theorem dX3_isUnread_2 : decode cX3_isUnread 2 = .ok (.invokevirtual 117, 3) := by decide +kernel
theorem dX3_isUnread_5 : decode cX3_isUnread 5 = .ok (.iload_n 1, 1) := by decide +kernel
theorem dX3_isUnread_6 : decode cX3_isUnread 6 = .ok (.ishr, 1) := by decide +kernel
theorem dX3_isUnread_7 : decode cX3_isUnread 7 = .ok (.iconst 1, 1) := by decide +kernel
theorem dX3_isUnread_8 : decode cX3_isUnread 8 = .ok (.iand, 1) := by decide +kernel
theorem dX3_isUnread_9 : decode cX3_isUnread 9 = .ok (.ifCond .eq 7, 3) := by decide +kernel
theorem dX3_isUnread_12 : decode cX3_isUnread 12 = .ok (.iconst 1, 1) := by decide +kernel
theorem dX3_isUnread_13 : decode cX3_isUnread 13 = .ok (.goto 4, 3) := by decide +kernel
theorem dX3_isUnread_16 : decode cX3_isUnread 16 = .ok (.iconst 0, 1) := by decide +kernel
theorem dX3_isUnread_17 : decode cX3_isUnread 17 = .ok (.ireturn, 1) := by decide +kernel
set_option maxRecDepth 20000 in
theorem ggX3_canRead_X3_isUnread : GoodIn wsX3_canRead wsX3_isUnread := goodIn_r _ [5, 6, 7, 8, 4, 9, 10, 11, 32, 33, 34, 35, 36, 37, 38, 39, 40, 41, 42, 43, 44, 45, 46, 47, 48, 49] (by decide +kernel) (by decide +kernel)
set_option maxRecDepth 20000 in
theorem gX3_canRead_X3_isUnread : GoodIn wsX3_canRead (wsV RX3 120 RX3 yX3_isUnread wsX3_isUnread) := goodIn_app (goodIn_of _ (by decide +kernel)) ggX3_canRead_X3_isUnread
set_option maxRecDepth 20000 in
theorem ggX3_canRead_X3_isInForce : GoodIn wsX3_canRead wsX3_isInForce := goodIn_r _ [15, 11, 16, 17, 18, 19, 20, 21, 22, 23, 24, 25, 4, 26, 10, 27, 28, 29, 30, 31, 32, 33, 34, 35, 36, 37, 38, 39, 40, 41, 42, 43, 44, 45, 46, 47, 48, 49] (by decide +kernel) (by decide +kernel)
set_option maxRecDepth 20000 in
theorem gX3_canRead_X3_isInForce : GoodIn wsX3_canRead (wsV RX3 114 RX3 yX3_isInForce wsX3_isInForce) := goodIn_app (goodIn_of _ (by decide +kernel)) ggX3_canRead_X3_isInForce
theorem dX3_canRead_0 : decode cX3_canRead 0 = .ok (.aload_n 0, 1) := by decide +kernel
theorem dX3_canRead_1 : decode cX3_canRead 1 = .ok (.iload_n 1, 1) := by decide +kernel
theorem dX3_canRead_2 : decode cX3_canRead 2 = .ok (.iload_n 2, 1) := by decide +kernel
theorem dX3_canRead_3 : decode cX3_canRead 3 = .ok (.invokevirtual 120, 3) := by decide +kernel
theorem dX3_canRead_6 : decode cX3_canRead 6 = .ok (.ifCond .eq 15, 3) := by decide +kernel
theorem dX3_canRead_9 : decode cX3_canRead 9 = .ok (.aload_n 0, 1) := by decide +kernel
theorem dX3_canRead_10 : decode cX3_canRead 10 = .ok (.iload_n 2, 1) := by decide +kernel
theorem dX3_canRead_11 : decode cX3_canRead 11 = .ok (.invokevirtual 114, 3) := by decide +kernel
theorem dX3_canRead_14 : decode cX3_canRead 14 = .ok (.ifCond .eq 7, 3) := by decide +kernel
theorem dX3_canRead_17 : decode cX3_canRead 17 = .ok (.iconst 1, 1) := by decide +kernel
theorem dX3_canRead_18 : decode cX3_canRead 18 = .ok (.goto 4, 3) := by decide +kernel
theorem dX3_canRead_21 : decode cX3_canRead 21 = .ok (.iconst 0, 1) := by decide +kernel
theorem dX3_canRead_22 : decode cX3_canRead 22 = .ok (.ireturn, 1) := by decide +kernel
set_option maxRecDepth 20000 in
theorem ggX3_isInForce_J6_bitCount_0f7a4 : GoodIn wsX3_isInForce wsJ6_bitCount_0f7a4 := goodIn_r _ [5, 6, 7, 8] (by decide +kernel) (by decide +kernel)
set_option maxRecDepth 20000 in
theorem gX3_isInForce_J6_bitCount_0f7a4 : GoodIn wsX3_isInForce (va_wsS RX3 124 yJ6_bitCount_0f7a4 wsJ6_bitCount_0f7a4) := goodIn_app (goodIn_of _ (by decide +kernel)) ggX3_isInForce_J6_bitCount_0f7a4
set_option maxRecDepth 20000 in
theorem ggX3_isInForce_X3_isInForceWith : GoodIn wsX3_isInForce wsX3_isInForceWith := goodIn_r _ [13, 14, 15, 16, 17, 18, 19, 2, 3, 4, 5, 6, 7, 8, 20, 21, 22, 23, 24, 25, 26, 27, 28, 29, 30, 31, 32, 33, 34, 35, 36, 37] (by decide +kernel) (by decide +kernel)
set_option maxRecDepth 20000 in
theorem gX3_isInForce_X3_isInForceWith : GoodIn wsX3_isInForce (wsV RX3 129 RX3 yX3_isInForceWith wsX3_isInForceWith) := goodIn_app (goodIn_of _ (by decide +kernel)) ggX3_isInForce_X3_isInForceWith
theorem dX3_isInForce_0 : decode cX3_isInForce 0 = .ok (.aload_n 0, 1) := by decide +kernel
theorem dX3_isInForce_1 : decode cX3_isInForce 1 = .ok (.iload_n 1, 1) := by decide +kernel
theorem dX3_isInForce_2 : decode cX3_isInForce 2 = .ok (.aload_n 0, 1) := by decide +kernel
theorem dX3_isInForce_3 : decode cX3_isInForce 3 = .ok (.getfield 43, 3) := by decide +kernel
theorem dX3_isInForce_6 : decode cX3_isInForce 6 = .ok (.iload_n 1, 1) := by decide +kernel
theorem dX3_isInForce_7 : decode cX3_isInForce 7 = .ok (.iaload, 1) := by decide +kernel
theorem dX3_isInForce_8 : decode cX3_isInForce 8 = .ok (.invokestatic 124, 3) := by decide +kernel
theorem dX3_isInForce_11 : decode cX3_isInForce 11 = .ok (.invokevirtual 129, 3) := by decide +kernel
theorem dX3_isInForce_14 : decode cX3_isInForce 14 = .ok (.ireturn, 1) := by decide +kernel
set_option maxRecDepth 20000 in
theorem ggX3_isInForceWith_J6_bitCount_0f7a4 : GoodIn wsX3_isInForceWith wsJ6_bitCount_0f7a4 := goodIn_r _ [10, 11, 12, 13] (by decide +kernel) (by decide +kernel)
set_option maxRecDepth 20000 in
theorem gX3_isInForceWith_J6_bitCount_0f7a4 : GoodIn wsX3_isInForceWith (va_wsS RX3 124 yJ6_bitCount_0f7a4 wsJ6_bitCount_0f7a4) := goodIn_app (goodIn_of _ (by decide +kernel)) ggX3_isInForceWith_J6_bitCount_0f7a4
theorem dX3_isInForceWith_0 : decode cX3_isInForceWith 0 = .ok (.aload_n 0, 1) := by decide +kernel
theorem dX3_isInForceWith_1 : decode cX3_isInForceWith 1 = .ok (.getfield 40, 3) := by decide +kernel
theorem dX3_isInForceWith_4 : decode cX3_isInForceWith 4 = .ok (.iload_n 1, 1) := by decide +kernel
theorem dX3_isInForceWith_5 : decode cX3_isInForceWith 5 = .ok (.iaload, 1) := by decide +kernel
theorem dX3_isInForceWith_6 : decode cX3_isInForceWith 6 = .ok (.invokestatic 124, 3) := by decide +kernel
theorem dX3_isInForceWith_9 : decode cX3_isInForceWith 9 = .ok (.istore_n 3, 1) := by decide +kernel
theorem dX3_isInForceWith_10 : decode cX3_isInForceWith 10 = .ok (.aload_n 0, 1) := by decide +kernel
theorem dX3_isInForceWith_11 : decode cX3_isInForceWith 11 = .ok (.getfield 18, 3) := by decide +kernel
theorem dX3_isInForceWith_14 : decode cX3_isInForceWith 14 = .ok (.tableswitch 80 0 3 #[30, 41, 52, 65], 30) := by decide +kernel
theorem dX3_isInForceWith_44 : decode cX3_isInForceWith 44 = .ok (.iload_n 2, 1) := by decide +kernel
theorem dX3_isInForceWith_45 : decode cX3_isInForceWith 45 = .ok (.iload_n 3, 1) := by decide +kernel
theorem dX3_isInForceWith_46 : decode cX3_isInForceWith 46 = .ok (.if_icmp .ge 7, 3) := by decide +kernel
theorem dX3_isInForceWith_49 : decode cX3_isInForceWith 49 = .ok (.iconst 1, 1) := by decide +kernel
theorem dX3_isInForceWith_50 : decode cX3_isInForceWith 50 = .ok (.goto 4, 3) := by decide +kernel
theorem dX3_isInForceWith_53 : decode cX3_isInForceWith 53 = .ok (.iconst 0, 1) := by decide +kernel
theorem dX3_isInForceWith_54 : decode cX3_isInForceWith 54 = .ok (.ireturn, 1) := by decide +kernel
theorem dX3_isInForceWith_55 : decode cX3_isInForceWith 55 = .ok (.iload_n 2, 1) := by decide +kernel
theorem dX3_isInForceWith_56 : decode cX3_isInForceWith 56 = .ok (.iconst 1, 1) := by decide +kernel
theorem dX3_isInForceWith_57 : decode cX3_isInForceWith 57 = .ok (.if_icmp .ge 7, 3) := by decide +kernel
theorem dX3_isInForceWith_60 : decode cX3_isInForceWith 60 = .ok (.iconst 1, 1) := by decide +kernel
theorem dX3_isInForceWith_61 : decode cX3_isInForceWith 61 = .ok (.goto 4, 3) := by decide +kernel
theorem dX3_isInForceWith_64 : decode cX3_isInForceWith 64 = .ok (.iconst 0, 1) := by decide +kernel
theorem dX3_isInForceWith_65 : decode cX3_isInForceWith 65 = .ok (.ireturn, 1) := by decide +kernel
theorem dX3_isInForceWith_66 : decode cX3_isInForceWith 66 = .ok (.iconst 2, 1) := by decide +kernel
theorem dX3_isInForceWith_67 : decode cX3_isInForceWith 67 = .ok (.iload_n 2, 1) := by decide +kernel
theorem dX3_isInForceWith_68 : decode cX3_isInForceWith 68 = .ok (.imul, 1) := by decide +kernel
theorem dX3_isInForceWith_69 : decode cX3_isInForceWith 69 = .ok (.iload_n 3, 1) := by decide +kernel
theorem dX3_isInForceWith_70 : decode cX3_isInForceWith 70 = .ok (.if_icmp .gt 7, 3) := by decide +kernel
theorem dX3_isInForceWith_73 : decode cX3_isInForceWith 73 = .ok (.iconst 1, 1) := by decide +kernel
theorem dX3_isInForceWith_74 : decode cX3_isInForceWith 74 = .ok (.goto 4, 3) := by decide +kernel
theorem dX3_isInForceWith_77 : decode cX3_isInForceWith 77 = .ok (.iconst 0, 1) := by decide +kernel
theorem dX3_isInForceWith_78 : decode cX3_isInForceWith 78 = .ok (.ireturn, 1) := by decide +kernel
theorem dX3_isInForceWith_79 : decode cX3_isInForceWith 79 = .ok (.iload_n 2, 1) := by decide +kernel
theorem dX3_isInForceWith_80 : decode cX3_isInForceWith 80 = .ok (.iconst 2, 1) := by decide +kernel
theorem dX3_isInForceWith_81 : decode cX3_isInForceWith 81 = .ok (.iload_n 3, 1) := by decide +kernel
theorem dX3_isInForceWith_82 : decode cX3_isInForceWith 82 = .ok (.invokestatic 132, 3) := by decide +kernel
theorem dX3_isInForceWith_85 : decode cX3_isInForceWith 85 = .ok (.if_icmp .ge 7, 3) := by decide +kernel
theorem dX3_isInForceWith_88 : decode cX3_isInForceWith 88 = .ok (.iconst 1, 1) := by decide +kernel
theorem dX3_isInForceWith_89 : decode cX3_isInForceWith 89 = .ok (.goto 4, 3) := by decide +kernel
theorem dX3_isInForceWith_92 : decode cX3_isInForceWith 92 = .ok (.iconst 0, 1) := by decide +kernel
theorem dX3_isInForceWith_93 : decode cX3_isInForceWith 93 = .ok (.ireturn, 1) := by decide +kernel
theorem dX3_isInForceWith_94 : decode cX3_isInForceWith 94 = .ok (.iconst 1, 1) := by decide +kernel
theorem dX3_isInForceWith_95 : decode cX3_isInForceWith 95 = .ok (.ireturn, 1) := by decide +kernel
theorem dX3_weightOf_0 : decode cX3_weightOf 0 = .ok (.aload_n 0, 1) := by decide +kernel
theorem dX3_weightOf_1 : decode cX3_weightOf 1 = .ok (.getfield 43, 3) := by decide +kernel
theorem dX3_weightOf_4 : decode cX3_weightOf 4 = .ok (.iload_n 2, 1) := by decide +kernel
theorem dX3_weightOf_5 : decode cX3_weightOf 5 = .ok (.iaload, 1) := by decide +kernel
theorem dX3_weightOf_6 : decode cX3_weightOf 6 = .ok (.iload_n 1, 1) := by decide +kernel
theorem dX3_weightOf_7 : decode cX3_weightOf 7 = .ok (.ishr, 1) := by decide +kernel
theorem dX3_weightOf_8 : decode cX3_weightOf 8 = .ok (.iconst 1, 1) := by decide +kernel
theorem dX3_weightOf_9 : decode cX3_weightOf 9 = .ok (.iand, 1) := by decide +kernel
theorem dX3_weightOf_10 : decode cX3_weightOf 10 = .ok (.ifCond .eq 19, 3) := by decide +kernel
theorem dX3_weightOf_13 : decode cX3_weightOf 13 = .ok (.iload_n 3, 1) := by decide +kernel
theorem dX3_weightOf_14 : decode cX3_weightOf 14 = .ok (.aload_n 0, 1) := by decide +kernel
theorem dX3_weightOf_15 : decode cX3_weightOf 15 = .ok (.getfield 49, 3) := by decide +kernel
theorem dX3_weightOf_18 : decode cX3_weightOf 18 = .ok (.iload_n 2, 1) := by decide +kernel
theorem dX3_weightOf_19 : decode cX3_weightOf 19 = .ok (.iaload, 1) := by decide +kernel
theorem dX3_weightOf_20 : decode cX3_weightOf 20 = .ok (.if_icmp .ne 7, 3) := by decide +kernel
theorem dX3_weightOf_23 : decode cX3_weightOf 23 = .ok (.lconst 1, 1) := by decide +kernel
theorem dX3_weightOf_24 : decode cX3_weightOf 24 = .ok (.goto 4, 3) := by decide +kernel
theorem dX3_weightOf_27 : decode cX3_weightOf 27 = .ok (.lconst 0, 1) := by decide +kernel
theorem dX3_weightOf_28 : decode cX3_weightOf 28 = .ok (.lreturn, 1) := by decide +kernel
theorem dX3_weightOf_29 : decode cX3_weightOf 29 = .ok (.aload_n 0, 1) := by decide +kernel
theorem dX3_weightOf_30 : decode cX3_weightOf 30 = .ok (.getfield 64, 3) := by decide +kernel
theorem dX3_weightOf_33 : decode cX3_weightOf 33 = .ok (.iload_n 2, 1) := by decide +kernel
theorem dX3_weightOf_34 : decode cX3_weightOf 34 = .ok (.bipush 6, 2) := by decide +kernel
theorem dX3_weightOf_36 : decode cX3_weightOf 36 = .ok (.imul, 1) := by decide +kernel
theorem dX3_weightOf_37 : decode cX3_weightOf 37 = .ok (.iload_n 1, 1) := by decide +kernel
theorem dX3_weightOf_38 : decode cX3_weightOf 38 = .ok (.iadd, 1) := by decide +kernel
theorem dX3_weightOf_39 : decode cX3_weightOf 39 = .ok (.iconst 3, 1) := by decide +kernel
theorem dX3_weightOf_40 : decode cX3_weightOf 40 = .ok (.imul, 1) := by decide +kernel
theorem dX3_weightOf_41 : decode cX3_weightOf 41 = .ok (.iload_n 3, 1) := by decide +kernel
theorem dX3_weightOf_42 : decode cX3_weightOf 42 = .ok (.iadd, 1) := by decide +kernel
theorem dX3_weightOf_43 : decode cX3_weightOf 43 = .ok (.laload, 1) := by decide +kernel
theorem dX3_weightOf_44 : decode cX3_weightOf 44 = .ok (.lreturn, 1) := by decide +kernel
set_option maxRecDepth 20000 in
theorem ggX3_thinkAbove_X3_weightOf : GoodIn wsX3_thinkAbove wsX3_weightOf := goodIn_r _ [6, 7, 8, 9, 10, 11, 12, 13, 14, 15, 16, 17, 18, 19, 20, 21, 22, 23, 24, 25, 26, 27] (by decide +kernel) (by decide +kernel)
set_option maxRecDepth 20000 in
theorem gX3_thinkAbove_X3_weightOf : GoodIn wsX3_thinkAbove (wsV RX3 138 RX3 yX3_weightOf wsX3_weightOf) := goodIn_app (goodIn_of _ (by decide +kernel)) ggX3_thinkAbove_X3_weightOf
theorem dX3_thinkAbove_0 : decode cX3_thinkAbove 0 = .ok (.lconst 0, 1) := by decide +kernel
theorem dX3_thinkAbove_1 : decode cX3_thinkAbove 1 = .ok (.lstore_n 3, 1) := by decide +kernel
theorem dX3_thinkAbove_2 : decode cX3_thinkAbove 2 = .ok (.iconst 0, 1) := by decide +kernel
theorem dX3_thinkAbove_3 : decode cX3_thinkAbove 3 = .ok (.istore 5, 2) := by decide +kernel
theorem dX3_thinkAbove_5 : decode cX3_thinkAbove 5 = .ok (.iload 5, 2) := by decide +kernel
theorem dX3_thinkAbove_7 : decode cX3_thinkAbove 7 = .ok (.iconst 3, 1) := by decide +kernel
theorem dX3_thinkAbove_8 : decode cX3_thinkAbove 8 = .ok (.if_icmp .ge 33, 3) := by decide +kernel
theorem dX3_thinkAbove_11 : decode cX3_thinkAbove 11 = .ok (.lload_n 3, 1) := by decide +kernel
theorem dX3_thinkAbove_12 : decode cX3_thinkAbove 12 = .ok (.aload_n 0, 1) := by decide +kernel
theorem dX3_thinkAbove_13 : decode cX3_thinkAbove 13 = .ok (.iload_n 1, 1) := by decide +kernel
theorem dX3_thinkAbove_14 : decode cX3_thinkAbove 14 = .ok (.iload_n 2, 1) := by decide +kernel
theorem dX3_thinkAbove_15 : decode cX3_thinkAbove 15 = .ok (.iload 5, 2) := by decide +kernel
theorem dX3_thinkAbove_17 : decode cX3_thinkAbove 17 = .ok (.invokevirtual 138, 3) := by decide +kernel
theorem dX3_thinkAbove_20 : decode cX3_thinkAbove 20 = .ok (.aload_n 0, 1) := by decide +kernel
theorem dX3_thinkAbove_21 : decode cX3_thinkAbove 21 = .ok (.getfield 58, 3) := by decide +kernel
theorem dX3_thinkAbove_24 : decode cX3_thinkAbove 24 = .ok (.iload_n 2, 1) := by decide +kernel
theorem dX3_thinkAbove_25 : decode cX3_thinkAbove 25 = .ok (.iconst 3, 1) := by decide +kernel
theorem dX3_thinkAbove_26 : decode cX3_thinkAbove 26 = .ok (.imul, 1) := by decide +kernel
theorem dX3_thinkAbove_27 : decode cX3_thinkAbove 27 = .ok (.iload 5, 2) := by decide +kernel
theorem dX3_thinkAbove_29 : decode cX3_thinkAbove 29 = .ok (.iadd, 1) := by decide +kernel
theorem dX3_thinkAbove_30 : decode cX3_thinkAbove 30 = .ok (.iaload, 1) := by decide +kernel
theorem dX3_thinkAbove_31 : decode cX3_thinkAbove 31 = .ok (.i2l, 1) := by decide +kernel
theorem dX3_thinkAbove_32 : decode cX3_thinkAbove 32 = .ok (.lmul, 1) := by decide +kernel
theorem dX3_thinkAbove_33 : decode cX3_thinkAbove 33 = .ok (.ladd, 1) := by decide +kernel
theorem dX3_thinkAbove_34 : decode cX3_thinkAbove 34 = .ok (.lstore_n 3, 1) := by decide +kernel
theorem dX3_thinkAbove_35 : decode cX3_thinkAbove 35 = .ok (.iinc 5 1, 3) := by decide +kernel
theorem dX3_thinkAbove_38 : decode cX3_thinkAbove 38 = .ok (.goto (-33), 3) := by decide +kernel
theorem dX3_thinkAbove_41 : decode cX3_thinkAbove 41 = .ok (.lload_n 3, 1) := by decide +kernel
theorem dX3_thinkAbove_42 : decode cX3_thinkAbove 42 = .ok (.lreturn, 1) := by decide +kernel
set_option maxRecDepth 20000 in
theorem ggX3_thinkBelow_X3_weightOf : GoodIn wsX3_thinkBelow wsX3_weightOf := goodIn_r _ [5, 6, 7, 8, 9, 10, 11, 12, 13, 14, 15, 16, 17, 18, 19, 20, 21, 22, 23, 24, 25, 26] (by decide +kernel) (by decide +kernel)
set_option maxRecDepth 20000 in
theorem gX3_thinkBelow_X3_weightOf : GoodIn wsX3_thinkBelow (wsV RX3 138 RX3 yX3_weightOf wsX3_weightOf) := goodIn_app (goodIn_of _ (by decide +kernel)) ggX3_thinkBelow_X3_weightOf
theorem dX3_thinkBelow_0 : decode cX3_thinkBelow 0 = .ok (.lconst 0, 1) := by decide +kernel
theorem dX3_thinkBelow_1 : decode cX3_thinkBelow 1 = .ok (.lstore_n 3, 1) := by decide +kernel
theorem dX3_thinkBelow_2 : decode cX3_thinkBelow 2 = .ok (.iconst 0, 1) := by decide +kernel
theorem dX3_thinkBelow_3 : decode cX3_thinkBelow 3 = .ok (.istore 5, 2) := by decide +kernel
theorem dX3_thinkBelow_5 : decode cX3_thinkBelow 5 = .ok (.iload 5, 2) := by decide +kernel
theorem dX3_thinkBelow_7 : decode cX3_thinkBelow 7 = .ok (.iconst 3, 1) := by decide +kernel
theorem dX3_thinkBelow_8 : decode cX3_thinkBelow 8 = .ok (.if_icmp .ge 20, 3) := by decide +kernel
theorem dX3_thinkBelow_11 : decode cX3_thinkBelow 11 = .ok (.lload_n 3, 1) := by decide +kernel
theorem dX3_thinkBelow_12 : decode cX3_thinkBelow 12 = .ok (.aload_n 0, 1) := by decide +kernel
theorem dX3_thinkBelow_13 : decode cX3_thinkBelow 13 = .ok (.iload_n 1, 1) := by decide +kernel
theorem dX3_thinkBelow_14 : decode cX3_thinkBelow 14 = .ok (.iload_n 2, 1) := by decide +kernel
theorem dX3_thinkBelow_15 : decode cX3_thinkBelow 15 = .ok (.iload 5, 2) := by decide +kernel
theorem dX3_thinkBelow_17 : decode cX3_thinkBelow 17 = .ok (.invokevirtual 138, 3) := by decide +kernel
theorem dX3_thinkBelow_20 : decode cX3_thinkBelow 20 = .ok (.ladd, 1) := by decide +kernel
theorem dX3_thinkBelow_21 : decode cX3_thinkBelow 21 = .ok (.lstore_n 3, 1) := by decide +kernel
theorem dX3_thinkBelow_22 : decode cX3_thinkBelow 22 = .ok (.iinc 5 1, 3) := by decide +kernel
theorem dX3_thinkBelow_25 : decode cX3_thinkBelow 25 = .ok (.goto (-20), 3) := by decide +kernel
theorem dX3_thinkBelow_28 : decode cX3_thinkBelow 28 = .ok (.lload_n 3, 1) := by decide +kernel
theorem dX3_thinkBelow_29 : decode cX3_thinkBelow 29 = .ok (.lreturn, 1) := by decide +kernel
set_option maxRecDepth 20000 in
theorem ggX3_clerkSays_X3_trustIn : GoodIn wsX3_clerkSays wsX3_trustIn := goodIn_r _ [7, 8, 17, 18, 19, 20, 21, 22, 23, 24, 25, 26, 27, 28, 29, 30, 31, 32, 33, 34] (by decide +kernel) (by decide +kernel)
set_option maxRecDepth 20000 in
theorem gX3_clerkSays_X3_trustIn : GoodIn wsX3_clerkSays (wsV RX3 142 RX3 yX3_trustIn wsX3_trustIn) := goodIn_app (goodIn_of _ (by decide +kernel)) ggX3_clerkSays_X3_trustIn
set_option maxRecDepth 20000 in
theorem ggX3_clerkSays_X3_lessenWeights : GoodIn wsX3_clerkSays wsX3_lessenWeights := goodIn_r _ [12, 1, 13, 14, 15, 16, 17, 18, 19, 20, 21, 22, 23, 24, 25, 26, 27, 28, 29, 30, 31, 32, 33, 34] (by decide +kernel) (by decide +kernel)
set_option maxRecDepth 20000 in
theorem gX3_clerkSays_X3_lessenWeights : GoodIn wsX3_clerkSays (wsV RX3 103 RX3 yX3_lessenWeights wsX3_lessenWeights) := goodIn_app (goodIn_of _ (by decide +kernel)) ggX3_clerkSays_X3_lessenWeights
theorem dX3_clerkSays_0 : decode cX3_clerkSays 0 = .ok (.iload_n 2, 1) := by decide +kernel
theorem dX3_clerkSays_1 : decode cX3_clerkSays 1 = .ok (.bipush 6, 2) := by decide +kernel
theorem dX3_clerkSays_3 : decode cX3_clerkSays 3 = .ok (.imul, 1) := by decide +kernel
theorem dX3_clerkSays_4 : decode cX3_clerkSays 4 = .ok (.iload_n 1, 1) := by decide +kernel
theorem dX3_clerkSays_5 : decode cX3_clerkSays 5 = .ok (.iadd, 1) := by decide +kernel
theorem dX3_clerkSays_6 : decode cX3_clerkSays 6 = .ok (.iconst 3, 1) := by decide +kernel
theorem dX3_clerkSays_7 : decode cX3_clerkSays 7 = .ok (.imul, 1) := by decide +kernel
theorem dX3_clerkSays_8 : decode cX3_clerkSays 8 = .ok (.istore 4, 2) := by decide +kernel
theorem dX3_clerkSays_10 : decode cX3_clerkSays 10 = .ok (.iconst 1, 1) := by decide +kernel
theorem dX3_clerkSays_11 : decode cX3_clerkSays 11 = .ok (.istore 5, 2) := by decide +kernel
theorem dX3_clerkSays_13 : decode cX3_clerkSays 13 = .ok (.iconst 0, 1) := by decide +kernel
theorem dX3_clerkSays_14 : decode cX3_clerkSays 14 = .ok (.istore 6, 2) := by decide +kernel
theorem dX3_clerkSays_16 : decode cX3_clerkSays 16 = .ok (.iload 6, 2) := by decide +kernel
theorem dX3_clerkSays_18 : decode cX3_clerkSays 18 = .ok (.iconst 3, 1) := by decide +kernel
theorem dX3_clerkSays_19 : decode cX3_clerkSays 19 = .ok (.if_icmp .ge 44, 3) := by decide +kernel
theorem dX3_clerkSays_22 : decode cX3_clerkSays 22 = .ok (.iload 5, 2) := by decide +kernel
theorem dX3_clerkSays_24 : decode cX3_clerkSays 24 = .ok (.ifCond .eq 30, 3) := by decide +kernel
theorem dX3_clerkSays_27 : decode cX3_clerkSays 27 = .ok (.aload_n 0, 1) := by decide +kernel
theorem dX3_clerkSays_28 : decode cX3_clerkSays 28 = .ok (.getfield 64, 3) := by decide +kernel
theorem dX3_clerkSays_31 : decode cX3_clerkSays 31 = .ok (.iload 4, 2) := by decide +kernel
theorem dX3_clerkSays_33 : decode cX3_clerkSays 33 = .ok (.iload 6, 2) := by decide +kernel
theorem dX3_clerkSays_35 : decode cX3_clerkSays 35 = .ok (.iadd, 1) := by decide +kernel
theorem dX3_clerkSays_36 : decode cX3_clerkSays 36 = .ok (.laload, 1) := by decide +kernel
theorem dX3_clerkSays_37 : decode cX3_clerkSays 37 = .ok (.aload_n 0, 1) := by decide +kernel
theorem dX3_clerkSays_38 : decode cX3_clerkSays 38 = .ok (.iload 6, 2) := by decide +kernel
theorem dX3_clerkSays_40 : decode cX3_clerkSays 40 = .ok (.iload_n 3, 1) := by decide +kernel
theorem dX3_clerkSays_41 : decode cX3_clerkSays 41 = .ok (.invokevirtual 142, 3) := by decide +kernel
theorem dX3_clerkSays_44 : decode cX3_clerkSays 44 = .ok (.lmul, 1) := by decide +kernel
theorem dX3_clerkSays_45 : decode cX3_clerkSays 45 = .ok (.lconst 0, 1) := by decide +kernel
theorem dX3_clerkSays_46 : decode cX3_clerkSays 46 = .ok (.lcmp, 1) := by decide +kernel
theorem dX3_clerkSays_47 : decode cX3_clerkSays 47 = .ok (.ifCond .ne 7, 3) := by decide +kernel
theorem dX3_clerkSays_50 : decode cX3_clerkSays 50 = .ok (.iconst 1, 1) := by decide +kernel
theorem dX3_clerkSays_51 : decode cX3_clerkSays 51 = .ok (.goto 4, 3) := by decide +kernel
theorem dX3_clerkSays_54 : decode cX3_clerkSays 54 = .ok (.iconst 0, 1) := by decide +kernel
theorem dX3_clerkSays_55 : decode cX3_clerkSays 55 = .ok (.istore 5, 2) := by decide +kernel
theorem dX3_clerkSays_57 : decode cX3_clerkSays 57 = .ok (.iinc 6 1, 3) := by decide +kernel
theorem dX3_clerkSays_60 : decode cX3_clerkSays 60 = .ok (.goto (-44), 3) := by decide +kernel
theorem dX3_clerkSays_63 : decode cX3_clerkSays 63 = .ok (.iload 5, 2) := by decide +kernel
theorem dX3_clerkSays_65 : decode cX3_clerkSays 65 = .ok (.ifCond .ne 44, 3) := by decide +kernel
theorem dX3_clerkSays_68 : decode cX3_clerkSays 68 = .ok (.iconst 0, 1) := by decide +kernel
theorem dX3_clerkSays_69 : decode cX3_clerkSays 69 = .ok (.istore 6, 2) := by decide +kernel
theorem dX3_clerkSays_71 : decode cX3_clerkSays 71 = .ok (.iload 6, 2) := by decide +kernel
theorem dX3_clerkSays_73 : decode cX3_clerkSays 73 = .ok (.iconst 3, 1) := by decide +kernel
theorem dX3_clerkSays_74 : decode cX3_clerkSays 74 = .ok (.if_icmp .ge 29, 3) := by decide +kernel
theorem dX3_clerkSays_77 : decode cX3_clerkSays 77 = .ok (.aload_n 0, 1) := by decide +kernel
theorem dX3_clerkSays_78 : decode cX3_clerkSays 78 = .ok (.getfield 64, 3) := by decide +kernel
theorem dX3_clerkSays_81 : decode cX3_clerkSays 81 = .ok (.iload 4, 2) := by decide +kernel
theorem dX3_clerkSays_83 : decode cX3_clerkSays 83 = .ok (.iload 6, 2) := by decide +kernel
theorem dX3_clerkSays_85 : decode cX3_clerkSays 85 = .ok (.iadd, 1) := by decide +kernel
theorem dX3_clerkSays_86 : decode cX3_clerkSays 86 = .ok (.dup2, 1) := by decide +kernel
theorem dX3_clerkSays_87 : decode cX3_clerkSays 87 = .ok (.laload, 1) := by decide +kernel
theorem dX3_clerkSays_88 : decode cX3_clerkSays 88 = .ok (.aload_n 0, 1) := by decide +kernel
theorem dX3_clerkSays_89 : decode cX3_clerkSays 89 = .ok (.iload 6, 2) := by decide +kernel
theorem dX3_clerkSays_91 : decode cX3_clerkSays 91 = .ok (.iload_n 3, 1) := by decide +kernel
theorem dX3_clerkSays_92 : decode cX3_clerkSays 92 = .ok (.invokevirtual 142, 3) := by decide +kernel
theorem dX3_clerkSays_95 : decode cX3_clerkSays 95 = .ok (.lmul, 1) := by decide +kernel
theorem dX3_clerkSays_96 : decode cX3_clerkSays 96 = .ok (.lastore, 1) := by decide +kernel
theorem dX3_clerkSays_97 : decode cX3_clerkSays 97 = .ok (.iinc 6 1, 3) := by decide +kernel
theorem dX3_clerkSays_100 : decode cX3_clerkSays 100 = .ok (.goto (-29), 3) := by decide +kernel
theorem dX3_clerkSays_103 : decode cX3_clerkSays 103 = .ok (.aload_n 0, 1) := by decide +kernel
theorem dX3_clerkSays_104 : decode cX3_clerkSays 104 = .ok (.iload 4, 2) := by decide +kernel
theorem dX3_clerkSays_106 : decode cX3_clerkSays 106 = .ok (.invokevirtual 103, 3) := by decide +kernel
theorem dX3_clerkSays_109 : decode cX3_clerkSays 109 = .ok (.aload_n 0, 1) := by decide +kernel
theorem dX3_clerkSays_110 : decode cX3_clerkSays 110 = .ok (.getfield 61, 3) := by decide +kernel
theorem dX3_clerkSays_113 : decode cX3_clerkSays 113 = .ok (.iload_n 2, 1) := by decide +kernel
theorem dX3_clerkSays_114 : decode cX3_clerkSays 114 = .ok (.bipush 6, 2) := by decide +kernel
theorem dX3_clerkSays_116 : decode cX3_clerkSays 116 = .ok (.imul, 1) := by decide +kernel
theorem dX3_clerkSays_117 : decode cX3_clerkSays 117 = .ok (.iload_n 1, 1) := by decide +kernel
theorem dX3_clerkSays_118 : decode cX3_clerkSays 118 = .ok (.iadd, 1) := by decide +kernel
theorem dX3_clerkSays_119 : decode cX3_clerkSays 119 = .ok (.dup2, 1) := by decide +kernel
theorem dX3_clerkSays_120 : decode cX3_clerkSays 120 = .ok (.iaload, 1) := by decide +kernel
theorem dX3_clerkSays_121 : decode cX3_clerkSays 121 = .ok (.iconst 1, 1) := by decide +kernel
theorem dX3_clerkSays_122 : decode cX3_clerkSays 122 = .ok (.iadd, 1) := by decide +kernel
theorem dX3_clerkSays_123 : decode cX3_clerkSays 123 = .ok (.iastore, 1) := by decide +kernel
theorem dX3_clerkSays_124 : decode cX3_clerkSays 124 = .ok (.aload_n 0, 1) := by decide +kernel
theorem dX3_clerkSays_125 : decode cX3_clerkSays 125 = .ok (.getfield 61, 3) := by decide +kernel
theorem dX3_clerkSays_128 : decode cX3_clerkSays 128 = .ok (.iload_n 2, 1) := by decide +kernel
theorem dX3_clerkSays_129 : decode cX3_clerkSays 129 = .ok (.bipush 6, 2) := by decide +kernel
theorem dX3_clerkSays_131 : decode cX3_clerkSays 131 = .ok (.imul, 1) := by decide +kernel
theorem dX3_clerkSays_132 : decode cX3_clerkSays 132 = .ok (.iload_n 1, 1) := by decide +kernel
theorem dX3_clerkSays_133 : decode cX3_clerkSays 133 = .ok (.iadd, 1) := by decide +kernel
theorem dX3_clerkSays_134 : decode cX3_clerkSays 134 = .ok (.iaload, 1) := by decide +kernel
theorem dX3_clerkSays_135 : decode cX3_clerkSays 135 = .ok (.ireturn, 1) := by decide +kernel
theorem dX3_trustIn_0 : decode cX3_trustIn 0 = .ok (.iload_n 1, 1) := by decide +kernel
theorem dX3_trustIn_1 : decode cX3_trustIn 1 = .ok (.iload_n 2, 1) := by decide +kernel
theorem dX3_trustIn_2 : decode cX3_trustIn 2 = .ok (.if_icmp .ne 13, 3) := by decide +kernel
theorem dX3_trustIn_5 : decode cX3_trustIn 5 = .ok (.iconst 2, 1) := by decide +kernel
theorem dX3_trustIn_6 : decode cX3_trustIn 6 = .ok (.aload_n 0, 1) := by decide +kernel
theorem dX3_trustIn_7 : decode cX3_trustIn 7 = .ok (.getfield 21, 3) := by decide +kernel
theorem dX3_trustIn_10 : decode cX3_trustIn 10 = .ok (.imul, 1) := by decide +kernel
theorem dX3_trustIn_11 : decode cX3_trustIn 11 = .ok (.i2l, 1) := by decide +kernel
theorem dX3_trustIn_12 : decode cX3_trustIn 12 = .ok (.goto 11, 3) := by decide +kernel
theorem dX3_trustIn_15 : decode cX3_trustIn 15 = .ok (.bipush 100, 2) := by decide +kernel
theorem dX3_trustIn_17 : decode cX3_trustIn 17 = .ok (.aload_n 0, 1) := by decide +kernel
theorem dX3_trustIn_18 : decode cX3_trustIn 18 = .ok (.getfield 21, 3) := by decide +kernel
theorem dX3_trustIn_21 : decode cX3_trustIn 21 = .ok (.isub, 1) := by decide +kernel
theorem dX3_trustIn_22 : decode cX3_trustIn 22 = .ok (.i2l, 1) := by decide +kernel
theorem dX3_trustIn_23 : decode cX3_trustIn 23 = .ok (.lreturn, 1) := by decide +kernel
set_option maxRecDepth 20000 in
theorem ggX3_lessenWeights_X2_commonOf : GoodIn wsX3_lessenWeights wsX2_commonOf := goodIn_r _ [5] (by decide +kernel) (by decide +kernel)
set_option maxRecDepth 20000 in
theorem gX3_lessenWeights_X2_commonOf : GoodIn wsX3_lessenWeights (va_wsS RX3 146 yX2_commonOf wsX2_commonOf) := goodIn_app (goodIn_of _ (by decide +kernel)) ggX3_lessenWeights_X2_commonOf
theorem dX3_lessenWeights_0 : decode cX3_lessenWeights 0 = .ok (.lconst 0, 1) := by decide +kernel
theorem dX3_lessenWeights_1 : decode cX3_lessenWeights 1 = .ok (.lstore_n 2, 1) := by decide +kernel
theorem dX3_lessenWeights_2 : decode cX3_lessenWeights 2 = .ok (.iconst 0, 1) := by decide +kernel
theorem dX3_lessenWeights_3 : decode cX3_lessenWeights 3 = .ok (.istore 4, 2) := by decide +kernel
theorem dX3_lessenWeights_5 : decode cX3_lessenWeights 5 = .ok (.iload 4, 2) := by decide +kernel
theorem dX3_lessenWeights_7 : decode cX3_lessenWeights 7 = .ok (.iconst 3, 1) := by decide +kernel
theorem dX3_lessenWeights_8 : decode cX3_lessenWeights 8 = .ok (.if_icmp .ge 23, 3) := by decide +kernel
theorem dX3_lessenWeights_11 : decode cX3_lessenWeights 11 = .ok (.lload_n 2, 1) := by decide +kernel
theorem dX3_lessenWeights_12 : decode cX3_lessenWeights 12 = .ok (.aload_n 0, 1) := by decide +kernel
theorem dX3_lessenWeights_13 : decode cX3_lessenWeights 13 = .ok (.getfield 64, 3) := by decide +kernel
theorem dX3_lessenWeights_16 : decode cX3_lessenWeights 16 = .ok (.iload_n 1, 1) := by decide +kernel
theorem dX3_lessenWeights_17 : decode cX3_lessenWeights 17 = .ok (.iload 4, 2) := by decide +kernel
theorem dX3_lessenWeights_19 : decode cX3_lessenWeights 19 = .ok (.iadd, 1) := by decide +kernel
theorem dX3_lessenWeights_20 : decode cX3_lessenWeights 20 = .ok (.laload, 1) := by decide +kernel
theorem dX3_lessenWeights_21 : decode cX3_lessenWeights 21 = .ok (.invokestatic 146, 3) := by decide +kernel
theorem dX3_lessenWeights_24 : decode cX3_lessenWeights 24 = .ok (.lstore_n 2, 1) := by decide +kernel
theorem dX3_lessenWeights_25 : decode cX3_lessenWeights 25 = .ok (.iinc 4 1, 3) := by decide +kernel
theorem dX3_lessenWeights_28 : decode cX3_lessenWeights 28 = .ok (.goto (-23), 3) := by decide +kernel
theorem dX3_lessenWeights_31 : decode cX3_lessenWeights 31 = .ok (.lload_n 2, 1) := by decide +kernel
theorem dX3_lessenWeights_32 : decode cX3_lessenWeights 32 = .ok (.lconst 1, 1) := by decide +kernel
theorem dX3_lessenWeights_33 : decode cX3_lessenWeights 33 = .ok (.lcmp, 1) := by decide +kernel
theorem dX3_lessenWeights_34 : decode cX3_lessenWeights 34 = .ok (.ifCond .le 31, 3) := by decide +kernel
theorem dX3_lessenWeights_37 : decode cX3_lessenWeights 37 = .ok (.iconst 0, 1) := by decide +kernel
theorem dX3_lessenWeights_38 : decode cX3_lessenWeights 38 = .ok (.istore 4, 2) := by decide +kernel
theorem dX3_lessenWeights_40 : decode cX3_lessenWeights 40 = .ok (.iload 4, 2) := by decide +kernel
theorem dX3_lessenWeights_42 : decode cX3_lessenWeights 42 = .ok (.iconst 3, 1) := by decide +kernel
theorem dX3_lessenWeights_43 : decode cX3_lessenWeights 43 = .ok (.if_icmp .ge 22, 3) := by decide +kernel
theorem dX3_lessenWeights_46 : decode cX3_lessenWeights 46 = .ok (.aload_n 0, 1) := by decide +kernel
theorem dX3_lessenWeights_47 : decode cX3_lessenWeights 47 = .ok (.getfield 64, 3) := by decide +kernel
theorem dX3_lessenWeights_50 : decode cX3_lessenWeights 50 = .ok (.iload_n 1, 1) := by decide +kernel
theorem dX3_lessenWeights_51 : decode cX3_lessenWeights 51 = .ok (.iload 4, 2) := by decide +kernel
theorem dX3_lessenWeights_53 : decode cX3_lessenWeights 53 = .ok (.iadd, 1) := by decide +kernel
theorem dX3_lessenWeights_54 : decode cX3_lessenWeights 54 = .ok (.dup2, 1) := by decide +kernel
theorem dX3_lessenWeights_55 : decode cX3_lessenWeights 55 = .ok (.laload, 1) := by decide +kernel
theorem dX3_lessenWeights_56 : decode cX3_lessenWeights 56 = .ok (.lload_n 2, 1) := by decide +kernel
theorem dX3_lessenWeights_57 : decode cX3_lessenWeights 57 = .ok (.ldiv, 1) := by decide +kernel
theorem dX3_lessenWeights_58 : decode cX3_lessenWeights 58 = .ok (.lastore, 1) := by decide +kernel
theorem dX3_lessenWeights_59 : decode cX3_lessenWeights 59 = .ok (.iinc 4 1, 3) := by decide +kernel
theorem dX3_lessenWeights_62 : decode cX3_lessenWeights 62 = .ok (.goto (-22), 3) := by decide +kernel
theorem dX3_lessenWeights_65 : decode cX3_lessenWeights 65 = .ok (.return_, 1) := by decide +kernel
theorem dX3_markRead_0 : decode cX3_markRead 0 = .ok (.aload_n 0, 1) := by decide +kernel
theorem dX3_markRead_1 : decode cX3_markRead 1 = .ok (.getfield 43, 3) := by decide +kernel
theorem dX3_markRead_4 : decode cX3_markRead 4 = .ok (.iload_n 2, 1) := by decide +kernel
theorem dX3_markRead_5 : decode cX3_markRead 5 = .ok (.dup2, 1) := by decide +kernel
theorem dX3_markRead_6 : decode cX3_markRead 6 = .ok (.iaload, 1) := by decide +kernel
theorem dX3_markRead_7 : decode cX3_markRead 7 = .ok (.iconst 1, 1) := by decide +kernel
theorem dX3_markRead_8 : decode cX3_markRead 8 = .ok (.iload_n 1, 1) := by decide +kernel
theorem dX3_markRead_9 : decode cX3_markRead 9 = .ok (.ishl, 1) := by decide +kernel
theorem dX3_markRead_10 : decode cX3_markRead 10 = .ok (.ior, 1) := by decide +kernel
theorem dX3_markRead_11 : decode cX3_markRead 11 = .ok (.iastore, 1) := by decide +kernel
theorem dX3_markRead_12 : decode cX3_markRead 12 = .ok (.return_, 1) := by decide +kernel
set_option maxRecDepth 20000 in
theorem ggX3_passWeek_X3_passPaper : GoodIn wsX3_passWeek wsX3_passPaper := goodIn_r _ [6, 7, 8, 9, 10, 11, 12, 13, 14, 5, 15, 16, 17, 18, 19, 20, 21, 22, 23, 24, 25, 26, 27, 28, 29, 30, 31, 32, 33, 34, 35, 36, 37, 38, 39, 40, 41, 42, 43, 44, 45, 46, 47, 48, 49, 50, 51, 52, 53, 54, 55, 56, 57, 58, 59, 60, 61, 62, 63, 64, 65, 66, 67, 68, 69, 70, 71, 72, 73, 74, 75, 76, 77, 78, 79, 80, 81, 82, 83, 88, 89, 90, 91, 92, 93, 94, 95, 96, 97, 98, 99, 100, 101, 102, 103, 104, 105] (by decide +kernel) (by decide +kernel)
set_option maxRecDepth 20000 in
theorem gX3_passWeek_X3_passPaper : GoodIn wsX3_passWeek (wsV RX3 152 RX3 yX3_passPaper wsX3_passPaper) := goodIn_app (goodIn_of _ (by decide +kernel)) ggX3_passWeek_X3_passPaper
set_option maxRecDepth 20000 in
theorem ggX3_passWeek_X3_endWeek : GoodIn wsX3_passWeek wsX3_endWeek := goodIn_r _ [87, 51, 88, 89, 90, 91, 92, 93, 94, 95, 96, 97, 98, 99, 100, 101, 102, 103, 104, 105] (by decide +kernel) (by decide +kernel)
set_option maxRecDepth 20000 in
theorem gX3_passWeek_X3_endWeek : GoodIn wsX3_passWeek (wsV RX3 155 RX3 yX3_endWeek wsX3_endWeek) := goodIn_app (goodIn_of _ (by decide +kernel)) ggX3_passWeek_X3_endWeek
theorem dX3_passWeek_0 : decode cX3_passWeek 0 = .ok (.iconst 0, 1) := by decide +kernel
theorem dX3_passWeek_1 : decode cX3_passWeek 1 = .ok (.istore_n 1, 1) := by decide +kernel
theorem dX3_passWeek_2 : decode cX3_passWeek 2 = .ok (.iload_n 1, 1) := by decide +kernel
theorem dX3_passWeek_3 : decode cX3_passWeek 3 = .ok (.aload_n 0, 1) := by decide +kernel
theorem dX3_passWeek_4 : decode cX3_passWeek 4 = .ok (.getfield 15, 3) := by decide +kernel
theorem dX3_passWeek_7 : decode cX3_passWeek 7 = .ok (.if_icmp .ge 16, 3) := by decide +kernel
theorem dX3_passWeek_10 : decode cX3_passWeek 10 = .ok (.aload_n 0, 1) := by decide +kernel
theorem dX3_passWeek_11 : decode cX3_passWeek 11 = .ok (.iload_n 1, 1) := by decide +kernel
theorem dX3_passWeek_12 : decode cX3_passWeek 12 = .ok (.iconst (-1), 1) := by decide +kernel
theorem dX3_passWeek_13 : decode cX3_passWeek 13 = .ok (.invokevirtual 152, 3) := by decide +kernel
theorem dX3_passWeek_16 : decode cX3_passWeek 16 = .ok (.pop, 1) := by decide +kernel
theorem dX3_passWeek_17 : decode cX3_passWeek 17 = .ok (.iinc 1 1, 3) := by decide +kernel
theorem dX3_passWeek_20 : decode cX3_passWeek 20 = .ok (.goto (-18), 3) := by decide +kernel
theorem dX3_passWeek_23 : decode cX3_passWeek 23 = .ok (.aload_n 0, 1) := by decide +kernel
theorem dX3_passWeek_24 : decode cX3_passWeek 24 = .ok (.invokevirtual 155, 3) := by decide +kernel
theorem dX3_passWeek_27 : decode cX3_passWeek 27 = .ok (.return_, 1) := by decide +kernel
theorem dX3_endWeek_0 : decode cX3_endWeek 0 = .ok (.aload_n 0, 1) := by decide +kernel
theorem dX3_endWeek_1 : decode cX3_endWeek 1 = .ok (.dup, 1) := by decide +kernel
theorem dX3_endWeek_2 : decode cX3_endWeek 2 = .ok (.getfield 24, 3) := by decide +kernel
theorem dX3_endWeek_5 : decode cX3_endWeek 5 = .ok (.iconst 1, 1) := by decide +kernel
theorem dX3_endWeek_6 : decode cX3_endWeek 6 = .ok (.iadd, 1) := by decide +kernel
theorem dX3_endWeek_7 : decode cX3_endWeek 7 = .ok (.putfield 24, 3) := by decide +kernel
theorem dX3_endWeek_10 : decode cX3_endWeek 10 = .ok (.return_, 1) := by decide +kernel
set_option maxRecDepth 20000 in
theorem ggX3_passPaper_X3_canRead : GoodIn wsX3_passPaper wsX3_canRead := goodIn_r _ [10, 11, 12, 13, 9, 14, 15, 16, 17, 18, 19, 20, 21, 22, 23, 24, 25, 26, 27, 28, 29, 30, 31, 32, 33, 34, 35, 36, 37, 38, 39, 40, 79, 80, 81, 82, 83, 84, 85, 86, 87, 88, 89, 90, 91, 92, 93, 94, 95, 96] (by decide +kernel) (by decide +kernel)
set_option maxRecDepth 20000 in
theorem gX3_passPaper_X3_canRead : GoodIn wsX3_passPaper (wsV RX3 158 RX3 yX3_canRead wsX3_canRead) := goodIn_app (goodIn_of _ (by decide +kernel)) ggX3_passPaper_X3_canRead
set_option maxRecDepth 20000 in
theorem ggX3_passPaper_X3_takeTurn : GoodIn wsX3_passPaper wsX3_takeTurn := goodIn_r _ [44, 45, 46, 47, 20, 48, 49, 50, 51, 9, 52, 53, 54, 55, 56, 57, 3, 58, 59, 60, 61, 4, 62, 63, 64, 65, 66, 67, 68, 69, 70, 1, 11, 12, 13, 14, 15, 16, 17, 18, 19, 71, 72, 73, 74, 79, 80, 81, 82, 83, 84, 85, 86, 87, 88, 89, 90, 91, 92, 93, 94, 95, 96] (by decide +kernel) (by decide +kernel)
set_option maxRecDepth 20000 in
theorem gX3_passPaper_X3_takeTurn : GoodIn wsX3_passPaper (wsV RX3 161 RX3 yX3_takeTurn wsX3_takeTurn) := goodIn_app (goodIn_of _ (by decide +kernel)) ggX3_passPaper_X3_takeTurn
set_option maxRecDepth 20000 in
theorem ggX3_passPaper_X3_isInForce : GoodIn wsX3_passPaper wsX3_isInForce := goodIn_r _ [24, 20, 25, 26, 27, 28, 29, 30, 31, 32, 33, 34, 9, 35, 19, 36, 37, 38, 39, 40, 79, 80, 81, 82, 83, 84, 85, 86, 87, 88, 89, 90, 91, 92, 93, 94, 95, 96] (by decide +kernel) (by decide +kernel)
set_option maxRecDepth 20000 in
theorem gX3_passPaper_X3_isInForce : GoodIn wsX3_passPaper (wsV RX3 114 RX3 yX3_isInForce wsX3_isInForce) := goodIn_app (goodIn_of _ (by decide +kernel)) ggX3_passPaper_X3_isInForce
set_option maxRecDepth 20000 in
theorem ggX3_passPaper_X3_isBound : GoodIn wsX3_passPaper wsX3_isBound := goodIn_r _ [78, 19, 79, 80, 81, 82, 83, 84, 85, 86, 87, 88, 89, 90, 91, 92, 93, 94, 95, 96] (by decide +kernel) (by decide +kernel)
set_option maxRecDepth 20000 in
theorem gX3_passPaper_X3_isBound : GoodIn wsX3_passPaper (wsV RX3 164 RX3 yX3_isBound wsX3_isBound) := goodIn_app (goodIn_of _ (by decide +kernel)) ggX3_passPaper_X3_isBound
theorem dX3_passPaper_0 : decode cX3_passPaper 0 = .ok (.iconst 0, 1) := by decide +kernel
theorem dX3_passPaper_1 : decode cX3_passPaper 1 = .ok (.istore_n 3, 1) := by decide +kernel
theorem dX3_passPaper_2 : decode cX3_passPaper 2 = .ok (.iload_n 3, 1) := by decide +kernel
theorem dX3_passPaper_3 : decode cX3_passPaper 3 = .ok (.aload_n 0, 1) := by decide +kernel
theorem dX3_passPaper_4 : decode cX3_passPaper 4 = .ok (.getfield 9, 3) := by decide +kernel
theorem dX3_passPaper_7 : decode cX3_passPaper 7 = .ok (.if_icmp .ge 29, 3) := by decide +kernel
theorem dX3_passPaper_10 : decode cX3_passPaper 10 = .ok (.iload_n 3, 1) := by decide +kernel
theorem dX3_passPaper_11 : decode cX3_passPaper 11 = .ok (.iload_n 2, 1) := by decide +kernel
theorem dX3_passPaper_12 : decode cX3_passPaper 12 = .ok (.if_icmp .eq 18, 3) := by decide +kernel
theorem dX3_passPaper_15 : decode cX3_passPaper 15 = .ok (.aload_n 0, 1) := by decide +kernel
theorem dX3_passPaper_16 : decode cX3_passPaper 16 = .ok (.iload_n 3, 1) := by decide +kernel
theorem dX3_passPaper_17 : decode cX3_passPaper 17 = .ok (.iload_n 1, 1) := by decide +kernel
theorem dX3_passPaper_18 : decode cX3_passPaper 18 = .ok (.invokevirtual 158, 3) := by decide +kernel
theorem dX3_passPaper_21 : decode cX3_passPaper 21 = .ok (.ifCond .eq 9, 3) := by decide +kernel
theorem dX3_passPaper_24 : decode cX3_passPaper 24 = .ok (.aload_n 0, 1) := by decide +kernel
theorem dX3_passPaper_25 : decode cX3_passPaper 25 = .ok (.iload_n 3, 1) := by decide +kernel
theorem dX3_passPaper_26 : decode cX3_passPaper 26 = .ok (.iload_n 1, 1) := by decide +kernel
theorem dX3_passPaper_27 : decode cX3_passPaper 27 = .ok (.invokevirtual 161, 3) := by decide +kernel
theorem dX3_passPaper_30 : decode cX3_passPaper 30 = .ok (.iinc 3 1, 3) := by decide +kernel
theorem dX3_passPaper_33 : decode cX3_passPaper 33 = .ok (.goto (-31), 3) := by decide +kernel
theorem dX3_passPaper_36 : decode cX3_passPaper 36 = .ok (.aload_n 0, 1) := by decide +kernel
theorem dX3_passPaper_37 : decode cX3_passPaper 37 = .ok (.iload_n 1, 1) := by decide +kernel
theorem dX3_passPaper_38 : decode cX3_passPaper 38 = .ok (.invokevirtual 114, 3) := by decide +kernel
theorem dX3_passPaper_41 : decode cX3_passPaper 41 = .ok (.ifCond .ne 5, 3) := by decide +kernel
theorem dX3_passPaper_44 : decode cX3_passPaper 44 = .ok (.iconst 0, 1) := by decide +kernel
theorem dX3_passPaper_45 : decode cX3_passPaper 45 = .ok (.ireturn, 1) := by decide +kernel
theorem dX3_passPaper_46 : decode cX3_passPaper 46 = .ok (.iconst 0, 1) := by decide +kernel
theorem dX3_passPaper_47 : decode cX3_passPaper 47 = .ok (.istore_n 3, 1) := by decide +kernel
theorem dX3_passPaper_48 : decode cX3_passPaper 48 = .ok (.iload_n 3, 1) := by decide +kernel
theorem dX3_passPaper_49 : decode cX3_passPaper 49 = .ok (.aload_n 0, 1) := by decide +kernel
theorem dX3_passPaper_50 : decode cX3_passPaper 50 = .ok (.getfield 9, 3) := by decide +kernel
theorem dX3_passPaper_53 : decode cX3_passPaper 53 = .ok (.if_icmp .ge 42, 3) := by decide +kernel
theorem dX3_passPaper_56 : decode cX3_passPaper 56 = .ok (.aload_n 0, 1) := by decide +kernel
theorem dX3_passPaper_57 : decode cX3_passPaper 57 = .ok (.iload_n 3, 1) := by decide +kernel
theorem dX3_passPaper_58 : decode cX3_passPaper 58 = .ok (.iload_n 1, 1) := by decide +kernel
theorem dX3_passPaper_59 : decode cX3_passPaper 59 = .ok (.invokevirtual 164, 3) := by decide +kernel
theorem dX3_passPaper_62 : decode cX3_passPaper 62 = .ok (.ifCond .eq 27, 3) := by decide +kernel
theorem dX3_passPaper_65 : decode cX3_passPaper 65 = .ok (.aload_n 0, 1) := by decide +kernel
theorem dX3_passPaper_66 : decode cX3_passPaper 66 = .ok (.getfield 37, 3) := by decide +kernel
theorem dX3_passPaper_69 : decode cX3_passPaper 69 = .ok (.iload_n 3, 1) := by decide +kernel
theorem dX3_passPaper_70 : decode cX3_passPaper 70 = .ok (.dup2, 1) := by decide +kernel
theorem dX3_passPaper_71 : decode cX3_passPaper 71 = .ok (.iaload, 1) := by decide +kernel
theorem dX3_passPaper_72 : decode cX3_passPaper 72 = .ok (.aload_n 0, 1) := by decide +kernel
theorem dX3_passPaper_73 : decode cX3_passPaper 73 = .ok (.getfield 58, 3) := by decide +kernel
theorem dX3_passPaper_76 : decode cX3_passPaper 76 = .ok (.iload_n 1, 1) := by decide +kernel
theorem dX3_passPaper_77 : decode cX3_passPaper 77 = .ok (.iconst 3, 1) := by decide +kernel
theorem dX3_passPaper_78 : decode cX3_passPaper 78 = .ok (.imul, 1) := by decide +kernel
theorem dX3_passPaper_79 : decode cX3_passPaper 79 = .ok (.aload_n 0, 1) := by decide +kernel
theorem dX3_passPaper_80 : decode cX3_passPaper 80 = .ok (.getfield 49, 3) := by decide +kernel
theorem dX3_passPaper_83 : decode cX3_passPaper 83 = .ok (.iload_n 1, 1) := by decide +kernel
theorem dX3_passPaper_84 : decode cX3_passPaper 84 = .ok (.iaload, 1) := by decide +kernel
theorem dX3_passPaper_85 : decode cX3_passPaper 85 = .ok (.iadd, 1) := by decide +kernel
theorem dX3_passPaper_86 : decode cX3_passPaper 86 = .ok (.iaload, 1) := by decide +kernel
theorem dX3_passPaper_87 : decode cX3_passPaper 87 = .ok (.iadd, 1) := by decide +kernel
theorem dX3_passPaper_88 : decode cX3_passPaper 88 = .ok (.iastore, 1) := by decide +kernel
theorem dX3_passPaper_89 : decode cX3_passPaper 89 = .ok (.iinc 3 1, 3) := by decide +kernel
theorem dX3_passPaper_92 : decode cX3_passPaper 92 = .ok (.goto (-44), 3) := by decide +kernel
theorem dX3_passPaper_95 : decode cX3_passPaper 95 = .ok (.aload_n 0, 1) := by decide +kernel
theorem dX3_passPaper_96 : decode cX3_passPaper 96 = .ok (.getfield 52, 3) := by decide +kernel
theorem dX3_passPaper_99 : decode cX3_passPaper 99 = .ok (.iload_n 1, 1) := by decide +kernel
theorem dX3_passPaper_100 : decode cX3_passPaper 100 = .ok (.dup2, 1) := by decide +kernel
theorem dX3_passPaper_101 : decode cX3_passPaper 101 = .ok (.iaload, 1) := by decide +kernel
theorem dX3_passPaper_102 : decode cX3_passPaper 102 = .ok (.iconst 1, 1) := by decide +kernel
theorem dX3_passPaper_103 : decode cX3_passPaper 103 = .ok (.iadd, 1) := by decide +kernel
theorem dX3_passPaper_104 : decode cX3_passPaper 104 = .ok (.iastore, 1) := by decide +kernel
theorem dX3_passPaper_105 : decode cX3_passPaper 105 = .ok (.iconst 1, 1) := by decide +kernel
theorem dX3_passPaper_106 : decode cX3_passPaper 106 = .ok (.ireturn, 1) := by decide +kernel
set_option maxRecDepth 20000 in
theorem ggX3_takeTurn_X3_thinksLess : GoodIn wsX3_takeTurn wsX3_thinksLess := goodIn_r _ [10, 11, 12, 13, 14, 9, 15, 16, 17, 18, 19, 20, 4, 21, 22, 23, 24, 25, 26, 45, 46, 47, 48, 49, 50, 51, 52, 53, 54, 55, 56, 57, 58, 59, 60, 61, 62] (by decide +kernel) (by decide +kernel)
set_option maxRecDepth 20000 in
theorem gX3_takeTurn_X3_thinksLess : GoodIn wsX3_takeTurn (wsV RX3 167 RX3 yX3_thinksLess wsX3_thinksLess) := goodIn_app (goodIn_of _ (by decide +kernel)) ggX3_takeTurn_X3_thinksLess
set_option maxRecDepth 20000 in
theorem ggX3_takeTurn_X3_give : GoodIn wsX3_takeTurn wsX3_give := goodIn_r _ [30, 31, 32, 33, 34, 9, 35, 36, 37, 38, 39, 40, 4, 41, 42, 43, 44, 45, 46, 47, 48, 49, 50, 51, 52, 53, 54, 55, 56, 57, 58, 59, 60, 61, 62] (by decide +kernel) (by decide +kernel)
set_option maxRecDepth 20000 in
theorem gX3_takeTurn_X3_give : GoodIn wsX3_takeTurn (wsV RX3 170 RX3 yX3_give wsX3_give) := goodIn_app (goodIn_of _ (by decide +kernel)) ggX3_takeTurn_X3_give
set_option maxRecDepth 20000 in
theorem ggX3_takeTurn_X3_markRead : GoodIn wsX3_takeTurn wsX3_markRead := goodIn_r _ [44, 4, 45, 46, 47, 48, 49, 50, 51, 52, 53, 54, 55, 56, 57, 58, 59, 60, 61, 62] (by decide +kernel) (by decide +kernel)
set_option maxRecDepth 20000 in
theorem gX3_takeTurn_X3_markRead : GoodIn wsX3_takeTurn (wsV RX3 173 RX3 yX3_markRead wsX3_markRead) := goodIn_app (goodIn_of _ (by decide +kernel)) ggX3_takeTurn_X3_markRead
theorem dX3_takeTurn_0 : decode cX3_takeTurn 0 = .ok (.iconst 0, 1) := by decide +kernel
theorem dX3_takeTurn_1 : decode cX3_takeTurn 1 = .ok (.istore_n 3, 1) := by decide +kernel
theorem dX3_takeTurn_2 : decode cX3_takeTurn 2 = .ok (.aload_n 0, 1) := by decide +kernel
theorem dX3_takeTurn_3 : decode cX3_takeTurn 3 = .ok (.getfield 27, 3) := by decide +kernel
theorem dX3_takeTurn_6 : decode cX3_takeTurn 6 = .ok (.iload_n 1, 1) := by decide +kernel
theorem dX3_takeTurn_7 : decode cX3_takeTurn 7 = .ok (.iaload, 1) := by decide +kernel
theorem dX3_takeTurn_8 : decode cX3_takeTurn 8 = .ok (.tableswitch 128 1 6 #[40, 45, 55, 77, 104, 113], 40) := by decide +kernel
theorem dX3_takeTurn_48 : decode cX3_takeTurn 48 = .ok (.iconst 1, 1) := by decide +kernel
theorem dX3_takeTurn_49 : decode cX3_takeTurn 49 = .ok (.istore_n 3, 1) := by decide +kernel
theorem dX3_takeTurn_50 : decode cX3_takeTurn 50 = .ok (.goto 86, 3) := by decide +kernel
theorem dX3_takeTurn_53 : decode cX3_takeTurn 53 = .ok (.aload_n 0, 1) := by decide +kernel
theorem dX3_takeTurn_54 : decode cX3_takeTurn 54 = .ok (.iload_n 1, 1) := by decide +kernel
theorem dX3_takeTurn_55 : decode cX3_takeTurn 55 = .ok (.iload_n 2, 1) := by decide +kernel
theorem dX3_takeTurn_56 : decode cX3_takeTurn 56 = .ok (.invokevirtual 167, 3) := by decide +kernel
theorem dX3_takeTurn_59 : decode cX3_takeTurn 59 = .ok (.istore_n 3, 1) := by decide +kernel
theorem dX3_takeTurn_60 : decode cX3_takeTurn 60 = .ok (.goto 76, 3) := by decide +kernel
theorem dX3_takeTurn_63 : decode cX3_takeTurn 63 = .ok (.aload_n 0, 1) := by decide +kernel
theorem dX3_takeTurn_64 : decode cX3_takeTurn 64 = .ok (.getfield 24, 3) := by decide +kernel
theorem dX3_takeTurn_67 : decode cX3_takeTurn 67 = .ok (.aload_n 0, 1) := by decide +kernel
theorem dX3_takeTurn_68 : decode cX3_takeTurn 68 = .ok (.getfield 34, 3) := by decide +kernel
theorem dX3_takeTurn_71 : decode cX3_takeTurn 71 = .ok (.iload_n 1, 1) := by decide +kernel
theorem dX3_takeTurn_72 : decode cX3_takeTurn 72 = .ok (.iaload, 1) := by decide +kernel
theorem dX3_takeTurn_73 : decode cX3_takeTurn 73 = .ok (.if_icmp .lt 7, 3) := by decide +kernel
theorem dX3_takeTurn_76 : decode cX3_takeTurn 76 = .ok (.iconst 1, 1) := by decide +kernel
theorem dX3_takeTurn_77 : decode cX3_takeTurn 77 = .ok (.goto 4, 3) := by decide +kernel
theorem dX3_takeTurn_80 : decode cX3_takeTurn 80 = .ok (.iconst 0, 1) := by decide +kernel
theorem dX3_takeTurn_81 : decode cX3_takeTurn 81 = .ok (.istore_n 3, 1) := by decide +kernel
theorem dX3_takeTurn_82 : decode cX3_takeTurn 82 = .ok (.goto 54, 3) := by decide +kernel
theorem dX3_takeTurn_85 : decode cX3_takeTurn 85 = .ok (.aload_n 0, 1) := by decide +kernel
theorem dX3_takeTurn_86 : decode cX3_takeTurn 86 = .ok (.getfield 43, 3) := by decide +kernel
theorem dX3_takeTurn_89 : decode cX3_takeTurn 89 = .ok (.iload_n 2, 1) := by decide +kernel
theorem dX3_takeTurn_90 : decode cX3_takeTurn 90 = .ok (.iaload, 1) := by decide +kernel
theorem dX3_takeTurn_91 : decode cX3_takeTurn 91 = .ok (.ifCond .eq 16, 3) := by decide +kernel
theorem dX3_takeTurn_94 : decode cX3_takeTurn 94 = .ok (.aload_n 0, 1) := by decide +kernel
theorem dX3_takeTurn_95 : decode cX3_takeTurn 95 = .ok (.iload_n 1, 1) := by decide +kernel
theorem dX3_takeTurn_96 : decode cX3_takeTurn 96 = .ok (.iload_n 2, 1) := by decide +kernel
theorem dX3_takeTurn_97 : decode cX3_takeTurn 97 = .ok (.invokevirtual 167, 3) := by decide +kernel
theorem dX3_takeTurn_100 : decode cX3_takeTurn 100 = .ok (.ifCond .eq 7, 3) := by decide +kernel
theorem dX3_takeTurn_103 : decode cX3_takeTurn 103 = .ok (.iconst 1, 1) := by decide +kernel
theorem dX3_takeTurn_104 : decode cX3_takeTurn 104 = .ok (.goto 4, 3) := by decide +kernel
theorem dX3_takeTurn_107 : decode cX3_takeTurn 107 = .ok (.iconst 0, 1) := by decide +kernel
theorem dX3_takeTurn_108 : decode cX3_takeTurn 108 = .ok (.istore_n 3, 1) := by decide +kernel
theorem dX3_takeTurn_109 : decode cX3_takeTurn 109 = .ok (.goto 27, 3) := by decide +kernel
theorem dX3_takeTurn_112 : decode cX3_takeTurn 112 = .ok (.aload_n 0, 1) := by decide +kernel
theorem dX3_takeTurn_113 : decode cX3_takeTurn 113 = .ok (.iload_n 1, 1) := by decide +kernel
theorem dX3_takeTurn_114 : decode cX3_takeTurn 114 = .ok (.iload_n 2, 1) := by decide +kernel
theorem dX3_takeTurn_115 : decode cX3_takeTurn 115 = .ok (.invokevirtual 170, 3) := by decide +kernel
theorem dX3_takeTurn_118 : decode cX3_takeTurn 118 = .ok (.goto 18, 3) := by decide +kernel
theorem dX3_takeTurn_121 : decode cX3_takeTurn 121 = .ok (.aload_n 0, 1) := by decide +kernel
theorem dX3_takeTurn_122 : decode cX3_takeTurn 122 = .ok (.getfield 46, 3) := by decide +kernel
theorem dX3_takeTurn_125 : decode cX3_takeTurn 125 = .ok (.iload_n 2, 1) := by decide +kernel
theorem dX3_takeTurn_126 : decode cX3_takeTurn 126 = .ok (.dup2, 1) := by decide +kernel
theorem dX3_takeTurn_127 : decode cX3_takeTurn 127 = .ok (.iaload, 1) := by decide +kernel
theorem dX3_takeTurn_128 : decode cX3_takeTurn 128 = .ok (.iconst 1, 1) := by decide +kernel
theorem dX3_takeTurn_129 : decode cX3_takeTurn 129 = .ok (.iload_n 1, 1) := by decide +kernel
theorem dX3_takeTurn_130 : decode cX3_takeTurn 130 = .ok (.ishl, 1) := by decide +kernel
theorem dX3_takeTurn_131 : decode cX3_takeTurn 131 = .ok (.ior, 1) := by decide +kernel
theorem dX3_takeTurn_132 : decode cX3_takeTurn 132 = .ok (.iastore, 1) := by decide +kernel
theorem dX3_takeTurn_133 : decode cX3_takeTurn 133 = .ok (.goto 3, 3) := by decide +kernel
theorem dX3_takeTurn_136 : decode cX3_takeTurn 136 = .ok (.iload_n 3, 1) := by decide +kernel
theorem dX3_takeTurn_137 : decode cX3_takeTurn 137 = .ok (.ifCond .eq 9, 3) := by decide +kernel
theorem dX3_takeTurn_140 : decode cX3_takeTurn 140 = .ok (.aload_n 0, 1) := by decide +kernel
theorem dX3_takeTurn_141 : decode cX3_takeTurn 141 = .ok (.iload_n 1, 1) := by decide +kernel
theorem dX3_takeTurn_142 : decode cX3_takeTurn 142 = .ok (.iload_n 2, 1) := by decide +kernel
theorem dX3_takeTurn_143 : decode cX3_takeTurn 143 = .ok (.invokevirtual 173, 3) := by decide +kernel
theorem dX3_takeTurn_146 : decode cX3_takeTurn 146 = .ok (.return_, 1) := by decide +kernel
set_option maxRecDepth 20000 in
theorem ggX3_thinksLess_X3_thinkAbove : GoodIn wsX3_thinksLess wsX3_thinkAbove := goodIn_r _ [6, 7, 8, 9, 10, 5, 11, 12, 13, 14, 19, 20, 21, 22, 23, 24, 25, 26, 27, 28, 29, 30, 31, 32, 33, 34, 35, 36] (by decide +kernel) (by decide +kernel)
set_option maxRecDepth 20000 in
theorem gX3_thinksLess_X3_thinkAbove : GoodIn wsX3_thinksLess (wsV RX3 176 RX3 yX3_thinkAbove wsX3_thinkAbove) := goodIn_app (goodIn_of _ (by decide +kernel)) ggX3_thinksLess_X3_thinkAbove
set_option maxRecDepth 20000 in
theorem ggX3_thinksLess_X3_thinkBelow : GoodIn wsX3_thinksLess wsX3_thinkBelow := goodIn_r _ [18, 8, 9, 10, 5, 11, 12, 13, 14, 19, 20, 21, 22, 23, 24, 25, 26, 27, 28, 29, 30, 31, 32, 33, 34, 35, 36] (by decide +kernel) (by decide +kernel)
set_option maxRecDepth 20000 in
theorem gX3_thinksLess_X3_thinkBelow : GoodIn wsX3_thinksLess (wsV RX3 179 RX3 yX3_thinkBelow wsX3_thinkBelow) := goodIn_app (goodIn_of _ (by decide +kernel)) ggX3_thinksLess_X3_thinkBelow
theorem dX3_thinksLess_0 : decode cX3_thinksLess 0 = .ok (.aload_n 0, 1) := by decide +kernel
theorem dX3_thinksLess_1 : decode cX3_thinksLess 1 = .ok (.iload_n 1, 1) := by decide +kernel
theorem dX3_thinksLess_2 : decode cX3_thinksLess 2 = .ok (.iload_n 2, 1) := by decide +kernel
theorem dX3_thinksLess_3 : decode cX3_thinksLess 3 = .ok (.invokevirtual 176, 3) := by decide +kernel
theorem dX3_thinksLess_6 : decode cX3_thinksLess 6 = .ok (.aload_n 0, 1) := by decide +kernel
theorem dX3_thinksLess_7 : decode cX3_thinksLess 7 = .ok (.getfield 31, 3) := by decide +kernel
theorem dX3_thinksLess_10 : decode cX3_thinksLess 10 = .ok (.iload_n 1, 1) := by decide +kernel
theorem dX3_thinksLess_11 : decode cX3_thinksLess 11 = .ok (.iaload, 1) := by decide +kernel
theorem dX3_thinksLess_12 : decode cX3_thinksLess 12 = .ok (.iconst 4, 1) := by decide +kernel
theorem dX3_thinksLess_13 : decode cX3_thinksLess 13 = .ok (.isub, 1) := by decide +kernel
theorem dX3_thinksLess_14 : decode cX3_thinksLess 14 = .ok (.i2l, 1) := by decide +kernel
theorem dX3_thinksLess_15 : decode cX3_thinksLess 15 = .ok (.aload_n 0, 1) := by decide +kernel
theorem dX3_thinksLess_16 : decode cX3_thinksLess 16 = .ok (.iload_n 1, 1) := by decide +kernel
theorem dX3_thinksLess_17 : decode cX3_thinksLess 17 = .ok (.iload_n 2, 1) := by decide +kernel
theorem dX3_thinksLess_18 : decode cX3_thinksLess 18 = .ok (.invokevirtual 179, 3) := by decide +kernel
theorem dX3_thinksLess_21 : decode cX3_thinksLess 21 = .ok (.lmul, 1) := by decide +kernel
theorem dX3_thinksLess_22 : decode cX3_thinksLess 22 = .ok (.lcmp, 1) := by decide +kernel
theorem dX3_thinksLess_23 : decode cX3_thinksLess 23 = .ok (.ifCond .ge 7, 3) := by decide +kernel
theorem dX3_thinksLess_26 : decode cX3_thinksLess 26 = .ok (.iconst 1, 1) := by decide +kernel
theorem dX3_thinksLess_27 : decode cX3_thinksLess 27 = .ok (.goto 4, 3) := by decide +kernel
theorem dX3_thinksLess_30 : decode cX3_thinksLess 30 = .ok (.iconst 0, 1) := by decide +kernel
theorem dX3_thinksLess_31 : decode cX3_thinksLess 31 = .ok (.ireturn, 1) := by decide +kernel
set_option maxRecDepth 20000 in
theorem ggX3_give_X3_isUnread : GoodIn wsX3_give wsX3_isUnread := goodIn_r _ [6, 7, 8, 9, 5, 10, 11, 12, 17, 18, 19, 20, 21, 22, 23, 24, 25, 26, 27, 28, 29, 30, 31, 32, 33, 34] (by decide +kernel) (by decide +kernel)
set_option maxRecDepth 20000 in
theorem gX3_give_X3_isUnread : GoodIn wsX3_give (wsV RX3 120 RX3 yX3_isUnread wsX3_isUnread) := goodIn_app (goodIn_of _ (by decide +kernel)) ggX3_give_X3_isUnread
set_option maxRecDepth 20000 in
theorem ggX3_give_X3_markRead : GoodIn wsX3_give wsX3_markRead := goodIn_r _ [16, 12, 17, 18, 19, 20, 21, 22, 23, 24, 25, 26, 27, 28, 29, 30, 31, 32, 33, 34] (by decide +kernel) (by decide +kernel)
set_option maxRecDepth 20000 in
theorem gX3_give_X3_markRead : GoodIn wsX3_give (wsV RX3 173 RX3 yX3_markRead wsX3_markRead) := goodIn_app (goodIn_of _ (by decide +kernel)) ggX3_give_X3_markRead
theorem dX3_give_0 : decode cX3_give 0 = .ok (.iconst 1, 1) := by decide +kernel
theorem dX3_give_1 : decode cX3_give 1 = .ok (.istore_n 3, 1) := by decide +kernel
theorem dX3_give_2 : decode cX3_give 2 = .ok (.iload_n 3, 1) := by decide +kernel
theorem dX3_give_3 : decode cX3_give 3 = .ok (.aload_n 0, 1) := by decide +kernel
theorem dX3_give_4 : decode cX3_give 4 = .ok (.getfield 9, 3) := by decide +kernel
theorem dX3_give_7 : decode cX3_give 7 = .ok (.if_icmp .ge 53, 3) := by decide +kernel
theorem dX3_give_10 : decode cX3_give 10 = .ok (.iload_n 1, 1) := by decide +kernel
theorem dX3_give_11 : decode cX3_give 11 = .ok (.iload_n 3, 1) := by decide +kernel
theorem dX3_give_12 : decode cX3_give 12 = .ok (.iadd, 1) := by decide +kernel
theorem dX3_give_13 : decode cX3_give 13 = .ok (.aload_n 0, 1) := by decide +kernel
theorem dX3_give_14 : decode cX3_give 14 = .ok (.getfield 9, 3) := by decide +kernel
theorem dX3_give_17 : decode cX3_give 17 = .ok (.if_icmp .ge 9, 3) := by decide +kernel
theorem dX3_give_20 : decode cX3_give 20 = .ok (.iload_n 1, 1) := by decide +kernel
theorem dX3_give_21 : decode cX3_give 21 = .ok (.iload_n 3, 1) := by decide +kernel
theorem dX3_give_22 : decode cX3_give 22 = .ok (.iadd, 1) := by decide +kernel
theorem dX3_give_23 : decode cX3_give 23 = .ok (.goto 11, 3) := by decide +kernel
theorem dX3_give_26 : decode cX3_give 26 = .ok (.iload_n 1, 1) := by decide +kernel
theorem dX3_give_27 : decode cX3_give 27 = .ok (.iload_n 3, 1) := by decide +kernel
theorem dX3_give_28 : decode cX3_give 28 = .ok (.iadd, 1) := by decide +kernel
theorem dX3_give_29 : decode cX3_give 29 = .ok (.aload_n 0, 1) := by decide +kernel
theorem dX3_give_30 : decode cX3_give 30 = .ok (.getfield 9, 3) := by decide +kernel
theorem dX3_give_33 : decode cX3_give 33 = .ok (.isub, 1) := by decide +kernel
theorem dX3_give_34 : decode cX3_give 34 = .ok (.istore 4, 2) := by decide +kernel
theorem dX3_give_36 : decode cX3_give 36 = .ok (.aload_n 0, 1) := by decide +kernel
theorem dX3_give_37 : decode cX3_give 37 = .ok (.iload 4, 2) := by decide +kernel
theorem dX3_give_39 : decode cX3_give 39 = .ok (.iload_n 2, 1) := by decide +kernel
theorem dX3_give_40 : decode cX3_give 40 = .ok (.invokevirtual 120, 3) := by decide +kernel
theorem dX3_give_43 : decode cX3_give 43 = .ok (.ifCond .eq 11, 3) := by decide +kernel
theorem dX3_give_46 : decode cX3_give 46 = .ok (.aload_n 0, 1) := by decide +kernel
theorem dX3_give_47 : decode cX3_give 47 = .ok (.iload 4, 2) := by decide +kernel
theorem dX3_give_49 : decode cX3_give 49 = .ok (.iload_n 2, 1) := by decide +kernel
theorem dX3_give_50 : decode cX3_give 50 = .ok (.invokevirtual 173, 3) := by decide +kernel
theorem dX3_give_53 : decode cX3_give 53 = .ok (.return_, 1) := by decide +kernel
theorem dX3_give_54 : decode cX3_give 54 = .ok (.iinc 3 1, 3) := by decide +kernel
theorem dX3_give_57 : decode cX3_give 57 = .ok (.goto (-55), 3) := by decide +kernel
theorem dX3_give_60 : decode cX3_give 60 = .ok (.return_, 1) := by decide +kernel
