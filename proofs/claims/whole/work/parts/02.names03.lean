theorem dX4_solveFor_62 : decode cX4_solveFor 62 = .ok (.laload, 1) := by decide +kernel
theorem dX4_solveFor_63 : decode cX4_solveFor 63 = .ok (.l2i, 1) := by decide +kernel
theorem dX4_solveFor_64 : decode cX4_solveFor 64 = .ok (.ireturn, 1) := by decide +kernel
set_option maxRecDepth 20000 in
theorem ggX4_numberUnknowns_J7_fill_53178 : GoodIn wsX4_numberUnknowns wsJ7_fill_53178 := goodIn_r _ [12] (by decide +kernel) (by decide +kernel)
set_option maxRecDepth 20000 in
theorem gX4_numberUnknowns_J7_fill_53178 : GoodIn wsX4_numberUnknowns (va_wsS RX4 43 yJ7_fill_53178 wsJ7_fill_53178) := goodIn_app (goodIn_of _ (by decide +kernel)) ggX4_numberUnknowns_J7_fill_53178
set_option maxRecDepth 20000 in
theorem ggX4_numberUnknowns_X5_uses : GoodIn wsX4_numberUnknowns wsX5_uses := goodIn_r _ [17, 18, 49, 50, 51, 52, 53, 54, 55] (by decide +kernel) (by decide +kernel)
set_option maxRecDepth 20000 in
theorem gX4_numberUnknowns_X5_uses : GoodIn wsX4_numberUnknowns (wsV RX4 53 RX5 yX5_uses wsX5_uses) := goodIn_app (goodIn_of _ (by decide +kernel)) ggX4_numberUnknowns_X5_uses
set_option maxRecDepth 20000 in
theorem ggX4_numberUnknowns_X5_isFixed : GoodIn wsX4_numberUnknowns wsX5_isFixed := goodIn_r _ [22, 23, 24, 25, 49, 50, 51, 52, 53, 54, 55, 37, 38, 39, 40, 41, 42, 43, 44, 45, 46, 47, 48] (by decide +kernel) (by decide +kernel)
set_option maxRecDepth 20000 in
theorem gX4_numberUnknowns_X5_isFixed : GoodIn wsX4_numberUnknowns (wsV RX4 64 RX5 yX5_isFixed wsX5_isFixed) := goodIn_app (goodIn_of _ (by decide +kernel)) ggX4_numberUnknowns_X5_isFixed
set_option maxRecDepth 20000 in
theorem ggX4_numberUnknowns_X4_driftOf : GoodIn wsX4_numberUnknowns wsX4_driftOf := goodIn_r _ [30, 2, 31, 32, 33, 34, 35, 36, 37, 38, 39, 40, 41, 42, 43, 44, 45, 46, 47, 48] (by decide +kernel) (by decide +kernel)
set_option maxRecDepth 20000 in
theorem gX4_numberUnknowns_X4_driftOf : GoodIn wsX4_numberUnknowns (wsV RX4 70 RX4 yX4_driftOf wsX4_driftOf) := goodIn_app (goodIn_of _ (by decide +kernel)) ggX4_numberUnknowns_X4_driftOf
theorem dX4_numberUnknowns_0 : decode cX4_numberUnknowns 0 = .ok (.aload_n 0, 1) := by decide +kernel
theorem dX4_numberUnknowns_1 : decode cX4_numberUnknowns 1 = .ok (.getfield 9, 3) := by decide +kernel
theorem dX4_numberUnknowns_4 : decode cX4_numberUnknowns 4 = .ok (.iconst (-1), 1) := by decide +kernel
theorem dX4_numberUnknowns_5 : decode cX4_numberUnknowns 5 = .ok (.invokestatic 43, 3) := by decide +kernel
theorem dX4_numberUnknowns_8 : decode cX4_numberUnknowns 8 = .ok (.iconst 0, 1) := by decide +kernel
theorem dX4_numberUnknowns_9 : decode cX4_numberUnknowns 9 = .ok (.istore_n 1, 1) := by decide +kernel
theorem dX4_numberUnknowns_10 : decode cX4_numberUnknowns 10 = .ok (.iload_n 1, 1) := by decide +kernel
theorem dX4_numberUnknowns_11 : decode cX4_numberUnknowns 11 = .ok (.aload_n 0, 1) := by decide +kernel
theorem dX4_numberUnknowns_12 : decode cX4_numberUnknowns 12 = .ok (.getfield 24, 3) := by decide +kernel
theorem dX4_numberUnknowns_15 : decode cX4_numberUnknowns 15 = .ok (.getfield 48, 3) := by decide +kernel
theorem dX4_numberUnknowns_18 : decode cX4_numberUnknowns 18 = .ok (.iconst 3, 1) := by decide +kernel
theorem dX4_numberUnknowns_19 : decode cX4_numberUnknowns 19 = .ok (.iaload, 1) := by decide +kernel
theorem dX4_numberUnknowns_20 : decode cX4_numberUnknowns 20 = .ok (.if_icmp .ge 75, 3) := by decide +kernel
theorem dX4_numberUnknowns_23 : decode cX4_numberUnknowns 23 = .ok (.aload_n 0, 1) := by decide +kernel
theorem dX4_numberUnknowns_24 : decode cX4_numberUnknowns 24 = .ok (.getfield 28, 3) := by decide +kernel
theorem dX4_numberUnknowns_27 : decode cX4_numberUnknowns 27 = .ok (.iload_n 1, 1) := by decide +kernel
theorem dX4_numberUnknowns_28 : decode cX4_numberUnknowns 28 = .ok (.invokevirtual 53, 3) := by decide +kernel
theorem dX4_numberUnknowns_31 : decode cX4_numberUnknowns 31 = .ok (.ifCond .ne 6, 3) := by decide +kernel
theorem dX4_numberUnknowns_34 : decode cX4_numberUnknowns 34 = .ok (.goto 55, 3) := by decide +kernel
theorem dX4_numberUnknowns_37 : decode cX4_numberUnknowns 37 = .ok (.aload_n 0, 1) := by decide +kernel
theorem dX4_numberUnknowns_38 : decode cX4_numberUnknowns 38 = .ok (.getfield 9, 3) := by decide +kernel
theorem dX4_numberUnknowns_41 : decode cX4_numberUnknowns 41 = .ok (.aload_n 0, 1) := by decide +kernel
theorem dX4_numberUnknowns_42 : decode cX4_numberUnknowns 42 = .ok (.getfield 24, 3) := by decide +kernel
theorem dX4_numberUnknowns_45 : decode cX4_numberUnknowns 45 = .ok (.getfield 58, 3) := by decide +kernel
theorem dX4_numberUnknowns_48 : decode cX4_numberUnknowns 48 = .ok (.iload_n 1, 1) := by decide +kernel
theorem dX4_numberUnknowns_49 : decode cX4_numberUnknowns 49 = .ok (.iaload, 1) := by decide +kernel
theorem dX4_numberUnknowns_50 : decode cX4_numberUnknowns 50 = .ok (.iconst 0, 1) := by decide +kernel
theorem dX4_numberUnknowns_51 : decode cX4_numberUnknowns 51 = .ok (.iastore, 1) := by decide +kernel
theorem dX4_numberUnknowns_52 : decode cX4_numberUnknowns 52 = .ok (.aload_n 0, 1) := by decide +kernel
theorem dX4_numberUnknowns_53 : decode cX4_numberUnknowns 53 = .ok (.getfield 28, 3) := by decide +kernel
theorem dX4_numberUnknowns_56 : decode cX4_numberUnknowns 56 = .ok (.aload_n 0, 1) := by decide +kernel
theorem dX4_numberUnknowns_57 : decode cX4_numberUnknowns 57 = .ok (.getfield 24, 3) := by decide +kernel
theorem dX4_numberUnknowns_60 : decode cX4_numberUnknowns 60 = .ok (.getfield 61, 3) := by decide +kernel
theorem dX4_numberUnknowns_63 : decode cX4_numberUnknowns 63 = .ok (.iload_n 1, 1) := by decide +kernel
theorem dX4_numberUnknowns_64 : decode cX4_numberUnknowns 64 = .ok (.iaload, 1) := by decide +kernel
theorem dX4_numberUnknowns_65 : decode cX4_numberUnknowns 65 = .ok (.invokevirtual 64, 3) := by decide +kernel
theorem dX4_numberUnknowns_68 : decode cX4_numberUnknowns 68 = .ok (.ifCond .ne 21, 3) := by decide +kernel
theorem dX4_numberUnknowns_71 : decode cX4_numberUnknowns 71 = .ok (.aload_n 0, 1) := by decide +kernel
theorem dX4_numberUnknowns_72 : decode cX4_numberUnknowns 72 = .ok (.getfield 9, 3) := by decide +kernel
theorem dX4_numberUnknowns_75 : decode cX4_numberUnknowns 75 = .ok (.bipush 12, 2) := by decide +kernel
theorem dX4_numberUnknowns_77 : decode cX4_numberUnknowns 77 = .ok (.aload_n 0, 1) := by decide +kernel
theorem dX4_numberUnknowns_78 : decode cX4_numberUnknowns 78 = .ok (.getfield 24, 3) := by decide +kernel
theorem dX4_numberUnknowns_81 : decode cX4_numberUnknowns 81 = .ok (.getfield 61, 3) := by decide +kernel
theorem dX4_numberUnknowns_84 : decode cX4_numberUnknowns 84 = .ok (.iload_n 1, 1) := by decide +kernel
theorem dX4_numberUnknowns_85 : decode cX4_numberUnknowns 85 = .ok (.iaload, 1) := by decide +kernel
theorem dX4_numberUnknowns_86 : decode cX4_numberUnknowns 86 = .ok (.iadd, 1) := by decide +kernel
theorem dX4_numberUnknowns_87 : decode cX4_numberUnknowns 87 = .ok (.iconst 0, 1) := by decide +kernel
theorem dX4_numberUnknowns_88 : decode cX4_numberUnknowns 88 = .ok (.iastore, 1) := by decide +kernel
theorem dX4_numberUnknowns_89 : decode cX4_numberUnknowns 89 = .ok (.iinc 1 1, 3) := by decide +kernel
theorem dX4_numberUnknowns_92 : decode cX4_numberUnknowns 92 = .ok (.goto (-82), 3) := by decide +kernel
theorem dX4_numberUnknowns_95 : decode cX4_numberUnknowns 95 = .ok (.iconst 0, 1) := by decide +kernel
theorem dX4_numberUnknowns_96 : decode cX4_numberUnknowns 96 = .ok (.istore_n 1, 1) := by decide +kernel
theorem dX4_numberUnknowns_97 : decode cX4_numberUnknowns 97 = .ok (.iload_n 1, 1) := by decide +kernel
theorem dX4_numberUnknowns_98 : decode cX4_numberUnknowns 98 = .ok (.aload_n 0, 1) := by decide +kernel
theorem dX4_numberUnknowns_99 : decode cX4_numberUnknowns 99 = .ok (.getfield 24, 3) := by decide +kernel
theorem dX4_numberUnknowns_102 : decode cX4_numberUnknowns 102 = .ok (.getfield 48, 3) := by decide +kernel
theorem dX4_numberUnknowns_105 : decode cX4_numberUnknowns 105 = .ok (.iconst 1, 1) := by decide +kernel
theorem dX4_numberUnknowns_106 : decode cX4_numberUnknowns 106 = .ok (.iaload, 1) := by decide +kernel
theorem dX4_numberUnknowns_107 : decode cX4_numberUnknowns 107 = .ok (.if_icmp .ge 42, 3) := by decide +kernel
theorem dX4_numberUnknowns_110 : decode cX4_numberUnknowns 110 = .ok (.aload_n 0, 1) := by decide +kernel
theorem dX4_numberUnknowns_111 : decode cX4_numberUnknowns 111 = .ok (.getfield 24, 3) := by decide +kernel
theorem dX4_numberUnknowns_114 : decode cX4_numberUnknowns 114 = .ok (.getfield 67, 3) := by decide +kernel
theorem dX4_numberUnknowns_117 : decode cX4_numberUnknowns 117 = .ok (.iload_n 1, 1) := by decide +kernel
theorem dX4_numberUnknowns_118 : decode cX4_numberUnknowns 118 = .ok (.iaload, 1) := by decide +kernel
theorem dX4_numberUnknowns_119 : decode cX4_numberUnknowns 119 = .ok (.ifCond .ne 6, 3) := by decide +kernel
theorem dX4_numberUnknowns_122 : decode cX4_numberUnknowns 122 = .ok (.goto 21, 3) := by decide +kernel
theorem dX4_numberUnknowns_125 : decode cX4_numberUnknowns 125 = .ok (.aload_n 0, 1) := by decide +kernel
theorem dX4_numberUnknowns_126 : decode cX4_numberUnknowns 126 = .ok (.getfield 9, 3) := by decide +kernel
theorem dX4_numberUnknowns_129 : decode cX4_numberUnknowns 129 = .ok (.iload_n 1, 1) := by decide +kernel
theorem dX4_numberUnknowns_130 : decode cX4_numberUnknowns 130 = .ok (.iconst 0, 1) := by decide +kernel
theorem dX4_numberUnknowns_131 : decode cX4_numberUnknowns 131 = .ok (.iastore, 1) := by decide +kernel
theorem dX4_numberUnknowns_132 : decode cX4_numberUnknowns 132 = .ok (.aload_n 0, 1) := by decide +kernel
theorem dX4_numberUnknowns_133 : decode cX4_numberUnknowns 133 = .ok (.getfield 9, 3) := by decide +kernel
theorem dX4_numberUnknowns_136 : decode cX4_numberUnknowns 136 = .ok (.aload_n 0, 1) := by decide +kernel
theorem dX4_numberUnknowns_137 : decode cX4_numberUnknowns 137 = .ok (.iload_n 1, 1) := by decide +kernel
theorem dX4_numberUnknowns_138 : decode cX4_numberUnknowns 138 = .ok (.invokevirtual 70, 3) := by decide +kernel
theorem dX4_numberUnknowns_141 : decode cX4_numberUnknowns 141 = .ok (.iconst 0, 1) := by decide +kernel
theorem dX4_numberUnknowns_142 : decode cX4_numberUnknowns 142 = .ok (.iastore, 1) := by decide +kernel
theorem dX4_numberUnknowns_143 : decode cX4_numberUnknowns 143 = .ok (.iinc 1 1, 3) := by decide +kernel
theorem dX4_numberUnknowns_146 : decode cX4_numberUnknowns 146 = .ok (.goto (-49), 3) := by decide +kernel
theorem dX4_numberUnknowns_149 : decode cX4_numberUnknowns 149 = .ok (.aload_n 0, 1) := by decide +kernel
theorem dX4_numberUnknowns_150 : decode cX4_numberUnknowns 150 = .ok (.iconst 0, 1) := by decide +kernel
theorem dX4_numberUnknowns_151 : decode cX4_numberUnknowns 151 = .ok (.putfield 20, 3) := by decide +kernel
theorem dX4_numberUnknowns_154 : decode cX4_numberUnknowns 154 = .ok (.iconst 0, 1) := by decide +kernel
theorem dX4_numberUnknowns_155 : decode cX4_numberUnknowns 155 = .ok (.istore_n 1, 1) := by decide +kernel
theorem dX4_numberUnknowns_156 : decode cX4_numberUnknowns 156 = .ok (.iload_n 1, 1) := by decide +kernel
theorem dX4_numberUnknowns_157 : decode cX4_numberUnknowns 157 = .ok (.bipush 38, 2) := by decide +kernel
theorem dX4_numberUnknowns_159 : decode cX4_numberUnknowns 159 = .ok (.if_icmp .ge 42, 3) := by decide +kernel
theorem dX4_numberUnknowns_162 : decode cX4_numberUnknowns 162 = .ok (.aload_n 0, 1) := by decide +kernel
theorem dX4_numberUnknowns_163 : decode cX4_numberUnknowns 163 = .ok (.getfield 9, 3) := by decide +kernel
theorem dX4_numberUnknowns_166 : decode cX4_numberUnknowns 166 = .ok (.iload_n 1, 1) := by decide +kernel
theorem dX4_numberUnknowns_167 : decode cX4_numberUnknowns 167 = .ok (.iaload, 1) := by decide +kernel
theorem dX4_numberUnknowns_168 : decode cX4_numberUnknowns 168 = .ok (.iconst (-1), 1) := by decide +kernel
theorem dX4_numberUnknowns_169 : decode cX4_numberUnknowns 169 = .ok (.if_icmp .ne 6, 3) := by decide +kernel
theorem dX4_numberUnknowns_172 : decode cX4_numberUnknowns 172 = .ok (.goto 23, 3) := by decide +kernel
theorem dX4_numberUnknowns_175 : decode cX4_numberUnknowns 175 = .ok (.aload_n 0, 1) := by decide +kernel
theorem dX4_numberUnknowns_176 : decode cX4_numberUnknowns 176 = .ok (.getfield 9, 3) := by decide +kernel
theorem dX4_numberUnknowns_179 : decode cX4_numberUnknowns 179 = .ok (.iload_n 1, 1) := by decide +kernel
theorem dX4_numberUnknowns_180 : decode cX4_numberUnknowns 180 = .ok (.aload_n 0, 1) := by decide +kernel
theorem dX4_numberUnknowns_181 : decode cX4_numberUnknowns 181 = .ok (.getfield 20, 3) := by decide +kernel
theorem dX4_numberUnknowns_184 : decode cX4_numberUnknowns 184 = .ok (.iastore, 1) := by decide +kernel
theorem dX4_numberUnknowns_185 : decode cX4_numberUnknowns 185 = .ok (.aload_n 0, 1) := by decide +kernel
theorem dX4_numberUnknowns_186 : decode cX4_numberUnknowns 186 = .ok (.dup, 1) := by decide +kernel
theorem dX4_numberUnknowns_187 : decode cX4_numberUnknowns 187 = .ok (.getfield 20, 3) := by decide +kernel
theorem dX4_numberUnknowns_190 : decode cX4_numberUnknowns 190 = .ok (.iconst 1, 1) := by decide +kernel
theorem dX4_numberUnknowns_191 : decode cX4_numberUnknowns 191 = .ok (.iadd, 1) := by decide +kernel
theorem dX4_numberUnknowns_192 : decode cX4_numberUnknowns 192 = .ok (.putfield 20, 3) := by decide +kernel
theorem dX4_numberUnknowns_195 : decode cX4_numberUnknowns 195 = .ok (.iinc 1 1, 3) := by decide +kernel
theorem dX4_numberUnknowns_198 : decode cX4_numberUnknowns 198 = .ok (.goto (-42), 3) := by decide +kernel
theorem dX4_numberUnknowns_201 : decode cX4_numberUnknowns 201 = .ok (.return_, 1) := by decide +kernel
theorem dX4_driftOf_0 : decode cX4_driftOf 0 = .ok (.bipush 32, 2) := by decide +kernel
theorem dX4_driftOf_2 : decode cX4_driftOf 2 = .ok (.aload_n 0, 1) := by decide +kernel
theorem dX4_driftOf_3 : decode cX4_driftOf 3 = .ok (.getfield 24, 3) := by decide +kernel
theorem dX4_driftOf_6 : decode cX4_driftOf 6 = .ok (.getfield 74, 3) := by decide +kernel
theorem dX4_driftOf_9 : decode cX4_driftOf 9 = .ok (.iload_n 1, 1) := by decide +kernel
theorem dX4_driftOf_10 : decode cX4_driftOf 10 = .ok (.iaload, 1) := by decide +kernel
theorem dX4_driftOf_11 : decode cX4_driftOf 11 = .ok (.iadd, 1) := by decide +kernel
theorem dX4_driftOf_12 : decode cX4_driftOf 12 = .ok (.ireturn, 1) := by decide +kernel
set_option maxRecDepth 20000 in
theorem ggX4_fill_J7_fill_d0a16 : GoodIn wsX4_fill wsJ7_fill_d0a16 := goodIn_r _ [15] (by decide +kernel) (by decide +kernel)
set_option maxRecDepth 20000 in
theorem gX4_fill_J7_fill_d0a16 : GoodIn wsX4_fill (va_wsS RX4 77 yJ7_fill_d0a16 wsJ7_fill_d0a16) := goodIn_app (goodIn_of _ (by decide +kernel)) ggX4_fill_J7_fill_d0a16
set_option maxRecDepth 20000 in
theorem ggX4_fill_X5_uses : GoodIn wsX4_fill wsX5_uses := goodIn_r _ [20, 21, 82, 83, 84, 85, 86, 87, 88] (by decide +kernel) (by decide +kernel)
set_option maxRecDepth 20000 in
theorem gX4_fill_X5_uses : GoodIn wsX4_fill (wsV RX4 53 RX5 yX5_uses wsX5_uses) := goodIn_app (goodIn_of _ (by decide +kernel)) ggX4_fill_X5_uses
set_option maxRecDepth 20000 in
theorem ggX4_fill_X5_turned : GoodIn wsX4_fill wsX5_turned := goodIn_r _ [25, 26, 27, 28, 29, 30, 31, 32, 33, 34, 82, 83, 84, 85, 86, 87, 88, 70, 71, 72, 73, 74, 75, 76, 77, 78, 79, 80, 81] (by decide +kernel) (by decide +kernel)
set_option maxRecDepth 20000 in
theorem gX4_fill_X5_turned : GoodIn wsX4_fill (wsV RX4 80 RX5 yX5_turned wsX5_turned) := goodIn_app (goodIn_of _ (by decide +kernel)) ggX4_fill_X5_turned
set_option maxRecDepth 20000 in
theorem ggX4_fill_X5_isFixed : GoodIn wsX4_fill wsX5_isFixed := goodIn_r _ [38, 26, 39, 40, 82, 83, 84, 85, 86, 87, 88, 70, 71, 72, 73, 74, 75, 76, 77, 78, 79, 80, 81] (by decide +kernel) (by decide +kernel)
set_option maxRecDepth 20000 in
theorem gX4_fill_X5_isFixed : GoodIn wsX4_fill (wsV RX4 64 RX5 yX5_isFixed wsX5_isFixed) := goodIn_app (goodIn_of _ (by decide +kernel)) ggX4_fill_X5_isFixed
set_option maxRecDepth 20000 in
theorem ggX4_fill_X5_fixedAt : GoodIn wsX4_fill wsX5_fixedAt := goodIn_r _ [44, 26, 45, 82, 83, 84, 85, 86, 87, 88, 70, 71, 72, 73, 74, 75, 76, 77, 78, 79, 80, 81] (by decide +kernel) (by decide +kernel)
set_option maxRecDepth 20000 in
theorem gX4_fill_X5_fixedAt : GoodIn wsX4_fill (wsV RX4 87 RX5 yX5_fixedAt wsX5_fixedAt) := goodIn_app (goodIn_of _ (by decide +kernel)) ggX4_fill_X5_fixedAt
set_option maxRecDepth 20000 in
theorem ggX4_fill_X4_addHold : GoodIn wsX4_fill wsX4_addHold := goodIn_r _ [50, 51, 2, 1, 65, 66, 67, 68, 69] (by decide +kernel) (by decide +kernel)
set_option maxRecDepth 20000 in
theorem gX4_fill_X4_addHold : GoodIn wsX4_fill (wsV RX4 90 RX4 yX4_addHold wsX4_addHold) := goodIn_app (goodIn_of _ (by decide +kernel)) ggX4_fill_X4_addHold
set_option maxRecDepth 20000 in
theorem ggX4_fill_X4_addTerm : GoodIn wsX4_fill wsX4_addTerm := goodIn_r _ [55, 51, 2, 46, 47, 48, 49, 50, 1, 65, 66, 67, 68, 69] (by decide +kernel) (by decide +kernel)
set_option maxRecDepth 20000 in
theorem gX4_fill_X4_addTerm : GoodIn wsX4_fill (wsV RX4 94 RX4 yX4_addTerm wsX4_addTerm) := goodIn_app (goodIn_of _ (by decide +kernel)) ggX4_fill_X4_addTerm
set_option maxRecDepth 20000 in
theorem ggX4_fill_X4_driftOf : GoodIn wsX4_fill wsX4_driftOf := goodIn_r _ [59, 3, 60, 65, 66, 67, 68, 69, 70, 71, 72, 73, 74, 75, 76, 77, 78, 79, 80, 81] (by decide +kernel) (by decide +kernel)
set_option maxRecDepth 20000 in
theorem gX4_fill_X4_driftOf : GoodIn wsX4_fill (wsV RX4 70 RX4 yX4_driftOf wsX4_driftOf) := goodIn_app (goodIn_of _ (by decide +kernel)) ggX4_fill_X4_driftOf
set_option maxRecDepth 20000 in
theorem ggX4_fill_J9_floorMod_f86c9 : GoodIn wsX4_fill wsJ9_floorMod_f86c9 := goodIn_r _ [64] (by decide +kernel) (by decide +kernel)
set_option maxRecDepth 20000 in
theorem gX4_fill_J9_floorMod_f86c9 : GoodIn wsX4_fill (va_wsS RX4 104 yJ9_floorMod_f86c9 wsJ9_floorMod_f86c9) := goodIn_app (goodIn_of _ (by decide +kernel)) ggX4_fill_J9_floorMod_f86c9
theorem dX4_fill_0 : decode cX4_fill 0 = .ok (.iconst 0, 1) := by decide +kernel
theorem dX4_fill_1 : decode cX4_fill 1 = .ok (.istore_n 2, 1) := by decide +kernel
theorem dX4_fill_2 : decode cX4_fill 2 = .ok (.iload_n 2, 1) := by decide +kernel
theorem dX4_fill_3 : decode cX4_fill 3 = .ok (.aload_n 0, 1) := by decide +kernel
theorem dX4_fill_4 : decode cX4_fill 4 = .ok (.getfield 20, 3) := by decide +kernel
theorem dX4_fill_7 : decode cX4_fill 7 = .ok (.if_icmp .ge 19, 3) := by decide +kernel
theorem dX4_fill_10 : decode cX4_fill 10 = .ok (.aload_n 0, 1) := by decide +kernel
theorem dX4_fill_11 : decode cX4_fill 11 = .ok (.getfield 17, 3) := by decide +kernel
theorem dX4_fill_14 : decode cX4_fill 14 = .ok (.iload_n 2, 1) := by decide +kernel
theorem dX4_fill_15 : decode cX4_fill 15 = .ok (.aaload, 1) := by decide +kernel
theorem dX4_fill_16 : decode cX4_fill 16 = .ok (.lconst 0, 1) := by decide +kernel
theorem dX4_fill_17 : decode cX4_fill 17 = .ok (.invokestatic 77, 3) := by decide +kernel
theorem dX4_fill_20 : decode cX4_fill 20 = .ok (.iinc 2 1, 3) := by decide +kernel
theorem dX4_fill_23 : decode cX4_fill 23 = .ok (.goto (-21), 3) := by decide +kernel
theorem dX4_fill_26 : decode cX4_fill 26 = .ok (.iconst 0, 1) := by decide +kernel
theorem dX4_fill_27 : decode cX4_fill 27 = .ok (.istore_n 2, 1) := by decide +kernel
theorem dX4_fill_28 : decode cX4_fill 28 = .ok (.iload_n 2, 1) := by decide +kernel
theorem dX4_fill_29 : decode cX4_fill 29 = .ok (.aload_n 0, 1) := by decide +kernel
theorem dX4_fill_30 : decode cX4_fill 30 = .ok (.getfield 24, 3) := by decide +kernel
theorem dX4_fill_33 : decode cX4_fill 33 = .ok (.getfield 48, 3) := by decide +kernel
theorem dX4_fill_36 : decode cX4_fill 36 = .ok (.iconst 3, 1) := by decide +kernel
theorem dX4_fill_37 : decode cX4_fill 37 = .ok (.iaload, 1) := by decide +kernel
theorem dX4_fill_38 : decode cX4_fill 38 = .ok (.if_icmp .ge 118, 3) := by decide +kernel
theorem dX4_fill_41 : decode cX4_fill 41 = .ok (.aload_n 0, 1) := by decide +kernel
theorem dX4_fill_42 : decode cX4_fill 42 = .ok (.getfield 28, 3) := by decide +kernel
theorem dX4_fill_45 : decode cX4_fill 45 = .ok (.iload_n 2, 1) := by decide +kernel
theorem dX4_fill_46 : decode cX4_fill 46 = .ok (.invokevirtual 53, 3) := by decide +kernel
theorem dX4_fill_49 : decode cX4_fill 49 = .ok (.ifCond .ne 6, 3) := by decide +kernel
theorem dX4_fill_52 : decode cX4_fill 52 = .ok (.goto 98, 3) := by decide +kernel
theorem dX4_fill_55 : decode cX4_fill 55 = .ok (.aload_n 0, 1) := by decide +kernel
theorem dX4_fill_56 : decode cX4_fill 56 = .ok (.getfield 24, 3) := by decide +kernel
theorem dX4_fill_59 : decode cX4_fill 59 = .ok (.getfield 58, 3) := by decide +kernel
theorem dX4_fill_62 : decode cX4_fill 62 = .ok (.iload_n 2, 1) := by decide +kernel
theorem dX4_fill_63 : decode cX4_fill 63 = .ok (.iaload, 1) := by decide +kernel
theorem dX4_fill_64 : decode cX4_fill 64 = .ok (.istore_n 3, 1) := by decide +kernel
theorem dX4_fill_65 : decode cX4_fill 65 = .ok (.aload_n 0, 1) := by decide +kernel
theorem dX4_fill_66 : decode cX4_fill 66 = .ok (.getfield 24, 3) := by decide +kernel
theorem dX4_fill_69 : decode cX4_fill 69 = .ok (.getfield 61, 3) := by decide +kernel
theorem dX4_fill_72 : decode cX4_fill 72 = .ok (.iload_n 2, 1) := by decide +kernel
theorem dX4_fill_73 : decode cX4_fill 73 = .ok (.iaload, 1) := by decide +kernel
theorem dX4_fill_74 : decode cX4_fill 74 = .ok (.istore 4, 2) := by decide +kernel
theorem dX4_fill_76 : decode cX4_fill 76 = .ok (.aload_n 0, 1) := by decide +kernel
theorem dX4_fill_77 : decode cX4_fill 77 = .ok (.getfield 28, 3) := by decide +kernel
theorem dX4_fill_80 : decode cX4_fill 80 = .ok (.iload_n 2, 1) := by decide +kernel
theorem dX4_fill_81 : decode cX4_fill 81 = .ok (.iload_n 1, 1) := by decide +kernel
theorem dX4_fill_82 : decode cX4_fill 82 = .ok (.invokevirtual 80, 3) := by decide +kernel
theorem dX4_fill_85 : decode cX4_fill 85 = .ok (.istore 5, 2) := by decide +kernel
theorem dX4_fill_87 : decode cX4_fill 87 = .ok (.aload_n 0, 1) := by decide +kernel
theorem dX4_fill_88 : decode cX4_fill 88 = .ok (.getfield 28, 3) := by decide +kernel
theorem dX4_fill_91 : decode cX4_fill 91 = .ok (.iload 4, 2) := by decide +kernel
theorem dX4_fill_93 : decode cX4_fill 93 = .ok (.invokevirtual 64, 3) := by decide +kernel
theorem dX4_fill_96 : decode cX4_fill 96 = .ok (.ifCond .eq 33, 3) := by decide +kernel
theorem dX4_fill_99 : decode cX4_fill 99 = .ok (.aload_n 0, 1) := by decide +kernel
theorem dX4_fill_100 : decode cX4_fill 100 = .ok (.iload_n 3, 1) := by decide +kernel
theorem dX4_fill_101 : decode cX4_fill 101 = .ok (.aload_n 0, 1) := by decide +kernel
theorem dX4_fill_102 : decode cX4_fill 102 = .ok (.getfield 24, 3) := by decide +kernel
theorem dX4_fill_105 : decode cX4_fill 105 = .ok (.getfield 84, 3) := by decide +kernel
theorem dX4_fill_108 : decode cX4_fill 108 = .ok (.iload_n 2, 1) := by decide +kernel
theorem dX4_fill_109 : decode cX4_fill 109 = .ok (.iaload, 1) := by decide +kernel
theorem dX4_fill_110 : decode cX4_fill 110 = .ok (.aload_n 0, 1) := by decide +kernel
theorem dX4_fill_111 : decode cX4_fill 111 = .ok (.getfield 28, 3) := by decide +kernel
theorem dX4_fill_114 : decode cX4_fill 114 = .ok (.iload 4, 2) := by decide +kernel
theorem dX4_fill_116 : decode cX4_fill 116 = .ok (.iload_n 1, 1) := by decide +kernel
theorem dX4_fill_117 : decode cX4_fill 117 = .ok (.invokevirtual 87, 3) := by decide +kernel
theorem dX4_fill_120 : decode cX4_fill 120 = .ok (.iload 5, 2) := by decide +kernel
theorem dX4_fill_122 : decode cX4_fill 122 = .ok (.isub, 1) := by decide +kernel
theorem dX4_fill_123 : decode cX4_fill 123 = .ok (.invokevirtual 90, 3) := by decide +kernel
theorem dX4_fill_126 : decode cX4_fill 126 = .ok (.goto 24, 3) := by decide +kernel
theorem dX4_fill_129 : decode cX4_fill 129 = .ok (.aload_n 0, 1) := by decide +kernel
theorem dX4_fill_130 : decode cX4_fill 130 = .ok (.bipush 12, 2) := by decide +kernel
theorem dX4_fill_132 : decode cX4_fill 132 = .ok (.iload 4, 2) := by decide +kernel
theorem dX4_fill_134 : decode cX4_fill 134 = .ok (.iadd, 1) := by decide +kernel
theorem dX4_fill_135 : decode cX4_fill 135 = .ok (.iload_n 3, 1) := by decide +kernel
theorem dX4_fill_136 : decode cX4_fill 136 = .ok (.aload_n 0, 1) := by decide +kernel
theorem dX4_fill_137 : decode cX4_fill 137 = .ok (.getfield 24, 3) := by decide +kernel
theorem dX4_fill_140 : decode cX4_fill 140 = .ok (.getfield 84, 3) := by decide +kernel
theorem dX4_fill_143 : decode cX4_fill 143 = .ok (.iload_n 2, 1) := by decide +kernel
theorem dX4_fill_144 : decode cX4_fill 144 = .ok (.iaload, 1) := by decide +kernel
theorem dX4_fill_145 : decode cX4_fill 145 = .ok (.iload 5, 2) := by decide +kernel
theorem dX4_fill_147 : decode cX4_fill 147 = .ok (.invokevirtual 94, 3) := by decide +kernel
theorem dX4_fill_150 : decode cX4_fill 150 = .ok (.iinc 2 1, 3) := by decide +kernel
theorem dX4_fill_153 : decode cX4_fill 153 = .ok (.goto (-125), 3) := by decide +kernel
theorem dX4_fill_156 : decode cX4_fill 156 = .ok (.iconst 0, 1) := by decide +kernel
theorem dX4_fill_157 : decode cX4_fill 157 = .ok (.istore_n 2, 1) := by decide +kernel
theorem dX4_fill_158 : decode cX4_fill 158 = .ok (.iload_n 2, 1) := by decide +kernel
theorem dX4_fill_159 : decode cX4_fill 159 = .ok (.aload_n 0, 1) := by decide +kernel
theorem dX4_fill_160 : decode cX4_fill 160 = .ok (.getfield 24, 3) := by decide +kernel
theorem dX4_fill_163 : decode cX4_fill 163 = .ok (.getfield 48, 3) := by decide +kernel
theorem dX4_fill_166 : decode cX4_fill 166 = .ok (.iconst 1, 1) := by decide +kernel
theorem dX4_fill_167 : decode cX4_fill 167 = .ok (.iaload, 1) := by decide +kernel
theorem dX4_fill_168 : decode cX4_fill 168 = .ok (.if_icmp .ge 57, 3) := by decide +kernel
theorem dX4_fill_171 : decode cX4_fill 171 = .ok (.aload_n 0, 1) := by decide +kernel
theorem dX4_fill_172 : decode cX4_fill 172 = .ok (.getfield 24, 3) := by decide +kernel
theorem dX4_fill_175 : decode cX4_fill 175 = .ok (.getfield 67, 3) := by decide +kernel
theorem dX4_fill_178 : decode cX4_fill 178 = .ok (.iload_n 2, 1) := by decide +kernel
theorem dX4_fill_179 : decode cX4_fill 179 = .ok (.iaload, 1) := by decide +kernel
theorem dX4_fill_180 : decode cX4_fill 180 = .ok (.ifCond .ne 6, 3) := by decide +kernel
theorem dX4_fill_183 : decode cX4_fill 183 = .ok (.goto 36, 3) := by decide +kernel
theorem dX4_fill_186 : decode cX4_fill 186 = .ok (.aload_n 0, 1) := by decide +kernel
theorem dX4_fill_187 : decode cX4_fill 187 = .ok (.iload_n 2, 1) := by decide +kernel
theorem dX4_fill_188 : decode cX4_fill 188 = .ok (.aload_n 0, 1) := by decide +kernel
theorem dX4_fill_189 : decode cX4_fill 189 = .ok (.iload_n 2, 1) := by decide +kernel
theorem dX4_fill_190 : decode cX4_fill 190 = .ok (.invokevirtual 70, 3) := by decide +kernel
theorem dX4_fill_193 : decode cX4_fill 193 = .ok (.aload_n 0, 1) := by decide +kernel
theorem dX4_fill_194 : decode cX4_fill 194 = .ok (.getfield 24, 3) := by decide +kernel
theorem dX4_fill_197 : decode cX4_fill 197 = .ok (.getfield 67, 3) := by decide +kernel
theorem dX4_fill_200 : decode cX4_fill 200 = .ok (.iload_n 2, 1) := by decide +kernel
theorem dX4_fill_201 : decode cX4_fill 201 = .ok (.iaload, 1) := by decide +kernel
theorem dX4_fill_202 : decode cX4_fill 202 = .ok (.bipush 100, 2) := by decide +kernel
theorem dX4_fill_204 : decode cX4_fill 204 = .ok (.aload_n 0, 1) := by decide +kernel
theorem dX4_fill_205 : decode cX4_fill 205 = .ok (.getfield 24, 3) := by decide +kernel
theorem dX4_fill_208 : decode cX4_fill 208 = .ok (.getfield 98, 3) := by decide +kernel
theorem dX4_fill_211 : decode cX4_fill 211 = .ok (.iload_n 1, 1) := by decide +kernel
theorem dX4_fill_212 : decode cX4_fill 212 = .ok (.aaload, 1) := by decide +kernel
theorem dX4_fill_213 : decode cX4_fill 213 = .ok (.iload_n 2, 1) := by decide +kernel
theorem dX4_fill_214 : decode cX4_fill 214 = .ok (.iaload, 1) := by decide +kernel
theorem dX4_fill_215 : decode cX4_fill 215 = .ok (.imul, 1) := by decide +kernel
theorem dX4_fill_216 : decode cX4_fill 216 = .ok (.invokevirtual 94, 3) := by decide +kernel
theorem dX4_fill_219 : decode cX4_fill 219 = .ok (.iinc 2 1, 3) := by decide +kernel
theorem dX4_fill_222 : decode cX4_fill 222 = .ok (.goto (-64), 3) := by decide +kernel
theorem dX4_fill_225 : decode cX4_fill 225 = .ok (.iconst 0, 1) := by decide +kernel
theorem dX4_fill_226 : decode cX4_fill 226 = .ok (.istore_n 2, 1) := by decide +kernel
theorem dX4_fill_227 : decode cX4_fill 227 = .ok (.iload_n 2, 1) := by decide +kernel
theorem dX4_fill_228 : decode cX4_fill 228 = .ok (.aload_n 0, 1) := by decide +kernel
theorem dX4_fill_229 : decode cX4_fill 229 = .ok (.getfield 20, 3) := by decide +kernel
theorem dX4_fill_232 : decode cX4_fill 232 = .ok (.if_icmp .ge 47, 3) := by decide +kernel
theorem dX4_fill_235 : decode cX4_fill 235 = .ok (.iconst 0, 1) := by decide +kernel
theorem dX4_fill_236 : decode cX4_fill 236 = .ok (.istore_n 3, 1) := by decide +kernel
theorem dX4_fill_237 : decode cX4_fill 237 = .ok (.iload_n 3, 1) := by decide +kernel
theorem dX4_fill_238 : decode cX4_fill 238 = .ok (.aload_n 0, 1) := by decide +kernel
theorem dX4_fill_239 : decode cX4_fill 239 = .ok (.getfield 20, 3) := by decide +kernel
theorem dX4_fill_242 : decode cX4_fill 242 = .ok (.if_icmp .gt 31, 3) := by decide +kernel
theorem dX4_fill_245 : decode cX4_fill 245 = .ok (.aload_n 0, 1) := by decide +kernel
theorem dX4_fill_246 : decode cX4_fill 246 = .ok (.getfield 17, 3) := by decide +kernel
theorem dX4_fill_249 : decode cX4_fill 249 = .ok (.iload_n 2, 1) := by decide +kernel
theorem dX4_fill_250 : decode cX4_fill 250 = .ok (.aaload, 1) := by decide +kernel
theorem dX4_fill_251 : decode cX4_fill 251 = .ok (.iload_n 3, 1) := by decide +kernel
theorem dX4_fill_252 : decode cX4_fill 252 = .ok (.aload_n 0, 1) := by decide +kernel
theorem dX4_fill_253 : decode cX4_fill 253 = .ok (.getfield 17, 3) := by decide +kernel
theorem dX4_fill_256 : decode cX4_fill 256 = .ok (.iload_n 2, 1) := by decide +kernel
theorem dX4_fill_257 : decode cX4_fill 257 = .ok (.aaload, 1) := by decide +kernel
theorem dX4_fill_258 : decode cX4_fill 258 = .ok (.iload_n 3, 1) := by decide +kernel
theorem dX4_fill_259 : decode cX4_fill 259 = .ok (.laload, 1) := by decide +kernel
theorem dX4_fill_260 : decode cX4_fill 260 = .ok (.ldc2_w 102, 3) := by decide +kernel
theorem dX4_fill_263 : decode cX4_fill 263 = .ok (.invokestatic 104, 3) := by decide +kernel
theorem dX4_fill_266 : decode cX4_fill 266 = .ok (.lastore, 1) := by decide +kernel
theorem dX4_fill_267 : decode cX4_fill 267 = .ok (.iinc 3 1, 3) := by decide +kernel
theorem dX4_fill_270 : decode cX4_fill 270 = .ok (.goto (-33), 3) := by decide +kernel
theorem dX4_fill_273 : decode cX4_fill 273 = .ok (.iinc 2 1, 3) := by decide +kernel
theorem dX4_fill_276 : decode cX4_fill 276 = .ok (.goto (-49), 3) := by decide +kernel
theorem dX4_fill_279 : decode cX4_fill 279 = .ok (.return_, 1) := by decide +kernel
theorem dX4_addHold_0 : decode cX4_addHold 0 = .ok (.aload_n 0, 1) := by decide +kernel
theorem dX4_addHold_1 : decode cX4_addHold 1 = .ok (.getfield 9, 3) := by decide +kernel
theorem dX4_addHold_4 : decode cX4_addHold 4 = .ok (.iload_n 1, 1) := by decide +kernel
theorem dX4_addHold_5 : decode cX4_addHold 5 = .ok (.iaload, 1) := by decide +kernel
theorem dX4_addHold_6 : decode cX4_addHold 6 = .ok (.istore 4, 2) := by decide +kernel
theorem dX4_addHold_8 : decode cX4_addHold 8 = .ok (.iload 4, 2) := by decide +kernel
theorem dX4_addHold_10 : decode cX4_addHold 10 = .ok (.iconst (-1), 1) := by decide +kernel
theorem dX4_addHold_11 : decode cX4_addHold 11 = .ok (.if_icmp .ne 4, 3) := by decide +kernel
theorem dX4_addHold_14 : decode cX4_addHold 14 = .ok (.return_, 1) := by decide +kernel
theorem dX4_addHold_15 : decode cX4_addHold 15 = .ok (.aload_n 0, 1) := by decide +kernel
theorem dX4_addHold_16 : decode cX4_addHold 16 = .ok (.getfield 17, 3) := by decide +kernel
theorem dX4_addHold_19 : decode cX4_addHold 19 = .ok (.iload 4, 2) := by decide +kernel
theorem dX4_addHold_21 : decode cX4_addHold 21 = .ok (.aaload, 1) := by decide +kernel
theorem dX4_addHold_22 : decode cX4_addHold 22 = .ok (.iload 4, 2) := by decide +kernel
theorem dX4_addHold_24 : decode cX4_addHold 24 = .ok (.dup2, 1) := by decide +kernel
theorem dX4_addHold_25 : decode cX4_addHold 25 = .ok (.laload, 1) := by decide +kernel
theorem dX4_addHold_26 : decode cX4_addHold 26 = .ok (.iload_n 2, 1) := by decide +kernel
theorem dX4_addHold_27 : decode cX4_addHold 27 = .ok (.i2l, 1) := by decide +kernel
theorem dX4_addHold_28 : decode cX4_addHold 28 = .ok (.ladd, 1) := by decide +kernel
theorem dX4_addHold_29 : decode cX4_addHold 29 = .ok (.lastore, 1) := by decide +kernel
theorem dX4_addHold_30 : decode cX4_addHold 30 = .ok (.aload_n 0, 1) := by decide +kernel
theorem dX4_addHold_31 : decode cX4_addHold 31 = .ok (.getfield 17, 3) := by decide +kernel
theorem dX4_addHold_34 : decode cX4_addHold 34 = .ok (.iload 4, 2) := by decide +kernel
theorem dX4_addHold_36 : decode cX4_addHold 36 = .ok (.aaload, 1) := by decide +kernel
theorem dX4_addHold_37 : decode cX4_addHold 37 = .ok (.aload_n 0, 1) := by decide +kernel
theorem dX4_addHold_38 : decode cX4_addHold 38 = .ok (.getfield 20, 3) := by decide +kernel
theorem dX4_addHold_41 : decode cX4_addHold 41 = .ok (.dup2, 1) := by decide +kernel
theorem dX4_addHold_42 : decode cX4_addHold 42 = .ok (.laload, 1) := by decide +kernel
theorem dX4_addHold_43 : decode cX4_addHold 43 = .ok (.iload_n 2, 1) := by decide +kernel
theorem dX4_addHold_44 : decode cX4_addHold 44 = .ok (.i2l, 1) := by decide +kernel
theorem dX4_addHold_45 : decode cX4_addHold 45 = .ok (.iload_n 3, 1) := by decide +kernel
theorem dX4_addHold_46 : decode cX4_addHold 46 = .ok (.i2l, 1) := by decide +kernel
theorem dX4_addHold_47 : decode cX4_addHold 47 = .ok (.lmul, 1) := by decide +kernel
theorem dX4_addHold_48 : decode cX4_addHold 48 = .ok (.ladd, 1) := by decide +kernel
theorem dX4_addHold_49 : decode cX4_addHold 49 = .ok (.lastore, 1) := by decide +kernel
theorem dX4_addHold_50 : decode cX4_addHold 50 = .ok (.return_, 1) := by decide +kernel
set_option maxRecDepth 20000 in
theorem ggX4_addTerm_X4_addHold : GoodIn wsX4_addTerm wsX4_addHold := goodIn_r _ [7, 1, 2, 8, 9, 10, 11, 12, 13] (by decide +kernel) (by decide +kernel)
set_option maxRecDepth 20000 in
theorem gX4_addTerm_X4_addHold : GoodIn wsX4_addTerm (wsV RX4 90 RX4 yX4_addHold wsX4_addHold) := goodIn_app (goodIn_of _ (by decide +kernel)) ggX4_addTerm_X4_addHold
theorem dX4_addTerm_0 : decode cX4_addTerm 0 = .ok (.aload_n 0, 1) := by decide +kernel
theorem dX4_addTerm_1 : decode cX4_addTerm 1 = .ok (.getfield 9, 3) := by decide +kernel
theorem dX4_addTerm_4 : decode cX4_addTerm 4 = .ok (.iload_n 1, 1) := by decide +kernel
theorem dX4_addTerm_5 : decode cX4_addTerm 5 = .ok (.iaload, 1) := by decide +kernel
theorem dX4_addTerm_6 : decode cX4_addTerm 6 = .ok (.istore 5, 2) := by decide +kernel
theorem dX4_addTerm_8 : decode cX4_addTerm 8 = .ok (.aload_n 0, 1) := by decide +kernel
theorem dX4_addTerm_9 : decode cX4_addTerm 9 = .ok (.getfield 9, 3) := by decide +kernel
theorem dX4_addTerm_12 : decode cX4_addTerm 12 = .ok (.iload_n 2, 1) := by decide +kernel
theorem dX4_addTerm_13 : decode cX4_addTerm 13 = .ok (.iaload, 1) := by decide +kernel
theorem dX4_addTerm_14 : decode cX4_addTerm 14 = .ok (.istore 6, 2) := by decide +kernel
theorem dX4_addTerm_16 : decode cX4_addTerm 16 = .ok (.iload 5, 2) := by decide +kernel
theorem dX4_addTerm_18 : decode cX4_addTerm 18 = .ok (.iconst (-1), 1) := by decide +kernel
theorem dX4_addTerm_19 : decode cX4_addTerm 19 = .ok (.if_icmp .eq 9, 3) := by decide +kernel
theorem dX4_addTerm_22 : decode cX4_addTerm 22 = .ok (.iload 6, 2) := by decide +kernel
theorem dX4_addTerm_24 : decode cX4_addTerm 24 = .ok (.iconst (-1), 1) := by decide +kernel
theorem dX4_addTerm_25 : decode cX4_addTerm 25 = .ok (.if_icmp .ne 4, 3) := by decide +kernel
theorem dX4_addTerm_28 : decode cX4_addTerm 28 = .ok (.return_, 1) := by decide +kernel
theorem dX4_addTerm_29 : decode cX4_addTerm 29 = .ok (.aload_n 0, 1) := by decide +kernel
theorem dX4_addTerm_30 : decode cX4_addTerm 30 = .ok (.iload_n 1, 1) := by decide +kernel
theorem dX4_addTerm_31 : decode cX4_addTerm 31 = .ok (.iload_n 3, 1) := by decide +kernel
theorem dX4_addTerm_32 : decode cX4_addTerm 32 = .ok (.iload 4, 2) := by decide +kernel
theorem dX4_addTerm_34 : decode cX4_addTerm 34 = .ok (.invokevirtual 90, 3) := by decide +kernel
theorem dX4_addTerm_37 : decode cX4_addTerm 37 = .ok (.aload_n 0, 1) := by decide +kernel
theorem dX4_addTerm_38 : decode cX4_addTerm 38 = .ok (.iload_n 2, 1) := by decide +kernel
theorem dX4_addTerm_39 : decode cX4_addTerm 39 = .ok (.iload_n 3, 1) := by decide +kernel
theorem dX4_addTerm_40 : decode cX4_addTerm 40 = .ok (.iload 4, 2) := by decide +kernel
theorem dX4_addTerm_42 : decode cX4_addTerm 42 = .ok (.ineg, 1) := by decide +kernel
theorem dX4_addTerm_43 : decode cX4_addTerm 43 = .ok (.invokevirtual 90, 3) := by decide +kernel
theorem dX4_addTerm_46 : decode cX4_addTerm 46 = .ok (.aload_n 0, 1) := by decide +kernel
theorem dX4_addTerm_47 : decode cX4_addTerm 47 = .ok (.getfield 17, 3) := by decide +kernel
theorem dX4_addTerm_50 : decode cX4_addTerm 50 = .ok (.iload 5, 2) := by decide +kernel
theorem dX4_addTerm_52 : decode cX4_addTerm 52 = .ok (.aaload, 1) := by decide +kernel
theorem dX4_addTerm_53 : decode cX4_addTerm 53 = .ok (.iload 6, 2) := by decide +kernel
theorem dX4_addTerm_55 : decode cX4_addTerm 55 = .ok (.dup2, 1) := by decide +kernel
theorem dX4_addTerm_56 : decode cX4_addTerm 56 = .ok (.laload, 1) := by decide +kernel
theorem dX4_addTerm_57 : decode cX4_addTerm 57 = .ok (.iload_n 3, 1) := by decide +kernel
theorem dX4_addTerm_58 : decode cX4_addTerm 58 = .ok (.i2l, 1) := by decide +kernel
theorem dX4_addTerm_59 : decode cX4_addTerm 59 = .ok (.lsub, 1) := by decide +kernel
theorem dX4_addTerm_60 : decode cX4_addTerm 60 = .ok (.lastore, 1) := by decide +kernel
theorem dX4_addTerm_61 : decode cX4_addTerm 61 = .ok (.aload_n 0, 1) := by decide +kernel
theorem dX4_addTerm_62 : decode cX4_addTerm 62 = .ok (.getfield 17, 3) := by decide +kernel
theorem dX4_addTerm_65 : decode cX4_addTerm 65 = .ok (.iload 6, 2) := by decide +kernel
theorem dX4_addTerm_67 : decode cX4_addTerm 67 = .ok (.aaload, 1) := by decide +kernel
theorem dX4_addTerm_68 : decode cX4_addTerm 68 = .ok (.iload 5, 2) := by decide +kernel
theorem dX4_addTerm_70 : decode cX4_addTerm 70 = .ok (.dup2, 1) := by decide +kernel
theorem dX4_addTerm_71 : decode cX4_addTerm 71 = .ok (.laload, 1) := by decide +kernel
theorem dX4_addTerm_72 : decode cX4_addTerm 72 = .ok (.iload_n 3, 1) := by decide +kernel
theorem dX4_addTerm_73 : decode cX4_addTerm 73 = .ok (.i2l, 1) := by decide +kernel
theorem dX4_addTerm_74 : decode cX4_addTerm 74 = .ok (.lsub, 1) := by decide +kernel
theorem dX4_addTerm_75 : decode cX4_addTerm 75 = .ok (.lastore, 1) := by decide +kernel
theorem dX4_addTerm_76 : decode cX4_addTerm 76 = .ok (.return_, 1) := by decide +kernel
set_option maxRecDepth 20000 in
theorem ggX4_eliminate_X4_swapLines : GoodIn wsX4_eliminate wsX4_swapLines := goodIn_r _ [8, 1, 2, 17, 18, 19, 20, 21] (by decide +kernel) (by decide +kernel)
set_option maxRecDepth 20000 in
theorem gX4_eliminate_X4_swapLines : GoodIn wsX4_eliminate (wsV RX4 110 RX4 yX4_swapLines wsX4_swapLines) := goodIn_app (goodIn_of _ (by decide +kernel)) ggX4_eliminate_X4_swapLines
set_option maxRecDepth 20000 in
theorem ggX4_eliminate_X4_inverse : GoodIn wsX4_eliminate wsX4_inverse := goodIn_r _ [11, 12, 3] (by decide +kernel) (by decide +kernel)
set_option maxRecDepth 20000 in
theorem gX4_eliminate_X4_inverse : GoodIn wsX4_eliminate (va_wsS RX4 114 yX4_inverse wsX4_inverse) := goodIn_app (goodIn_of _ (by decide +kernel)) ggX4_eliminate_X4_inverse
set_option maxRecDepth 20000 in
theorem ggX4_eliminate_X4_subtractLine : GoodIn wsX4_eliminate wsX4_subtractLine := goodIn_r _ [16, 3, 2, 1, 17, 18, 19, 20, 21] (by decide +kernel) (by decide +kernel)
set_option maxRecDepth 20000 in
theorem gX4_eliminate_X4_subtractLine : GoodIn wsX4_eliminate (wsV RX4 118 RX4 yX4_subtractLine wsX4_subtractLine) := goodIn_app (goodIn_of _ (by decide +kernel)) ggX4_eliminate_X4_subtractLine
theorem dX4_eliminate_0 : decode cX4_eliminate 0 = .ok (.iload_n 1, 1) := by decide +kernel
theorem dX4_eliminate_1 : decode cX4_eliminate 1 = .ok (.istore_n 2, 1) := by decide +kernel
theorem dX4_eliminate_2 : decode cX4_eliminate 2 = .ok (.iload_n 2, 1) := by decide +kernel
theorem dX4_eliminate_3 : decode cX4_eliminate 3 = .ok (.aload_n 0, 1) := by decide +kernel
theorem dX4_eliminate_4 : decode cX4_eliminate 4 = .ok (.getfield 20, 3) := by decide +kernel
theorem dX4_eliminate_7 : decode cX4_eliminate 7 = .ok (.if_icmp .ge 22, 3) := by decide +kernel
theorem dX4_eliminate_10 : decode cX4_eliminate 10 = .ok (.aload_n 0, 1) := by decide +kernel
theorem dX4_eliminate_11 : decode cX4_eliminate 11 = .ok (.getfield 17, 3) := by decide +kernel
theorem dX4_eliminate_14 : decode cX4_eliminate 14 = .ok (.iload_n 2, 1) := by decide +kernel
theorem dX4_eliminate_15 : decode cX4_eliminate 15 = .ok (.aaload, 1) := by decide +kernel
theorem dX4_eliminate_16 : decode cX4_eliminate 16 = .ok (.iload_n 1, 1) := by decide +kernel
theorem dX4_eliminate_17 : decode cX4_eliminate 17 = .ok (.laload, 1) := by decide +kernel
theorem dX4_eliminate_18 : decode cX4_eliminate 18 = .ok (.lconst 0, 1) := by decide +kernel
theorem dX4_eliminate_19 : decode cX4_eliminate 19 = .ok (.lcmp, 1) := by decide +kernel
theorem dX4_eliminate_20 : decode cX4_eliminate 20 = .ok (.ifCond .ne 9, 3) := by decide +kernel
theorem dX4_eliminate_23 : decode cX4_eliminate 23 = .ok (.iinc 2 1, 3) := by decide +kernel
theorem dX4_eliminate_26 : decode cX4_eliminate 26 = .ok (.goto (-24), 3) := by decide +kernel
theorem dX4_eliminate_29 : decode cX4_eliminate 29 = .ok (.iload_n 2, 1) := by decide +kernel
theorem dX4_eliminate_30 : decode cX4_eliminate 30 = .ok (.aload_n 0, 1) := by decide +kernel
theorem dX4_eliminate_31 : decode cX4_eliminate 31 = .ok (.getfield 20, 3) := by decide +kernel
theorem dX4_eliminate_34 : decode cX4_eliminate 34 = .ok (.if_icmp .lt 5, 3) := by decide +kernel
theorem dX4_eliminate_37 : decode cX4_eliminate 37 = .ok (.iconst 0, 1) := by decide +kernel
theorem dX4_eliminate_38 : decode cX4_eliminate 38 = .ok (.ireturn, 1) := by decide +kernel
theorem dX4_eliminate_39 : decode cX4_eliminate 39 = .ok (.iload_n 2, 1) := by decide +kernel
theorem dX4_eliminate_40 : decode cX4_eliminate 40 = .ok (.iload_n 1, 1) := by decide +kernel
theorem dX4_eliminate_41 : decode cX4_eliminate 41 = .ok (.if_icmp .eq 9, 3) := by decide +kernel
theorem dX4_eliminate_44 : decode cX4_eliminate 44 = .ok (.aload_n 0, 1) := by decide +kernel
theorem dX4_eliminate_45 : decode cX4_eliminate 45 = .ok (.iload_n 2, 1) := by decide +kernel
theorem dX4_eliminate_46 : decode cX4_eliminate 46 = .ok (.iload_n 1, 1) := by decide +kernel
theorem dX4_eliminate_47 : decode cX4_eliminate 47 = .ok (.invokevirtual 110, 3) := by decide +kernel
theorem dX4_eliminate_50 : decode cX4_eliminate 50 = .ok (.aload_n 0, 1) := by decide +kernel
theorem dX4_eliminate_51 : decode cX4_eliminate 51 = .ok (.getfield 17, 3) := by decide +kernel
theorem dX4_eliminate_54 : decode cX4_eliminate 54 = .ok (.iload_n 1, 1) := by decide +kernel
theorem dX4_eliminate_55 : decode cX4_eliminate 55 = .ok (.aaload, 1) := by decide +kernel
theorem dX4_eliminate_56 : decode cX4_eliminate 56 = .ok (.iload_n 1, 1) := by decide +kernel
theorem dX4_eliminate_57 : decode cX4_eliminate 57 = .ok (.laload, 1) := by decide +kernel
theorem dX4_eliminate_58 : decode cX4_eliminate 58 = .ok (.invokestatic 114, 3) := by decide +kernel
theorem dX4_eliminate_61 : decode cX4_eliminate 61 = .ok (.lstore_n 3, 1) := by decide +kernel
theorem dX4_eliminate_62 : decode cX4_eliminate 62 = .ok (.iload_n 1, 1) := by decide +kernel
theorem dX4_eliminate_63 : decode cX4_eliminate 63 = .ok (.istore 5, 2) := by decide +kernel
theorem dX4_eliminate_65 : decode cX4_eliminate 65 = .ok (.iload 5, 2) := by decide +kernel
theorem dX4_eliminate_67 : decode cX4_eliminate 67 = .ok (.aload_n 0, 1) := by decide +kernel
theorem dX4_eliminate_68 : decode cX4_eliminate 68 = .ok (.getfield 20, 3) := by decide +kernel
theorem dX4_eliminate_71 : decode cX4_eliminate 71 = .ok (.if_icmp .gt 33, 3) := by decide +kernel
theorem dX4_eliminate_74 : decode cX4_eliminate 74 = .ok (.aload_n 0, 1) := by decide +kernel
theorem dX4_eliminate_75 : decode cX4_eliminate 75 = .ok (.getfield 17, 3) := by decide +kernel
theorem dX4_eliminate_78 : decode cX4_eliminate 78 = .ok (.iload_n 1, 1) := by decide +kernel
theorem dX4_eliminate_79 : decode cX4_eliminate 79 = .ok (.aaload, 1) := by decide +kernel
theorem dX4_eliminate_80 : decode cX4_eliminate 80 = .ok (.iload 5, 2) := by decide +kernel
theorem dX4_eliminate_82 : decode cX4_eliminate 82 = .ok (.aload_n 0, 1) := by decide +kernel
theorem dX4_eliminate_83 : decode cX4_eliminate 83 = .ok (.getfield 17, 3) := by decide +kernel
theorem dX4_eliminate_86 : decode cX4_eliminate 86 = .ok (.iload_n 1, 1) := by decide +kernel
theorem dX4_eliminate_87 : decode cX4_eliminate 87 = .ok (.aaload, 1) := by decide +kernel
theorem dX4_eliminate_88 : decode cX4_eliminate 88 = .ok (.iload 5, 2) := by decide +kernel
theorem dX4_eliminate_90 : decode cX4_eliminate 90 = .ok (.laload, 1) := by decide +kernel
theorem dX4_eliminate_91 : decode cX4_eliminate 91 = .ok (.lload_n 3, 1) := by decide +kernel
theorem dX4_eliminate_92 : decode cX4_eliminate 92 = .ok (.lmul, 1) := by decide +kernel
theorem dX4_eliminate_93 : decode cX4_eliminate 93 = .ok (.ldc2_w 102, 3) := by decide +kernel
theorem dX4_eliminate_96 : decode cX4_eliminate 96 = .ok (.lrem, 1) := by decide +kernel
theorem dX4_eliminate_97 : decode cX4_eliminate 97 = .ok (.lastore, 1) := by decide +kernel
theorem dX4_eliminate_98 : decode cX4_eliminate 98 = .ok (.iinc 5 1, 3) := by decide +kernel
theorem dX4_eliminate_101 : decode cX4_eliminate 101 = .ok (.goto (-36), 3) := by decide +kernel
theorem dX4_eliminate_104 : decode cX4_eliminate 104 = .ok (.iconst 0, 1) := by decide +kernel
theorem dX4_eliminate_105 : decode cX4_eliminate 105 = .ok (.istore 5, 2) := by decide +kernel
theorem dX4_eliminate_107 : decode cX4_eliminate 107 = .ok (.iload 5, 2) := by decide +kernel
theorem dX4_eliminate_109 : decode cX4_eliminate 109 = .ok (.aload_n 0, 1) := by decide +kernel
theorem dX4_eliminate_110 : decode cX4_eliminate 110 = .ok (.getfield 20, 3) := by decide +kernel
theorem dX4_eliminate_113 : decode cX4_eliminate 113 = .ok (.if_icmp .ge 36, 3) := by decide +kernel
theorem dX4_eliminate_116 : decode cX4_eliminate 116 = .ok (.iload 5, 2) := by decide +kernel
theorem dX4_eliminate_118 : decode cX4_eliminate 118 = .ok (.iload_n 1, 1) := by decide +kernel
theorem dX4_eliminate_119 : decode cX4_eliminate 119 = .ok (.if_icmp .eq 24, 3) := by decide +kernel
theorem dX4_eliminate_122 : decode cX4_eliminate 122 = .ok (.aload_n 0, 1) := by decide +kernel
theorem dX4_eliminate_123 : decode cX4_eliminate 123 = .ok (.getfield 17, 3) := by decide +kernel
theorem dX4_eliminate_126 : decode cX4_eliminate 126 = .ok (.iload 5, 2) := by decide +kernel
theorem dX4_eliminate_128 : decode cX4_eliminate 128 = .ok (.aaload, 1) := by decide +kernel
theorem dX4_eliminate_129 : decode cX4_eliminate 129 = .ok (.iload_n 1, 1) := by decide +kernel
theorem dX4_eliminate_130 : decode cX4_eliminate 130 = .ok (.laload, 1) := by decide +kernel
theorem dX4_eliminate_131 : decode cX4_eliminate 131 = .ok (.lconst 0, 1) := by decide +kernel
theorem dX4_eliminate_132 : decode cX4_eliminate 132 = .ok (.lcmp, 1) := by decide +kernel
theorem dX4_eliminate_133 : decode cX4_eliminate 133 = .ok (.ifCond .eq 10, 3) := by decide +kernel
theorem dX4_eliminate_136 : decode cX4_eliminate 136 = .ok (.aload_n 0, 1) := by decide +kernel
theorem dX4_eliminate_137 : decode cX4_eliminate 137 = .ok (.iload 5, 2) := by decide +kernel
theorem dX4_eliminate_139 : decode cX4_eliminate 139 = .ok (.iload_n 1, 1) := by decide +kernel
theorem dX4_eliminate_140 : decode cX4_eliminate 140 = .ok (.invokevirtual 118, 3) := by decide +kernel
theorem dX4_eliminate_143 : decode cX4_eliminate 143 = .ok (.iinc 5 1, 3) := by decide +kernel
theorem dX4_eliminate_146 : decode cX4_eliminate 146 = .ok (.goto (-39), 3) := by decide +kernel
theorem dX4_eliminate_149 : decode cX4_eliminate 149 = .ok (.iconst 1, 1) := by decide +kernel
theorem dX4_eliminate_150 : decode cX4_eliminate 150 = .ok (.ireturn, 1) := by decide +kernel
theorem dX4_swapLines_0 : decode cX4_swapLines 0 = .ok (.iconst 0, 1) := by decide +kernel
theorem dX4_swapLines_1 : decode cX4_swapLines 1 = .ok (.istore_n 3, 1) := by decide +kernel
theorem dX4_swapLines_2 : decode cX4_swapLines 2 = .ok (.iload_n 3, 1) := by decide +kernel
theorem dX4_swapLines_3 : decode cX4_swapLines 3 = .ok (.aload_n 0, 1) := by decide +kernel
theorem dX4_swapLines_4 : decode cX4_swapLines 4 = .ok (.getfield 20, 3) := by decide +kernel
theorem dX4_swapLines_7 : decode cX4_swapLines 7 = .ok (.if_icmp .gt 45, 3) := by decide +kernel
theorem dX4_swapLines_10 : decode cX4_swapLines 10 = .ok (.aload_n 0, 1) := by decide +kernel
theorem dX4_swapLines_11 : decode cX4_swapLines 11 = .ok (.getfield 17, 3) := by decide +kernel
theorem dX4_swapLines_14 : decode cX4_swapLines 14 = .ok (.iload_n 1, 1) := by decide +kernel
theorem dX4_swapLines_15 : decode cX4_swapLines 15 = .ok (.aaload, 1) := by decide +kernel
theorem dX4_swapLines_16 : decode cX4_swapLines 16 = .ok (.iload_n 3, 1) := by decide +kernel
theorem dX4_swapLines_17 : decode cX4_swapLines 17 = .ok (.laload, 1) := by decide +kernel
theorem dX4_swapLines_18 : decode cX4_swapLines 18 = .ok (.lstore 4, 2) := by decide +kernel
theorem dX4_swapLines_20 : decode cX4_swapLines 20 = .ok (.aload_n 0, 1) := by decide +kernel
theorem dX4_swapLines_21 : decode cX4_swapLines 21 = .ok (.getfield 17, 3) := by decide +kernel
theorem dX4_swapLines_24 : decode cX4_swapLines 24 = .ok (.iload_n 1, 1) := by decide +kernel
theorem dX4_swapLines_25 : decode cX4_swapLines 25 = .ok (.aaload, 1) := by decide +kernel
theorem dX4_swapLines_26 : decode cX4_swapLines 26 = .ok (.iload_n 3, 1) := by decide +kernel
theorem dX4_swapLines_27 : decode cX4_swapLines 27 = .ok (.aload_n 0, 1) := by decide +kernel
theorem dX4_swapLines_28 : decode cX4_swapLines 28 = .ok (.getfield 17, 3) := by decide +kernel
theorem dX4_swapLines_31 : decode cX4_swapLines 31 = .ok (.iload_n 2, 1) := by decide +kernel
theorem dX4_swapLines_32 : decode cX4_swapLines 32 = .ok (.aaload, 1) := by decide +kernel
theorem dX4_swapLines_33 : decode cX4_swapLines 33 = .ok (.iload_n 3, 1) := by decide +kernel
theorem dX4_swapLines_34 : decode cX4_swapLines 34 = .ok (.laload, 1) := by decide +kernel
theorem dX4_swapLines_35 : decode cX4_swapLines 35 = .ok (.lastore, 1) := by decide +kernel
theorem dX4_swapLines_36 : decode cX4_swapLines 36 = .ok (.aload_n 0, 1) := by decide +kernel
theorem dX4_swapLines_37 : decode cX4_swapLines 37 = .ok (.getfield 17, 3) := by decide +kernel
theorem dX4_swapLines_40 : decode cX4_swapLines 40 = .ok (.iload_n 2, 1) := by decide +kernel
theorem dX4_swapLines_41 : decode cX4_swapLines 41 = .ok (.aaload, 1) := by decide +kernel
theorem dX4_swapLines_42 : decode cX4_swapLines 42 = .ok (.iload_n 3, 1) := by decide +kernel
theorem dX4_swapLines_43 : decode cX4_swapLines 43 = .ok (.lload 4, 2) := by decide +kernel
theorem dX4_swapLines_45 : decode cX4_swapLines 45 = .ok (.lastore, 1) := by decide +kernel
theorem dX4_swapLines_46 : decode cX4_swapLines 46 = .ok (.iinc 3 1, 3) := by decide +kernel
theorem dX4_swapLines_49 : decode cX4_swapLines 49 = .ok (.goto (-47), 3) := by decide +kernel
theorem dX4_swapLines_52 : decode cX4_swapLines 52 = .ok (.return_, 1) := by decide +kernel
theorem dX4_subtractLine_0 : decode cX4_subtractLine 0 = .ok (.ldc2_w 102, 3) := by decide +kernel
theorem dX4_subtractLine_3 : decode cX4_subtractLine 3 = .ok (.aload_n 0, 1) := by decide +kernel
theorem dX4_subtractLine_4 : decode cX4_subtractLine 4 = .ok (.getfield 17, 3) := by decide +kernel
theorem dX4_subtractLine_7 : decode cX4_subtractLine 7 = .ok (.iload_n 1, 1) := by decide +kernel
theorem dX4_subtractLine_8 : decode cX4_subtractLine 8 = .ok (.aaload, 1) := by decide +kernel
theorem dX4_subtractLine_9 : decode cX4_subtractLine 9 = .ok (.iload_n 2, 1) := by decide +kernel
theorem dX4_subtractLine_10 : decode cX4_subtractLine 10 = .ok (.laload, 1) := by decide +kernel
theorem dX4_subtractLine_11 : decode cX4_subtractLine 11 = .ok (.lsub, 1) := by decide +kernel
theorem dX4_subtractLine_12 : decode cX4_subtractLine 12 = .ok (.lstore_n 3, 1) := by decide +kernel
theorem dX4_subtractLine_13 : decode cX4_subtractLine 13 = .ok (.iload_n 2, 1) := by decide +kernel
theorem dX4_subtractLine_14 : decode cX4_subtractLine 14 = .ok (.istore 5, 2) := by decide +kernel
theorem dX4_subtractLine_16 : decode cX4_subtractLine 16 = .ok (.iload 5, 2) := by decide +kernel
theorem dX4_subtractLine_18 : decode cX4_subtractLine 18 = .ok (.aload_n 0, 1) := by decide +kernel
theorem dX4_subtractLine_19 : decode cX4_subtractLine 19 = .ok (.getfield 20, 3) := by decide +kernel
theorem dX4_subtractLine_22 : decode cX4_subtractLine 22 = .ok (.if_icmp .gt 43, 3) := by decide +kernel
theorem dX4_subtractLine_25 : decode cX4_subtractLine 25 = .ok (.aload_n 0, 1) := by decide +kernel
theorem dX4_subtractLine_26 : decode cX4_subtractLine 26 = .ok (.getfield 17, 3) := by decide +kernel
theorem dX4_subtractLine_29 : decode cX4_subtractLine 29 = .ok (.iload_n 1, 1) := by decide +kernel
theorem dX4_subtractLine_30 : decode cX4_subtractLine 30 = .ok (.aaload, 1) := by decide +kernel
theorem dX4_subtractLine_31 : decode cX4_subtractLine 31 = .ok (.iload 5, 2) := by decide +kernel
theorem dX4_subtractLine_33 : decode cX4_subtractLine 33 = .ok (.aload_n 0, 1) := by decide +kernel
theorem dX4_subtractLine_34 : decode cX4_subtractLine 34 = .ok (.getfield 17, 3) := by decide +kernel
theorem dX4_subtractLine_37 : decode cX4_subtractLine 37 = .ok (.iload_n 1, 1) := by decide +kernel
theorem dX4_subtractLine_38 : decode cX4_subtractLine 38 = .ok (.aaload, 1) := by decide +kernel
theorem dX4_subtractLine_39 : decode cX4_subtractLine 39 = .ok (.iload 5, 2) := by decide +kernel
theorem dX4_subtractLine_41 : decode cX4_subtractLine 41 = .ok (.laload, 1) := by decide +kernel
theorem dX4_subtractLine_42 : decode cX4_subtractLine 42 = .ok (.lload_n 3, 1) := by decide +kernel
theorem dX4_subtractLine_43 : decode cX4_subtractLine 43 = .ok (.aload_n 0, 1) := by decide +kernel
theorem dX4_subtractLine_44 : decode cX4_subtractLine 44 = .ok (.getfield 17, 3) := by decide +kernel
theorem dX4_subtractLine_47 : decode cX4_subtractLine 47 = .ok (.iload_n 2, 1) := by decide +kernel
theorem dX4_subtractLine_48 : decode cX4_subtractLine 48 = .ok (.aaload, 1) := by decide +kernel
theorem dX4_subtractLine_49 : decode cX4_subtractLine 49 = .ok (.iload 5, 2) := by decide +kernel
theorem dX4_subtractLine_51 : decode cX4_subtractLine 51 = .ok (.laload, 1) := by decide +kernel
theorem dX4_subtractLine_52 : decode cX4_subtractLine 52 = .ok (.lmul, 1) := by decide +kernel
theorem dX4_subtractLine_53 : decode cX4_subtractLine 53 = .ok (.ladd, 1) := by decide +kernel
theorem dX4_subtractLine_54 : decode cX4_subtractLine 54 = .ok (.ldc2_w 102, 3) := by decide +kernel
theorem dX4_subtractLine_57 : decode cX4_subtractLine 57 = .ok (.lrem, 1) := by decide +kernel
theorem dX4_subtractLine_58 : decode cX4_subtractLine 58 = .ok (.lastore, 1) := by decide +kernel
theorem dX4_subtractLine_59 : decode cX4_subtractLine 59 = .ok (.iinc 5 1, 3) := by decide +kernel
theorem dX4_subtractLine_62 : decode cX4_subtractLine 62 = .ok (.goto (-46), 3) := by decide +kernel
theorem dX4_subtractLine_65 : decode cX4_subtractLine 65 = .ok (.return_, 1) := by decide +kernel
theorem dX4_inverse_0 : decode cX4_inverse 0 = .ok (.lload_n 0, 1) := by decide +kernel
theorem dX4_inverse_1 : decode cX4_inverse 1 = .ok (.lstore_n 2, 1) := by decide +kernel
theorem dX4_inverse_2 : decode cX4_inverse 2 = .ok (.lconst 1, 1) := by decide +kernel
theorem dX4_inverse_3 : decode cX4_inverse 3 = .ok (.lstore 4, 2) := by decide +kernel
theorem dX4_inverse_5 : decode cX4_inverse 5 = .ok (.ldc2_w 121, 3) := by decide +kernel
theorem dX4_inverse_8 : decode cX4_inverse 8 = .ok (.lstore 6, 2) := by decide +kernel
theorem dX4_inverse_10 : decode cX4_inverse 10 = .ok (.lload 6, 2) := by decide +kernel
theorem dX4_inverse_12 : decode cX4_inverse 12 = .ok (.lconst 0, 1) := by decide +kernel
theorem dX4_inverse_13 : decode cX4_inverse 13 = .ok (.lcmp, 1) := by decide +kernel
theorem dX4_inverse_14 : decode cX4_inverse 14 = .ok (.ifCond .le 39, 3) := by decide +kernel
theorem dX4_inverse_17 : decode cX4_inverse 17 = .ok (.lload 6, 2) := by decide +kernel
theorem dX4_inverse_19 : decode cX4_inverse 19 = .ok (.lconst 1, 1) := by decide +kernel
theorem dX4_inverse_20 : decode cX4_inverse 20 = .ok (.land, 1) := by decide +kernel
theorem dX4_inverse_21 : decode cX4_inverse 21 = .ok (.lconst 1, 1) := by decide +kernel
theorem dX4_inverse_22 : decode cX4_inverse 22 = .ok (.lcmp, 1) := by decide +kernel
theorem dX4_inverse_23 : decode cX4_inverse 23 = .ok (.ifCond .ne 13, 3) := by decide +kernel
theorem dX4_inverse_26 : decode cX4_inverse 26 = .ok (.lload 4, 2) := by decide +kernel
theorem dX4_inverse_28 : decode cX4_inverse 28 = .ok (.lload_n 2, 1) := by decide +kernel
theorem dX4_inverse_29 : decode cX4_inverse 29 = .ok (.lmul, 1) := by decide +kernel
theorem dX4_inverse_30 : decode cX4_inverse 30 = .ok (.ldc2_w 102, 3) := by decide +kernel
theorem dX4_inverse_33 : decode cX4_inverse 33 = .ok (.lrem, 1) := by decide +kernel
theorem dX4_inverse_34 : decode cX4_inverse 34 = .ok (.lstore 4, 2) := by decide +kernel
theorem dX4_inverse_36 : decode cX4_inverse 36 = .ok (.lload_n 2, 1) := by decide +kernel
theorem dX4_inverse_37 : decode cX4_inverse 37 = .ok (.lload_n 2, 1) := by decide +kernel
theorem dX4_inverse_38 : decode cX4_inverse 38 = .ok (.lmul, 1) := by decide +kernel
theorem dX4_inverse_39 : decode cX4_inverse 39 = .ok (.ldc2_w 102, 3) := by decide +kernel
theorem dX4_inverse_42 : decode cX4_inverse 42 = .ok (.lrem, 1) := by decide +kernel
theorem dX4_inverse_43 : decode cX4_inverse 43 = .ok (.lstore_n 2, 1) := by decide +kernel
theorem dX4_inverse_44 : decode cX4_inverse 44 = .ok (.lload 6, 2) := by decide +kernel
theorem dX4_inverse_46 : decode cX4_inverse 46 = .ok (.iconst 1, 1) := by decide +kernel
theorem dX4_inverse_47 : decode cX4_inverse 47 = .ok (.lshr, 1) := by decide +kernel
theorem dX4_inverse_48 : decode cX4_inverse 48 = .ok (.lstore 6, 2) := by decide +kernel
theorem dX4_inverse_50 : decode cX4_inverse 50 = .ok (.goto (-40), 3) := by decide +kernel
theorem dX4_inverse_53 : decode cX4_inverse 53 = .ok (.lload 4, 2) := by decide +kernel
theorem dX4_inverse_55 : decode cX4_inverse 55 = .ok (.lreturn, 1) := by decide +kernel
theorem dX5_init_0 : decode cX5_init 0 = .ok (.aload_n 0, 1) := by decide +kernel
theorem dX5_init_1 : decode cX5_init 1 = .ok (.invokespecial 3, 3) := by decide +kernel
theorem dX5_init_4 : decode cX5_init 4 = .ok (.aload_n 0, 1) := by decide +kernel
theorem dX5_init_5 : decode cX5_init 5 = .ok (.iconst 3, 1) := by decide +kernel
theorem dX5_init_6 : decode cX5_init 6 = .ok (.putfield 9, 3) := by decide +kernel
theorem dX5_init_9 : decode cX5_init 9 = .ok (.aload_n 0, 1) := by decide +kernel
theorem dX5_init_10 : decode cX5_init 10 = .ok (.bipush 12, 2) := by decide +kernel
theorem dX5_init_12 : decode cX5_init 12 = .ok (.newarray .int, 2) := by decide +kernel
theorem dX5_init_14 : decode cX5_init 14 = .ok (.putfield 15, 3) := by decide +kernel
theorem dX5_init_17 : decode cX5_init 17 = .ok (.aload_n 0, 1) := by decide +kernel
theorem dX5_init_18 : decode cX5_init 18 = .ok (.iconst 2, 1) := by decide +kernel
theorem dX5_init_19 : decode cX5_init 19 = .ok (.bipush 12, 2) := by decide +kernel
theorem dX5_init_21 : decode cX5_init 21 = .ok (.multianewarray 19 2, 4) := by decide +kernel
theorem dX5_init_25 : decode cX5_init 25 = .ok (.putfield 21, 3) := by decide +kernel
theorem dX5_init_28 : decode cX5_init 28 = .ok (.aload_n 0, 1) := by decide +kernel
theorem dX5_init_29 : decode cX5_init 29 = .ok (.iconst 2, 1) := by decide +kernel
theorem dX5_init_30 : decode cX5_init 30 = .ok (.bipush 20, 2) := by decide +kernel
theorem dX5_init_32 : decode cX5_init 32 = .ok (.multianewarray 19 2, 4) := by decide +kernel
theorem dX5_init_36 : decode cX5_init 36 = .ok (.putfield 24, 3) := by decide +kernel
theorem dX5_init_39 : decode cX5_init 39 = .ok (.aload_n 0, 1) := by decide +kernel
theorem dX5_init_40 : decode cX5_init 40 = .ok (.iconst 2, 1) := by decide +kernel
theorem dX5_init_41 : decode cX5_init 41 = .ok (.bipush 6, 2) := by decide +kernel
theorem dX5_init_43 : decode cX5_init 43 = .ok (.multianewarray 19 2, 4) := by decide +kernel
theorem dX5_init_47 : decode cX5_init 47 = .ok (.putfield 27, 3) := by decide +kernel
theorem dX5_init_50 : decode cX5_init 50 = .ok (.aload_n 0, 1) := by decide +kernel
theorem dX5_init_51 : decode cX5_init 51 = .ok (.bipush 60, 2) := by decide +kernel
theorem dX5_init_53 : decode cX5_init 53 = .ok (.newarray .int, 2) := by decide +kernel
theorem dX5_init_55 : decode cX5_init 55 = .ok (.putfield 30, 3) := by decide +kernel
theorem dX5_init_58 : decode cX5_init 58 = .ok (.aload_n 0, 1) := by decide +kernel
theorem dX5_init_59 : decode cX5_init 59 = .ok (.aload_n 1, 1) := by decide +kernel
theorem dX5_init_60 : decode cX5_init 60 = .ok (.putfield 33, 3) := by decide +kernel
theorem dX5_init_63 : decode cX5_init 63 = .ok (.return_, 1) := by decide +kernel
set_option maxRecDepth 20000 in
theorem ggX5_takeFrom_X9_copyAll : GoodIn wsX5_takeFrom wsX9_copyAll := goodIn_r _ [9, 10, 11, 12, 13, 14, 15, 16, 17] (by decide +kernel) (by decide +kernel)
set_option maxRecDepth 20000 in
theorem gX5_takeFrom_X9_copyAll_n37 : GoodIn wsX5_takeFrom (wsX9_copyAll) := ggX5_takeFrom_X9_copyAll
theorem dX5_takeFrom_0 : decode cX5_takeFrom 0 = .ok (.aload_n 0, 1) := by decide +kernel
theorem dX5_takeFrom_1 : decode cX5_takeFrom 1 = .ok (.aload_n 1, 1) := by decide +kernel
theorem dX5_takeFrom_2 : decode cX5_takeFrom 2 = .ok (.getfield 9, 3) := by decide +kernel
theorem dX5_takeFrom_5 : decode cX5_takeFrom 5 = .ok (.putfield 9, 3) := by decide +kernel
theorem dX5_takeFrom_8 : decode cX5_takeFrom 8 = .ok (.aload_n 1, 1) := by decide +kernel
theorem dX5_takeFrom_9 : decode cX5_takeFrom 9 = .ok (.getfield 15, 3) := by decide +kernel
theorem dX5_takeFrom_12 : decode cX5_takeFrom 12 = .ok (.aload_n 0, 1) := by decide +kernel
theorem dX5_takeFrom_13 : decode cX5_takeFrom 13 = .ok (.getfield 15, 3) := by decide +kernel
theorem dX5_takeFrom_16 : decode cX5_takeFrom 16 = .ok (.invokestatic 37, 3) := by decide +kernel
theorem dX5_takeFrom_19 : decode cX5_takeFrom 19 = .ok (.aload_n 1, 1) := by decide +kernel
theorem dX5_takeFrom_20 : decode cX5_takeFrom 20 = .ok (.getfield 30, 3) := by decide +kernel
theorem dX5_takeFrom_23 : decode cX5_takeFrom 23 = .ok (.aload_n 0, 1) := by decide +kernel
theorem dX5_takeFrom_24 : decode cX5_takeFrom 24 = .ok (.getfield 30, 3) := by decide +kernel
theorem dX5_takeFrom_27 : decode cX5_takeFrom 27 = .ok (.invokestatic 37, 3) := by decide +kernel
theorem dX5_takeFrom_30 : decode cX5_takeFrom 30 = .ok (.iconst 0, 1) := by decide +kernel
theorem dX5_takeFrom_31 : decode cX5_takeFrom 31 = .ok (.istore_n 2, 1) := by decide +kernel
theorem dX5_takeFrom_32 : decode cX5_takeFrom 32 = .ok (.iload_n 2, 1) := by decide +kernel
theorem dX5_takeFrom_33 : decode cX5_takeFrom 33 = .ok (.iconst 2, 1) := by decide +kernel
theorem dX5_takeFrom_34 : decode cX5_takeFrom 34 = .ok (.if_icmp .ge 54, 3) := by decide +kernel
theorem dX5_takeFrom_37 : decode cX5_takeFrom 37 = .ok (.aload_n 1, 1) := by decide +kernel
theorem dX5_takeFrom_38 : decode cX5_takeFrom 38 = .ok (.getfield 21, 3) := by decide +kernel
theorem dX5_takeFrom_41 : decode cX5_takeFrom 41 = .ok (.iload_n 2, 1) := by decide +kernel
theorem dX5_takeFrom_42 : decode cX5_takeFrom 42 = .ok (.aaload, 1) := by decide +kernel
theorem dX5_takeFrom_43 : decode cX5_takeFrom 43 = .ok (.aload_n 0, 1) := by decide +kernel
theorem dX5_takeFrom_44 : decode cX5_takeFrom 44 = .ok (.getfield 21, 3) := by decide +kernel
theorem dX5_takeFrom_47 : decode cX5_takeFrom 47 = .ok (.iload_n 2, 1) := by decide +kernel
theorem dX5_takeFrom_48 : decode cX5_takeFrom 48 = .ok (.aaload, 1) := by decide +kernel
theorem dX5_takeFrom_49 : decode cX5_takeFrom 49 = .ok (.invokestatic 37, 3) := by decide +kernel
theorem dX5_takeFrom_52 : decode cX5_takeFrom 52 = .ok (.aload_n 1, 1) := by decide +kernel
theorem dX5_takeFrom_53 : decode cX5_takeFrom 53 = .ok (.getfield 24, 3) := by decide +kernel
theorem dX5_takeFrom_56 : decode cX5_takeFrom 56 = .ok (.iload_n 2, 1) := by decide +kernel
theorem dX5_takeFrom_57 : decode cX5_takeFrom 57 = .ok (.aaload, 1) := by decide +kernel
theorem dX5_takeFrom_58 : decode cX5_takeFrom 58 = .ok (.aload_n 0, 1) := by decide +kernel
theorem dX5_takeFrom_59 : decode cX5_takeFrom 59 = .ok (.getfield 24, 3) := by decide +kernel
theorem dX5_takeFrom_62 : decode cX5_takeFrom 62 = .ok (.iload_n 2, 1) := by decide +kernel
theorem dX5_takeFrom_63 : decode cX5_takeFrom 63 = .ok (.aaload, 1) := by decide +kernel
theorem dX5_takeFrom_64 : decode cX5_takeFrom 64 = .ok (.invokestatic 37, 3) := by decide +kernel
theorem dX5_takeFrom_67 : decode cX5_takeFrom 67 = .ok (.aload_n 1, 1) := by decide +kernel
theorem dX5_takeFrom_68 : decode cX5_takeFrom 68 = .ok (.getfield 27, 3) := by decide +kernel
theorem dX5_takeFrom_71 : decode cX5_takeFrom 71 = .ok (.iload_n 2, 1) := by decide +kernel
theorem dX5_takeFrom_72 : decode cX5_takeFrom 72 = .ok (.aaload, 1) := by decide +kernel
theorem dX5_takeFrom_73 : decode cX5_takeFrom 73 = .ok (.aload_n 0, 1) := by decide +kernel
theorem dX5_takeFrom_74 : decode cX5_takeFrom 74 = .ok (.getfield 27, 3) := by decide +kernel
theorem dX5_takeFrom_77 : decode cX5_takeFrom 77 = .ok (.iload_n 2, 1) := by decide +kernel
theorem dX5_takeFrom_78 : decode cX5_takeFrom 78 = .ok (.aaload, 1) := by decide +kernel
theorem dX5_takeFrom_79 : decode cX5_takeFrom 79 = .ok (.invokestatic 37, 3) := by decide +kernel
theorem dX5_takeFrom_82 : decode cX5_takeFrom 82 = .ok (.iinc 2 1, 3) := by decide +kernel
theorem dX5_takeFrom_85 : decode cX5_takeFrom 85 = .ok (.goto (-53), 3) := by decide +kernel
theorem dX5_takeFrom_88 : decode cX5_takeFrom 88 = .ok (.return_, 1) := by decide +kernel
theorem dX5_uses_0 : decode cX5_uses 0 = .ok (.aload_n 0, 1) := by decide +kernel
theorem dX5_uses_1 : decode cX5_uses 1 = .ok (.getfield 30, 3) := by decide +kernel
theorem dX5_uses_4 : decode cX5_uses 4 = .ok (.iload_n 1, 1) := by decide +kernel
theorem dX5_uses_5 : decode cX5_uses 5 = .ok (.iaload, 1) := by decide +kernel
theorem dX5_uses_6 : decode cX5_uses 6 = .ok (.ifCond .ne 7, 3) := by decide +kernel
theorem dX5_uses_9 : decode cX5_uses 9 = .ok (.iconst 1, 1) := by decide +kernel
theorem dX5_uses_10 : decode cX5_uses 10 = .ok (.goto 4, 3) := by decide +kernel
theorem dX5_uses_13 : decode cX5_uses 13 = .ok (.iconst 0, 1) := by decide +kernel
theorem dX5_uses_14 : decode cX5_uses 14 = .ok (.ireturn, 1) := by decide +kernel
set_option maxRecDepth 20000 in
theorem ggX5_countRows_X5_uses : GoodIn wsX5_countRows wsX5_uses := goodIn_r _ [7, 8, 9, 10, 11, 12, 13, 14, 15] (by decide +kernel) (by decide +kernel)
set_option maxRecDepth 20000 in
theorem gX5_countRows_X5_uses : GoodIn wsX5_countRows (wsV RX5 46 RX5 yX5_uses wsX5_uses) := goodIn_app (goodIn_of _ (by decide +kernel)) ggX5_countRows_X5_uses
theorem dX5_countRows_0 : decode cX5_countRows 0 = .ok (.iconst 0, 1) := by decide +kernel
theorem dX5_countRows_1 : decode cX5_countRows 1 = .ok (.istore_n 3, 1) := by decide +kernel
theorem dX5_countRows_2 : decode cX5_countRows 2 = .ok (.iconst 0, 1) := by decide +kernel
theorem dX5_countRows_3 : decode cX5_countRows 3 = .ok (.istore 4, 2) := by decide +kernel
theorem dX5_countRows_5 : decode cX5_countRows 5 = .ok (.iload 4, 2) := by decide +kernel
theorem dX5_countRows_7 : decode cX5_countRows 7 = .ok (.aload_n 0, 1) := by decide +kernel
theorem dX5_countRows_8 : decode cX5_countRows 8 = .ok (.getfield 33, 3) := by decide +kernel
theorem dX5_countRows_11 : decode cX5_countRows 11 = .ok (.getfield 41, 3) := by decide +kernel
theorem dX5_countRows_14 : decode cX5_countRows 14 = .ok (.iconst 3, 1) := by decide +kernel
theorem dX5_countRows_15 : decode cX5_countRows 15 = .ok (.iaload, 1) := by decide +kernel
theorem dX5_countRows_16 : decode cX5_countRows 16 = .ok (.if_icmp .ge 29, 3) := by decide +kernel
theorem dX5_countRows_19 : decode cX5_countRows 19 = .ok (.aload_n 1, 1) := by decide +kernel
theorem dX5_countRows_20 : decode cX5_countRows 20 = .ok (.iload 4, 2) := by decide +kernel
theorem dX5_countRows_22 : decode cX5_countRows 22 = .ok (.iaload, 1) := by decide +kernel
theorem dX5_countRows_23 : decode cX5_countRows 23 = .ok (.iload_n 2, 1) := by decide +kernel
theorem dX5_countRows_24 : decode cX5_countRows 24 = .ok (.if_icmp .ne 15, 3) := by decide +kernel
theorem dX5_countRows_27 : decode cX5_countRows 27 = .ok (.aload_n 0, 1) := by decide +kernel
theorem dX5_countRows_28 : decode cX5_countRows 28 = .ok (.iload 4, 2) := by decide +kernel
theorem dX5_countRows_30 : decode cX5_countRows 30 = .ok (.invokevirtual 46, 3) := by decide +kernel
theorem dX5_countRows_33 : decode cX5_countRows 33 = .ok (.ifCond .eq 6, 3) := by decide +kernel
theorem dX5_countRows_36 : decode cX5_countRows 36 = .ok (.iinc 3 1, 3) := by decide +kernel
theorem dX5_countRows_39 : decode cX5_countRows 39 = .ok (.iinc 4 1, 3) := by decide +kernel
theorem dX5_countRows_42 : decode cX5_countRows 42 = .ok (.goto (-37), 3) := by decide +kernel
theorem dX5_countRows_45 : decode cX5_countRows 45 = .ok (.iload_n 3, 1) := by decide +kernel
theorem dX5_countRows_46 : decode cX5_countRows 46 = .ok (.ireturn, 1) := by decide +kernel
theorem dX5_isFixed_0 : decode cX5_isFixed 0 = .ok (.aload_n 0, 1) := by decide +kernel
theorem dX5_isFixed_1 : decode cX5_isFixed 1 = .ok (.getfield 33, 3) := by decide +kernel
theorem dX5_isFixed_4 : decode cX5_isFixed 4 = .ok (.getfield 50, 3) := by decide +kernel
theorem dX5_isFixed_7 : decode cX5_isFixed 7 = .ok (.iload_n 1, 1) := by decide +kernel
theorem dX5_isFixed_8 : decode cX5_isFixed 8 = .ok (.iaload, 1) := by decide +kernel
theorem dX5_isFixed_9 : decode cX5_isFixed 9 = .ok (.aload_n 0, 1) := by decide +kernel
theorem dX5_isFixed_10 : decode cX5_isFixed 10 = .ok (.getfield 9, 3) := by decide +kernel
theorem dX5_isFixed_13 : decode cX5_isFixed 13 = .ok (.iand, 1) := by decide +kernel
theorem dX5_isFixed_14 : decode cX5_isFixed 14 = .ok (.ifCond .eq 7, 3) := by decide +kernel
theorem dX5_isFixed_17 : decode cX5_isFixed 17 = .ok (.iconst 1, 1) := by decide +kernel
theorem dX5_isFixed_18 : decode cX5_isFixed 18 = .ok (.goto 4, 3) := by decide +kernel
theorem dX5_isFixed_21 : decode cX5_isFixed 21 = .ok (.iconst 0, 1) := by decide +kernel
theorem dX5_isFixed_22 : decode cX5_isFixed 22 = .ok (.ireturn, 1) := by decide +kernel
set_option maxRecDepth 20000 in
theorem ggX5_countFixed_X5_isFixed : GoodIn wsX5_countFixed wsX5_isFixed := goodIn_r _ [7, 1, 8, 9, 10, 11, 12, 13, 14, 15, 16, 17, 18, 19, 20, 21, 22, 23, 24, 25, 26, 27, 28] (by decide +kernel) (by decide +kernel)
set_option maxRecDepth 20000 in
theorem gX5_countFixed_X5_isFixed : GoodIn wsX5_countFixed (wsV RX5 53 RX5 yX5_isFixed wsX5_isFixed) := goodIn_app (goodIn_of _ (by decide +kernel)) ggX5_countFixed_X5_isFixed
theorem dX5_countFixed_0 : decode cX5_countFixed 0 = .ok (.iconst 0, 1) := by decide +kernel
theorem dX5_countFixed_1 : decode cX5_countFixed 1 = .ok (.istore_n 1, 1) := by decide +kernel
theorem dX5_countFixed_2 : decode cX5_countFixed 2 = .ok (.iconst 0, 1) := by decide +kernel
theorem dX5_countFixed_3 : decode cX5_countFixed 3 = .ok (.istore_n 2, 1) := by decide +kernel
theorem dX5_countFixed_4 : decode cX5_countFixed 4 = .ok (.iload_n 2, 1) := by decide +kernel
theorem dX5_countFixed_5 : decode cX5_countFixed 5 = .ok (.aload_n 0, 1) := by decide +kernel
theorem dX5_countFixed_6 : decode cX5_countFixed 6 = .ok (.getfield 33, 3) := by decide +kernel
theorem dX5_countFixed_9 : decode cX5_countFixed 9 = .ok (.getfield 41, 3) := by decide +kernel
theorem dX5_countFixed_12 : decode cX5_countFixed 12 = .ok (.iconst 2, 1) := by decide +kernel
theorem dX5_countFixed_13 : decode cX5_countFixed 13 = .ok (.iaload, 1) := by decide +kernel
theorem dX5_countFixed_14 : decode cX5_countFixed 14 = .ok (.if_icmp .ge 20, 3) := by decide +kernel
theorem dX5_countFixed_17 : decode cX5_countFixed 17 = .ok (.aload_n 0, 1) := by decide +kernel
theorem dX5_countFixed_18 : decode cX5_countFixed 18 = .ok (.iload_n 2, 1) := by decide +kernel
theorem dX5_countFixed_19 : decode cX5_countFixed 19 = .ok (.invokevirtual 53, 3) := by decide +kernel
theorem dX5_countFixed_22 : decode cX5_countFixed 22 = .ok (.ifCond .eq 6, 3) := by decide +kernel
theorem dX5_countFixed_25 : decode cX5_countFixed 25 = .ok (.iinc 1 1, 3) := by decide +kernel
theorem dX5_countFixed_28 : decode cX5_countFixed 28 = .ok (.iinc 2 1, 3) := by decide +kernel
theorem dX5_countFixed_31 : decode cX5_countFixed 31 = .ok (.goto (-27), 3) := by decide +kernel
theorem dX5_countFixed_34 : decode cX5_countFixed 34 = .ok (.iload_n 1, 1) := by decide +kernel
theorem dX5_countFixed_35 : decode cX5_countFixed 35 = .ok (.ireturn, 1) := by decide +kernel
theorem dX5_fixedAt_0 : decode cX5_fixedAt 0 = .ok (.bipush 100, 2) := by decide +kernel
theorem dX5_fixedAt_2 : decode cX5_fixedAt 2 = .ok (.aload_n 0, 1) := by decide +kernel
theorem dX5_fixedAt_3 : decode cX5_fixedAt 3 = .ok (.getfield 33, 3) := by decide +kernel
theorem dX5_fixedAt_6 : decode cX5_fixedAt 6 = .ok (.getfield 56, 3) := by decide +kernel
theorem dX5_fixedAt_9 : decode cX5_fixedAt 9 = .ok (.iload_n 2, 1) := by decide +kernel
theorem dX5_fixedAt_10 : decode cX5_fixedAt 10 = .ok (.aaload, 1) := by decide +kernel
theorem dX5_fixedAt_11 : decode cX5_fixedAt 11 = .ok (.iload_n 1, 1) := by decide +kernel
theorem dX5_fixedAt_12 : decode cX5_fixedAt 12 = .ok (.iaload, 1) := by decide +kernel
theorem dX5_fixedAt_13 : decode cX5_fixedAt 13 = .ok (.imul, 1) := by decide +kernel
theorem dX5_fixedAt_14 : decode cX5_fixedAt 14 = .ok (.ireturn, 1) := by decide +kernel
set_option maxRecDepth 20000 in
theorem ggX5_placeFixed_X5_isFixed : GoodIn wsX5_placeFixed wsX5_isFixed := goodIn_r _ [8, 1, 9, 10, 16, 17, 18, 19, 20, 21, 22, 23, 24, 25, 26, 27, 28, 29, 30, 31, 32, 33, 34] (by decide +kernel) (by decide +kernel)
set_option maxRecDepth 20000 in
theorem gX5_placeFixed_X5_isFixed : GoodIn wsX5_placeFixed (wsV RX5 53 RX5 yX5_isFixed wsX5_isFixed) := goodIn_app (goodIn_of _ (by decide +kernel)) ggX5_placeFixed_X5_isFixed
set_option maxRecDepth 20000 in
theorem ggX5_placeFixed_X5_fixedAt : GoodIn wsX5_placeFixed wsX5_fixedAt := goodIn_r _ [14, 1, 15, 16, 17, 18, 19, 20, 21, 22, 23, 24, 25, 26, 27, 28, 29, 30, 31, 32, 33, 34] (by decide +kernel) (by decide +kernel)
set_option maxRecDepth 20000 in
theorem gX5_placeFixed_X5_fixedAt : GoodIn wsX5_placeFixed (wsV RX5 59 RX5 yX5_fixedAt wsX5_fixedAt) := goodIn_app (goodIn_of _ (by decide +kernel)) ggX5_placeFixed_X5_fixedAt
theorem dX5_placeFixed_0 : decode cX5_placeFixed 0 = .ok (.iconst 0, 1) := by decide +kernel
theorem dX5_placeFixed_1 : decode cX5_placeFixed 1 = .ok (.istore_n 1, 1) := by decide +kernel
theorem dX5_placeFixed_2 : decode cX5_placeFixed 2 = .ok (.iload_n 1, 1) := by decide +kernel
theorem dX5_placeFixed_3 : decode cX5_placeFixed 3 = .ok (.aload_n 0, 1) := by decide +kernel
theorem dX5_placeFixed_4 : decode cX5_placeFixed 4 = .ok (.getfield 33, 3) := by decide +kernel
theorem dX5_placeFixed_7 : decode cX5_placeFixed 7 = .ok (.getfield 41, 3) := by decide +kernel
theorem dX5_placeFixed_10 : decode cX5_placeFixed 10 = .ok (.iconst 2, 1) := by decide +kernel
theorem dX5_placeFixed_11 : decode cX5_placeFixed 11 = .ok (.iaload, 1) := by decide +kernel
theorem dX5_placeFixed_12 : decode cX5_placeFixed 12 = .ok (.if_icmp .ge 48, 3) := by decide +kernel
theorem dX5_placeFixed_15 : decode cX5_placeFixed 15 = .ok (.aload_n 0, 1) := by decide +kernel
theorem dX5_placeFixed_16 : decode cX5_placeFixed 16 = .ok (.iload_n 1, 1) := by decide +kernel
theorem dX5_placeFixed_17 : decode cX5_placeFixed 17 = .ok (.invokevirtual 53, 3) := by decide +kernel
theorem dX5_placeFixed_20 : decode cX5_placeFixed 20 = .ok (.ifCond .ne 6, 3) := by decide +kernel
theorem dX5_placeFixed_23 : decode cX5_placeFixed 23 = .ok (.goto 31, 3) := by decide +kernel
theorem dX5_placeFixed_26 : decode cX5_placeFixed 26 = .ok (.aload_n 0, 1) := by decide +kernel
theorem dX5_placeFixed_27 : decode cX5_placeFixed 27 = .ok (.getfield 24, 3) := by decide +kernel
theorem dX5_placeFixed_30 : decode cX5_placeFixed 30 = .ok (.iconst 0, 1) := by decide +kernel
theorem dX5_placeFixed_31 : decode cX5_placeFixed 31 = .ok (.aaload, 1) := by decide +kernel
theorem dX5_placeFixed_32 : decode cX5_placeFixed 32 = .ok (.iload_n 1, 1) := by decide +kernel
theorem dX5_placeFixed_33 : decode cX5_placeFixed 33 = .ok (.aload_n 0, 1) := by decide +kernel
theorem dX5_placeFixed_34 : decode cX5_placeFixed 34 = .ok (.iload_n 1, 1) := by decide +kernel
theorem dX5_placeFixed_35 : decode cX5_placeFixed 35 = .ok (.iconst 0, 1) := by decide +kernel
theorem dX5_placeFixed_36 : decode cX5_placeFixed 36 = .ok (.invokevirtual 59, 3) := by decide +kernel
theorem dX5_placeFixed_39 : decode cX5_placeFixed 39 = .ok (.iastore, 1) := by decide +kernel
theorem dX5_placeFixed_40 : decode cX5_placeFixed 40 = .ok (.aload_n 0, 1) := by decide +kernel
theorem dX5_placeFixed_41 : decode cX5_placeFixed 41 = .ok (.getfield 24, 3) := by decide +kernel
theorem dX5_placeFixed_44 : decode cX5_placeFixed 44 = .ok (.iconst 1, 1) := by decide +kernel
theorem dX5_placeFixed_45 : decode cX5_placeFixed 45 = .ok (.aaload, 1) := by decide +kernel
theorem dX5_placeFixed_46 : decode cX5_placeFixed 46 = .ok (.iload_n 1, 1) := by decide +kernel
theorem dX5_placeFixed_47 : decode cX5_placeFixed 47 = .ok (.aload_n 0, 1) := by decide +kernel
theorem dX5_placeFixed_48 : decode cX5_placeFixed 48 = .ok (.iload_n 1, 1) := by decide +kernel
theorem dX5_placeFixed_49 : decode cX5_placeFixed 49 = .ok (.iconst 1, 1) := by decide +kernel
theorem dX5_placeFixed_50 : decode cX5_placeFixed 50 = .ok (.invokevirtual 59, 3) := by decide +kernel
theorem dX5_placeFixed_53 : decode cX5_placeFixed 53 = .ok (.iastore, 1) := by decide +kernel
theorem dX5_placeFixed_54 : decode cX5_placeFixed 54 = .ok (.iinc 1 1, 3) := by decide +kernel
theorem dX5_placeFixed_57 : decode cX5_placeFixed 57 = .ok (.goto (-55), 3) := by decide +kernel
theorem dX5_placeFixed_60 : decode cX5_placeFixed 60 = .ok (.return_, 1) := by decide +kernel
set_option maxRecDepth 20000 in
theorem ggX5_turned_X8_turnedBy : GoodIn wsX5_turned wsX8_turnedBy := goodIn_r _ [8, 9, 17, 18, 19, 20, 21, 22, 23, 24, 25, 26, 27, 28] (by decide +kernel) (by decide +kernel)
set_option maxRecDepth 20000 in
theorem gX5_turned_X8_turnedBy : GoodIn wsX5_turned (wsV RX5 66 RX8 yX8_turnedBy wsX8_turnedBy) := goodIn_app (goodIn_of _ (by decide +kernel)) ggX5_turned_X8_turnedBy
theorem dX5_turned_0 : decode cX5_turned 0 = .ok (.aload_n 0, 1) := by decide +kernel
theorem dX5_turned_1 : decode cX5_turned 1 = .ok (.getfield 33, 3) := by decide +kernel
theorem dX5_turned_4 : decode cX5_turned 4 = .ok (.aload_n 0, 1) := by decide +kernel
theorem dX5_turned_5 : decode cX5_turned 5 = .ok (.getfield 15, 3) := by decide +kernel
theorem dX5_turned_8 : decode cX5_turned 8 = .ok (.aload_n 0, 1) := by decide +kernel
theorem dX5_turned_9 : decode cX5_turned 9 = .ok (.getfield 33, 3) := by decide +kernel
theorem dX5_turned_12 : decode cX5_turned 12 = .ok (.getfield 63, 3) := by decide +kernel
theorem dX5_turned_15 : decode cX5_turned 15 = .ok (.iload_n 1, 1) := by decide +kernel
theorem dX5_turned_16 : decode cX5_turned 16 = .ok (.iaload, 1) := by decide +kernel
theorem dX5_turned_17 : decode cX5_turned 17 = .ok (.iaload, 1) := by decide +kernel
theorem dX5_turned_18 : decode cX5_turned 18 = .ok (.iload_n 1, 1) := by decide +kernel
theorem dX5_turned_19 : decode cX5_turned 19 = .ok (.iload_n 2, 1) := by decide +kernel
theorem dX5_turned_20 : decode cX5_turned 20 = .ok (.invokevirtual 66, 3) := by decide +kernel
theorem dX5_turned_23 : decode cX5_turned 23 = .ok (.ireturn, 1) := by decide +kernel
set_option maxRecDepth 20000 in
theorem ggX5_putAt_X8_turnedBy : GoodIn wsX5_putAt wsX8_turnedBy := goodIn_r _ [9, 10, 18, 19, 20, 21, 22, 23, 24, 25, 26, 27, 28, 29] (by decide +kernel) (by decide +kernel)
set_option maxRecDepth 20000 in
theorem gX5_putAt_X8_turnedBy : GoodIn wsX5_putAt (wsV RX5 66 RX8 yX8_turnedBy wsX8_turnedBy) := goodIn_app (goodIn_of _ (by decide +kernel)) ggX5_putAt_X8_turnedBy
theorem dX5_putAt_0 : decode cX5_putAt 0 = .ok (.aload_n 0, 1) := by decide +kernel
theorem dX5_putAt_1 : decode cX5_putAt 1 = .ok (.getfield 33, 3) := by decide +kernel
theorem dX5_putAt_4 : decode cX5_putAt 4 = .ok (.getfield 63, 3) := by decide +kernel
theorem dX5_putAt_7 : decode cX5_putAt 7 = .ok (.iload_n 1, 1) := by decide +kernel
theorem dX5_putAt_8 : decode cX5_putAt 8 = .ok (.iaload, 1) := by decide +kernel
theorem dX5_putAt_9 : decode cX5_putAt 9 = .ok (.istore_n 3, 1) := by decide +kernel
theorem dX5_putAt_10 : decode cX5_putAt 10 = .ok (.aload_n 0, 1) := by decide +kernel
theorem dX5_putAt_11 : decode cX5_putAt 11 = .ok (.getfield 21, 3) := by decide +kernel
theorem dX5_putAt_14 : decode cX5_putAt 14 = .ok (.iload_n 2, 1) := by decide +kernel
theorem dX5_putAt_15 : decode cX5_putAt 15 = .ok (.aaload, 1) := by decide +kernel
theorem dX5_putAt_16 : decode cX5_putAt 16 = .ok (.iload_n 3, 1) := by decide +kernel
theorem dX5_putAt_17 : decode cX5_putAt 17 = .ok (.iaload, 1) := by decide +kernel
theorem dX5_putAt_18 : decode cX5_putAt 18 = .ok (.aload_n 0, 1) := by decide +kernel
theorem dX5_putAt_19 : decode cX5_putAt 19 = .ok (.getfield 33, 3) := by decide +kernel
theorem dX5_putAt_22 : decode cX5_putAt 22 = .ok (.aload_n 0, 1) := by decide +kernel
theorem dX5_putAt_23 : decode cX5_putAt 23 = .ok (.getfield 15, 3) := by decide +kernel
theorem dX5_putAt_26 : decode cX5_putAt 26 = .ok (.iload_n 3, 1) := by decide +kernel
theorem dX5_putAt_27 : decode cX5_putAt 27 = .ok (.iaload, 1) := by decide +kernel
theorem dX5_putAt_28 : decode cX5_putAt 28 = .ok (.iload_n 1, 1) := by decide +kernel
theorem dX5_putAt_29 : decode cX5_putAt 29 = .ok (.iload_n 2, 1) := by decide +kernel
theorem dX5_putAt_30 : decode cX5_putAt 30 = .ok (.invokevirtual 66, 3) := by decide +kernel
theorem dX5_putAt_33 : decode cX5_putAt 33 = .ok (.iadd, 1) := by decide +kernel
theorem dX5_putAt_34 : decode cX5_putAt 34 = .ok (.ireturn, 1) := by decide +kernel
set_option maxRecDepth 20000 in
theorem ggX5_miss_X5_putAt : GoodIn wsX5_miss wsX5_putAt := goodIn_r _ [8, 2, 9, 10, 11, 12, 13, 14, 15, 16, 17, 18, 19, 20, 21, 22, 23, 24, 25, 26, 27, 28, 29, 30, 31, 32, 33, 34, 35, 36] (by decide +kernel) (by decide +kernel)
set_option maxRecDepth 20000 in
theorem gX5_miss_X5_putAt : GoodIn wsX5_miss (wsV RX5 73 RX5 yX5_putAt wsX5_putAt) := goodIn_app (goodIn_of _ (by decide +kernel)) ggX5_miss_X5_putAt
theorem dX5_miss_0 : decode cX5_miss 0 = .ok (.aload_n 0, 1) := by decide +kernel
theorem dX5_miss_1 : decode cX5_miss 1 = .ok (.getfield 24, 3) := by decide +kernel
theorem dX5_miss_4 : decode cX5_miss 4 = .ok (.iload_n 2, 1) := by decide +kernel
theorem dX5_miss_5 : decode cX5_miss 5 = .ok (.aaload, 1) := by decide +kernel
theorem dX5_miss_6 : decode cX5_miss 6 = .ok (.aload_n 0, 1) := by decide +kernel
theorem dX5_miss_7 : decode cX5_miss 7 = .ok (.getfield 33, 3) := by decide +kernel
theorem dX5_miss_10 : decode cX5_miss 10 = .ok (.getfield 70, 3) := by decide +kernel
theorem dX5_miss_13 : decode cX5_miss 13 = .ok (.iload_n 1, 1) := by decide +kernel
theorem dX5_miss_14 : decode cX5_miss 14 = .ok (.iaload, 1) := by decide +kernel
theorem dX5_miss_15 : decode cX5_miss 15 = .ok (.iaload, 1) := by decide +kernel
theorem dX5_miss_16 : decode cX5_miss 16 = .ok (.aload_n 0, 1) := by decide +kernel
theorem dX5_miss_17 : decode cX5_miss 17 = .ok (.iload_n 1, 1) := by decide +kernel
theorem dX5_miss_18 : decode cX5_miss 18 = .ok (.iload_n 2, 1) := by decide +kernel
theorem dX5_miss_19 : decode cX5_miss 19 = .ok (.invokevirtual 73, 3) := by decide +kernel
theorem dX5_miss_22 : decode cX5_miss 22 = .ok (.isub, 1) := by decide +kernel
theorem dX5_miss_23 : decode cX5_miss 23 = .ok (.ireturn, 1) := by decide +kernel
theorem dX5_centreAt_0 : decode cX5_centreAt 0 = .ok (.aload_n 0, 1) := by decide +kernel
theorem dX5_centreAt_1 : decode cX5_centreAt 1 = .ok (.getfield 27, 3) := by decide +kernel
theorem dX5_centreAt_4 : decode cX5_centreAt 4 = .ok (.iload_n 2, 1) := by decide +kernel
theorem dX5_centreAt_5 : decode cX5_centreAt 5 = .ok (.aaload, 1) := by decide +kernel
theorem dX5_centreAt_6 : decode cX5_centreAt 6 = .ok (.aload_n 0, 1) := by decide +kernel
theorem dX5_centreAt_7 : decode cX5_centreAt 7 = .ok (.getfield 33, 3) := by decide +kernel
theorem dX5_centreAt_10 : decode cX5_centreAt 10 = .ok (.getfield 76, 3) := by decide +kernel
theorem dX5_centreAt_13 : decode cX5_centreAt 13 = .ok (.iload_n 1, 1) := by decide +kernel
theorem dX5_centreAt_14 : decode cX5_centreAt 14 = .ok (.iaload, 1) := by decide +kernel
theorem dX5_centreAt_15 : decode cX5_centreAt 15 = .ok (.iaload, 1) := by decide +kernel
theorem dX5_centreAt_16 : decode cX5_centreAt 16 = .ok (.bipush 100, 2) := by decide +kernel
theorem dX5_centreAt_18 : decode cX5_centreAt 18 = .ok (.aload_n 0, 1) := by decide +kernel
theorem dX5_centreAt_19 : decode cX5_centreAt 19 = .ok (.getfield 33, 3) := by decide +kernel
theorem dX5_centreAt_22 : decode cX5_centreAt 22 = .ok (.getfield 79, 3) := by decide +kernel
theorem dX5_centreAt_25 : decode cX5_centreAt 25 = .ok (.iload_n 2, 1) := by decide +kernel
theorem dX5_centreAt_26 : decode cX5_centreAt 26 = .ok (.aaload, 1) := by decide +kernel
theorem dX5_centreAt_27 : decode cX5_centreAt 27 = .ok (.iload_n 1, 1) := by decide +kernel
theorem dX5_centreAt_28 : decode cX5_centreAt 28 = .ok (.iaload, 1) := by decide +kernel
theorem dX5_centreAt_29 : decode cX5_centreAt 29 = .ok (.imul, 1) := by decide +kernel
theorem dX5_centreAt_30 : decode cX5_centreAt 30 = .ok (.iadd, 1) := by decide +kernel
theorem dX5_centreAt_31 : decode cX5_centreAt 31 = .ok (.ireturn, 1) := by decide +kernel
set_option maxRecDepth 20000 in
theorem ggX5_doubtOf_X5_miss : GoodIn wsX5_doubtOf wsX5_miss := goodIn_r _ [7, 8, 1, 9, 10, 11, 12, 6, 13, 14, 15, 16, 17, 18, 19, 20, 21, 22, 23, 24, 25, 26, 27, 28, 29, 30, 31, 32, 33, 34, 35, 36, 37, 38, 39, 40, 41] (by decide +kernel) (by decide +kernel)
set_option maxRecDepth 20000 in
theorem gX5_doubtOf_X5_miss : GoodIn wsX5_doubtOf (wsV RX5 82 RX5 yX5_miss wsX5_miss) := goodIn_app (goodIn_of _ (by decide +kernel)) ggX5_doubtOf_X5_miss
theorem dX5_doubtOf_0 : decode cX5_doubtOf 0 = .ok (.aload_n 0, 1) := by decide +kernel
theorem dX5_doubtOf_1 : decode cX5_doubtOf 1 = .ok (.iload_n 1, 1) := by decide +kernel
theorem dX5_doubtOf_2 : decode cX5_doubtOf 2 = .ok (.iconst 0, 1) := by decide +kernel
theorem dX5_doubtOf_3 : decode cX5_doubtOf 3 = .ok (.invokevirtual 82, 3) := by decide +kernel
theorem dX5_doubtOf_6 : decode cX5_doubtOf 6 = .ok (.i2l, 1) := by decide +kernel
theorem dX5_doubtOf_7 : decode cX5_doubtOf 7 = .ok (.lstore_n 2, 1) := by decide +kernel
theorem dX5_doubtOf_8 : decode cX5_doubtOf 8 = .ok (.aload_n 0, 1) := by decide +kernel
theorem dX5_doubtOf_9 : decode cX5_doubtOf 9 = .ok (.iload_n 1, 1) := by decide +kernel
theorem dX5_doubtOf_10 : decode cX5_doubtOf 10 = .ok (.iconst 1, 1) := by decide +kernel
theorem dX5_doubtOf_11 : decode cX5_doubtOf 11 = .ok (.invokevirtual 82, 3) := by decide +kernel
theorem dX5_doubtOf_14 : decode cX5_doubtOf 14 = .ok (.i2l, 1) := by decide +kernel
theorem dX5_doubtOf_15 : decode cX5_doubtOf 15 = .ok (.lstore 4, 2) := by decide +kernel
theorem dX5_doubtOf_17 : decode cX5_doubtOf 17 = .ok (.aload_n 0, 1) := by decide +kernel
theorem dX5_doubtOf_18 : decode cX5_doubtOf 18 = .ok (.getfield 33, 3) := by decide +kernel
theorem dX5_doubtOf_21 : decode cX5_doubtOf 21 = .ok (.getfield 85, 3) := by decide +kernel
theorem dX5_doubtOf_24 : decode cX5_doubtOf 24 = .ok (.iload_n 1, 1) := by decide +kernel
theorem dX5_doubtOf_25 : decode cX5_doubtOf 25 = .ok (.iaload, 1) := by decide +kernel
theorem dX5_doubtOf_26 : decode cX5_doubtOf 26 = .ok (.i2l, 1) := by decide +kernel
theorem dX5_doubtOf_27 : decode cX5_doubtOf 27 = .ok (.lload_n 2, 1) := by decide +kernel
theorem dX5_doubtOf_28 : decode cX5_doubtOf 28 = .ok (.lload_n 2, 1) := by decide +kernel
theorem dX5_doubtOf_29 : decode cX5_doubtOf 29 = .ok (.lmul, 1) := by decide +kernel
theorem dX5_doubtOf_30 : decode cX5_doubtOf 30 = .ok (.lload 4, 2) := by decide +kernel
theorem dX5_doubtOf_32 : decode cX5_doubtOf 32 = .ok (.lload 4, 2) := by decide +kernel
theorem dX5_doubtOf_34 : decode cX5_doubtOf 34 = .ok (.lmul, 1) := by decide +kernel
theorem dX5_doubtOf_35 : decode cX5_doubtOf 35 = .ok (.ladd, 1) := by decide +kernel
theorem dX5_doubtOf_36 : decode cX5_doubtOf 36 = .ok (.lmul, 1) := by decide +kernel
theorem dX5_doubtOf_37 : decode cX5_doubtOf 37 = .ok (.lreturn, 1) := by decide +kernel
set_option maxRecDepth 20000 in
theorem ggX5_squares_X5_uses : GoodIn wsX5_squares wsX5_uses := goodIn_r _ [9, 10, 41, 42, 43, 44, 45, 46, 47] (by decide +kernel) (by decide +kernel)
set_option maxRecDepth 20000 in
theorem gX5_squares_X5_uses : GoodIn wsX5_squares (wsV RX5 46 RX5 yX5_uses wsX5_uses) := goodIn_app (goodIn_of _ (by decide +kernel)) ggX5_squares_X5_uses
set_option maxRecDepth 20000 in
theorem ggX5_squares_X5_doubtOf : GoodIn wsX5_squares wsX5_doubtOf := goodIn_r _ [14, 1, 15, 16, 17, 18, 8, 19, 20, 21, 22, 23, 24, 25, 26, 3, 27, 28, 29, 30, 31, 32, 33, 41, 42, 43, 44, 45, 46, 47, 48, 49, 50, 51, 52, 53, 54, 55, 56, 57, 58, 59] (by decide +kernel) (by decide +kernel)
set_option maxRecDepth 20000 in
theorem gX5_squares_X5_doubtOf : GoodIn wsX5_squares (wsV RX5 88 RX5 yX5_doubtOf wsX5_doubtOf) := goodIn_app (goodIn_of _ (by decide +kernel)) ggX5_squares_X5_doubtOf
set_option maxRecDepth 20000 in
theorem ggX5_squares_X5_centreAt : GoodIn wsX5_squares wsX5_centreAt := goodIn_r _ [37, 38, 1, 39, 40, 41, 42, 43, 44, 45, 46, 47, 48, 49, 50, 51, 52, 53, 54, 55, 56, 57, 58, 59] (by decide +kernel) (by decide +kernel)
set_option maxRecDepth 20000 in
theorem gX5_squares_X5_centreAt : GoodIn wsX5_squares (wsV RX5 92 RX5 yX5_centreAt wsX5_centreAt) := goodIn_app (goodIn_of _ (by decide +kernel)) ggX5_squares_X5_centreAt
theorem dX5_squares_0 : decode cX5_squares 0 = .ok (.lconst 0, 1) := by decide +kernel
theorem dX5_squares_1 : decode cX5_squares 1 = .ok (.lstore_n 1, 1) := by decide +kernel
theorem dX5_squares_2 : decode cX5_squares 2 = .ok (.iconst 0, 1) := by decide +kernel
theorem dX5_squares_3 : decode cX5_squares 3 = .ok (.istore_n 3, 1) := by decide +kernel
theorem dX5_squares_4 : decode cX5_squares 4 = .ok (.iload_n 3, 1) := by decide +kernel
theorem dX5_squares_5 : decode cX5_squares 5 = .ok (.aload_n 0, 1) := by decide +kernel
theorem dX5_squares_6 : decode cX5_squares 6 = .ok (.getfield 33, 3) := by decide +kernel
theorem dX5_squares_9 : decode cX5_squares 9 = .ok (.getfield 41, 3) := by decide +kernel
theorem dX5_squares_12 : decode cX5_squares 12 = .ok (.iconst 3, 1) := by decide +kernel
theorem dX5_squares_13 : decode cX5_squares 13 = .ok (.iaload, 1) := by decide +kernel
theorem dX5_squares_14 : decode cX5_squares 14 = .ok (.if_icmp .ge 25, 3) := by decide +kernel
theorem dX5_squares_17 : decode cX5_squares 17 = .ok (.aload_n 0, 1) := by decide +kernel
theorem dX5_squares_18 : decode cX5_squares 18 = .ok (.iload_n 3, 1) := by decide +kernel
theorem dX5_squares_19 : decode cX5_squares 19 = .ok (.invokevirtual 46, 3) := by decide +kernel
theorem dX5_squares_22 : decode cX5_squares 22 = .ok (.ifCond .eq 11, 3) := by decide +kernel
theorem dX5_squares_25 : decode cX5_squares 25 = .ok (.lload_n 1, 1) := by decide +kernel
theorem dX5_squares_26 : decode cX5_squares 26 = .ok (.aload_n 0, 1) := by decide +kernel
theorem dX5_squares_27 : decode cX5_squares 27 = .ok (.iload_n 3, 1) := by decide +kernel
theorem dX5_squares_28 : decode cX5_squares 28 = .ok (.invokevirtual 88, 3) := by decide +kernel
theorem dX5_squares_31 : decode cX5_squares 31 = .ok (.ladd, 1) := by decide +kernel
theorem dX5_squares_32 : decode cX5_squares 32 = .ok (.lstore_n 1, 1) := by decide +kernel
theorem dX5_squares_33 : decode cX5_squares 33 = .ok (.iinc 3 1, 3) := by decide +kernel
theorem dX5_squares_36 : decode cX5_squares 36 = .ok (.goto (-32), 3) := by decide +kernel
theorem dX5_squares_39 : decode cX5_squares 39 = .ok (.iconst 0, 1) := by decide +kernel
theorem dX5_squares_40 : decode cX5_squares 40 = .ok (.istore_n 3, 1) := by decide +kernel
theorem dX5_squares_41 : decode cX5_squares 41 = .ok (.iload_n 3, 1) := by decide +kernel
theorem dX5_squares_42 : decode cX5_squares 42 = .ok (.aload_n 0, 1) := by decide +kernel
theorem dX5_squares_43 : decode cX5_squares 43 = .ok (.getfield 33, 3) := by decide +kernel
theorem dX5_squares_46 : decode cX5_squares 46 = .ok (.getfield 41, 3) := by decide +kernel
theorem dX5_squares_49 : decode cX5_squares 49 = .ok (.iconst 1, 1) := by decide +kernel
theorem dX5_squares_50 : decode cX5_squares 50 = .ok (.iaload, 1) := by decide +kernel
theorem dX5_squares_51 : decode cX5_squares 51 = .ok (.if_icmp .ge 70, 3) := by decide +kernel
theorem dX5_squares_54 : decode cX5_squares 54 = .ok (.aload_n 0, 1) := by decide +kernel
theorem dX5_squares_55 : decode cX5_squares 55 = .ok (.getfield 21, 3) := by decide +kernel
theorem dX5_squares_58 : decode cX5_squares 58 = .ok (.iconst 0, 1) := by decide +kernel
theorem dX5_squares_59 : decode cX5_squares 59 = .ok (.aaload, 1) := by decide +kernel
theorem dX5_squares_60 : decode cX5_squares 60 = .ok (.iload_n 3, 1) := by decide +kernel
theorem dX5_squares_61 : decode cX5_squares 61 = .ok (.iaload, 1) := by decide +kernel
theorem dX5_squares_62 : decode cX5_squares 62 = .ok (.aload_n 0, 1) := by decide +kernel
theorem dX5_squares_63 : decode cX5_squares 63 = .ok (.iload_n 3, 1) := by decide +kernel
theorem dX5_squares_64 : decode cX5_squares 64 = .ok (.iconst 0, 1) := by decide +kernel
theorem dX5_squares_65 : decode cX5_squares 65 = .ok (.invokevirtual 92, 3) := by decide +kernel
theorem dX5_squares_68 : decode cX5_squares 68 = .ok (.isub, 1) := by decide +kernel
theorem dX5_squares_69 : decode cX5_squares 69 = .ok (.i2l, 1) := by decide +kernel
theorem dX5_squares_70 : decode cX5_squares 70 = .ok (.lstore 4, 2) := by decide +kernel
theorem dX5_squares_72 : decode cX5_squares 72 = .ok (.aload_n 0, 1) := by decide +kernel
theorem dX5_squares_73 : decode cX5_squares 73 = .ok (.getfield 21, 3) := by decide +kernel
theorem dX5_squares_76 : decode cX5_squares 76 = .ok (.iconst 1, 1) := by decide +kernel
theorem dX5_squares_77 : decode cX5_squares 77 = .ok (.aaload, 1) := by decide +kernel
theorem dX5_squares_78 : decode cX5_squares 78 = .ok (.iload_n 3, 1) := by decide +kernel
theorem dX5_squares_79 : decode cX5_squares 79 = .ok (.iaload, 1) := by decide +kernel
theorem dX5_squares_80 : decode cX5_squares 80 = .ok (.aload_n 0, 1) := by decide +kernel
theorem dX5_squares_81 : decode cX5_squares 81 = .ok (.iload_n 3, 1) := by decide +kernel
theorem dX5_squares_82 : decode cX5_squares 82 = .ok (.iconst 1, 1) := by decide +kernel
theorem dX5_squares_83 : decode cX5_squares 83 = .ok (.invokevirtual 92, 3) := by decide +kernel
theorem dX5_squares_86 : decode cX5_squares 86 = .ok (.isub, 1) := by decide +kernel
theorem dX5_squares_87 : decode cX5_squares 87 = .ok (.i2l, 1) := by decide +kernel
theorem dX5_squares_88 : decode cX5_squares 88 = .ok (.lstore 6, 2) := by decide +kernel
theorem dX5_squares_90 : decode cX5_squares 90 = .ok (.lload_n 1, 1) := by decide +kernel
theorem dX5_squares_91 : decode cX5_squares 91 = .ok (.aload_n 0, 1) := by decide +kernel
theorem dX5_squares_92 : decode cX5_squares 92 = .ok (.getfield 33, 3) := by decide +kernel
theorem dX5_squares_95 : decode cX5_squares 95 = .ok (.getfield 94, 3) := by decide +kernel
theorem dX5_squares_98 : decode cX5_squares 98 = .ok (.iload_n 3, 1) := by decide +kernel
theorem dX5_squares_99 : decode cX5_squares 99 = .ok (.iaload, 1) := by decide +kernel
theorem dX5_squares_100 : decode cX5_squares 100 = .ok (.i2l, 1) := by decide +kernel
theorem dX5_squares_101 : decode cX5_squares 101 = .ok (.lload 4, 2) := by decide +kernel
theorem dX5_squares_103 : decode cX5_squares 103 = .ok (.lload 4, 2) := by decide +kernel
theorem dX5_squares_105 : decode cX5_squares 105 = .ok (.lmul, 1) := by decide +kernel
theorem dX5_squares_106 : decode cX5_squares 106 = .ok (.lload 6, 2) := by decide +kernel
theorem dX5_squares_108 : decode cX5_squares 108 = .ok (.lload 6, 2) := by decide +kernel
theorem dX5_squares_110 : decode cX5_squares 110 = .ok (.lmul, 1) := by decide +kernel
theorem dX5_squares_111 : decode cX5_squares 111 = .ok (.ladd, 1) := by decide +kernel
theorem dX5_squares_112 : decode cX5_squares 112 = .ok (.lmul, 1) := by decide +kernel
theorem dX5_squares_113 : decode cX5_squares 113 = .ok (.ladd, 1) := by decide +kernel
theorem dX5_squares_114 : decode cX5_squares 114 = .ok (.lstore_n 1, 1) := by decide +kernel
theorem dX5_squares_115 : decode cX5_squares 115 = .ok (.iinc 3 1, 3) := by decide +kernel
theorem dX5_squares_118 : decode cX5_squares 118 = .ok (.goto (-77), 3) := by decide +kernel
theorem dX5_squares_121 : decode cX5_squares 121 = .ok (.lload_n 1, 1) := by decide +kernel
theorem dX5_squares_122 : decode cX5_squares 122 = .ok (.lreturn, 1) := by decide +kernel
theorem dX6_init_0 : decode cX6_init 0 = .ok (.aload_n 0, 1) := by decide +kernel
theorem dX6_init_1 : decode cX6_init 1 = .ok (.invokespecial 3, 3) := by decide +kernel
theorem dX6_init_4 : decode cX6_init 4 = .ok (.aload_n 0, 1) := by decide +kernel
theorem dX6_init_5 : decode cX6_init 5 = .ok (.bipush 12, 2) := by decide +kernel
theorem dX6_init_7 : decode cX6_init 7 = .ok (.newarray .int, 2) := by decide +kernel
theorem dX6_init_9 : decode cX6_init 9 = .ok (.putfield 9, 3) := by decide +kernel
theorem dX6_init_12 : decode cX6_init 12 = .ok (.aload_n 0, 1) := by decide +kernel
theorem dX6_init_13 : decode cX6_init 13 = .ok (.bipush 20, 2) := by decide +kernel
theorem dX6_init_15 : decode cX6_init 15 = .ok (.newarray .int, 2) := by decide +kernel
theorem dX6_init_17 : decode cX6_init 17 = .ok (.putfield 15, 3) := by decide +kernel
theorem dX6_init_20 : decode cX6_init 20 = .ok (.aload_n 0, 1) := by decide +kernel
theorem dX6_init_21 : decode cX6_init 21 = .ok (.bipush 20, 2) := by decide +kernel
theorem dX6_init_23 : decode cX6_init 23 = .ok (.newarray .int, 2) := by decide +kernel
theorem dX6_init_25 : decode cX6_init 25 = .ok (.putfield 18, 3) := by decide +kernel
theorem dX6_init_28 : decode cX6_init 28 = .ok (.aload_n 0, 1) := by decide +kernel
theorem dX6_init_29 : decode cX6_init 29 = .ok (.iconst 2, 1) := by decide +kernel
theorem dX6_init_30 : decode cX6_init 30 = .ok (.bipush 20, 2) := by decide +kernel
theorem dX6_init_32 : decode cX6_init 32 = .ok (.multianewarray 21 2, 4) := by decide +kernel
theorem dX6_init_36 : decode cX6_init 36 = .ok (.putfield 23, 3) := by decide +kernel
theorem dX6_init_39 : decode cX6_init 39 = .ok (.aload_n 0, 1) := by decide +kernel
theorem dX6_init_40 : decode cX6_init 40 = .ok (.aload_n 1, 1) := by decide +kernel
theorem dX6_init_41 : decode cX6_init 41 = .ok (.putfield 26, 3) := by decide +kernel
theorem dX6_init_44 : decode cX6_init 44 = .ok (.aload_n 0, 1) := by decide +kernel
theorem dX6_init_45 : decode cX6_init 45 = .ok (.aload_n 2, 1) := by decide +kernel
theorem dX6_init_46 : decode cX6_init 46 = .ok (.putfield 30, 3) := by decide +kernel
theorem dX6_init_49 : decode cX6_init 49 = .ok (.return_, 1) := by decide +kernel
set_option maxRecDepth 20000 in
theorem ggX6_begin_X6_reset : GoodIn wsX6_begin wsX6_reset := goodIn_r _ [8, 3, 9, 10, 11, 12, 1, 2, 13, 14, 15, 16, 17, 18, 106, 107, 108, 109, 110, 111, 124, 125, 126, 127, 128, 129, 130, 112, 113, 114, 115, 116, 117, 118, 119, 120, 121, 122, 123] (by decide +kernel) (by decide +kernel)
set_option maxRecDepth 20000 in
theorem gX6_begin_X6_reset : GoodIn wsX6_begin (wsV RX6 34 RX6 yX6_reset wsX6_reset) := goodIn_app (goodIn_of _ (by decide +kernel)) ggX6_begin_X6_reset
set_option maxRecDepth 20000 in
theorem ggX6_begin_X6_findLinked : GoodIn wsX6_begin wsX6_findLinked := goodIn_r _ [22, 1, 2, 3, 14, 23, 24, 25, 7, 26, 27, 9, 28, 29, 30, 15, 16, 17, 18, 31, 32, 33, 34, 35, 36, 37, 38, 39, 40, 41, 42, 43, 44, 45, 46, 47, 48, 49, 50, 51, 52, 53, 54, 55, 106, 107, 108, 109, 110, 111, 112, 113, 114, 115, 116, 117, 118, 119, 120, 121, 122, 123, 124, 125, 126, 127, 128, 129, 130] (by decide +kernel) (by decide +kernel)
set_option maxRecDepth 20000 in
theorem gX6_begin_X6_findLinked : GoodIn wsX6_begin (wsV RX6 42 RX6 yX6_findLinked wsX6_findLinked) := goodIn_app (goodIn_of _ (by decide +kernel)) ggX6_begin_X6_findLinked
set_option maxRecDepth 20000 in
theorem ggX6_begin_X6_findUnstarted : GoodIn wsX6_begin wsX6_findUnstarted := goodIn_r _ [59, 1, 2, 3, 106, 107, 108, 109, 110, 111, 112, 113, 114, 115, 116, 117, 118, 119, 120, 121, 122, 123] (by decide +kernel) (by decide +kernel)
set_option maxRecDepth 20000 in
theorem gX6_begin_X6_findUnstarted : GoodIn wsX6_begin (wsV RX6 46 RX6 yX6_findUnstarted wsX6_findUnstarted) := goodIn_app (goodIn_of _ (by decide +kernel)) ggX6_begin_X6_findUnstarted
set_option maxRecDepth 20000 in
theorem ggX6_begin_X6_startLinked : GoodIn wsX6_begin wsX6_startLinked := goodIn_r _ [63, 1, 14, 9, 13, 10, 30, 55, 64, 65, 66, 7, 67, 2, 68, 69, 70, 71, 72, 73, 74, 75, 76, 77, 78, 79, 80, 46, 47, 48, 49, 50, 81, 82, 83, 34, 84, 41, 44, 42, 45, 106, 107, 108, 109, 110, 111, 112, 113, 114, 115, 116, 117, 118, 119, 120, 121, 122, 123, 124, 125, 126, 127, 128, 129, 130] (by decide +kernel) (by decide +kernel)
set_option maxRecDepth 20000 in
theorem gX6_begin_X6_startLinked : GoodIn wsX6_begin (wsV RX6 49 RX6 yX6_startLinked wsX6_startLinked) := goodIn_app (goodIn_of _ (by decide +kernel)) ggX6_begin_X6_startLinked
set_option maxRecDepth 20000 in
theorem ggX6_begin_X6_putPoints : GoodIn wsX6_begin wsX6_putPoints := goodIn_r _ [88, 1, 2, 9, 11, 29, 31, 32, 33, 34, 35, 36, 37, 38, 39, 40, 41, 42, 43, 44, 45, 46, 47, 48, 49, 50, 89, 90, 91, 92, 93, 94, 95, 96, 97, 98, 99, 100, 101, 102, 103, 104, 105, 106, 107, 108, 109, 110, 111, 112, 113, 114, 115, 116, 117, 118, 119, 120, 121, 122, 123, 124, 125, 126, 127, 128, 129, 130] (by decide +kernel) (by decide +kernel)
set_option maxRecDepth 20000 in
theorem gX6_begin_X6_putPoints : GoodIn wsX6_begin (wsV RX6 53 RX6 yX6_putPoints wsX6_putPoints) := goodIn_app (goodIn_of _ (by decide +kernel)) ggX6_begin_X6_putPoints
theorem dX6_begin_0 : decode cX6_begin 0 = .ok (.aload_n 0, 1) := by decide +kernel
theorem dX6_begin_1 : decode cX6_begin 1 = .ok (.invokevirtual 34, 3) := by decide +kernel
theorem dX6_begin_4 : decode cX6_begin 4 = .ok (.iconst 0, 1) := by decide +kernel
theorem dX6_begin_5 : decode cX6_begin 5 = .ok (.istore_n 1, 1) := by decide +kernel
theorem dX6_begin_6 : decode cX6_begin 6 = .ok (.iconst 0, 1) := by decide +kernel
theorem dX6_begin_7 : decode cX6_begin 7 = .ok (.istore_n 2, 1) := by decide +kernel
theorem dX6_begin_8 : decode cX6_begin 8 = .ok (.iload_n 2, 1) := by decide +kernel
theorem dX6_begin_9 : decode cX6_begin 9 = .ok (.aload_n 0, 1) := by decide +kernel
theorem dX6_begin_10 : decode cX6_begin 10 = .ok (.getfield 26, 3) := by decide +kernel
theorem dX6_begin_13 : decode cX6_begin 13 = .ok (.getfield 37, 3) := by decide +kernel
theorem dX6_begin_16 : decode cX6_begin 16 = .ok (.iconst 1, 1) := by decide +kernel
theorem dX6_begin_17 : decode cX6_begin 17 = .ok (.iaload, 1) := by decide +kernel
theorem dX6_begin_18 : decode cX6_begin 18 = .ok (.if_icmp .ge 47, 3) := by decide +kernel
theorem dX6_begin_21 : decode cX6_begin 21 = .ok (.aload_n 0, 1) := by decide +kernel
theorem dX6_begin_22 : decode cX6_begin 22 = .ok (.invokevirtual 42, 3) := by decide +kernel
theorem dX6_begin_25 : decode cX6_begin 25 = .ok (.istore_n 3, 1) := by decide +kernel
theorem dX6_begin_26 : decode cX6_begin 26 = .ok (.iload_n 3, 1) := by decide +kernel
theorem dX6_begin_27 : decode cX6_begin 27 = .ok (.iconst (-1), 1) := by decide +kernel
theorem dX6_begin_28 : decode cX6_begin 28 = .ok (.if_icmp .ne 14, 3) := by decide +kernel
theorem dX6_begin_31 : decode cX6_begin 31 = .ok (.aload_n 0, 1) := by decide +kernel
theorem dX6_begin_32 : decode cX6_begin 32 = .ok (.invokevirtual 46, 3) := by decide +kernel
theorem dX6_begin_35 : decode cX6_begin 35 = .ok (.istore_n 3, 1) := by decide +kernel
theorem dX6_begin_36 : decode cX6_begin 36 = .ok (.iinc 1 1, 3) := by decide +kernel
theorem dX6_begin_39 : decode cX6_begin 39 = .ok (.goto 8, 3) := by decide +kernel
theorem dX6_begin_42 : decode cX6_begin 42 = .ok (.aload_n 0, 1) := by decide +kernel
theorem dX6_begin_43 : decode cX6_begin 43 = .ok (.iload_n 3, 1) := by decide +kernel
theorem dX6_begin_44 : decode cX6_begin 44 = .ok (.invokevirtual 49, 3) := by decide +kernel
theorem dX6_begin_47 : decode cX6_begin 47 = .ok (.iload_n 3, 1) := by decide +kernel
theorem dX6_begin_48 : decode cX6_begin 48 = .ok (.iconst (-1), 1) := by decide +kernel
theorem dX6_begin_49 : decode cX6_begin 49 = .ok (.if_icmp .eq 10, 3) := by decide +kernel
theorem dX6_begin_52 : decode cX6_begin 52 = .ok (.aload_n 0, 1) := by decide +kernel
theorem dX6_begin_53 : decode cX6_begin 53 = .ok (.getfield 9, 3) := by decide +kernel
theorem dX6_begin_56 : decode cX6_begin 56 = .ok (.iload_n 3, 1) := by decide +kernel
theorem dX6_begin_57 : decode cX6_begin 57 = .ok (.iconst 1, 1) := by decide +kernel
theorem dX6_begin_58 : decode cX6_begin 58 = .ok (.iastore, 1) := by decide +kernel
theorem dX6_begin_59 : decode cX6_begin 59 = .ok (.iinc 2 1, 3) := by decide +kernel
theorem dX6_begin_62 : decode cX6_begin 62 = .ok (.goto (-54), 3) := by decide +kernel
theorem dX6_begin_65 : decode cX6_begin 65 = .ok (.aload_n 0, 1) := by decide +kernel
theorem dX6_begin_66 : decode cX6_begin 66 = .ok (.invokevirtual 53, 3) := by decide +kernel
theorem dX6_begin_69 : decode cX6_begin 69 = .ok (.iload_n 1, 1) := by decide +kernel
theorem dX6_begin_70 : decode cX6_begin 70 = .ok (.ireturn, 1) := by decide +kernel
set_option maxRecDepth 20000 in
theorem ggX6_reset_J7_fill_53178 : GoodIn wsX6_reset wsJ7_fill_53178 := goodIn_r _ [13] (by decide +kernel) (by decide +kernel)
set_option maxRecDepth 20000 in
theorem gX6_reset_J7_fill_53178 : GoodIn wsX6_reset (va_wsS RX6 56 yJ7_fill_53178 wsJ7_fill_53178) := goodIn_app (goodIn_of _ (by decide +kernel)) ggX6_reset_J7_fill_53178
theorem dX6_reset_0 : decode cX6_reset 0 = .ok (.aload_n 0, 1) := by decide +kernel
theorem dX6_reset_1 : decode cX6_reset 1 = .ok (.getfield 9, 3) := by decide +kernel
theorem dX6_reset_4 : decode cX6_reset 4 = .ok (.iconst 0, 1) := by decide +kernel
theorem dX6_reset_5 : decode cX6_reset 5 = .ok (.invokestatic 56, 3) := by decide +kernel
theorem dX6_reset_8 : decode cX6_reset 8 = .ok (.iconst 0, 1) := by decide +kernel
theorem dX6_reset_9 : decode cX6_reset 9 = .ok (.istore_n 1, 1) := by decide +kernel
theorem dX6_reset_10 : decode cX6_reset 10 = .ok (.iload_n 1, 1) := by decide +kernel
theorem dX6_reset_11 : decode cX6_reset 11 = .ok (.iconst 2, 1) := by decide +kernel
theorem dX6_reset_12 : decode cX6_reset 12 = .ok (.if_icmp .ge 48, 3) := by decide +kernel
theorem dX6_reset_15 : decode cX6_reset 15 = .ok (.aload_n 0, 1) := by decide +kernel
theorem dX6_reset_16 : decode cX6_reset 16 = .ok (.getfield 30, 3) := by decide +kernel
theorem dX6_reset_19 : decode cX6_reset 19 = .ok (.getfield 62, 3) := by decide +kernel
theorem dX6_reset_22 : decode cX6_reset 22 = .ok (.iload_n 1, 1) := by decide +kernel
theorem dX6_reset_23 : decode cX6_reset 23 = .ok (.aaload, 1) := by decide +kernel
theorem dX6_reset_24 : decode cX6_reset 24 = .ok (.iconst 0, 1) := by decide +kernel
theorem dX6_reset_25 : decode cX6_reset 25 = .ok (.invokestatic 56, 3) := by decide +kernel
theorem dX6_reset_28 : decode cX6_reset 28 = .ok (.aload_n 0, 1) := by decide +kernel
theorem dX6_reset_29 : decode cX6_reset 29 = .ok (.getfield 30, 3) := by decide +kernel
theorem dX6_reset_32 : decode cX6_reset 32 = .ok (.getfield 67, 3) := by decide +kernel
theorem dX6_reset_35 : decode cX6_reset 35 = .ok (.iload_n 1, 1) := by decide +kernel
theorem dX6_reset_36 : decode cX6_reset 36 = .ok (.aaload, 1) := by decide +kernel
theorem dX6_reset_37 : decode cX6_reset 37 = .ok (.iconst 0, 1) := by decide +kernel
theorem dX6_reset_38 : decode cX6_reset 38 = .ok (.invokestatic 56, 3) := by decide +kernel
theorem dX6_reset_41 : decode cX6_reset 41 = .ok (.aload_n 0, 1) := by decide +kernel
theorem dX6_reset_42 : decode cX6_reset 42 = .ok (.getfield 30, 3) := by decide +kernel
theorem dX6_reset_45 : decode cX6_reset 45 = .ok (.getfield 70, 3) := by decide +kernel
theorem dX6_reset_48 : decode cX6_reset 48 = .ok (.iload_n 1, 1) := by decide +kernel
theorem dX6_reset_49 : decode cX6_reset 49 = .ok (.aaload, 1) := by decide +kernel
theorem dX6_reset_50 : decode cX6_reset 50 = .ok (.iconst 0, 1) := by decide +kernel
theorem dX6_reset_51 : decode cX6_reset 51 = .ok (.invokestatic 56, 3) := by decide +kernel
theorem dX6_reset_54 : decode cX6_reset 54 = .ok (.iinc 1 1, 3) := by decide +kernel
theorem dX6_reset_57 : decode cX6_reset 57 = .ok (.goto (-47), 3) := by decide +kernel
theorem dX6_reset_60 : decode cX6_reset 60 = .ok (.iconst 0, 1) := by decide +kernel
theorem dX6_reset_61 : decode cX6_reset 61 = .ok (.istore_n 1, 1) := by decide +kernel
theorem dX6_reset_62 : decode cX6_reset 62 = .ok (.iload_n 1, 1) := by decide +kernel
theorem dX6_reset_63 : decode cX6_reset 63 = .ok (.aload_n 0, 1) := by decide +kernel
theorem dX6_reset_64 : decode cX6_reset 64 = .ok (.getfield 26, 3) := by decide +kernel
theorem dX6_reset_67 : decode cX6_reset 67 = .ok (.getfield 37, 3) := by decide +kernel
theorem dX6_reset_70 : decode cX6_reset 70 = .ok (.iconst 1, 1) := by decide +kernel
theorem dX6_reset_71 : decode cX6_reset 71 = .ok (.iaload, 1) := by decide +kernel
theorem dX6_reset_72 : decode cX6_reset 72 = .ok (.if_icmp .ge 44, 3) := by decide +kernel
theorem dX6_reset_75 : decode cX6_reset 75 = .ok (.aload_n 0, 1) := by decide +kernel
theorem dX6_reset_76 : decode cX6_reset 76 = .ok (.getfield 30, 3) := by decide +kernel
theorem dX6_reset_79 : decode cX6_reset 79 = .ok (.getfield 73, 3) := by decide +kernel
theorem dX6_reset_82 : decode cX6_reset 82 = .ok (.iload_n 1, 1) := by decide +kernel
theorem dX6_reset_83 : decode cX6_reset 83 = .ok (.aload_n 0, 1) := by decide +kernel
theorem dX6_reset_84 : decode cX6_reset 84 = .ok (.getfield 26, 3) := by decide +kernel
theorem dX6_reset_87 : decode cX6_reset 87 = .ok (.getfield 76, 3) := by decide +kernel
theorem dX6_reset_90 : decode cX6_reset 90 = .ok (.iload_n 1, 1) := by decide +kernel
theorem dX6_reset_91 : decode cX6_reset 91 = .ok (.iaload, 1) := by decide +kernel
theorem dX6_reset_92 : decode cX6_reset 92 = .ok (.iconst 4, 1) := by decide +kernel
theorem dX6_reset_93 : decode cX6_reset 93 = .ok (.if_icmp .ne 7, 3) := by decide +kernel
theorem dX6_reset_96 : decode cX6_reset 96 = .ok (.iconst 0, 1) := by decide +kernel
theorem dX6_reset_97 : decode cX6_reset 97 = .ok (.goto 12, 3) := by decide +kernel
theorem dX6_reset_100 : decode cX6_reset 100 = .ok (.aload_n 0, 1) := by decide +kernel
theorem dX6_reset_101 : decode cX6_reset 101 = .ok (.getfield 26, 3) := by decide +kernel
theorem dX6_reset_104 : decode cX6_reset 104 = .ok (.getfield 76, 3) := by decide +kernel
theorem dX6_reset_107 : decode cX6_reset 107 = .ok (.iload_n 1, 1) := by decide +kernel
theorem dX6_reset_108 : decode cX6_reset 108 = .ok (.iaload, 1) := by decide +kernel
theorem dX6_reset_109 : decode cX6_reset 109 = .ok (.iastore, 1) := by decide +kernel
theorem dX6_reset_110 : decode cX6_reset 110 = .ok (.iinc 1 1, 3) := by decide +kernel
theorem dX6_reset_113 : decode cX6_reset 113 = .ok (.goto (-51), 3) := by decide +kernel
theorem dX6_reset_116 : decode cX6_reset 116 = .ok (.return_, 1) := by decide +kernel
set_option maxRecDepth 20000 in
theorem ggX6_findLinked_X6_gatherStarted : GoodIn wsX6_findLinked wsX6_gatherStarted := goodIn_r _ [9, 10, 1, 2, 11, 3, 12, 13, 14, 15, 16, 17, 18, 19, 20, 21, 22, 23, 24, 25, 26, 27, 28, 29, 30, 31, 32, 33, 34, 35, 36, 37, 38, 44, 45, 46, 47, 48, 49, 50, 51, 52, 53, 54, 55, 56, 57, 58, 59, 60, 61, 62, 63, 64, 65, 66, 67, 68] (by decide +kernel) (by decide +kernel)
set_option maxRecDepth 20000 in
theorem gX6_findLinked_X6_gatherStarted : GoodIn wsX6_findLinked (wsV RX6 77 RX6 yX6_gatherStarted wsX6_gatherStarted) := goodIn_app (goodIn_of _ (by decide +kernel)) ggX6_findLinked_X6_gatherStarted
set_option maxRecDepth 20000 in
theorem ggX6_findLinked_X6_gatherOwn : GoodIn wsX6_findLinked wsX6_gatherOwn := goodIn_r _ [42, 43, 1, 2, 13, 11, 12, 10, 15, 16, 17, 18, 19, 20, 21, 22, 23, 24, 44, 45, 46, 47, 48, 49, 50, 51, 52, 53, 54, 55, 56, 57, 58, 59, 60, 61, 62, 63, 64, 65, 66, 67, 68] (by decide +kernel) (by decide +kernel)
set_option maxRecDepth 20000 in
theorem gX6_findLinked_X6_gatherOwn : GoodIn wsX6_findLinked (wsV RX6 80 RX6 yX6_gatherOwn wsX6_gatherOwn) := goodIn_app (goodIn_of _ (by decide +kernel)) ggX6_findLinked_X6_gatherOwn
theorem dX6_findLinked_0 : decode cX6_findLinked 0 = .ok (.aload_n 0, 1) := by decide +kernel
theorem dX6_findLinked_1 : decode cX6_findLinked 1 = .ok (.invokevirtual 77, 3) := by decide +kernel
theorem dX6_findLinked_4 : decode cX6_findLinked 4 = .ok (.iconst 0, 1) := by decide +kernel
theorem dX6_findLinked_5 : decode cX6_findLinked 5 = .ok (.istore_n 1, 1) := by decide +kernel
theorem dX6_findLinked_6 : decode cX6_findLinked 6 = .ok (.iload_n 1, 1) := by decide +kernel
theorem dX6_findLinked_7 : decode cX6_findLinked 7 = .ok (.aload_n 0, 1) := by decide +kernel
theorem dX6_findLinked_8 : decode cX6_findLinked 8 = .ok (.getfield 26, 3) := by decide +kernel
theorem dX6_findLinked_11 : decode cX6_findLinked 11 = .ok (.getfield 37, 3) := by decide +kernel
theorem dX6_findLinked_14 : decode cX6_findLinked 14 = .ok (.iconst 1, 1) := by decide +kernel
theorem dX6_findLinked_15 : decode cX6_findLinked 15 = .ok (.iaload, 1) := by decide +kernel
theorem dX6_findLinked_16 : decode cX6_findLinked 16 = .ok (.if_icmp .ge 52, 3) := by decide +kernel
theorem dX6_findLinked_19 : decode cX6_findLinked 19 = .ok (.aload_n 0, 1) := by decide +kernel
theorem dX6_findLinked_20 : decode cX6_findLinked 20 = .ok (.getfield 9, 3) := by decide +kernel
theorem dX6_findLinked_23 : decode cX6_findLinked 23 = .ok (.iload_n 1, 1) := by decide +kernel
theorem dX6_findLinked_24 : decode cX6_findLinked 24 = .ok (.iaload, 1) := by decide +kernel
theorem dX6_findLinked_25 : decode cX6_findLinked 25 = .ok (.iconst 1, 1) := by decide +kernel
theorem dX6_findLinked_26 : decode cX6_findLinked 26 = .ok (.if_icmp .ne 6, 3) := by decide +kernel
theorem dX6_findLinked_29 : decode cX6_findLinked 29 = .ok (.goto 33, 3) := by decide +kernel
theorem dX6_findLinked_32 : decode cX6_findLinked 32 = .ok (.aload_n 0, 1) := by decide +kernel
theorem dX6_findLinked_33 : decode cX6_findLinked 33 = .ok (.iload_n 1, 1) := by decide +kernel
theorem dX6_findLinked_34 : decode cX6_findLinked 34 = .ok (.invokevirtual 80, 3) := by decide +kernel
theorem dX6_findLinked_37 : decode cX6_findLinked 37 = .ok (.istore_n 2, 1) := by decide +kernel
theorem dX6_findLinked_38 : decode cX6_findLinked 38 = .ok (.iload_n 2, 1) := by decide +kernel
theorem dX6_findLinked_39 : decode cX6_findLinked 39 = .ok (.aload_n 0, 1) := by decide +kernel
theorem dX6_findLinked_40 : decode cX6_findLinked 40 = .ok (.getfield 26, 3) := by decide +kernel
theorem dX6_findLinked_43 : decode cX6_findLinked 43 = .ok (.getfield 76, 3) := by decide +kernel
theorem dX6_findLinked_46 : decode cX6_findLinked 46 = .ok (.iload_n 1, 1) := by decide +kernel
theorem dX6_findLinked_47 : decode cX6_findLinked 47 = .ok (.iaload, 1) := by decide +kernel
theorem dX6_findLinked_48 : decode cX6_findLinked 48 = .ok (.iconst 4, 1) := by decide +kernel
theorem dX6_findLinked_49 : decode cX6_findLinked 49 = .ok (.if_icmp .ne 7, 3) := by decide +kernel
theorem dX6_findLinked_52 : decode cX6_findLinked 52 = .ok (.iconst 2, 1) := by decide +kernel
theorem dX6_findLinked_53 : decode cX6_findLinked 53 = .ok (.goto 4, 3) := by decide +kernel
theorem dX6_findLinked_56 : decode cX6_findLinked 56 = .ok (.iconst 1, 1) := by decide +kernel
theorem dX6_findLinked_57 : decode cX6_findLinked 57 = .ok (.if_icmp .lt 5, 3) := by decide +kernel
theorem dX6_findLinked_60 : decode cX6_findLinked 60 = .ok (.iload_n 1, 1) := by decide +kernel
theorem dX6_findLinked_61 : decode cX6_findLinked 61 = .ok (.ireturn, 1) := by decide +kernel
theorem dX6_findLinked_62 : decode cX6_findLinked 62 = .ok (.iinc 1 1, 3) := by decide +kernel
theorem dX6_findLinked_65 : decode cX6_findLinked 65 = .ok (.goto (-59), 3) := by decide +kernel
theorem dX6_findLinked_68 : decode cX6_findLinked 68 = .ok (.iconst (-1), 1) := by decide +kernel
theorem dX6_findLinked_69 : decode cX6_findLinked 69 = .ok (.ireturn, 1) := by decide +kernel
set_option maxRecDepth 20000 in
theorem ggX6_gatherStarted_J7_fill_53178 : GoodIn wsX6_gatherStarted wsJ7_fill_53178 := goodIn_r _ [12] (by decide +kernel) (by decide +kernel)
set_option maxRecDepth 20000 in
theorem gX6_gatherStarted_J7_fill_53178 : GoodIn wsX6_gatherStarted (va_wsS RX6 56 yJ7_fill_53178 wsJ7_fill_53178) := goodIn_app (goodIn_of _ (by decide +kernel)) ggX6_gatherStarted_J7_fill_53178
set_option maxRecDepth 20000 in
theorem ggX6_gatherStarted_X5_uses : GoodIn wsX6_gatherStarted wsX5_uses := goodIn_r _ [17, 18, 51, 52, 53, 54, 55, 56, 57] (by decide +kernel) (by decide +kernel)
set_option maxRecDepth 20000 in
theorem gX6_gatherStarted_X5_uses : GoodIn wsX6_gatherStarted (wsV RX6 84 RX5 yX5_uses wsX5_uses) := goodIn_app (goodIn_of _ (by decide +kernel)) ggX6_gatherStarted_X5_uses
set_option maxRecDepth 20000 in
theorem ggX6_gatherStarted_X5_putAt : GoodIn wsX6_gatherStarted wsX5_putAt := goodIn_r _ [22, 23, 24, 25, 26, 27, 28, 29, 30, 31, 32, 51, 52, 53, 54, 55, 56, 57, 39, 40, 41, 42, 43, 44, 45, 46, 47, 48, 49, 50] (by decide +kernel) (by decide +kernel)
set_option maxRecDepth 20000 in
theorem gX6_gatherStarted_X5_putAt : GoodIn wsX6_gatherStarted (wsV RX6 94 RX5 yX5_putAt wsX5_putAt) := goodIn_app (goodIn_of _ (by decide +kernel)) ggX6_gatherStarted_X5_putAt
theorem dX6_gatherStarted_0 : decode cX6_gatherStarted 0 = .ok (.aload_n 0, 1) := by decide +kernel
theorem dX6_gatherStarted_1 : decode cX6_gatherStarted 1 = .ok (.getfield 15, 3) := by decide +kernel
theorem dX6_gatherStarted_4 : decode cX6_gatherStarted 4 = .ok (.iconst 0, 1) := by decide +kernel
theorem dX6_gatherStarted_5 : decode cX6_gatherStarted 5 = .ok (.invokestatic 56, 3) := by decide +kernel
theorem dX6_gatherStarted_8 : decode cX6_gatherStarted 8 = .ok (.aload_n 0, 1) := by decide +kernel
theorem dX6_gatherStarted_9 : decode cX6_gatherStarted 9 = .ok (.getfield 26, 3) := by decide +kernel
theorem dX6_gatherStarted_12 : decode cX6_gatherStarted 12 = .ok (.getfield 37, 3) := by decide +kernel
theorem dX6_gatherStarted_15 : decode cX6_gatherStarted 15 = .ok (.iconst 3, 1) := by decide +kernel
theorem dX6_gatherStarted_16 : decode cX6_gatherStarted 16 = .ok (.iaload, 1) := by decide +kernel
theorem dX6_gatherStarted_17 : decode cX6_gatherStarted 17 = .ok (.iconst 1, 1) := by decide +kernel
theorem dX6_gatherStarted_18 : decode cX6_gatherStarted 18 = .ok (.isub, 1) := by decide +kernel
theorem dX6_gatherStarted_19 : decode cX6_gatherStarted 19 = .ok (.istore_n 1, 1) := by decide +kernel
theorem dX6_gatherStarted_20 : decode cX6_gatherStarted 20 = .ok (.iload_n 1, 1) := by decide +kernel
theorem dX6_gatherStarted_21 : decode cX6_gatherStarted 21 = .ok (.ifCond .lt 91, 3) := by decide +kernel
theorem dX6_gatherStarted_24 : decode cX6_gatherStarted 24 = .ok (.aload_n 0, 1) := by decide +kernel
theorem dX6_gatherStarted_25 : decode cX6_gatherStarted 25 = .ok (.getfield 30, 3) := by decide +kernel
theorem dX6_gatherStarted_28 : decode cX6_gatherStarted 28 = .ok (.iload_n 1, 1) := by decide +kernel
theorem dX6_gatherStarted_29 : decode cX6_gatherStarted 29 = .ok (.invokevirtual 84, 3) := by decide +kernel
theorem dX6_gatherStarted_32 : decode cX6_gatherStarted 32 = .ok (.ifCond .eq 74, 3) := by decide +kernel
theorem dX6_gatherStarted_35 : decode cX6_gatherStarted 35 = .ok (.aload_n 0, 1) := by decide +kernel
theorem dX6_gatherStarted_36 : decode cX6_gatherStarted 36 = .ok (.getfield 9, 3) := by decide +kernel
theorem dX6_gatherStarted_39 : decode cX6_gatherStarted 39 = .ok (.aload_n 0, 1) := by decide +kernel
theorem dX6_gatherStarted_40 : decode cX6_gatherStarted 40 = .ok (.getfield 26, 3) := by decide +kernel
theorem dX6_gatherStarted_43 : decode cX6_gatherStarted 43 = .ok (.getfield 88, 3) := by decide +kernel
theorem dX6_gatherStarted_46 : decode cX6_gatherStarted 46 = .ok (.iload_n 1, 1) := by decide +kernel
theorem dX6_gatherStarted_47 : decode cX6_gatherStarted 47 = .ok (.iaload, 1) := by decide +kernel
theorem dX6_gatherStarted_48 : decode cX6_gatherStarted 48 = .ok (.iaload, 1) := by decide +kernel
theorem dX6_gatherStarted_49 : decode cX6_gatherStarted 49 = .ok (.ifCond .ne 6, 3) := by decide +kernel
theorem dX6_gatherStarted_52 : decode cX6_gatherStarted 52 = .ok (.goto 54, 3) := by decide +kernel
theorem dX6_gatherStarted_55 : decode cX6_gatherStarted 55 = .ok (.aload_n 0, 1) := by decide +kernel
theorem dX6_gatherStarted_56 : decode cX6_gatherStarted 56 = .ok (.getfield 26, 3) := by decide +kernel
theorem dX6_gatherStarted_59 : decode cX6_gatherStarted 59 = .ok (.getfield 91, 3) := by decide +kernel
theorem dX6_gatherStarted_62 : decode cX6_gatherStarted 62 = .ok (.iload_n 1, 1) := by decide +kernel
theorem dX6_gatherStarted_63 : decode cX6_gatherStarted 63 = .ok (.iaload, 1) := by decide +kernel
theorem dX6_gatherStarted_64 : decode cX6_gatherStarted 64 = .ok (.istore_n 2, 1) := by decide +kernel
theorem dX6_gatherStarted_65 : decode cX6_gatherStarted 65 = .ok (.aload_n 0, 1) := by decide +kernel
theorem dX6_gatherStarted_66 : decode cX6_gatherStarted 66 = .ok (.getfield 15, 3) := by decide +kernel
theorem dX6_gatherStarted_69 : decode cX6_gatherStarted 69 = .ok (.iload_n 2, 1) := by decide +kernel
theorem dX6_gatherStarted_70 : decode cX6_gatherStarted 70 = .ok (.iconst 1, 1) := by decide +kernel
theorem dX6_gatherStarted_71 : decode cX6_gatherStarted 71 = .ok (.iastore, 1) := by decide +kernel
theorem dX6_gatherStarted_72 : decode cX6_gatherStarted 72 = .ok (.aload_n 0, 1) := by decide +kernel
theorem dX6_gatherStarted_73 : decode cX6_gatherStarted 73 = .ok (.getfield 23, 3) := by decide +kernel
theorem dX6_gatherStarted_76 : decode cX6_gatherStarted 76 = .ok (.iconst 0, 1) := by decide +kernel
theorem dX6_gatherStarted_77 : decode cX6_gatherStarted 77 = .ok (.aaload, 1) := by decide +kernel
theorem dX6_gatherStarted_78 : decode cX6_gatherStarted 78 = .ok (.iload_n 2, 1) := by decide +kernel
theorem dX6_gatherStarted_79 : decode cX6_gatherStarted 79 = .ok (.aload_n 0, 1) := by decide +kernel
theorem dX6_gatherStarted_80 : decode cX6_gatherStarted 80 = .ok (.getfield 30, 3) := by decide +kernel
theorem dX6_gatherStarted_83 : decode cX6_gatherStarted 83 = .ok (.iload_n 1, 1) := by decide +kernel
theorem dX6_gatherStarted_84 : decode cX6_gatherStarted 84 = .ok (.iconst 0, 1) := by decide +kernel
theorem dX6_gatherStarted_85 : decode cX6_gatherStarted 85 = .ok (.invokevirtual 94, 3) := by decide +kernel
theorem dX6_gatherStarted_88 : decode cX6_gatherStarted 88 = .ok (.iastore, 1) := by decide +kernel
theorem dX6_gatherStarted_89 : decode cX6_gatherStarted 89 = .ok (.aload_n 0, 1) := by decide +kernel
theorem dX6_gatherStarted_90 : decode cX6_gatherStarted 90 = .ok (.getfield 23, 3) := by decide +kernel
theorem dX6_gatherStarted_93 : decode cX6_gatherStarted 93 = .ok (.iconst 1, 1) := by decide +kernel
theorem dX6_gatherStarted_94 : decode cX6_gatherStarted 94 = .ok (.aaload, 1) := by decide +kernel
theorem dX6_gatherStarted_95 : decode cX6_gatherStarted 95 = .ok (.iload_n 2, 1) := by decide +kernel
theorem dX6_gatherStarted_96 : decode cX6_gatherStarted 96 = .ok (.aload_n 0, 1) := by decide +kernel
theorem dX6_gatherStarted_97 : decode cX6_gatherStarted 97 = .ok (.getfield 30, 3) := by decide +kernel
theorem dX6_gatherStarted_100 : decode cX6_gatherStarted 100 = .ok (.iload_n 1, 1) := by decide +kernel
theorem dX6_gatherStarted_101 : decode cX6_gatherStarted 101 = .ok (.iconst 1, 1) := by decide +kernel
theorem dX6_gatherStarted_102 : decode cX6_gatherStarted 102 = .ok (.invokevirtual 94, 3) := by decide +kernel
theorem dX6_gatherStarted_105 : decode cX6_gatherStarted 105 = .ok (.iastore, 1) := by decide +kernel
theorem dX6_gatherStarted_106 : decode cX6_gatherStarted 106 = .ok (.iinc 1 (-1), 3) := by decide +kernel
theorem dX6_gatherStarted_109 : decode cX6_gatherStarted 109 = .ok (.goto (-89), 3) := by decide +kernel
theorem dX6_gatherStarted_112 : decode cX6_gatherStarted 112 = .ok (.return_, 1) := by decide +kernel
set_option maxRecDepth 20000 in
theorem ggX6_gatherOwn_J7_fill_53178 : GoodIn wsX6_gatherOwn wsJ7_fill_53178 := goodIn_r _ [11] (by decide +kernel) (by decide +kernel)
set_option maxRecDepth 20000 in
theorem gX6_gatherOwn_J7_fill_53178 : GoodIn wsX6_gatherOwn (va_wsS RX6 56 yJ7_fill_53178 wsJ7_fill_53178) := goodIn_app (goodIn_of _ (by decide +kernel)) ggX6_gatherOwn_J7_fill_53178
set_option maxRecDepth 20000 in
theorem ggX6_gatherOwn_X5_uses : GoodIn wsX6_gatherOwn wsX5_uses := goodIn_r _ [16, 17, 36, 37, 38, 39, 40, 41, 42] (by decide +kernel) (by decide +kernel)
set_option maxRecDepth 20000 in
theorem gX6_gatherOwn_X5_uses : GoodIn wsX6_gatherOwn (wsV RX6 84 RX5 yX5_uses wsX5_uses) := goodIn_app (goodIn_of _ (by decide +kernel)) ggX6_gatherOwn_X5_uses
theorem dX6_gatherOwn_0 : decode cX6_gatherOwn 0 = .ok (.aload_n 0, 1) := by decide +kernel
theorem dX6_gatherOwn_1 : decode cX6_gatherOwn 1 = .ok (.getfield 18, 3) := by decide +kernel
theorem dX6_gatherOwn_4 : decode cX6_gatherOwn 4 = .ok (.iconst (-1), 1) := by decide +kernel
theorem dX6_gatherOwn_5 : decode cX6_gatherOwn 5 = .ok (.invokestatic 56, 3) := by decide +kernel
theorem dX6_gatherOwn_8 : decode cX6_gatherOwn 8 = .ok (.iconst 0, 1) := by decide +kernel
theorem dX6_gatherOwn_9 : decode cX6_gatherOwn 9 = .ok (.istore_n 2, 1) := by decide +kernel
theorem dX6_gatherOwn_10 : decode cX6_gatherOwn 10 = .ok (.iconst 0, 1) := by decide +kernel
theorem dX6_gatherOwn_11 : decode cX6_gatherOwn 11 = .ok (.istore_n 3, 1) := by decide +kernel
theorem dX6_gatherOwn_12 : decode cX6_gatherOwn 12 = .ok (.iload_n 3, 1) := by decide +kernel
theorem dX6_gatherOwn_13 : decode cX6_gatherOwn 13 = .ok (.aload_n 0, 1) := by decide +kernel
theorem dX6_gatherOwn_14 : decode cX6_gatherOwn 14 = .ok (.getfield 26, 3) := by decide +kernel
theorem dX6_gatherOwn_17 : decode cX6_gatherOwn 17 = .ok (.getfield 37, 3) := by decide +kernel
theorem dX6_gatherOwn_20 : decode cX6_gatherOwn 20 = .ok (.iconst 3, 1) := by decide +kernel
theorem dX6_gatherOwn_21 : decode cX6_gatherOwn 21 = .ok (.iaload, 1) := by decide +kernel
theorem dX6_gatherOwn_22 : decode cX6_gatherOwn 22 = .ok (.if_icmp .ge 68, 3) := by decide +kernel
theorem dX6_gatherOwn_25 : decode cX6_gatherOwn 25 = .ok (.aload_n 0, 1) := by decide +kernel
theorem dX6_gatherOwn_26 : decode cX6_gatherOwn 26 = .ok (.getfield 26, 3) := by decide +kernel
theorem dX6_gatherOwn_29 : decode cX6_gatherOwn 29 = .ok (.getfield 91, 3) := by decide +kernel
theorem dX6_gatherOwn_32 : decode cX6_gatherOwn 32 = .ok (.iload_n 3, 1) := by decide +kernel
theorem dX6_gatherOwn_33 : decode cX6_gatherOwn 33 = .ok (.iaload, 1) := by decide +kernel
theorem dX6_gatherOwn_34 : decode cX6_gatherOwn 34 = .ok (.istore 4, 2) := by decide +kernel
theorem dX6_gatherOwn_36 : decode cX6_gatherOwn 36 = .ok (.aload_n 0, 1) := by decide +kernel
theorem dX6_gatherOwn_37 : decode cX6_gatherOwn 37 = .ok (.getfield 30, 3) := by decide +kernel
theorem dX6_gatherOwn_40 : decode cX6_gatherOwn 40 = .ok (.iload_n 3, 1) := by decide +kernel
theorem dX6_gatherOwn_41 : decode cX6_gatherOwn 41 = .ok (.invokevirtual 84, 3) := by decide +kernel
theorem dX6_gatherOwn_44 : decode cX6_gatherOwn 44 = .ok (.ifCond .eq 40, 3) := by decide +kernel
theorem dX6_gatherOwn_47 : decode cX6_gatherOwn 47 = .ok (.aload_n 0, 1) := by decide +kernel
theorem dX6_gatherOwn_48 : decode cX6_gatherOwn 48 = .ok (.getfield 26, 3) := by decide +kernel
theorem dX6_gatherOwn_51 : decode cX6_gatherOwn 51 = .ok (.getfield 88, 3) := by decide +kernel
theorem dX6_gatherOwn_54 : decode cX6_gatherOwn 54 = .ok (.iload_n 3, 1) := by decide +kernel
theorem dX6_gatherOwn_55 : decode cX6_gatherOwn 55 = .ok (.iaload, 1) := by decide +kernel
theorem dX6_gatherOwn_56 : decode cX6_gatherOwn 56 = .ok (.iload_n 1, 1) := by decide +kernel
theorem dX6_gatherOwn_57 : decode cX6_gatherOwn 57 = .ok (.if_icmp .ne 27, 3) := by decide +kernel
theorem dX6_gatherOwn_60 : decode cX6_gatherOwn 60 = .ok (.aload_n 0, 1) := by decide +kernel
theorem dX6_gatherOwn_61 : decode cX6_gatherOwn 61 = .ok (.getfield 15, 3) := by decide +kernel
theorem dX6_gatherOwn_64 : decode cX6_gatherOwn 64 = .ok (.iload 4, 2) := by decide +kernel
theorem dX6_gatherOwn_66 : decode cX6_gatherOwn 66 = .ok (.iaload, 1) := by decide +kernel
theorem dX6_gatherOwn_67 : decode cX6_gatherOwn 67 = .ok (.ifCond .ne 6, 3) := by decide +kernel
theorem dX6_gatherOwn_70 : decode cX6_gatherOwn 70 = .ok (.goto 14, 3) := by decide +kernel
theorem dX6_gatherOwn_73 : decode cX6_gatherOwn 73 = .ok (.aload_n 0, 1) := by decide +kernel
theorem dX6_gatherOwn_74 : decode cX6_gatherOwn 74 = .ok (.getfield 18, 3) := by decide +kernel
theorem dX6_gatherOwn_77 : decode cX6_gatherOwn 77 = .ok (.iload 4, 2) := by decide +kernel
theorem dX6_gatherOwn_79 : decode cX6_gatherOwn 79 = .ok (.iload_n 3, 1) := by decide +kernel
theorem dX6_gatherOwn_80 : decode cX6_gatherOwn 80 = .ok (.iastore, 1) := by decide +kernel
theorem dX6_gatherOwn_81 : decode cX6_gatherOwn 81 = .ok (.iinc 2 1, 3) := by decide +kernel
theorem dX6_gatherOwn_84 : decode cX6_gatherOwn 84 = .ok (.iinc 3 1, 3) := by decide +kernel
theorem dX6_gatherOwn_87 : decode cX6_gatherOwn 87 = .ok (.goto (-75), 3) := by decide +kernel
theorem dX6_gatherOwn_90 : decode cX6_gatherOwn 90 = .ok (.iload_n 2, 1) := by decide +kernel
theorem dX6_gatherOwn_91 : decode cX6_gatherOwn 91 = .ok (.ireturn, 1) := by decide +kernel
theorem dX6_findUnstarted_0 : decode cX6_findUnstarted 0 = .ok (.iconst 0, 1) := by decide +kernel
theorem dX6_findUnstarted_1 : decode cX6_findUnstarted 1 = .ok (.istore_n 1, 1) := by decide +kernel
theorem dX6_findUnstarted_2 : decode cX6_findUnstarted 2 = .ok (.iload_n 1, 1) := by decide +kernel
theorem dX6_findUnstarted_3 : decode cX6_findUnstarted 3 = .ok (.aload_n 0, 1) := by decide +kernel
theorem dX6_findUnstarted_4 : decode cX6_findUnstarted 4 = .ok (.getfield 26, 3) := by decide +kernel
theorem dX6_findUnstarted_7 : decode cX6_findUnstarted 7 = .ok (.getfield 37, 3) := by decide +kernel
theorem dX6_findUnstarted_10 : decode cX6_findUnstarted 10 = .ok (.iconst 1, 1) := by decide +kernel
theorem dX6_findUnstarted_11 : decode cX6_findUnstarted 11 = .ok (.iaload, 1) := by decide +kernel
theorem dX6_findUnstarted_12 : decode cX6_findUnstarted 12 = .ok (.if_icmp .ge 20, 3) := by decide +kernel
theorem dX6_findUnstarted_15 : decode cX6_findUnstarted 15 = .ok (.aload_n 0, 1) := by decide +kernel
theorem dX6_findUnstarted_16 : decode cX6_findUnstarted 16 = .ok (.getfield 9, 3) := by decide +kernel
theorem dX6_findUnstarted_19 : decode cX6_findUnstarted 19 = .ok (.iload_n 1, 1) := by decide +kernel
theorem dX6_findUnstarted_20 : decode cX6_findUnstarted 20 = .ok (.iaload, 1) := by decide +kernel
theorem dX6_findUnstarted_21 : decode cX6_findUnstarted 21 = .ok (.ifCond .ne 5, 3) := by decide +kernel
theorem dX6_findUnstarted_24 : decode cX6_findUnstarted 24 = .ok (.iload_n 1, 1) := by decide +kernel
theorem dX6_findUnstarted_25 : decode cX6_findUnstarted 25 = .ok (.ireturn, 1) := by decide +kernel
theorem dX6_findUnstarted_26 : decode cX6_findUnstarted 26 = .ok (.iinc 1 1, 3) := by decide +kernel
theorem dX6_findUnstarted_29 : decode cX6_findUnstarted 29 = .ok (.goto (-27), 3) := by decide +kernel
theorem dX6_findUnstarted_32 : decode cX6_findUnstarted 32 = .ok (.iconst (-1), 1) := by decide +kernel
theorem dX6_findUnstarted_33 : decode cX6_findUnstarted 33 = .ok (.ireturn, 1) := by decide +kernel
set_option maxRecDepth 20000 in
theorem ggX6_startLinked_X6_firstLink : GoodIn wsX6_startLinked wsX6_firstLink := goodIn_r _ [12, 1, 13, 7, 41, 42, 43, 44, 45, 46, 47, 48, 49, 50, 51, 52, 53, 54, 55, 56, 57, 58] (by decide +kernel) (by decide +kernel)
set_option maxRecDepth 20000 in
theorem gX6_startLinked_X6_firstLink : GoodIn wsX6_startLinked (wsV RX6 98 RX6 yX6_firstLink wsX6_firstLink) := goodIn_app (goodIn_of _ (by decide +kernel)) ggX6_startLinked_X6_firstLink
set_option maxRecDepth 20000 in
theorem ggX6_startLinked_X6_leastUnlikeTurn : GoodIn wsX6_startLinked wsX6_leastUnlikeTurn := goodIn_r _ [17, 18, 19, 20, 11, 21, 1, 13, 7, 6, 22, 23, 24, 25, 26, 27, 28, 29, 30, 31, 41, 42, 43, 44, 45, 46, 47, 48, 49, 50, 51, 52, 53, 54, 55, 56, 57, 58] (by decide +kernel) (by decide +kernel)
set_option maxRecDepth 20000 in
theorem gX6_startLinked_X6_leastUnlikeTurn : GoodIn wsX6_startLinked (wsV RX6 101 RX6 yX6_leastUnlikeTurn wsX6_leastUnlikeTurn) := goodIn_app (goodIn_of _ (by decide +kernel)) ggX6_startLinked_X6_leastUnlikeTurn
set_option maxRecDepth 20000 in
theorem ggX6_startLinked_X5_turned : GoodIn wsX6_startLinked wsX5_turned := goodIn_r _ [36, 37, 38, 39, 40, 27, 28, 29, 30, 31, 59, 60, 61, 62, 63, 64, 65, 47, 48, 49, 50, 51, 52, 53, 54, 55, 56, 57, 58] (by decide +kernel) (by decide +kernel)
set_option maxRecDepth 20000 in
theorem gX6_startLinked_X5_turned : GoodIn wsX6_startLinked (wsV RX6 104 RX5 yX5_turned wsX5_turned) := goodIn_app (goodIn_of _ (by decide +kernel)) ggX6_startLinked_X5_turned
theorem dX6_startLinked_0 : decode cX6_startLinked 0 = .ok (.aload_n 0, 1) := by decide +kernel
theorem dX6_startLinked_1 : decode cX6_startLinked 1 = .ok (.invokevirtual 98, 3) := by decide +kernel
theorem dX6_startLinked_4 : decode cX6_startLinked 4 = .ok (.istore_n 2, 1) := by decide +kernel
theorem dX6_startLinked_5 : decode cX6_startLinked 5 = .ok (.iload_n 2, 1) := by decide +kernel
theorem dX6_startLinked_6 : decode cX6_startLinked 6 = .ok (.iconst (-1), 1) := by decide +kernel
theorem dX6_startLinked_7 : decode cX6_startLinked 7 = .ok (.if_icmp .ne 4, 3) := by decide +kernel
theorem dX6_startLinked_10 : decode cX6_startLinked 10 = .ok (.return_, 1) := by decide +kernel
theorem dX6_startLinked_11 : decode cX6_startLinked 11 = .ok (.aload_n 0, 1) := by decide +kernel
theorem dX6_startLinked_12 : decode cX6_startLinked 12 = .ok (.getfield 26, 3) := by decide +kernel
theorem dX6_startLinked_15 : decode cX6_startLinked 15 = .ok (.getfield 76, 3) := by decide +kernel
theorem dX6_startLinked_18 : decode cX6_startLinked 18 = .ok (.iload_n 1, 1) := by decide +kernel
theorem dX6_startLinked_19 : decode cX6_startLinked 19 = .ok (.iaload, 1) := by decide +kernel
theorem dX6_startLinked_20 : decode cX6_startLinked 20 = .ok (.iconst 4, 1) := by decide +kernel
theorem dX6_startLinked_21 : decode cX6_startLinked 21 = .ok (.if_icmp .ne 17, 3) := by decide +kernel
theorem dX6_startLinked_24 : decode cX6_startLinked 24 = .ok (.aload_n 0, 1) := by decide +kernel
theorem dX6_startLinked_25 : decode cX6_startLinked 25 = .ok (.getfield 30, 3) := by decide +kernel
theorem dX6_startLinked_28 : decode cX6_startLinked 28 = .ok (.getfield 73, 3) := by decide +kernel
theorem dX6_startLinked_31 : decode cX6_startLinked 31 = .ok (.iload_n 1, 1) := by decide +kernel
theorem dX6_startLinked_32 : decode cX6_startLinked 32 = .ok (.aload_n 0, 1) := by decide +kernel
theorem dX6_startLinked_33 : decode cX6_startLinked 33 = .ok (.iload_n 2, 1) := by decide +kernel
theorem dX6_startLinked_34 : decode cX6_startLinked 34 = .ok (.invokevirtual 101, 3) := by decide +kernel
theorem dX6_startLinked_37 : decode cX6_startLinked 37 = .ok (.iastore, 1) := by decide +kernel
theorem dX6_startLinked_38 : decode cX6_startLinked 38 = .ok (.iconst 0, 1) := by decide +kernel
theorem dX6_startLinked_39 : decode cX6_startLinked 39 = .ok (.istore_n 3, 1) := by decide +kernel
theorem dX6_startLinked_40 : decode cX6_startLinked 40 = .ok (.iload_n 3, 1) := by decide +kernel
theorem dX6_startLinked_41 : decode cX6_startLinked 41 = .ok (.iconst 2, 1) := by decide +kernel
theorem dX6_startLinked_42 : decode cX6_startLinked 42 = .ok (.if_icmp .ge 43, 3) := by decide +kernel
theorem dX6_startLinked_45 : decode cX6_startLinked 45 = .ok (.aload_n 0, 1) := by decide +kernel
theorem dX6_startLinked_46 : decode cX6_startLinked 46 = .ok (.getfield 30, 3) := by decide +kernel
theorem dX6_startLinked_49 : decode cX6_startLinked 49 = .ok (.getfield 62, 3) := by decide +kernel
theorem dX6_startLinked_52 : decode cX6_startLinked 52 = .ok (.iload_n 3, 1) := by decide +kernel
theorem dX6_startLinked_53 : decode cX6_startLinked 53 = .ok (.aaload, 1) := by decide +kernel
theorem dX6_startLinked_54 : decode cX6_startLinked 54 = .ok (.iload_n 1, 1) := by decide +kernel
theorem dX6_startLinked_55 : decode cX6_startLinked 55 = .ok (.aload_n 0, 1) := by decide +kernel
theorem dX6_startLinked_56 : decode cX6_startLinked 56 = .ok (.getfield 23, 3) := by decide +kernel
theorem dX6_startLinked_59 : decode cX6_startLinked 59 = .ok (.iload_n 3, 1) := by decide +kernel
theorem dX6_startLinked_60 : decode cX6_startLinked 60 = .ok (.aaload, 1) := by decide +kernel
theorem dX6_startLinked_61 : decode cX6_startLinked 61 = .ok (.iload_n 2, 1) := by decide +kernel
theorem dX6_startLinked_62 : decode cX6_startLinked 62 = .ok (.iaload, 1) := by decide +kernel
theorem dX6_startLinked_63 : decode cX6_startLinked 63 = .ok (.aload_n 0, 1) := by decide +kernel
theorem dX6_startLinked_64 : decode cX6_startLinked 64 = .ok (.getfield 30, 3) := by decide +kernel
theorem dX6_startLinked_67 : decode cX6_startLinked 67 = .ok (.aload_n 0, 1) := by decide +kernel
theorem dX6_startLinked_68 : decode cX6_startLinked 68 = .ok (.getfield 18, 3) := by decide +kernel
theorem dX6_startLinked_71 : decode cX6_startLinked 71 = .ok (.iload_n 2, 1) := by decide +kernel
theorem dX6_startLinked_72 : decode cX6_startLinked 72 = .ok (.iaload, 1) := by decide +kernel
theorem dX6_startLinked_73 : decode cX6_startLinked 73 = .ok (.iload_n 3, 1) := by decide +kernel
theorem dX6_startLinked_74 : decode cX6_startLinked 74 = .ok (.invokevirtual 104, 3) := by decide +kernel
theorem dX6_startLinked_77 : decode cX6_startLinked 77 = .ok (.isub, 1) := by decide +kernel
theorem dX6_startLinked_78 : decode cX6_startLinked 78 = .ok (.iastore, 1) := by decide +kernel
theorem dX6_startLinked_79 : decode cX6_startLinked 79 = .ok (.iinc 3 1, 3) := by decide +kernel
theorem dX6_startLinked_82 : decode cX6_startLinked 82 = .ok (.goto (-42), 3) := by decide +kernel
theorem dX6_startLinked_85 : decode cX6_startLinked 85 = .ok (.return_, 1) := by decide +kernel
theorem dX6_firstLink_0 : decode cX6_firstLink 0 = .ok (.iconst 0, 1) := by decide +kernel
theorem dX6_firstLink_1 : decode cX6_firstLink 1 = .ok (.istore_n 1, 1) := by decide +kernel
theorem dX6_firstLink_2 : decode cX6_firstLink 2 = .ok (.iload_n 1, 1) := by decide +kernel
theorem dX6_firstLink_3 : decode cX6_firstLink 3 = .ok (.aload_n 0, 1) := by decide +kernel
theorem dX6_firstLink_4 : decode cX6_firstLink 4 = .ok (.getfield 26, 3) := by decide +kernel
theorem dX6_firstLink_7 : decode cX6_firstLink 7 = .ok (.getfield 37, 3) := by decide +kernel
theorem dX6_firstLink_10 : decode cX6_firstLink 10 = .ok (.iconst 2, 1) := by decide +kernel
theorem dX6_firstLink_11 : decode cX6_firstLink 11 = .ok (.iaload, 1) := by decide +kernel
theorem dX6_firstLink_12 : decode cX6_firstLink 12 = .ok (.if_icmp .ge 21, 3) := by decide +kernel
theorem dX6_firstLink_15 : decode cX6_firstLink 15 = .ok (.aload_n 0, 1) := by decide +kernel
theorem dX6_firstLink_16 : decode cX6_firstLink 16 = .ok (.getfield 18, 3) := by decide +kernel
theorem dX6_firstLink_19 : decode cX6_firstLink 19 = .ok (.iload_n 1, 1) := by decide +kernel
theorem dX6_firstLink_20 : decode cX6_firstLink 20 = .ok (.iaload, 1) := by decide +kernel
theorem dX6_firstLink_21 : decode cX6_firstLink 21 = .ok (.iconst (-1), 1) := by decide +kernel
theorem dX6_firstLink_22 : decode cX6_firstLink 22 = .ok (.if_icmp .eq 5, 3) := by decide +kernel
theorem dX6_firstLink_25 : decode cX6_firstLink 25 = .ok (.iload_n 1, 1) := by decide +kernel
theorem dX6_firstLink_26 : decode cX6_firstLink 26 = .ok (.ireturn, 1) := by decide +kernel
theorem dX6_firstLink_27 : decode cX6_firstLink 27 = .ok (.iinc 1 1, 3) := by decide +kernel
theorem dX6_firstLink_30 : decode cX6_firstLink 30 = .ok (.goto (-28), 3) := by decide +kernel
theorem dX6_firstLink_33 : decode cX6_firstLink 33 = .ok (.iconst (-1), 1) := by decide +kernel
theorem dX6_firstLink_34 : decode cX6_firstLink 34 = .ok (.ireturn, 1) := by decide +kernel
set_option maxRecDepth 20000 in
theorem ggX6_leastUnlikeTurn_X6_unlikeness : GoodIn wsX6_leastUnlikeTurn wsX6_unlikeness := goodIn_r _ [5, 6, 7, 8, 9, 10, 11, 12, 13, 14, 15, 16, 17, 18, 19, 20, 21, 22, 23, 24, 25, 26, 27, 28, 29, 30, 31, 32, 33, 34, 35, 36, 37] (by decide +kernel) (by decide +kernel)
set_option maxRecDepth 20000 in
theorem gX6_leastUnlikeTurn_X6_unlikeness : GoodIn wsX6_leastUnlikeTurn (wsV RX6 107 RX6 yX6_unlikeness wsX6_unlikeness) := goodIn_app (goodIn_of _ (by decide +kernel)) ggX6_leastUnlikeTurn_X6_unlikeness
theorem dX6_leastUnlikeTurn_0 : decode cX6_leastUnlikeTurn 0 = .ok (.iconst 0, 1) := by decide +kernel
theorem dX6_leastUnlikeTurn_1 : decode cX6_leastUnlikeTurn 1 = .ok (.istore_n 2, 1) := by decide +kernel
theorem dX6_leastUnlikeTurn_2 : decode cX6_leastUnlikeTurn 2 = .ok (.iconst 1, 1) := by decide +kernel
theorem dX6_leastUnlikeTurn_3 : decode cX6_leastUnlikeTurn 3 = .ok (.istore_n 3, 1) := by decide +kernel
theorem dX6_leastUnlikeTurn_4 : decode cX6_leastUnlikeTurn 4 = .ok (.iload_n 3, 1) := by decide +kernel
theorem dX6_leastUnlikeTurn_5 : decode cX6_leastUnlikeTurn 5 = .ok (.iconst 4, 1) := by decide +kernel
theorem dX6_leastUnlikeTurn_6 : decode cX6_leastUnlikeTurn 6 = .ok (.if_icmp .ge 27, 3) := by decide +kernel
theorem dX6_leastUnlikeTurn_9 : decode cX6_leastUnlikeTurn 9 = .ok (.aload_n 0, 1) := by decide +kernel
theorem dX6_leastUnlikeTurn_10 : decode cX6_leastUnlikeTurn 10 = .ok (.iload_n 3, 1) := by decide +kernel
theorem dX6_leastUnlikeTurn_11 : decode cX6_leastUnlikeTurn 11 = .ok (.iload_n 1, 1) := by decide +kernel
theorem dX6_leastUnlikeTurn_12 : decode cX6_leastUnlikeTurn 12 = .ok (.invokevirtual 107, 3) := by decide +kernel
theorem dX6_leastUnlikeTurn_15 : decode cX6_leastUnlikeTurn 15 = .ok (.aload_n 0, 1) := by decide +kernel
theorem dX6_leastUnlikeTurn_16 : decode cX6_leastUnlikeTurn 16 = .ok (.iload_n 2, 1) := by decide +kernel
theorem dX6_leastUnlikeTurn_17 : decode cX6_leastUnlikeTurn 17 = .ok (.iload_n 1, 1) := by decide +kernel
theorem dX6_leastUnlikeTurn_18 : decode cX6_leastUnlikeTurn 18 = .ok (.invokevirtual 107, 3) := by decide +kernel
theorem dX6_leastUnlikeTurn_21 : decode cX6_leastUnlikeTurn 21 = .ok (.lcmp, 1) := by decide +kernel
theorem dX6_leastUnlikeTurn_22 : decode cX6_leastUnlikeTurn 22 = .ok (.ifCond .ge 5, 3) := by decide +kernel
theorem dX6_leastUnlikeTurn_25 : decode cX6_leastUnlikeTurn 25 = .ok (.iload_n 3, 1) := by decide +kernel
theorem dX6_leastUnlikeTurn_26 : decode cX6_leastUnlikeTurn 26 = .ok (.istore_n 2, 1) := by decide +kernel
theorem dX6_leastUnlikeTurn_27 : decode cX6_leastUnlikeTurn 27 = .ok (.iinc 3 1, 3) := by decide +kernel
theorem dX6_leastUnlikeTurn_30 : decode cX6_leastUnlikeTurn 30 = .ok (.goto (-26), 3) := by decide +kernel
theorem dX6_leastUnlikeTurn_33 : decode cX6_leastUnlikeTurn 33 = .ok (.iload_n 2, 1) := by decide +kernel
theorem dX6_leastUnlikeTurn_34 : decode cX6_leastUnlikeTurn 34 = .ok (.ireturn, 1) := by decide +kernel
set_option maxRecDepth 20000 in
theorem ggX6_unlikeness_X8_turnedBy : GoodIn wsX6_unlikeness wsX8_turnedBy := goodIn_r _ [13, 14, 21, 22, 23, 24, 25, 26, 27, 28, 29, 30, 31, 32] (by decide +kernel) (by decide +kernel)
set_option maxRecDepth 20000 in
theorem gX6_unlikeness_X8_turnedBy : GoodIn wsX6_unlikeness (wsV RX6 111 RX8 yX8_turnedBy wsX8_turnedBy) := goodIn_app (goodIn_of _ (by decide +kernel)) ggX6_unlikeness_X8_turnedBy
theorem dX6_unlikeness_0 : decode cX6_unlikeness 0 = .ok (.lconst 0, 1) := by decide +kernel
theorem dX6_unlikeness_1 : decode cX6_unlikeness 1 = .ok (.lstore_n 3, 1) := by decide +kernel
theorem dX6_unlikeness_2 : decode cX6_unlikeness 2 = .ok (.iconst 0, 1) := by decide +kernel
theorem dX6_unlikeness_3 : decode cX6_unlikeness 3 = .ok (.istore 5, 2) := by decide +kernel
theorem dX6_unlikeness_5 : decode cX6_unlikeness 5 = .ok (.iload 5, 2) := by decide +kernel
theorem dX6_unlikeness_7 : decode cX6_unlikeness 7 = .ok (.aload_n 0, 1) := by decide +kernel
theorem dX6_unlikeness_8 : decode cX6_unlikeness 8 = .ok (.getfield 26, 3) := by decide +kernel
theorem dX6_unlikeness_11 : decode cX6_unlikeness 11 = .ok (.getfield 37, 3) := by decide +kernel
theorem dX6_unlikeness_14 : decode cX6_unlikeness 14 = .ok (.iconst 2, 1) := by decide +kernel
theorem dX6_unlikeness_15 : decode cX6_unlikeness 15 = .ok (.iaload, 1) := by decide +kernel
theorem dX6_unlikeness_16 : decode cX6_unlikeness 16 = .ok (.if_icmp .ge 108, 3) := by decide +kernel
theorem dX6_unlikeness_19 : decode cX6_unlikeness 19 = .ok (.aload_n 0, 1) := by decide +kernel
theorem dX6_unlikeness_20 : decode cX6_unlikeness 20 = .ok (.getfield 18, 3) := by decide +kernel
theorem dX6_unlikeness_23 : decode cX6_unlikeness 23 = .ok (.iload 5, 2) := by decide +kernel
theorem dX6_unlikeness_25 : decode cX6_unlikeness 25 = .ok (.iaload, 1) := by decide +kernel
theorem dX6_unlikeness_26 : decode cX6_unlikeness 26 = .ok (.iconst (-1), 1) := by decide +kernel
theorem dX6_unlikeness_27 : decode cX6_unlikeness 27 = .ok (.if_icmp .ne 6, 3) := by decide +kernel
theorem dX6_unlikeness_30 : decode cX6_unlikeness 30 = .ok (.goto 88, 3) := by decide +kernel
theorem dX6_unlikeness_33 : decode cX6_unlikeness 33 = .ok (.iconst 0, 1) := by decide +kernel
theorem dX6_unlikeness_34 : decode cX6_unlikeness 34 = .ok (.istore 6, 2) := by decide +kernel
theorem dX6_unlikeness_36 : decode cX6_unlikeness 36 = .ok (.iload 6, 2) := by decide +kernel
theorem dX6_unlikeness_38 : decode cX6_unlikeness 38 = .ok (.iconst 2, 1) := by decide +kernel
theorem dX6_unlikeness_39 : decode cX6_unlikeness 39 = .ok (.if_icmp .ge 79, 3) := by decide +kernel
theorem dX6_unlikeness_42 : decode cX6_unlikeness 42 = .ok (.aload_n 0, 1) := by decide +kernel
theorem dX6_unlikeness_43 : decode cX6_unlikeness 43 = .ok (.getfield 26, 3) := by decide +kernel
theorem dX6_unlikeness_46 : decode cX6_unlikeness 46 = .ok (.iload_n 1, 1) := by decide +kernel
theorem dX6_unlikeness_47 : decode cX6_unlikeness 47 = .ok (.aload_n 0, 1) := by decide +kernel
theorem dX6_unlikeness_48 : decode cX6_unlikeness 48 = .ok (.getfield 18, 3) := by decide +kernel
theorem dX6_unlikeness_51 : decode cX6_unlikeness 51 = .ok (.iload 5, 2) := by decide +kernel
theorem dX6_unlikeness_53 : decode cX6_unlikeness 53 = .ok (.iaload, 1) := by decide +kernel
theorem dX6_unlikeness_54 : decode cX6_unlikeness 54 = .ok (.iload 6, 2) := by decide +kernel
theorem dX6_unlikeness_56 : decode cX6_unlikeness 56 = .ok (.invokevirtual 111, 3) := by decide +kernel
theorem dX6_unlikeness_59 : decode cX6_unlikeness 59 = .ok (.aload_n 0, 1) := by decide +kernel
theorem dX6_unlikeness_60 : decode cX6_unlikeness 60 = .ok (.getfield 26, 3) := by decide +kernel
theorem dX6_unlikeness_63 : decode cX6_unlikeness 63 = .ok (.iload_n 1, 1) := by decide +kernel
theorem dX6_unlikeness_64 : decode cX6_unlikeness 64 = .ok (.aload_n 0, 1) := by decide +kernel
theorem dX6_unlikeness_65 : decode cX6_unlikeness 65 = .ok (.getfield 18, 3) := by decide +kernel
theorem dX6_unlikeness_68 : decode cX6_unlikeness 68 = .ok (.iload_n 2, 1) := by decide +kernel
theorem dX6_unlikeness_69 : decode cX6_unlikeness 69 = .ok (.iaload, 1) := by decide +kernel
theorem dX6_unlikeness_70 : decode cX6_unlikeness 70 = .ok (.iload 6, 2) := by decide +kernel
theorem dX6_unlikeness_72 : decode cX6_unlikeness 72 = .ok (.invokevirtual 111, 3) := by decide +kernel
theorem dX6_unlikeness_75 : decode cX6_unlikeness 75 = .ok (.isub, 1) := by decide +kernel
theorem dX6_unlikeness_76 : decode cX6_unlikeness 76 = .ok (.istore 7, 2) := by decide +kernel
theorem dX6_unlikeness_78 : decode cX6_unlikeness 78 = .ok (.aload_n 0, 1) := by decide +kernel
theorem dX6_unlikeness_79 : decode cX6_unlikeness 79 = .ok (.getfield 23, 3) := by decide +kernel
theorem dX6_unlikeness_82 : decode cX6_unlikeness 82 = .ok (.iload 6, 2) := by decide +kernel
theorem dX6_unlikeness_84 : decode cX6_unlikeness 84 = .ok (.aaload, 1) := by decide +kernel
theorem dX6_unlikeness_85 : decode cX6_unlikeness 85 = .ok (.iload 5, 2) := by decide +kernel
theorem dX6_unlikeness_87 : decode cX6_unlikeness 87 = .ok (.iaload, 1) := by decide +kernel
theorem dX6_unlikeness_88 : decode cX6_unlikeness 88 = .ok (.aload_n 0, 1) := by decide +kernel
theorem dX6_unlikeness_89 : decode cX6_unlikeness 89 = .ok (.getfield 23, 3) := by decide +kernel
theorem dX6_unlikeness_92 : decode cX6_unlikeness 92 = .ok (.iload 6, 2) := by decide +kernel
theorem dX6_unlikeness_94 : decode cX6_unlikeness 94 = .ok (.aaload, 1) := by decide +kernel
theorem dX6_unlikeness_95 : decode cX6_unlikeness 95 = .ok (.iload_n 2, 1) := by decide +kernel
theorem dX6_unlikeness_96 : decode cX6_unlikeness 96 = .ok (.iaload, 1) := by decide +kernel
theorem dX6_unlikeness_97 : decode cX6_unlikeness 97 = .ok (.isub, 1) := by decide +kernel
theorem dX6_unlikeness_98 : decode cX6_unlikeness 98 = .ok (.istore 8, 2) := by decide +kernel
theorem dX6_unlikeness_100 : decode cX6_unlikeness 100 = .ok (.lload_n 3, 1) := by decide +kernel
theorem dX6_unlikeness_101 : decode cX6_unlikeness 101 = .ok (.iload 7, 2) := by decide +kernel
theorem dX6_unlikeness_103 : decode cX6_unlikeness 103 = .ok (.iload 8, 2) := by decide +kernel
theorem dX6_unlikeness_105 : decode cX6_unlikeness 105 = .ok (.isub, 1) := by decide +kernel
theorem dX6_unlikeness_106 : decode cX6_unlikeness 106 = .ok (.invokestatic 115, 3) := by decide +kernel
theorem dX6_unlikeness_109 : decode cX6_unlikeness 109 = .ok (.i2l, 1) := by decide +kernel
theorem dX6_unlikeness_110 : decode cX6_unlikeness 110 = .ok (.ladd, 1) := by decide +kernel
theorem dX6_unlikeness_111 : decode cX6_unlikeness 111 = .ok (.lstore_n 3, 1) := by decide +kernel
theorem dX6_unlikeness_112 : decode cX6_unlikeness 112 = .ok (.iinc 6 1, 3) := by decide +kernel
theorem dX6_unlikeness_115 : decode cX6_unlikeness 115 = .ok (.goto (-79), 3) := by decide +kernel
theorem dX6_unlikeness_118 : decode cX6_unlikeness 118 = .ok (.iinc 5 1, 3) := by decide +kernel
theorem dX6_unlikeness_121 : decode cX6_unlikeness 121 = .ok (.goto (-116), 3) := by decide +kernel
theorem dX6_unlikeness_124 : decode cX6_unlikeness 124 = .ok (.lload_n 3, 1) := by decide +kernel
theorem dX6_unlikeness_125 : decode cX6_unlikeness 125 = .ok (.lreturn, 1) := by decide +kernel
set_option maxRecDepth 20000 in
theorem ggX6_putPoints_X5_uses : GoodIn wsX6_putPoints wsX5_uses := goodIn_r _ [10, 11, 61, 62, 63, 64, 65, 66, 67] (by decide +kernel) (by decide +kernel)
set_option maxRecDepth 20000 in
theorem gX6_putPoints_X5_uses : GoodIn wsX6_putPoints (wsV RX6 84 RX5 yX5_uses wsX5_uses) := goodIn_app (goodIn_of _ (by decide +kernel)) ggX6_putPoints_X5_uses
set_option maxRecDepth 20000 in
theorem ggX6_putPoints_X5_putAt : GoodIn wsX6_putPoints wsX5_putAt := goodIn_r _ [15, 16, 17, 18, 19, 20, 21, 22, 23, 24, 25, 61, 62, 63, 64, 65, 66, 67, 49, 50, 51, 52, 53, 54, 55, 56, 57, 58, 59, 60] (by decide +kernel) (by decide +kernel)
set_option maxRecDepth 20000 in
theorem gX6_putPoints_X5_putAt : GoodIn wsX6_putPoints (wsV RX6 94 RX5 yX5_putAt wsX5_putAt) := goodIn_app (goodIn_of _ (by decide +kernel)) ggX6_putPoints_X5_putAt
set_option maxRecDepth 20000 in
theorem ggX6_putPoints_X5_placeFixed : GoodIn wsX6_putPoints wsX5_placeFixed := goodIn_r _ [29, 16, 30, 31, 32, 33, 34, 9, 35, 36, 37, 38, 39, 40, 41, 42, 61, 62, 63, 64, 65, 66, 67, 49, 50, 51, 52, 53, 54, 55, 56, 57, 58, 59, 60] (by decide +kernel) (by decide +kernel)
set_option maxRecDepth 20000 in
theorem gX6_putPoints_X5_placeFixed : GoodIn wsX6_putPoints (wsV RX6 120 RX5 yX5_placeFixed wsX5_placeFixed) := goodIn_app (goodIn_of _ (by decide +kernel)) ggX6_putPoints_X5_placeFixed
theorem dX6_putPoints_0 : decode cX6_putPoints 0 = .ok (.aload_n 0, 1) := by decide +kernel
theorem dX6_putPoints_1 : decode cX6_putPoints 1 = .ok (.getfield 26, 3) := by decide +kernel
theorem dX6_putPoints_4 : decode cX6_putPoints 4 = .ok (.getfield 37, 3) := by decide +kernel
theorem dX6_putPoints_7 : decode cX6_putPoints 7 = .ok (.iconst 3, 1) := by decide +kernel
theorem dX6_putPoints_8 : decode cX6_putPoints 8 = .ok (.iaload, 1) := by decide +kernel
theorem dX6_putPoints_9 : decode cX6_putPoints 9 = .ok (.iconst 1, 1) := by decide +kernel
theorem dX6_putPoints_10 : decode cX6_putPoints 10 = .ok (.isub, 1) := by decide +kernel
theorem dX6_putPoints_11 : decode cX6_putPoints 11 = .ok (.istore_n 1, 1) := by decide +kernel
theorem dX6_putPoints_12 : decode cX6_putPoints 12 = .ok (.iload_n 1, 1) := by decide +kernel
theorem dX6_putPoints_13 : decode cX6_putPoints 13 = .ok (.ifCond .lt 79, 3) := by decide +kernel
theorem dX6_putPoints_16 : decode cX6_putPoints 16 = .ok (.aload_n 0, 1) := by decide +kernel
theorem dX6_putPoints_17 : decode cX6_putPoints 17 = .ok (.getfield 30, 3) := by decide +kernel
theorem dX6_putPoints_20 : decode cX6_putPoints 20 = .ok (.iload_n 1, 1) := by decide +kernel
theorem dX6_putPoints_21 : decode cX6_putPoints 21 = .ok (.invokevirtual 84, 3) := by decide +kernel
theorem dX6_putPoints_24 : decode cX6_putPoints 24 = .ok (.ifCond .ne 6, 3) := by decide +kernel
theorem dX6_putPoints_27 : decode cX6_putPoints 27 = .ok (.goto 59, 3) := by decide +kernel
theorem dX6_putPoints_30 : decode cX6_putPoints 30 = .ok (.aload_n 0, 1) := by decide +kernel
theorem dX6_putPoints_31 : decode cX6_putPoints 31 = .ok (.getfield 30, 3) := by decide +kernel
theorem dX6_putPoints_34 : decode cX6_putPoints 34 = .ok (.getfield 67, 3) := by decide +kernel
theorem dX6_putPoints_37 : decode cX6_putPoints 37 = .ok (.iconst 0, 1) := by decide +kernel
theorem dX6_putPoints_38 : decode cX6_putPoints 38 = .ok (.aaload, 1) := by decide +kernel
theorem dX6_putPoints_39 : decode cX6_putPoints 39 = .ok (.aload_n 0, 1) := by decide +kernel
theorem dX6_putPoints_40 : decode cX6_putPoints 40 = .ok (.getfield 26, 3) := by decide +kernel
theorem dX6_putPoints_43 : decode cX6_putPoints 43 = .ok (.getfield 91, 3) := by decide +kernel
theorem dX6_putPoints_46 : decode cX6_putPoints 46 = .ok (.iload_n 1, 1) := by decide +kernel
theorem dX6_putPoints_47 : decode cX6_putPoints 47 = .ok (.iaload, 1) := by decide +kernel
theorem dX6_putPoints_48 : decode cX6_putPoints 48 = .ok (.aload_n 0, 1) := by decide +kernel
theorem dX6_putPoints_49 : decode cX6_putPoints 49 = .ok (.getfield 30, 3) := by decide +kernel
theorem dX6_putPoints_52 : decode cX6_putPoints 52 = .ok (.iload_n 1, 1) := by decide +kernel
theorem dX6_putPoints_53 : decode cX6_putPoints 53 = .ok (.iconst 0, 1) := by decide +kernel
theorem dX6_putPoints_54 : decode cX6_putPoints 54 = .ok (.invokevirtual 94, 3) := by decide +kernel
theorem dX6_putPoints_57 : decode cX6_putPoints 57 = .ok (.iastore, 1) := by decide +kernel
theorem dX6_putPoints_58 : decode cX6_putPoints 58 = .ok (.aload_n 0, 1) := by decide +kernel
theorem dX6_putPoints_59 : decode cX6_putPoints 59 = .ok (.getfield 30, 3) := by decide +kernel
theorem dX6_putPoints_62 : decode cX6_putPoints 62 = .ok (.getfield 67, 3) := by decide +kernel
theorem dX6_putPoints_65 : decode cX6_putPoints 65 = .ok (.iconst 1, 1) := by decide +kernel
theorem dX6_putPoints_66 : decode cX6_putPoints 66 = .ok (.aaload, 1) := by decide +kernel
theorem dX6_putPoints_67 : decode cX6_putPoints 67 = .ok (.aload_n 0, 1) := by decide +kernel
theorem dX6_putPoints_68 : decode cX6_putPoints 68 = .ok (.getfield 26, 3) := by decide +kernel
theorem dX6_putPoints_71 : decode cX6_putPoints 71 = .ok (.getfield 91, 3) := by decide +kernel
theorem dX6_putPoints_74 : decode cX6_putPoints 74 = .ok (.iload_n 1, 1) := by decide +kernel
theorem dX6_putPoints_75 : decode cX6_putPoints 75 = .ok (.iaload, 1) := by decide +kernel
theorem dX6_putPoints_76 : decode cX6_putPoints 76 = .ok (.aload_n 0, 1) := by decide +kernel
theorem dX6_putPoints_77 : decode cX6_putPoints 77 = .ok (.getfield 30, 3) := by decide +kernel
theorem dX6_putPoints_80 : decode cX6_putPoints 80 = .ok (.iload_n 1, 1) := by decide +kernel
theorem dX6_putPoints_81 : decode cX6_putPoints 81 = .ok (.iconst 1, 1) := by decide +kernel
theorem dX6_putPoints_82 : decode cX6_putPoints 82 = .ok (.invokevirtual 94, 3) := by decide +kernel
theorem dX6_putPoints_85 : decode cX6_putPoints 85 = .ok (.iastore, 1) := by decide +kernel
theorem dX6_putPoints_86 : decode cX6_putPoints 86 = .ok (.iinc 1 (-1), 3) := by decide +kernel
theorem dX6_putPoints_89 : decode cX6_putPoints 89 = .ok (.goto (-77), 3) := by decide +kernel
theorem dX6_putPoints_92 : decode cX6_putPoints 92 = .ok (.aload_n 0, 1) := by decide +kernel
theorem dX6_putPoints_93 : decode cX6_putPoints 93 = .ok (.getfield 30, 3) := by decide +kernel
theorem dX6_putPoints_96 : decode cX6_putPoints 96 = .ok (.invokevirtual 120, 3) := by decide +kernel
theorem dX6_putPoints_99 : decode cX6_putPoints 99 = .ok (.return_, 1) := by decide +kernel
theorem dX7_init_0 : decode cX7_init 0 = .ok (.aload_n 0, 1) := by decide +kernel
theorem dX7_init_1 : decode cX7_init 1 = .ok (.invokespecial 3, 3) := by decide +kernel
theorem dX7_init_4 : decode cX7_init 4 = .ok (.aload_n 0, 1) := by decide +kernel
theorem dX7_init_5 : decode cX7_init 5 = .ok (.bipush 12, 2) := by decide +kernel
theorem dX7_init_7 : decode cX7_init 7 = .ok (.bipush 20, 2) := by decide +kernel
theorem dX7_init_9 : decode cX7_init 9 = .ok (.multianewarray 9 2, 4) := by decide +kernel
theorem dX7_init_13 : decode cX7_init 13 = .ok (.putfield 11, 3) := by decide +kernel
theorem dX7_init_16 : decode cX7_init 16 = .ok (.aload_n 0, 1) := by decide +kernel
theorem dX7_init_17 : decode cX7_init 17 = .ok (.bipush 12, 2) := by decide +kernel
theorem dX7_init_19 : decode cX7_init 19 = .ok (.bipush 12, 2) := by decide +kernel
theorem dX7_init_21 : decode cX7_init 21 = .ok (.multianewarray 9 2, 4) := by decide +kernel
theorem dX7_init_25 : decode cX7_init 25 = .ok (.putfield 16, 3) := by decide +kernel
theorem dX7_init_28 : decode cX7_init 28 = .ok (.aload_n 0, 1) := by decide +kernel
theorem dX7_init_29 : decode cX7_init 29 = .ok (.bipush 12, 2) := by decide +kernel
theorem dX7_init_31 : decode cX7_init 31 = .ok (.bipush 12, 2) := by decide +kernel
theorem dX7_init_33 : decode cX7_init 33 = .ok (.multianewarray 9 2, 4) := by decide +kernel
theorem dX7_init_37 : decode cX7_init 37 = .ok (.putfield 19, 3) := by decide +kernel
theorem dX7_init_40 : decode cX7_init 40 = .ok (.aload_n 0, 1) := by decide +kernel
theorem dX7_init_41 : decode cX7_init 41 = .ok (.bipush 12, 2) := by decide +kernel
theorem dX7_init_43 : decode cX7_init 43 = .ok (.bipush 12, 2) := by decide +kernel
theorem dX7_init_45 : decode cX7_init 45 = .ok (.multianewarray 9 2, 4) := by decide +kernel
theorem dX7_init_49 : decode cX7_init 49 = .ok (.putfield 22, 3) := by decide +kernel
theorem dX7_init_52 : decode cX7_init 52 = .ok (.aload_n 0, 1) := by decide +kernel
theorem dX7_init_53 : decode cX7_init 53 = .ok (.bipush 12, 2) := by decide +kernel
theorem dX7_init_55 : decode cX7_init 55 = .ok (.newarray .int, 2) := by decide +kernel
theorem dX7_init_57 : decode cX7_init 57 = .ok (.putfield 25, 3) := by decide +kernel
theorem dX7_init_60 : decode cX7_init 60 = .ok (.aload_n 0, 1) := by decide +kernel
theorem dX7_init_61 : decode cX7_init 61 = .ok (.bipush 12, 2) := by decide +kernel
theorem dX7_init_63 : decode cX7_init 63 = .ok (.newarray .int, 2) := by decide +kernel
theorem dX7_init_65 : decode cX7_init 65 = .ok (.putfield 29, 3) := by decide +kernel
theorem dX7_init_68 : decode cX7_init 68 = .ok (.aload_n 0, 1) := by decide +kernel
theorem dX7_init_69 : decode cX7_init 69 = .ok (.bipush 12, 2) := by decide +kernel
theorem dX7_init_71 : decode cX7_init 71 = .ok (.newarray .int, 2) := by decide +kernel
theorem dX7_init_73 : decode cX7_init 73 = .ok (.putfield 32, 3) := by decide +kernel
theorem dX7_init_76 : decode cX7_init 76 = .ok (.aload_n 0, 1) := by decide +kernel
theorem dX7_init_77 : decode cX7_init 77 = .ok (.bipush 60, 2) := by decide +kernel
theorem dX7_init_79 : decode cX7_init 79 = .ok (.newarray .int, 2) := by decide +kernel
theorem dX7_init_81 : decode cX7_init 81 = .ok (.putfield 35, 3) := by decide +kernel
theorem dX7_init_84 : decode cX7_init 84 = .ok (.aload_n 0, 1) := by decide +kernel
theorem dX7_init_85 : decode cX7_init 85 = .ok (.iconst 0, 1) := by decide +kernel
theorem dX7_init_86 : decode cX7_init 86 = .ok (.putfield 38, 3) := by decide +kernel
theorem dX7_init_89 : decode cX7_init 89 = .ok (.aload_n 0, 1) := by decide +kernel
theorem dX7_init_90 : decode cX7_init 90 = .ok (.iconst (-1), 1) := by decide +kernel
theorem dX7_init_91 : decode cX7_init 91 = .ok (.putfield 42, 3) := by decide +kernel
theorem dX7_init_94 : decode cX7_init 94 = .ok (.aload_n 0, 1) := by decide +kernel
theorem dX7_init_95 : decode cX7_init 95 = .ok (.iconst (-1), 1) := by decide +kernel
theorem dX7_init_96 : decode cX7_init 96 = .ok (.putfield 45, 3) := by decide +kernel
theorem dX7_init_99 : decode cX7_init 99 = .ok (.aload_n 0, 1) := by decide +kernel
theorem dX7_init_100 : decode cX7_init 100 = .ok (.aload_n 1, 1) := by decide +kernel
theorem dX7_init_101 : decode cX7_init 101 = .ok (.putfield 48, 3) := by decide +kernel
theorem dX7_init_104 : decode cX7_init 104 = .ok (.aload_n 0, 1) := by decide +kernel
theorem dX7_init_105 : decode cX7_init 105 = .ok (.aload_n 2, 1) := by decide +kernel
theorem dX7_init_106 : decode cX7_init 106 = .ok (.putfield 52, 3) := by decide +kernel
theorem dX7_init_109 : decode cX7_init 109 = .ok (.return_, 1) := by decide +kernel
set_option maxRecDepth 20000 in
theorem ggX7_survey_J7_fill_53178 : GoodIn wsX7_survey wsJ7_fill_53178 := goodIn_r _ [10] (by decide +kernel) (by decide +kernel)
set_option maxRecDepth 20000 in
theorem gX7_survey_J7_fill_53178 : GoodIn wsX7_survey (va_wsS RX7 61 yJ7_fill_53178 wsJ7_fill_53178) := goodIn_app (goodIn_of _ (by decide +kernel)) ggX7_survey_J7_fill_53178
set_option maxRecDepth 20000 in
theorem ggX7_survey_X5_uses : GoodIn wsX7_survey wsX5_uses := goodIn_r _ [15, 16, 67, 68, 69, 70, 71, 72, 73] (by decide +kernel) (by decide +kernel)
set_option maxRecDepth 20000 in
theorem gX7_survey_X5_uses : GoodIn wsX7_survey (wsV RX7 67 RX5 yX5_uses wsX5_uses) := goodIn_app (goodIn_of _ (by decide +kernel)) ggX7_survey_X5_uses
set_option maxRecDepth 20000 in
theorem ggX7_survey_X7_surveyTie : GoodIn wsX7_survey wsX7_surveyTie := goodIn_r _ [21, 1, 2, 3, 4, 22, 23, 24, 25, 26, 27, 14, 28, 29, 30, 31, 32, 33, 34, 35, 36, 37, 38, 39, 40, 41, 42, 43, 44, 45, 46, 47, 48, 49, 50, 51, 52, 53, 54, 55, 56, 57, 58, 59, 60, 61, 62, 63, 64, 65, 66, 67, 68, 69, 70, 71, 72, 73] (by decide +kernel) (by decide +kernel)
set_option maxRecDepth 20000 in
theorem gX7_survey_X7_surveyTie : GoodIn wsX7_survey (wsV RX7 79 RX7 yX7_surveyTie wsX7_surveyTie) := goodIn_app (goodIn_of _ (by decide +kernel)) ggX7_survey_X7_surveyTie
theorem dX7_survey_0 : decode cX7_survey 0 = .ok (.aload_n 0, 1) := by decide +kernel
theorem dX7_survey_1 : decode cX7_survey 1 = .ok (.getfield 48, 3) := by decide +kernel
theorem dX7_survey_4 : decode cX7_survey 4 = .ok (.getfield 56, 3) := by decide +kernel
theorem dX7_survey_7 : decode cX7_survey 7 = .ok (.iconst 1, 1) := by decide +kernel
theorem dX7_survey_8 : decode cX7_survey 8 = .ok (.iaload, 1) := by decide +kernel
theorem dX7_survey_9 : decode cX7_survey 9 = .ok (.istore_n 1, 1) := by decide +kernel
theorem dX7_survey_10 : decode cX7_survey 10 = .ok (.iconst 0, 1) := by decide +kernel
theorem dX7_survey_11 : decode cX7_survey 11 = .ok (.istore_n 2, 1) := by decide +kernel
theorem dX7_survey_12 : decode cX7_survey 12 = .ok (.iload_n 2, 1) := by decide +kernel
theorem dX7_survey_13 : decode cX7_survey 13 = .ok (.iload_n 1, 1) := by decide +kernel
theorem dX7_survey_14 : decode cX7_survey 14 = .ok (.if_icmp .ge 19, 3) := by decide +kernel
theorem dX7_survey_17 : decode cX7_survey 17 = .ok (.aload_n 0, 1) := by decide +kernel
theorem dX7_survey_18 : decode cX7_survey 18 = .ok (.getfield 11, 3) := by decide +kernel
theorem dX7_survey_21 : decode cX7_survey 21 = .ok (.iload_n 2, 1) := by decide +kernel
theorem dX7_survey_22 : decode cX7_survey 22 = .ok (.aaload, 1) := by decide +kernel
theorem dX7_survey_23 : decode cX7_survey 23 = .ok (.iconst (-1), 1) := by decide +kernel
theorem dX7_survey_24 : decode cX7_survey 24 = .ok (.invokestatic 61, 3) := by decide +kernel
theorem dX7_survey_27 : decode cX7_survey 27 = .ok (.iinc 2 1, 3) := by decide +kernel
theorem dX7_survey_30 : decode cX7_survey 30 = .ok (.goto (-18), 3) := by decide +kernel
theorem dX7_survey_33 : decode cX7_survey 33 = .ok (.iconst 0, 1) := by decide +kernel
theorem dX7_survey_34 : decode cX7_survey 34 = .ok (.istore_n 2, 1) := by decide +kernel
theorem dX7_survey_35 : decode cX7_survey 35 = .ok (.iload_n 2, 1) := by decide +kernel
theorem dX7_survey_36 : decode cX7_survey 36 = .ok (.aload_n 0, 1) := by decide +kernel
theorem dX7_survey_37 : decode cX7_survey 37 = .ok (.getfield 48, 3) := by decide +kernel
theorem dX7_survey_40 : decode cX7_survey 40 = .ok (.getfield 56, 3) := by decide +kernel
theorem dX7_survey_43 : decode cX7_survey 43 = .ok (.iconst 3, 1) := by decide +kernel
theorem dX7_survey_44 : decode cX7_survey 44 = .ok (.iaload, 1) := by decide +kernel
theorem dX7_survey_45 : decode cX7_survey 45 = .ok (.if_icmp .ge 45, 3) := by decide +kernel
theorem dX7_survey_48 : decode cX7_survey 48 = .ok (.aload_n 0, 1) := by decide +kernel
theorem dX7_survey_49 : decode cX7_survey 49 = .ok (.getfield 52, 3) := by decide +kernel
theorem dX7_survey_52 : decode cX7_survey 52 = .ok (.iload_n 2, 1) := by decide +kernel
theorem dX7_survey_53 : decode cX7_survey 53 = .ok (.invokevirtual 67, 3) := by decide +kernel
theorem dX7_survey_56 : decode cX7_survey 56 = .ok (.ifCond .eq 28, 3) := by decide +kernel
theorem dX7_survey_59 : decode cX7_survey 59 = .ok (.aload_n 0, 1) := by decide +kernel
theorem dX7_survey_60 : decode cX7_survey 60 = .ok (.getfield 11, 3) := by decide +kernel
theorem dX7_survey_63 : decode cX7_survey 63 = .ok (.aload_n 0, 1) := by decide +kernel
theorem dX7_survey_64 : decode cX7_survey 64 = .ok (.getfield 48, 3) := by decide +kernel
theorem dX7_survey_67 : decode cX7_survey 67 = .ok (.getfield 73, 3) := by decide +kernel
theorem dX7_survey_70 : decode cX7_survey 70 = .ok (.iload_n 2, 1) := by decide +kernel
theorem dX7_survey_71 : decode cX7_survey 71 = .ok (.iaload, 1) := by decide +kernel
theorem dX7_survey_72 : decode cX7_survey 72 = .ok (.aaload, 1) := by decide +kernel
theorem dX7_survey_73 : decode cX7_survey 73 = .ok (.aload_n 0, 1) := by decide +kernel
theorem dX7_survey_74 : decode cX7_survey 74 = .ok (.getfield 48, 3) := by decide +kernel
theorem dX7_survey_77 : decode cX7_survey 77 = .ok (.getfield 76, 3) := by decide +kernel
theorem dX7_survey_80 : decode cX7_survey 80 = .ok (.iload_n 2, 1) := by decide +kernel
theorem dX7_survey_81 : decode cX7_survey 81 = .ok (.iaload, 1) := by decide +kernel
theorem dX7_survey_82 : decode cX7_survey 82 = .ok (.iload_n 2, 1) := by decide +kernel
theorem dX7_survey_83 : decode cX7_survey 83 = .ok (.iastore, 1) := by decide +kernel
theorem dX7_survey_84 : decode cX7_survey 84 = .ok (.iinc 2 1, 3) := by decide +kernel
theorem dX7_survey_87 : decode cX7_survey 87 = .ok (.goto (-52), 3) := by decide +kernel
theorem dX7_survey_90 : decode cX7_survey 90 = .ok (.iconst 0, 1) := by decide +kernel
theorem dX7_survey_91 : decode cX7_survey 91 = .ok (.istore_n 2, 1) := by decide +kernel
theorem dX7_survey_92 : decode cX7_survey 92 = .ok (.iload_n 2, 1) := by decide +kernel
theorem dX7_survey_93 : decode cX7_survey 93 = .ok (.iload_n 1, 1) := by decide +kernel
theorem dX7_survey_94 : decode cX7_survey 94 = .ok (.if_icmp .ge 33, 3) := by decide +kernel
theorem dX7_survey_97 : decode cX7_survey 97 = .ok (.iconst 0, 1) := by decide +kernel
theorem dX7_survey_98 : decode cX7_survey 98 = .ok (.istore_n 3, 1) := by decide +kernel
theorem dX7_survey_99 : decode cX7_survey 99 = .ok (.iload_n 3, 1) := by decide +kernel
theorem dX7_survey_100 : decode cX7_survey 100 = .ok (.iload_n 1, 1) := by decide +kernel
theorem dX7_survey_101 : decode cX7_survey 101 = .ok (.if_icmp .ge 20, 3) := by decide +kernel
theorem dX7_survey_104 : decode cX7_survey 104 = .ok (.iload_n 2, 1) := by decide +kernel
theorem dX7_survey_105 : decode cX7_survey 105 = .ok (.iload_n 3, 1) := by decide +kernel
theorem dX7_survey_106 : decode cX7_survey 106 = .ok (.if_icmp .eq 9, 3) := by decide +kernel
theorem dX7_survey_109 : decode cX7_survey 109 = .ok (.aload_n 0, 1) := by decide +kernel
theorem dX7_survey_110 : decode cX7_survey 110 = .ok (.iload_n 2, 1) := by decide +kernel
theorem dX7_survey_111 : decode cX7_survey 111 = .ok (.iload_n 3, 1) := by decide +kernel
theorem dX7_survey_112 : decode cX7_survey 112 = .ok (.invokevirtual 79, 3) := by decide +kernel
theorem dX7_survey_115 : decode cX7_survey 115 = .ok (.iinc 3 1, 3) := by decide +kernel
theorem dX7_survey_118 : decode cX7_survey 118 = .ok (.goto (-19), 3) := by decide +kernel
theorem dX7_survey_121 : decode cX7_survey 121 = .ok (.iinc 2 1, 3) := by decide +kernel
theorem dX7_survey_124 : decode cX7_survey 124 = .ok (.goto (-32), 3) := by decide +kernel
theorem dX7_survey_127 : decode cX7_survey 127 = .ok (.return_, 1) := by decide +kernel
set_option maxRecDepth 20000 in
theorem ggX7_surveyTie_X5_turned : GoodIn wsX7_surveyTie wsX5_turned := goodIn_r _ [12, 13, 14, 15, 16, 17, 18, 19, 20, 21, 51, 52, 53, 54, 55, 56, 57, 39, 40, 41, 42, 43, 44, 45, 46, 47, 48, 49, 50] (by decide +kernel) (by decide +kernel)
set_option maxRecDepth 20000 in
theorem gX7_surveyTie_X5_turned : GoodIn wsX7_surveyTie (wsV RX7 83 RX5 yX5_turned wsX5_turned) := goodIn_app (goodIn_of _ (by decide +kernel)) ggX7_surveyTie_X5_turned
set_option maxRecDepth 20000 in
theorem ggX7_surveyTie_J9_floorDiv_f86c9 : GoodIn wsX7_surveyTie wsJ9_floorDiv_f86c9 := goodIn_r _ [25] (by decide +kernel) (by decide +kernel)
set_option maxRecDepth 20000 in
theorem gX7_surveyTie_J9_floorDiv_f86c9 : GoodIn wsX7_surveyTie (va_wsS RX7 87 yJ9_floorDiv_f86c9 wsJ9_floorDiv_f86c9) := goodIn_app (goodIn_of _ (by decide +kernel)) ggX7_surveyTie_J9_floorDiv_f86c9
theorem dX7_surveyTie_0 : decode cX7_surveyTie 0 = .ok (.iconst 0, 1) := by decide +kernel
theorem dX7_surveyTie_1 : decode cX7_surveyTie 1 = .ok (.istore_n 3, 1) := by decide +kernel
theorem dX7_surveyTie_2 : decode cX7_surveyTie 2 = .ok (.lconst 0, 1) := by decide +kernel
theorem dX7_surveyTie_3 : decode cX7_surveyTie 3 = .ok (.lstore 4, 2) := by decide +kernel
theorem dX7_surveyTie_5 : decode cX7_surveyTie 5 = .ok (.lconst 0, 1) := by decide +kernel
theorem dX7_surveyTie_6 : decode cX7_surveyTie 6 = .ok (.lstore 6, 2) := by decide +kernel
theorem dX7_surveyTie_8 : decode cX7_surveyTie 8 = .ok (.iconst 0, 1) := by decide +kernel
theorem dX7_surveyTie_9 : decode cX7_surveyTie 9 = .ok (.istore 8, 2) := by decide +kernel
theorem dX7_surveyTie_11 : decode cX7_surveyTie 11 = .ok (.iload 8, 2) := by decide +kernel
theorem dX7_surveyTie_13 : decode cX7_surveyTie 13 = .ok (.aload_n 0, 1) := by decide +kernel
theorem dX7_surveyTie_14 : decode cX7_surveyTie 14 = .ok (.getfield 48, 3) := by decide +kernel
theorem dX7_surveyTie_17 : decode cX7_surveyTie 17 = .ok (.getfield 56, 3) := by decide +kernel
theorem dX7_surveyTie_20 : decode cX7_surveyTie 20 = .ok (.iconst 2, 1) := by decide +kernel
theorem dX7_surveyTie_21 : decode cX7_surveyTie 21 = .ok (.iaload, 1) := by decide +kernel
theorem dX7_surveyTie_22 : decode cX7_surveyTie 22 = .ok (.if_icmp .ge 103, 3) := by decide +kernel
theorem dX7_surveyTie_25 : decode cX7_surveyTie 25 = .ok (.aload_n 0, 1) := by decide +kernel
theorem dX7_surveyTie_26 : decode cX7_surveyTie 26 = .ok (.getfield 11, 3) := by decide +kernel
theorem dX7_surveyTie_29 : decode cX7_surveyTie 29 = .ok (.iload_n 1, 1) := by decide +kernel
theorem dX7_surveyTie_30 : decode cX7_surveyTie 30 = .ok (.aaload, 1) := by decide +kernel
theorem dX7_surveyTie_31 : decode cX7_surveyTie 31 = .ok (.iload 8, 2) := by decide +kernel
theorem dX7_surveyTie_33 : decode cX7_surveyTie 33 = .ok (.iaload, 1) := by decide +kernel
theorem dX7_surveyTie_34 : decode cX7_surveyTie 34 = .ok (.istore 9, 2) := by decide +kernel
theorem dX7_surveyTie_36 : decode cX7_surveyTie 36 = .ok (.aload_n 0, 1) := by decide +kernel
theorem dX7_surveyTie_37 : decode cX7_surveyTie 37 = .ok (.getfield 11, 3) := by decide +kernel
theorem dX7_surveyTie_40 : decode cX7_surveyTie 40 = .ok (.iload_n 2, 1) := by decide +kernel
theorem dX7_surveyTie_41 : decode cX7_surveyTie 41 = .ok (.aaload, 1) := by decide +kernel
theorem dX7_surveyTie_42 : decode cX7_surveyTie 42 = .ok (.iload 8, 2) := by decide +kernel
theorem dX7_surveyTie_44 : decode cX7_surveyTie 44 = .ok (.iaload, 1) := by decide +kernel
theorem dX7_surveyTie_45 : decode cX7_surveyTie 45 = .ok (.istore 10, 2) := by decide +kernel
theorem dX7_surveyTie_47 : decode cX7_surveyTie 47 = .ok (.iload 9, 2) := by decide +kernel
theorem dX7_surveyTie_49 : decode cX7_surveyTie 49 = .ok (.iconst (-1), 1) := by decide +kernel
theorem dX7_surveyTie_50 : decode cX7_surveyTie 50 = .ok (.if_icmp .eq 69, 3) := by decide +kernel
theorem dX7_surveyTie_53 : decode cX7_surveyTie 53 = .ok (.iload 10, 2) := by decide +kernel
theorem dX7_surveyTie_55 : decode cX7_surveyTie 55 = .ok (.iconst (-1), 1) := by decide +kernel
theorem dX7_surveyTie_56 : decode cX7_surveyTie 56 = .ok (.if_icmp .ne 6, 3) := by decide +kernel
theorem dX7_surveyTie_59 : decode cX7_surveyTie 59 = .ok (.goto 60, 3) := by decide +kernel
theorem dX7_surveyTie_62 : decode cX7_surveyTie 62 = .ok (.iinc 3 1, 3) := by decide +kernel
theorem dX7_surveyTie_65 : decode cX7_surveyTie 65 = .ok (.lload 4, 2) := by decide +kernel
theorem dX7_surveyTie_67 : decode cX7_surveyTie 67 = .ok (.aload_n 0, 1) := by decide +kernel
theorem dX7_surveyTie_68 : decode cX7_surveyTie 68 = .ok (.getfield 52, 3) := by decide +kernel
theorem dX7_surveyTie_71 : decode cX7_surveyTie 71 = .ok (.iload 9, 2) := by decide +kernel
theorem dX7_surveyTie_73 : decode cX7_surveyTie 73 = .ok (.iconst 0, 1) := by decide +kernel
theorem dX7_surveyTie_74 : decode cX7_surveyTie 74 = .ok (.invokevirtual 83, 3) := by decide +kernel
theorem dX7_surveyTie_77 : decode cX7_surveyTie 77 = .ok (.aload_n 0, 1) := by decide +kernel
theorem dX7_surveyTie_78 : decode cX7_surveyTie 78 = .ok (.getfield 52, 3) := by decide +kernel
theorem dX7_surveyTie_81 : decode cX7_surveyTie 81 = .ok (.iload 10, 2) := by decide +kernel
theorem dX7_surveyTie_83 : decode cX7_surveyTie 83 = .ok (.iconst 0, 1) := by decide +kernel
theorem dX7_surveyTie_84 : decode cX7_surveyTie 84 = .ok (.invokevirtual 83, 3) := by decide +kernel
theorem dX7_surveyTie_87 : decode cX7_surveyTie 87 = .ok (.isub, 1) := by decide +kernel
theorem dX7_surveyTie_88 : decode cX7_surveyTie 88 = .ok (.i2l, 1) := by decide +kernel
theorem dX7_surveyTie_89 : decode cX7_surveyTie 89 = .ok (.ladd, 1) := by decide +kernel
theorem dX7_surveyTie_90 : decode cX7_surveyTie 90 = .ok (.lstore 4, 2) := by decide +kernel
theorem dX7_surveyTie_92 : decode cX7_surveyTie 92 = .ok (.lload 6, 2) := by decide +kernel
theorem dX7_surveyTie_94 : decode cX7_surveyTie 94 = .ok (.aload_n 0, 1) := by decide +kernel
theorem dX7_surveyTie_95 : decode cX7_surveyTie 95 = .ok (.getfield 52, 3) := by decide +kernel
theorem dX7_surveyTie_98 : decode cX7_surveyTie 98 = .ok (.iload 9, 2) := by decide +kernel
theorem dX7_surveyTie_100 : decode cX7_surveyTie 100 = .ok (.iconst 1, 1) := by decide +kernel
theorem dX7_surveyTie_101 : decode cX7_surveyTie 101 = .ok (.invokevirtual 83, 3) := by decide +kernel
theorem dX7_surveyTie_104 : decode cX7_surveyTie 104 = .ok (.aload_n 0, 1) := by decide +kernel
theorem dX7_surveyTie_105 : decode cX7_surveyTie 105 = .ok (.getfield 52, 3) := by decide +kernel
theorem dX7_surveyTie_108 : decode cX7_surveyTie 108 = .ok (.iload 10, 2) := by decide +kernel
theorem dX7_surveyTie_110 : decode cX7_surveyTie 110 = .ok (.iconst 1, 1) := by decide +kernel
theorem dX7_surveyTie_111 : decode cX7_surveyTie 111 = .ok (.invokevirtual 83, 3) := by decide +kernel
theorem dX7_surveyTie_114 : decode cX7_surveyTie 114 = .ok (.isub, 1) := by decide +kernel
theorem dX7_surveyTie_115 : decode cX7_surveyTie 115 = .ok (.i2l, 1) := by decide +kernel
theorem dX7_surveyTie_116 : decode cX7_surveyTie 116 = .ok (.ladd, 1) := by decide +kernel
theorem dX7_surveyTie_117 : decode cX7_surveyTie 117 = .ok (.lstore 6, 2) := by decide +kernel
theorem dX7_surveyTie_119 : decode cX7_surveyTie 119 = .ok (.iinc 8 1, 3) := by decide +kernel
theorem dX7_surveyTie_122 : decode cX7_surveyTie 122 = .ok (.goto (-111), 3) := by decide +kernel
theorem dX7_surveyTie_125 : decode cX7_surveyTie 125 = .ok (.aload_n 0, 1) := by decide +kernel
theorem dX7_surveyTie_126 : decode cX7_surveyTie 126 = .ok (.getfield 16, 3) := by decide +kernel
theorem dX7_surveyTie_129 : decode cX7_surveyTie 129 = .ok (.iload_n 1, 1) := by decide +kernel
theorem dX7_surveyTie_130 : decode cX7_surveyTie 130 = .ok (.aaload, 1) := by decide +kernel
theorem dX7_surveyTie_131 : decode cX7_surveyTie 131 = .ok (.iload_n 2, 1) := by decide +kernel
theorem dX7_surveyTie_132 : decode cX7_surveyTie 132 = .ok (.iload_n 3, 1) := by decide +kernel
theorem dX7_surveyTie_133 : decode cX7_surveyTie 133 = .ok (.iastore, 1) := by decide +kernel
theorem dX7_surveyTie_134 : decode cX7_surveyTie 134 = .ok (.aload_n 0, 1) := by decide +kernel
theorem dX7_surveyTie_135 : decode cX7_surveyTie 135 = .ok (.getfield 19, 3) := by decide +kernel
theorem dX7_surveyTie_138 : decode cX7_surveyTie 138 = .ok (.iload_n 1, 1) := by decide +kernel
theorem dX7_surveyTie_139 : decode cX7_surveyTie 139 = .ok (.aaload, 1) := by decide +kernel
theorem dX7_surveyTie_140 : decode cX7_surveyTie 140 = .ok (.iload_n 2, 1) := by decide +kernel
theorem dX7_surveyTie_141 : decode cX7_surveyTie 141 = .ok (.iload_n 3, 1) := by decide +kernel
theorem dX7_surveyTie_142 : decode cX7_surveyTie 142 = .ok (.ifCond .ne 7, 3) := by decide +kernel
theorem dX7_surveyTie_145 : decode cX7_surveyTie 145 = .ok (.iconst 0, 1) := by decide +kernel
theorem dX7_surveyTie_146 : decode cX7_surveyTie 146 = .ok (.goto 11, 3) := by decide +kernel
theorem dX7_surveyTie_149 : decode cX7_surveyTie 149 = .ok (.lload 4, 2) := by decide +kernel
theorem dX7_surveyTie_151 : decode cX7_surveyTie 151 = .ok (.iload_n 3, 1) := by decide +kernel
theorem dX7_surveyTie_152 : decode cX7_surveyTie 152 = .ok (.i2l, 1) := by decide +kernel
theorem dX7_surveyTie_153 : decode cX7_surveyTie 153 = .ok (.invokestatic 87, 3) := by decide +kernel
theorem dX7_surveyTie_156 : decode cX7_surveyTie 156 = .ok (.l2i, 1) := by decide +kernel
theorem dX7_surveyTie_157 : decode cX7_surveyTie 157 = .ok (.iastore, 1) := by decide +kernel
theorem dX7_surveyTie_158 : decode cX7_surveyTie 158 = .ok (.aload_n 0, 1) := by decide +kernel
theorem dX7_surveyTie_159 : decode cX7_surveyTie 159 = .ok (.getfield 22, 3) := by decide +kernel
theorem dX7_surveyTie_162 : decode cX7_surveyTie 162 = .ok (.iload_n 1, 1) := by decide +kernel
theorem dX7_surveyTie_163 : decode cX7_surveyTie 163 = .ok (.aaload, 1) := by decide +kernel
theorem dX7_surveyTie_164 : decode cX7_surveyTie 164 = .ok (.iload_n 2, 1) := by decide +kernel
theorem dX7_surveyTie_165 : decode cX7_surveyTie 165 = .ok (.iload_n 3, 1) := by decide +kernel
theorem dX7_surveyTie_166 : decode cX7_surveyTie 166 = .ok (.ifCond .ne 7, 3) := by decide +kernel
theorem dX7_surveyTie_169 : decode cX7_surveyTie 169 = .ok (.iconst 0, 1) := by decide +kernel
theorem dX7_surveyTie_170 : decode cX7_surveyTie 170 = .ok (.goto 11, 3) := by decide +kernel
theorem dX7_surveyTie_173 : decode cX7_surveyTie 173 = .ok (.lload 6, 2) := by decide +kernel
theorem dX7_surveyTie_175 : decode cX7_surveyTie 175 = .ok (.iload_n 3, 1) := by decide +kernel
theorem dX7_surveyTie_176 : decode cX7_surveyTie 176 = .ok (.i2l, 1) := by decide +kernel
theorem dX7_surveyTie_177 : decode cX7_surveyTie 177 = .ok (.invokestatic 87, 3) := by decide +kernel
theorem dX7_surveyTie_180 : decode cX7_surveyTie 180 = .ok (.l2i, 1) := by decide +kernel
theorem dX7_surveyTie_181 : decode cX7_surveyTie 181 = .ok (.iastore, 1) := by decide +kernel
theorem dX7_surveyTie_182 : decode cX7_surveyTie 182 = .ok (.return_, 1) := by decide +kernel
theorem dX7_stepOf_0 : decode cX7_stepOf 0 = .ok (.iload_n 3, 1) := by decide +kernel
theorem dX7_stepOf_1 : decode cX7_stepOf 1 = .ok (.ifCond .ne 14, 3) := by decide +kernel
theorem dX7_stepOf_4 : decode cX7_stepOf 4 = .ok (.aload_n 0, 1) := by decide +kernel
theorem dX7_stepOf_5 : decode cX7_stepOf 5 = .ok (.getfield 19, 3) := by decide +kernel
theorem dX7_stepOf_8 : decode cX7_stepOf 8 = .ok (.iload_n 1, 1) := by decide +kernel
theorem dX7_stepOf_9 : decode cX7_stepOf 9 = .ok (.aaload, 1) := by decide +kernel
theorem dX7_stepOf_10 : decode cX7_stepOf 10 = .ok (.iload_n 2, 1) := by decide +kernel
theorem dX7_stepOf_11 : decode cX7_stepOf 11 = .ok (.iaload, 1) := by decide +kernel
theorem dX7_stepOf_12 : decode cX7_stepOf 12 = .ok (.goto 11, 3) := by decide +kernel
theorem dX7_stepOf_15 : decode cX7_stepOf 15 = .ok (.aload_n 0, 1) := by decide +kernel
theorem dX7_stepOf_16 : decode cX7_stepOf 16 = .ok (.getfield 22, 3) := by decide +kernel
theorem dX7_stepOf_19 : decode cX7_stepOf 19 = .ok (.iload_n 1, 1) := by decide +kernel
theorem dX7_stepOf_20 : decode cX7_stepOf 20 = .ok (.aaload, 1) := by decide +kernel
theorem dX7_stepOf_21 : decode cX7_stepOf 21 = .ok (.iload_n 2, 1) := by decide +kernel
theorem dX7_stepOf_22 : decode cX7_stepOf 22 = .ok (.iaload, 1) := by decide +kernel
theorem dX7_stepOf_23 : decode cX7_stepOf 23 = .ok (.ireturn, 1) := by decide +kernel
theorem dX7_isLoop_0 : decode cX7_isLoop 0 = .ok (.aload_n 0, 1) := by decide +kernel
theorem dX7_isLoop_1 : decode cX7_isLoop 1 = .ok (.getfield 16, 3) := by decide +kernel
theorem dX7_isLoop_4 : decode cX7_isLoop 4 = .ok (.iload_n 1, 1) := by decide +kernel
theorem dX7_isLoop_5 : decode cX7_isLoop 5 = .ok (.aaload, 1) := by decide +kernel
theorem dX7_isLoop_6 : decode cX7_isLoop 6 = .ok (.iload_n 2, 1) := by decide +kernel
theorem dX7_isLoop_7 : decode cX7_isLoop 7 = .ok (.iaload, 1) := by decide +kernel
theorem dX7_isLoop_8 : decode cX7_isLoop 8 = .ok (.ifCond .le 29, 3) := by decide +kernel
theorem dX7_isLoop_11 : decode cX7_isLoop 11 = .ok (.aload_n 0, 1) := by decide +kernel
theorem dX7_isLoop_12 : decode cX7_isLoop 12 = .ok (.getfield 16, 3) := by decide +kernel
theorem dX7_isLoop_15 : decode cX7_isLoop 15 = .ok (.iload_n 2, 1) := by decide +kernel
theorem dX7_isLoop_16 : decode cX7_isLoop 16 = .ok (.aaload, 1) := by decide +kernel
theorem dX7_isLoop_17 : decode cX7_isLoop 17 = .ok (.iload_n 3, 1) := by decide +kernel
theorem dX7_isLoop_18 : decode cX7_isLoop 18 = .ok (.iaload, 1) := by decide +kernel
theorem dX7_isLoop_19 : decode cX7_isLoop 19 = .ok (.ifCond .le 18, 3) := by decide +kernel
theorem dX7_isLoop_22 : decode cX7_isLoop 22 = .ok (.aload_n 0, 1) := by decide +kernel
theorem dX7_isLoop_23 : decode cX7_isLoop 23 = .ok (.getfield 16, 3) := by decide +kernel
theorem dX7_isLoop_26 : decode cX7_isLoop 26 = .ok (.iload_n 3, 1) := by decide +kernel
theorem dX7_isLoop_27 : decode cX7_isLoop 27 = .ok (.aaload, 1) := by decide +kernel
theorem dX7_isLoop_28 : decode cX7_isLoop 28 = .ok (.iload_n 1, 1) := by decide +kernel
theorem dX7_isLoop_29 : decode cX7_isLoop 29 = .ok (.iaload, 1) := by decide +kernel
theorem dX7_isLoop_30 : decode cX7_isLoop 30 = .ok (.ifCond .le 7, 3) := by decide +kernel
theorem dX7_isLoop_33 : decode cX7_isLoop 33 = .ok (.iconst 1, 1) := by decide +kernel
theorem dX7_isLoop_34 : decode cX7_isLoop 34 = .ok (.goto 4, 3) := by decide +kernel
theorem dX7_isLoop_37 : decode cX7_isLoop 37 = .ok (.iconst 0, 1) := by decide +kernel
theorem dX7_isLoop_38 : decode cX7_isLoop 38 = .ok (.ireturn, 1) := by decide +kernel
set_option maxRecDepth 20000 in
theorem ggX7_loopOf_X7_stepOf : GoodIn wsX7_loopOf wsX7_stepOf := goodIn_r _ [5, 6, 7, 8, 9, 10, 11, 12, 13, 14, 15, 16, 17, 18, 19, 20] (by decide +kernel) (by decide +kernel)
set_option maxRecDepth 20000 in
theorem gX7_loopOf_X7_stepOf : GoodIn wsX7_loopOf (wsV RX7 93 RX7 yX7_stepOf wsX7_stepOf) := goodIn_app (goodIn_of _ (by decide +kernel)) ggX7_loopOf_X7_stepOf
theorem dX7_loopOf_0 : decode cX7_loopOf 0 = .ok (.aload_n 0, 1) := by decide +kernel
theorem dX7_loopOf_1 : decode cX7_loopOf 1 = .ok (.iload_n 1, 1) := by decide +kernel
theorem dX7_loopOf_2 : decode cX7_loopOf 2 = .ok (.iload_n 2, 1) := by decide +kernel
theorem dX7_loopOf_3 : decode cX7_loopOf 3 = .ok (.iload 4, 2) := by decide +kernel
theorem dX7_loopOf_5 : decode cX7_loopOf 5 = .ok (.invokevirtual 93, 3) := by decide +kernel
theorem dX7_loopOf_8 : decode cX7_loopOf 8 = .ok (.aload_n 0, 1) := by decide +kernel
theorem dX7_loopOf_9 : decode cX7_loopOf 9 = .ok (.iload_n 2, 1) := by decide +kernel
theorem dX7_loopOf_10 : decode cX7_loopOf 10 = .ok (.iload_n 3, 1) := by decide +kernel
theorem dX7_loopOf_11 : decode cX7_loopOf 11 = .ok (.iload 4, 2) := by decide +kernel
theorem dX7_loopOf_13 : decode cX7_loopOf 13 = .ok (.invokevirtual 93, 3) := by decide +kernel
theorem dX7_loopOf_16 : decode cX7_loopOf 16 = .ok (.iadd, 1) := by decide +kernel
theorem dX7_loopOf_17 : decode cX7_loopOf 17 = .ok (.aload_n 0, 1) := by decide +kernel
theorem dX7_loopOf_18 : decode cX7_loopOf 18 = .ok (.iload_n 3, 1) := by decide +kernel
theorem dX7_loopOf_19 : decode cX7_loopOf 19 = .ok (.iload_n 1, 1) := by decide +kernel
theorem dX7_loopOf_20 : decode cX7_loopOf 20 = .ok (.iload 4, 2) := by decide +kernel
theorem dX7_loopOf_22 : decode cX7_loopOf 22 = .ok (.invokevirtual 93, 3) := by decide +kernel
theorem dX7_loopOf_25 : decode cX7_loopOf 25 = .ok (.iadd, 1) := by decide +kernel
theorem dX7_loopOf_26 : decode cX7_loopOf 26 = .ok (.ireturn, 1) := by decide +kernel
set_option maxRecDepth 20000 in
theorem ggX7_findGap_X7_isLoop : GoodIn wsX7_findGap wsX7_isLoop := goodIn_r _ [9, 10, 29, 30, 31, 32, 33, 34, 35, 36, 37, 38, 39, 40, 41] (by decide +kernel) (by decide +kernel)
set_option maxRecDepth 20000 in
theorem gX7_findGap_X7_isLoop : GoodIn wsX7_findGap (wsV RX7 97 RX7 yX7_isLoop wsX7_isLoop) := goodIn_app (goodIn_of _ (by decide +kernel)) ggX7_findGap_X7_isLoop
set_option maxRecDepth 20000 in
theorem ggX7_findGap_X7_takeGap : GoodIn wsX7_findGap wsX7_takeGap := goodIn_r _ [14, 15, 16, 17, 18, 2, 1, 19, 20, 21, 8, 22, 23, 24, 25, 26, 27, 28, 29, 30, 31, 32, 33, 34, 35, 36, 37, 38, 39, 40, 41] (by decide +kernel) (by decide +kernel)
set_option maxRecDepth 20000 in
theorem gX7_findGap_X7_takeGap : GoodIn wsX7_findGap (wsV RX7 101 RX7 yX7_takeGap wsX7_takeGap) := goodIn_app (goodIn_of _ (by decide +kernel)) ggX7_findGap_X7_takeGap
theorem dX7_findGap_0 : decode cX7_findGap 0 = .ok (.aload_n 0, 1) := by decide +kernel
theorem dX7_findGap_1 : decode cX7_findGap 1 = .ok (.iconst (-1), 1) := by decide +kernel
theorem dX7_findGap_2 : decode cX7_findGap 2 = .ok (.putfield 42, 3) := by decide +kernel
theorem dX7_findGap_5 : decode cX7_findGap 5 = .ok (.aload_n 0, 1) := by decide +kernel
theorem dX7_findGap_6 : decode cX7_findGap 6 = .ok (.iconst (-1), 1) := by decide +kernel
theorem dX7_findGap_7 : decode cX7_findGap 7 = .ok (.putfield 45, 3) := by decide +kernel
theorem dX7_findGap_10 : decode cX7_findGap 10 = .ok (.aload_n 0, 1) := by decide +kernel
theorem dX7_findGap_11 : decode cX7_findGap 11 = .ok (.getfield 48, 3) := by decide +kernel
theorem dX7_findGap_14 : decode cX7_findGap 14 = .ok (.getfield 56, 3) := by decide +kernel
theorem dX7_findGap_17 : decode cX7_findGap 17 = .ok (.iconst 1, 1) := by decide +kernel
theorem dX7_findGap_18 : decode cX7_findGap 18 = .ok (.iaload, 1) := by decide +kernel
theorem dX7_findGap_19 : decode cX7_findGap 19 = .ok (.istore_n 1, 1) := by decide +kernel
theorem dX7_findGap_20 : decode cX7_findGap 20 = .ok (.iconst 0, 1) := by decide +kernel
theorem dX7_findGap_21 : decode cX7_findGap 21 = .ok (.istore_n 2, 1) := by decide +kernel
theorem dX7_findGap_22 : decode cX7_findGap 22 = .ok (.iload_n 2, 1) := by decide +kernel
theorem dX7_findGap_23 : decode cX7_findGap 23 = .ok (.iload_n 1, 1) := by decide +kernel
theorem dX7_findGap_24 : decode cX7_findGap 24 = .ok (.if_icmp .ge 60, 3) := by decide +kernel
theorem dX7_findGap_27 : decode cX7_findGap 27 = .ok (.iload_n 2, 1) := by decide +kernel
theorem dX7_findGap_28 : decode cX7_findGap 28 = .ok (.iconst 1, 1) := by decide +kernel
theorem dX7_findGap_29 : decode cX7_findGap 29 = .ok (.iadd, 1) := by decide +kernel
theorem dX7_findGap_30 : decode cX7_findGap 30 = .ok (.istore_n 3, 1) := by decide +kernel
theorem dX7_findGap_31 : decode cX7_findGap 31 = .ok (.iload_n 3, 1) := by decide +kernel
theorem dX7_findGap_32 : decode cX7_findGap 32 = .ok (.iload_n 1, 1) := by decide +kernel
theorem dX7_findGap_33 : decode cX7_findGap 33 = .ok (.if_icmp .ge 45, 3) := by decide +kernel
theorem dX7_findGap_36 : decode cX7_findGap 36 = .ok (.iload_n 3, 1) := by decide +kernel
theorem dX7_findGap_37 : decode cX7_findGap 37 = .ok (.iconst 1, 1) := by decide +kernel
theorem dX7_findGap_38 : decode cX7_findGap 38 = .ok (.iadd, 1) := by decide +kernel
theorem dX7_findGap_39 : decode cX7_findGap 39 = .ok (.istore 4, 2) := by decide +kernel
theorem dX7_findGap_41 : decode cX7_findGap 41 = .ok (.iload 4, 2) := by decide +kernel
theorem dX7_findGap_43 : decode cX7_findGap 43 = .ok (.iload_n 1, 1) := by decide +kernel
theorem dX7_findGap_44 : decode cX7_findGap 44 = .ok (.if_icmp .ge 28, 3) := by decide +kernel
theorem dX7_findGap_47 : decode cX7_findGap 47 = .ok (.aload_n 0, 1) := by decide +kernel
theorem dX7_findGap_48 : decode cX7_findGap 48 = .ok (.iload_n 2, 1) := by decide +kernel
theorem dX7_findGap_49 : decode cX7_findGap 49 = .ok (.iload_n 3, 1) := by decide +kernel
theorem dX7_findGap_50 : decode cX7_findGap 50 = .ok (.iload 4, 2) := by decide +kernel
theorem dX7_findGap_52 : decode cX7_findGap 52 = .ok (.invokevirtual 97, 3) := by decide +kernel
theorem dX7_findGap_55 : decode cX7_findGap 55 = .ok (.ifCond .eq 11, 3) := by decide +kernel
theorem dX7_findGap_58 : decode cX7_findGap 58 = .ok (.aload_n 0, 1) := by decide +kernel
theorem dX7_findGap_59 : decode cX7_findGap 59 = .ok (.iload_n 2, 1) := by decide +kernel
theorem dX7_findGap_60 : decode cX7_findGap 60 = .ok (.iload_n 3, 1) := by decide +kernel
theorem dX7_findGap_61 : decode cX7_findGap 61 = .ok (.iload 4, 2) := by decide +kernel
theorem dX7_findGap_63 : decode cX7_findGap 63 = .ok (.invokevirtual 101, 3) := by decide +kernel
theorem dX7_findGap_66 : decode cX7_findGap 66 = .ok (.iinc 4 1, 3) := by decide +kernel
theorem dX7_findGap_69 : decode cX7_findGap 69 = .ok (.goto (-28), 3) := by decide +kernel
theorem dX7_findGap_72 : decode cX7_findGap 72 = .ok (.iinc 3 1, 3) := by decide +kernel
theorem dX7_findGap_75 : decode cX7_findGap 75 = .ok (.goto (-44), 3) := by decide +kernel
theorem dX7_findGap_78 : decode cX7_findGap 78 = .ok (.iinc 2 1, 3) := by decide +kernel
theorem dX7_findGap_81 : decode cX7_findGap 81 = .ok (.goto (-59), 3) := by decide +kernel
theorem dX7_findGap_84 : decode cX7_findGap 84 = .ok (.return_, 1) := by decide +kernel
set_option maxRecDepth 20000 in
theorem ggX7_takeGap_X7_loopOf : GoodIn wsX7_takeGap wsX7_loopOf := goodIn_r _ [11, 12, 13, 14, 10, 15, 16, 17, 18, 19, 20, 21, 22, 23, 24, 25, 26, 27, 28, 29, 30] (by decide +kernel) (by decide +kernel)
set_option maxRecDepth 20000 in
theorem gX7_takeGap_X7_loopOf : GoodIn wsX7_takeGap (wsV RX7 105 RX7 yX7_loopOf wsX7_loopOf) := goodIn_app (goodIn_of _ (by decide +kernel)) ggX7_takeGap_X7_loopOf
theorem dX7_takeGap_0 : decode cX7_takeGap 0 = .ok (.aload_n 0, 1) := by decide +kernel
theorem dX7_takeGap_1 : decode cX7_takeGap 1 = .ok (.iload_n 1, 1) := by decide +kernel
theorem dX7_takeGap_2 : decode cX7_takeGap 2 = .ok (.iload_n 2, 1) := by decide +kernel
theorem dX7_takeGap_3 : decode cX7_takeGap 3 = .ok (.iload_n 3, 1) := by decide +kernel
theorem dX7_takeGap_4 : decode cX7_takeGap 4 = .ok (.iconst 0, 1) := by decide +kernel
theorem dX7_takeGap_5 : decode cX7_takeGap 5 = .ok (.invokevirtual 105, 3) := by decide +kernel
theorem dX7_takeGap_8 : decode cX7_takeGap 8 = .ok (.invokestatic 109, 3) := by decide +kernel
theorem dX7_takeGap_11 : decode cX7_takeGap 11 = .ok (.aload_n 0, 1) := by decide +kernel
theorem dX7_takeGap_12 : decode cX7_takeGap 12 = .ok (.iload_n 1, 1) := by decide +kernel
theorem dX7_takeGap_13 : decode cX7_takeGap 13 = .ok (.iload_n 2, 1) := by decide +kernel
theorem dX7_takeGap_14 : decode cX7_takeGap 14 = .ok (.iload_n 3, 1) := by decide +kernel
theorem dX7_takeGap_15 : decode cX7_takeGap 15 = .ok (.iconst 1, 1) := by decide +kernel
theorem dX7_takeGap_16 : decode cX7_takeGap 16 = .ok (.invokevirtual 105, 3) := by decide +kernel
theorem dX7_takeGap_19 : decode cX7_takeGap 19 = .ok (.invokestatic 109, 3) := by decide +kernel
theorem dX7_takeGap_22 : decode cX7_takeGap 22 = .ok (.iadd, 1) := by decide +kernel
theorem dX7_takeGap_23 : decode cX7_takeGap 23 = .ok (.istore 4, 2) := by decide +kernel
theorem dX7_takeGap_25 : decode cX7_takeGap 25 = .ok (.iload 4, 2) := by decide +kernel
theorem dX7_takeGap_27 : decode cX7_takeGap 27 = .ok (.aload_n 0, 1) := by decide +kernel
theorem dX7_takeGap_28 : decode cX7_takeGap 28 = .ok (.getfield 45, 3) := by decide +kernel
theorem dX7_takeGap_31 : decode cX7_takeGap 31 = .ok (.if_icmp .gt 4, 3) := by decide +kernel
theorem dX7_takeGap_34 : decode cX7_takeGap 34 = .ok (.return_, 1) := by decide +kernel
theorem dX7_takeGap_35 : decode cX7_takeGap 35 = .ok (.aload_n 0, 1) := by decide +kernel
theorem dX7_takeGap_36 : decode cX7_takeGap 36 = .ok (.iload 4, 2) := by decide +kernel
theorem dX7_takeGap_38 : decode cX7_takeGap 38 = .ok (.putfield 45, 3) := by decide +kernel
theorem dX7_takeGap_41 : decode cX7_takeGap 41 = .ok (.aload_n 0, 1) := by decide +kernel
theorem dX7_takeGap_42 : decode cX7_takeGap 42 = .ok (.sipush 10000, 3) := by decide +kernel
theorem dX7_takeGap_45 : decode cX7_takeGap 45 = .ok (.iload_n 1, 1) := by decide +kernel
theorem dX7_takeGap_46 : decode cX7_takeGap 46 = .ok (.imul, 1) := by decide +kernel
theorem dX7_takeGap_47 : decode cX7_takeGap 47 = .ok (.bipush 100, 2) := by decide +kernel
theorem dX7_takeGap_49 : decode cX7_takeGap 49 = .ok (.iload_n 2, 1) := by decide +kernel
theorem dX7_takeGap_50 : decode cX7_takeGap 50 = .ok (.imul, 1) := by decide +kernel
theorem dX7_takeGap_51 : decode cX7_takeGap 51 = .ok (.iadd, 1) := by decide +kernel
theorem dX7_takeGap_52 : decode cX7_takeGap 52 = .ok (.iload_n 3, 1) := by decide +kernel
theorem dX7_takeGap_53 : decode cX7_takeGap 53 = .ok (.iadd, 1) := by decide +kernel
theorem dX7_takeGap_54 : decode cX7_takeGap 54 = .ok (.putfield 42, 3) := by decide +kernel
theorem dX7_takeGap_57 : decode cX7_takeGap 57 = .ok (.return_, 1) := by decide +kernel
set_option maxRecDepth 20000 in
theorem ggX7_growTree_X7_addBranch : GoodIn wsX7_growTree wsX7_addBranch := goodIn_r _ [9, 3, 4, 2, 10, 11, 1, 12, 13, 14, 15, 16, 17, 18, 19, 20, 21, 22, 23, 24, 25, 26, 27, 28, 29, 30, 31, 32, 33, 34, 35, 36, 37] (by decide +kernel) (by decide +kernel)
set_option maxRecDepth 20000 in
theorem gX7_growTree_X7_addBranch : GoodIn wsX7_growTree (wsV RX7 113 RX7 yX7_addBranch wsX7_addBranch) := goodIn_app (goodIn_of _ (by decide +kernel)) ggX7_growTree_X7_addBranch
theorem dX7_growTree_0 : decode cX7_growTree 0 = .ok (.aload_n 0, 1) := by decide +kernel
theorem dX7_growTree_1 : decode cX7_growTree 1 = .ok (.iconst 0, 1) := by decide +kernel
theorem dX7_growTree_2 : decode cX7_growTree 2 = .ok (.putfield 38, 3) := by decide +kernel
theorem dX7_growTree_5 : decode cX7_growTree 5 = .ok (.iconst 0, 1) := by decide +kernel
theorem dX7_growTree_6 : decode cX7_growTree 6 = .ok (.istore_n 1, 1) := by decide +kernel
theorem dX7_growTree_7 : decode cX7_growTree 7 = .ok (.iload_n 1, 1) := by decide +kernel
theorem dX7_growTree_8 : decode cX7_growTree 8 = .ok (.bipush 12, 2) := by decide +kernel
theorem dX7_growTree_10 : decode cX7_growTree 10 = .ok (.if_icmp .ge 16, 3) := by decide +kernel
theorem dX7_growTree_13 : decode cX7_growTree 13 = .ok (.aload_n 0, 1) := by decide +kernel
theorem dX7_growTree_14 : decode cX7_growTree 14 = .ok (.getfield 25, 3) := by decide +kernel
theorem dX7_growTree_17 : decode cX7_growTree 17 = .ok (.iload_n 1, 1) := by decide +kernel
theorem dX7_growTree_18 : decode cX7_growTree 18 = .ok (.iload_n 1, 1) := by decide +kernel
theorem dX7_growTree_19 : decode cX7_growTree 19 = .ok (.iastore, 1) := by decide +kernel
theorem dX7_growTree_20 : decode cX7_growTree 20 = .ok (.iinc 1 1, 3) := by decide +kernel
theorem dX7_growTree_23 : decode cX7_growTree 23 = .ok (.goto (-16), 3) := by decide +kernel
theorem dX7_growTree_26 : decode cX7_growTree 26 = .ok (.iconst 1, 1) := by decide +kernel
theorem dX7_growTree_27 : decode cX7_growTree 27 = .ok (.istore_n 1, 1) := by decide +kernel
theorem dX7_growTree_28 : decode cX7_growTree 28 = .ok (.iload_n 1, 1) := by decide +kernel
theorem dX7_growTree_29 : decode cX7_growTree 29 = .ok (.aload_n 0, 1) := by decide +kernel
theorem dX7_growTree_30 : decode cX7_growTree 30 = .ok (.getfield 48, 3) := by decide +kernel
theorem dX7_growTree_33 : decode cX7_growTree 33 = .ok (.getfield 56, 3) := by decide +kernel
theorem dX7_growTree_36 : decode cX7_growTree 36 = .ok (.iconst 1, 1) := by decide +kernel
theorem dX7_growTree_37 : decode cX7_growTree 37 = .ok (.iaload, 1) := by decide +kernel
theorem dX7_growTree_38 : decode cX7_growTree 38 = .ok (.if_icmp .ge 17, 3) := by decide +kernel
theorem dX7_growTree_41 : decode cX7_growTree 41 = .ok (.aload_n 0, 1) := by decide +kernel
theorem dX7_growTree_42 : decode cX7_growTree 42 = .ok (.invokevirtual 113, 3) := by decide +kernel
theorem dX7_growTree_45 : decode cX7_growTree 45 = .ok (.ifCond .ne 4, 3) := by decide +kernel
theorem dX7_growTree_48 : decode cX7_growTree 48 = .ok (.return_, 1) := by decide +kernel
theorem dX7_growTree_49 : decode cX7_growTree 49 = .ok (.iinc 1 1, 3) := by decide +kernel
theorem dX7_growTree_52 : decode cX7_growTree 52 = .ok (.goto (-24), 3) := by decide +kernel
theorem dX7_growTree_55 : decode cX7_growTree 55 = .ok (.return_, 1) := by decide +kernel
theorem dX7_addBranch_0 : decode cX7_addBranch 0 = .ok (.iconst 0, 1) := by decide +kernel
theorem dX7_addBranch_1 : decode cX7_addBranch 1 = .ok (.istore_n 1, 1) := by decide +kernel
theorem dX7_addBranch_2 : decode cX7_addBranch 2 = .ok (.iconst 0, 1) := by decide +kernel
theorem dX7_addBranch_3 : decode cX7_addBranch 3 = .ok (.istore_n 2, 1) := by decide +kernel
theorem dX7_addBranch_4 : decode cX7_addBranch 4 = .ok (.iload_n 2, 1) := by decide +kernel
theorem dX7_addBranch_5 : decode cX7_addBranch 5 = .ok (.aload_n 0, 1) := by decide +kernel
theorem dX7_addBranch_6 : decode cX7_addBranch 6 = .ok (.getfield 48, 3) := by decide +kernel
theorem dX7_addBranch_9 : decode cX7_addBranch 9 = .ok (.getfield 56, 3) := by decide +kernel
theorem dX7_addBranch_12 : decode cX7_addBranch 12 = .ok (.iconst 1, 1) := by decide +kernel
theorem dX7_addBranch_13 : decode cX7_addBranch 13 = .ok (.iaload, 1) := by decide +kernel
theorem dX7_addBranch_14 : decode cX7_addBranch 14 = .ok (.if_icmp .ge 91, 3) := by decide +kernel
theorem dX7_addBranch_17 : decode cX7_addBranch 17 = .ok (.iload_n 2, 1) := by decide +kernel
theorem dX7_addBranch_18 : decode cX7_addBranch 18 = .ok (.iconst 1, 1) := by decide +kernel
theorem dX7_addBranch_19 : decode cX7_addBranch 19 = .ok (.iadd, 1) := by decide +kernel
theorem dX7_addBranch_20 : decode cX7_addBranch 20 = .ok (.istore_n 3, 1) := by decide +kernel
theorem dX7_addBranch_21 : decode cX7_addBranch 21 = .ok (.iload_n 3, 1) := by decide +kernel
theorem dX7_addBranch_22 : decode cX7_addBranch 22 = .ok (.aload_n 0, 1) := by decide +kernel
theorem dX7_addBranch_23 : decode cX7_addBranch 23 = .ok (.getfield 48, 3) := by decide +kernel
theorem dX7_addBranch_26 : decode cX7_addBranch 26 = .ok (.getfield 56, 3) := by decide +kernel
theorem dX7_addBranch_29 : decode cX7_addBranch 29 = .ok (.iconst 1, 1) := by decide +kernel
theorem dX7_addBranch_30 : decode cX7_addBranch 30 = .ok (.iaload, 1) := by decide +kernel
theorem dX7_addBranch_31 : decode cX7_addBranch 31 = .ok (.if_icmp .ge 68, 3) := by decide +kernel
theorem dX7_addBranch_34 : decode cX7_addBranch 34 = .ok (.aload_n 0, 1) := by decide +kernel
theorem dX7_addBranch_35 : decode cX7_addBranch 35 = .ok (.getfield 25, 3) := by decide +kernel
theorem dX7_addBranch_38 : decode cX7_addBranch 38 = .ok (.iload_n 2, 1) := by decide +kernel
theorem dX7_addBranch_39 : decode cX7_addBranch 39 = .ok (.iaload, 1) := by decide +kernel
theorem dX7_addBranch_40 : decode cX7_addBranch 40 = .ok (.aload_n 0, 1) := by decide +kernel
theorem dX7_addBranch_41 : decode cX7_addBranch 41 = .ok (.getfield 25, 3) := by decide +kernel
theorem dX7_addBranch_44 : decode cX7_addBranch 44 = .ok (.iload_n 3, 1) := by decide +kernel
theorem dX7_addBranch_45 : decode cX7_addBranch 45 = .ok (.iaload, 1) := by decide +kernel
theorem dX7_addBranch_46 : decode cX7_addBranch 46 = .ok (.if_icmp .eq 47, 3) := by decide +kernel
theorem dX7_addBranch_49 : decode cX7_addBranch 49 = .ok (.aload_n 0, 1) := by decide +kernel
theorem dX7_addBranch_50 : decode cX7_addBranch 50 = .ok (.getfield 16, 3) := by decide +kernel
theorem dX7_addBranch_53 : decode cX7_addBranch 53 = .ok (.iload_n 2, 1) := by decide +kernel
theorem dX7_addBranch_54 : decode cX7_addBranch 54 = .ok (.aaload, 1) := by decide +kernel
theorem dX7_addBranch_55 : decode cX7_addBranch 55 = .ok (.iload_n 3, 1) := by decide +kernel
theorem dX7_addBranch_56 : decode cX7_addBranch 56 = .ok (.iaload, 1) := by decide +kernel
theorem dX7_addBranch_57 : decode cX7_addBranch 57 = .ok (.iload_n 1, 1) := by decide +kernel
theorem dX7_addBranch_58 : decode cX7_addBranch 58 = .ok (.if_icmp .gt 6, 3) := by decide +kernel
theorem dX7_addBranch_61 : decode cX7_addBranch 61 = .ok (.goto 32, 3) := by decide +kernel
theorem dX7_addBranch_64 : decode cX7_addBranch 64 = .ok (.aload_n 0, 1) := by decide +kernel
theorem dX7_addBranch_65 : decode cX7_addBranch 65 = .ok (.getfield 16, 3) := by decide +kernel
theorem dX7_addBranch_68 : decode cX7_addBranch 68 = .ok (.iload_n 2, 1) := by decide +kernel
theorem dX7_addBranch_69 : decode cX7_addBranch 69 = .ok (.aaload, 1) := by decide +kernel
theorem dX7_addBranch_70 : decode cX7_addBranch 70 = .ok (.iload_n 3, 1) := by decide +kernel
theorem dX7_addBranch_71 : decode cX7_addBranch 71 = .ok (.iaload, 1) := by decide +kernel
theorem dX7_addBranch_72 : decode cX7_addBranch 72 = .ok (.istore_n 1, 1) := by decide +kernel
theorem dX7_addBranch_73 : decode cX7_addBranch 73 = .ok (.aload_n 0, 1) := by decide +kernel
theorem dX7_addBranch_74 : decode cX7_addBranch 74 = .ok (.getfield 29, 3) := by decide +kernel
theorem dX7_addBranch_77 : decode cX7_addBranch 77 = .ok (.aload_n 0, 1) := by decide +kernel
theorem dX7_addBranch_78 : decode cX7_addBranch 78 = .ok (.getfield 38, 3) := by decide +kernel
theorem dX7_addBranch_81 : decode cX7_addBranch 81 = .ok (.iload_n 2, 1) := by decide +kernel
theorem dX7_addBranch_82 : decode cX7_addBranch 82 = .ok (.iastore, 1) := by decide +kernel
theorem dX7_addBranch_83 : decode cX7_addBranch 83 = .ok (.aload_n 0, 1) := by decide +kernel
theorem dX7_addBranch_84 : decode cX7_addBranch 84 = .ok (.getfield 32, 3) := by decide +kernel
theorem dX7_addBranch_87 : decode cX7_addBranch 87 = .ok (.aload_n 0, 1) := by decide +kernel
theorem dX7_addBranch_88 : decode cX7_addBranch 88 = .ok (.getfield 38, 3) := by decide +kernel
theorem dX7_addBranch_91 : decode cX7_addBranch 91 = .ok (.iload_n 3, 1) := by decide +kernel
theorem dX7_addBranch_92 : decode cX7_addBranch 92 = .ok (.iastore, 1) := by decide +kernel
theorem dX7_addBranch_93 : decode cX7_addBranch 93 = .ok (.iinc 3 1, 3) := by decide +kernel
theorem dX7_addBranch_96 : decode cX7_addBranch 96 = .ok (.goto (-75), 3) := by decide +kernel
theorem dX7_addBranch_99 : decode cX7_addBranch 99 = .ok (.iinc 2 1, 3) := by decide +kernel
theorem dX7_addBranch_102 : decode cX7_addBranch 102 = .ok (.goto (-98), 3) := by decide +kernel
theorem dX7_addBranch_105 : decode cX7_addBranch 105 = .ok (.iload_n 1, 1) := by decide +kernel
theorem dX7_addBranch_106 : decode cX7_addBranch 106 = .ok (.ifCond .ne 5, 3) := by decide +kernel
theorem dX7_addBranch_109 : decode cX7_addBranch 109 = .ok (.iconst 0, 1) := by decide +kernel
theorem dX7_addBranch_110 : decode cX7_addBranch 110 = .ok (.ireturn, 1) := by decide +kernel
theorem dX7_addBranch_111 : decode cX7_addBranch 111 = .ok (.aload_n 0, 1) := by decide +kernel
theorem dX7_addBranch_112 : decode cX7_addBranch 112 = .ok (.getfield 25, 3) := by decide +kernel
theorem dX7_addBranch_115 : decode cX7_addBranch 115 = .ok (.aload_n 0, 1) := by decide +kernel
theorem dX7_addBranch_116 : decode cX7_addBranch 116 = .ok (.getfield 32, 3) := by decide +kernel
theorem dX7_addBranch_119 : decode cX7_addBranch 119 = .ok (.aload_n 0, 1) := by decide +kernel
theorem dX7_addBranch_120 : decode cX7_addBranch 120 = .ok (.getfield 38, 3) := by decide +kernel
theorem dX7_addBranch_123 : decode cX7_addBranch 123 = .ok (.iaload, 1) := by decide +kernel
theorem dX7_addBranch_124 : decode cX7_addBranch 124 = .ok (.iaload, 1) := by decide +kernel
theorem dX7_addBranch_125 : decode cX7_addBranch 125 = .ok (.istore_n 2, 1) := by decide +kernel
theorem dX7_addBranch_126 : decode cX7_addBranch 126 = .ok (.aload_n 0, 1) := by decide +kernel
theorem dX7_addBranch_127 : decode cX7_addBranch 127 = .ok (.getfield 25, 3) := by decide +kernel
theorem dX7_addBranch_130 : decode cX7_addBranch 130 = .ok (.aload_n 0, 1) := by decide +kernel
theorem dX7_addBranch_131 : decode cX7_addBranch 131 = .ok (.getfield 29, 3) := by decide +kernel
theorem dX7_addBranch_134 : decode cX7_addBranch 134 = .ok (.aload_n 0, 1) := by decide +kernel
theorem dX7_addBranch_135 : decode cX7_addBranch 135 = .ok (.getfield 38, 3) := by decide +kernel
theorem dX7_addBranch_138 : decode cX7_addBranch 138 = .ok (.iaload, 1) := by decide +kernel
theorem dX7_addBranch_139 : decode cX7_addBranch 139 = .ok (.iaload, 1) := by decide +kernel
theorem dX7_addBranch_140 : decode cX7_addBranch 140 = .ok (.istore_n 3, 1) := by decide +kernel
theorem dX7_addBranch_141 : decode cX7_addBranch 141 = .ok (.iconst 0, 1) := by decide +kernel
theorem dX7_addBranch_142 : decode cX7_addBranch 142 = .ok (.istore 4, 2) := by decide +kernel
theorem dX7_addBranch_144 : decode cX7_addBranch 144 = .ok (.iload 4, 2) := by decide +kernel
theorem dX7_addBranch_146 : decode cX7_addBranch 146 = .ok (.bipush 12, 2) := by decide +kernel
theorem dX7_addBranch_148 : decode cX7_addBranch 148 = .ok (.if_icmp .ge 28, 3) := by decide +kernel
theorem dX7_addBranch_151 : decode cX7_addBranch 151 = .ok (.aload_n 0, 1) := by decide +kernel
theorem dX7_addBranch_152 : decode cX7_addBranch 152 = .ok (.getfield 25, 3) := by decide +kernel
theorem dX7_addBranch_155 : decode cX7_addBranch 155 = .ok (.iload 4, 2) := by decide +kernel
theorem dX7_addBranch_157 : decode cX7_addBranch 157 = .ok (.iaload, 1) := by decide +kernel
theorem dX7_addBranch_158 : decode cX7_addBranch 158 = .ok (.iload_n 2, 1) := by decide +kernel
theorem dX7_addBranch_159 : decode cX7_addBranch 159 = .ok (.if_icmp .ne 11, 3) := by decide +kernel
theorem dX7_addBranch_162 : decode cX7_addBranch 162 = .ok (.aload_n 0, 1) := by decide +kernel
theorem dX7_addBranch_163 : decode cX7_addBranch 163 = .ok (.getfield 25, 3) := by decide +kernel
theorem dX7_addBranch_166 : decode cX7_addBranch 166 = .ok (.iload 4, 2) := by decide +kernel
theorem dX7_addBranch_168 : decode cX7_addBranch 168 = .ok (.iload_n 3, 1) := by decide +kernel
theorem dX7_addBranch_169 : decode cX7_addBranch 169 = .ok (.iastore, 1) := by decide +kernel
theorem dX7_addBranch_170 : decode cX7_addBranch 170 = .ok (.iinc 4 1, 3) := by decide +kernel
theorem dX7_addBranch_173 : decode cX7_addBranch 173 = .ok (.goto (-29), 3) := by decide +kernel
theorem dX7_addBranch_176 : decode cX7_addBranch 176 = .ok (.aload_n 0, 1) := by decide +kernel
theorem dX7_addBranch_177 : decode cX7_addBranch 177 = .ok (.dup, 1) := by decide +kernel
theorem dX7_addBranch_178 : decode cX7_addBranch 178 = .ok (.getfield 38, 3) := by decide +kernel
theorem dX7_addBranch_181 : decode cX7_addBranch 181 = .ok (.iconst 1, 1) := by decide +kernel
theorem dX7_addBranch_182 : decode cX7_addBranch 182 = .ok (.iadd, 1) := by decide +kernel
theorem dX7_addBranch_183 : decode cX7_addBranch 183 = .ok (.putfield 38, 3) := by decide +kernel
theorem dX7_addBranch_186 : decode cX7_addBranch 186 = .ok (.iconst 1, 1) := by decide +kernel
theorem dX7_addBranch_187 : decode cX7_addBranch 187 = .ok (.ireturn, 1) := by decide +kernel
set_option maxRecDepth 20000 in
theorem ggX7_countPlanned_J7_fill_53178 : GoodIn wsX7_countPlanned wsJ7_fill_53178 := goodIn_r _ [10] (by decide +kernel) (by decide +kernel)
set_option maxRecDepth 20000 in
theorem gX7_countPlanned_J7_fill_53178 : GoodIn wsX7_countPlanned (va_wsS RX7 61 yJ7_fill_53178 wsJ7_fill_53178) := goodIn_app (goodIn_of _ (by decide +kernel)) ggX7_countPlanned_J7_fill_53178
set_option maxRecDepth 20000 in
theorem ggX7_countPlanned_X7_markPlanned : GoodIn wsX7_countPlanned wsX7_markPlanned := goodIn_r _ [15, 5, 6, 16, 1, 17, 18, 19, 20, 21, 22, 23, 24, 25, 26, 27, 28, 29, 30, 31, 32, 33, 34, 35, 36, 37, 38, 39, 40, 41] (by decide +kernel) (by decide +kernel)
set_option maxRecDepth 20000 in
theorem gX7_countPlanned_X7_markPlanned : GoodIn wsX7_countPlanned (wsV RX7 117 RX7 yX7_markPlanned wsX7_markPlanned) := goodIn_app (goodIn_of _ (by decide +kernel)) ggX7_countPlanned_X7_markPlanned
theorem dX7_countPlanned_0 : decode cX7_countPlanned 0 = .ok (.aload_n 0, 1) := by decide +kernel
theorem dX7_countPlanned_1 : decode cX7_countPlanned 1 = .ok (.getfield 35, 3) := by decide +kernel
theorem dX7_countPlanned_4 : decode cX7_countPlanned 4 = .ok (.iconst 0, 1) := by decide +kernel
theorem dX7_countPlanned_5 : decode cX7_countPlanned 5 = .ok (.invokestatic 61, 3) := by decide +kernel
theorem dX7_countPlanned_8 : decode cX7_countPlanned 8 = .ok (.iconst 0, 1) := by decide +kernel
theorem dX7_countPlanned_9 : decode cX7_countPlanned 9 = .ok (.istore_n 2, 1) := by decide +kernel
theorem dX7_countPlanned_10 : decode cX7_countPlanned 10 = .ok (.iload_n 2, 1) := by decide +kernel
theorem dX7_countPlanned_11 : decode cX7_countPlanned 11 = .ok (.aload_n 0, 1) := by decide +kernel
theorem dX7_countPlanned_12 : decode cX7_countPlanned 12 = .ok (.getfield 38, 3) := by decide +kernel
theorem dX7_countPlanned_15 : decode cX7_countPlanned 15 = .ok (.if_icmp .ge 26, 3) := by decide +kernel
theorem dX7_countPlanned_18 : decode cX7_countPlanned 18 = .ok (.aload_n 0, 1) := by decide +kernel
theorem dX7_countPlanned_19 : decode cX7_countPlanned 19 = .ok (.aload_n 0, 1) := by decide +kernel
theorem dX7_countPlanned_20 : decode cX7_countPlanned 20 = .ok (.getfield 29, 3) := by decide +kernel
theorem dX7_countPlanned_23 : decode cX7_countPlanned 23 = .ok (.iload_n 2, 1) := by decide +kernel
theorem dX7_countPlanned_24 : decode cX7_countPlanned 24 = .ok (.iaload, 1) := by decide +kernel
theorem dX7_countPlanned_25 : decode cX7_countPlanned 25 = .ok (.aload_n 0, 1) := by decide +kernel
theorem dX7_countPlanned_26 : decode cX7_countPlanned 26 = .ok (.getfield 32, 3) := by decide +kernel
theorem dX7_countPlanned_29 : decode cX7_countPlanned 29 = .ok (.iload_n 2, 1) := by decide +kernel
theorem dX7_countPlanned_30 : decode cX7_countPlanned 30 = .ok (.iaload, 1) := by decide +kernel
theorem dX7_countPlanned_31 : decode cX7_countPlanned 31 = .ok (.iload_n 1, 1) := by decide +kernel
theorem dX7_countPlanned_32 : decode cX7_countPlanned 32 = .ok (.invokevirtual 117, 3) := by decide +kernel
theorem dX7_countPlanned_35 : decode cX7_countPlanned 35 = .ok (.iinc 2 1, 3) := by decide +kernel
theorem dX7_countPlanned_38 : decode cX7_countPlanned 38 = .ok (.goto (-28), 3) := by decide +kernel
theorem dX7_countPlanned_41 : decode cX7_countPlanned 41 = .ok (.iconst 0, 1) := by decide +kernel
theorem dX7_countPlanned_42 : decode cX7_countPlanned 42 = .ok (.istore_n 2, 1) := by decide +kernel
theorem dX7_countPlanned_43 : decode cX7_countPlanned 43 = .ok (.iconst 0, 1) := by decide +kernel
theorem dX7_countPlanned_44 : decode cX7_countPlanned 44 = .ok (.istore_n 3, 1) := by decide +kernel
theorem dX7_countPlanned_45 : decode cX7_countPlanned 45 = .ok (.iload_n 3, 1) := by decide +kernel
theorem dX7_countPlanned_46 : decode cX7_countPlanned 46 = .ok (.aload_n 0, 1) := by decide +kernel
theorem dX7_countPlanned_47 : decode cX7_countPlanned 47 = .ok (.getfield 48, 3) := by decide +kernel
theorem dX7_countPlanned_50 : decode cX7_countPlanned 50 = .ok (.getfield 56, 3) := by decide +kernel
theorem dX7_countPlanned_53 : decode cX7_countPlanned 53 = .ok (.iconst 3, 1) := by decide +kernel
theorem dX7_countPlanned_54 : decode cX7_countPlanned 54 = .ok (.iaload, 1) := by decide +kernel
theorem dX7_countPlanned_55 : decode cX7_countPlanned 55 = .ok (.if_icmp .ge 18, 3) := by decide +kernel
theorem dX7_countPlanned_58 : decode cX7_countPlanned 58 = .ok (.iload_n 2, 1) := by decide +kernel
theorem dX7_countPlanned_59 : decode cX7_countPlanned 59 = .ok (.aload_n 0, 1) := by decide +kernel
theorem dX7_countPlanned_60 : decode cX7_countPlanned 60 = .ok (.getfield 35, 3) := by decide +kernel
theorem dX7_countPlanned_63 : decode cX7_countPlanned 63 = .ok (.iload_n 3, 1) := by decide +kernel
theorem dX7_countPlanned_64 : decode cX7_countPlanned 64 = .ok (.iaload, 1) := by decide +kernel
theorem dX7_countPlanned_65 : decode cX7_countPlanned 65 = .ok (.iadd, 1) := by decide +kernel
theorem dX7_countPlanned_66 : decode cX7_countPlanned 66 = .ok (.istore_n 2, 1) := by decide +kernel
theorem dX7_countPlanned_67 : decode cX7_countPlanned 67 = .ok (.iinc 3 1, 3) := by decide +kernel
theorem dX7_countPlanned_70 : decode cX7_countPlanned 70 = .ok (.goto (-25), 3) := by decide +kernel
theorem dX7_countPlanned_73 : decode cX7_countPlanned 73 = .ok (.iload_n 2, 1) := by decide +kernel
theorem dX7_countPlanned_74 : decode cX7_countPlanned 74 = .ok (.ireturn, 1) := by decide +kernel
theorem dX7_markPlanned_0 : decode cX7_markPlanned 0 = .ok (.iconst 0, 1) := by decide +kernel
theorem dX7_markPlanned_1 : decode cX7_markPlanned 1 = .ok (.istore 4, 2) := by decide +kernel
theorem dX7_markPlanned_3 : decode cX7_markPlanned 3 = .ok (.iconst 0, 1) := by decide +kernel
theorem dX7_markPlanned_4 : decode cX7_markPlanned 4 = .ok (.istore 5, 2) := by decide +kernel
theorem dX7_markPlanned_6 : decode cX7_markPlanned 6 = .ok (.iload 5, 2) := by decide +kernel
theorem dX7_markPlanned_8 : decode cX7_markPlanned 8 = .ok (.aload_n 0, 1) := by decide +kernel
theorem dX7_markPlanned_9 : decode cX7_markPlanned 9 = .ok (.getfield 48, 3) := by decide +kernel
theorem dX7_markPlanned_12 : decode cX7_markPlanned 12 = .ok (.getfield 56, 3) := by decide +kernel
theorem dX7_markPlanned_15 : decode cX7_markPlanned 15 = .ok (.iconst 2, 1) := by decide +kernel
theorem dX7_markPlanned_16 : decode cX7_markPlanned 16 = .ok (.iaload, 1) := by decide +kernel
theorem dX7_markPlanned_17 : decode cX7_markPlanned 17 = .ok (.if_icmp .ge 71, 3) := by decide +kernel
theorem dX7_markPlanned_20 : decode cX7_markPlanned 20 = .ok (.iload 4, 2) := by decide +kernel
theorem dX7_markPlanned_22 : decode cX7_markPlanned 22 = .ok (.iload_n 3, 1) := by decide +kernel
theorem dX7_markPlanned_23 : decode cX7_markPlanned 23 = .ok (.if_icmp .ge 65, 3) := by decide +kernel
theorem dX7_markPlanned_26 : decode cX7_markPlanned 26 = .ok (.aload_n 0, 1) := by decide +kernel
theorem dX7_markPlanned_27 : decode cX7_markPlanned 27 = .ok (.getfield 11, 3) := by decide +kernel
theorem dX7_markPlanned_30 : decode cX7_markPlanned 30 = .ok (.iload_n 1, 1) := by decide +kernel
theorem dX7_markPlanned_31 : decode cX7_markPlanned 31 = .ok (.aaload, 1) := by decide +kernel
theorem dX7_markPlanned_32 : decode cX7_markPlanned 32 = .ok (.iload 5, 2) := by decide +kernel
theorem dX7_markPlanned_34 : decode cX7_markPlanned 34 = .ok (.iaload, 1) := by decide +kernel
theorem dX7_markPlanned_35 : decode cX7_markPlanned 35 = .ok (.istore 6, 2) := by decide +kernel
theorem dX7_markPlanned_37 : decode cX7_markPlanned 37 = .ok (.aload_n 0, 1) := by decide +kernel
theorem dX7_markPlanned_38 : decode cX7_markPlanned 38 = .ok (.getfield 11, 3) := by decide +kernel
theorem dX7_markPlanned_41 : decode cX7_markPlanned 41 = .ok (.iload_n 2, 1) := by decide +kernel
theorem dX7_markPlanned_42 : decode cX7_markPlanned 42 = .ok (.aaload, 1) := by decide +kernel
theorem dX7_markPlanned_43 : decode cX7_markPlanned 43 = .ok (.iload 5, 2) := by decide +kernel
theorem dX7_markPlanned_45 : decode cX7_markPlanned 45 = .ok (.iaload, 1) := by decide +kernel
theorem dX7_markPlanned_46 : decode cX7_markPlanned 46 = .ok (.istore 7, 2) := by decide +kernel
theorem dX7_markPlanned_48 : decode cX7_markPlanned 48 = .ok (.iload 6, 2) := by decide +kernel
theorem dX7_markPlanned_50 : decode cX7_markPlanned 50 = .ok (.iconst (-1), 1) := by decide +kernel
theorem dX7_markPlanned_51 : decode cX7_markPlanned 51 = .ok (.if_icmp .eq 31, 3) := by decide +kernel
theorem dX7_markPlanned_54 : decode cX7_markPlanned 54 = .ok (.iload 7, 2) := by decide +kernel
theorem dX7_markPlanned_56 : decode cX7_markPlanned 56 = .ok (.iconst (-1), 1) := by decide +kernel
theorem dX7_markPlanned_57 : decode cX7_markPlanned 57 = .ok (.if_icmp .ne 6, 3) := by decide +kernel
theorem dX7_markPlanned_60 : decode cX7_markPlanned 60 = .ok (.goto 22, 3) := by decide +kernel
theorem dX7_markPlanned_63 : decode cX7_markPlanned 63 = .ok (.aload_n 0, 1) := by decide +kernel
theorem dX7_markPlanned_64 : decode cX7_markPlanned 64 = .ok (.getfield 35, 3) := by decide +kernel
theorem dX7_markPlanned_67 : decode cX7_markPlanned 67 = .ok (.iload 6, 2) := by decide +kernel
theorem dX7_markPlanned_69 : decode cX7_markPlanned 69 = .ok (.iconst 1, 1) := by decide +kernel
theorem dX7_markPlanned_70 : decode cX7_markPlanned 70 = .ok (.iastore, 1) := by decide +kernel
theorem dX7_markPlanned_71 : decode cX7_markPlanned 71 = .ok (.aload_n 0, 1) := by decide +kernel
theorem dX7_markPlanned_72 : decode cX7_markPlanned 72 = .ok (.getfield 35, 3) := by decide +kernel
theorem dX7_markPlanned_75 : decode cX7_markPlanned 75 = .ok (.iload 7, 2) := by decide +kernel
theorem dX7_markPlanned_77 : decode cX7_markPlanned 77 = .ok (.iconst 1, 1) := by decide +kernel
theorem dX7_markPlanned_78 : decode cX7_markPlanned 78 = .ok (.iastore, 1) := by decide +kernel
theorem dX7_markPlanned_79 : decode cX7_markPlanned 79 = .ok (.iinc 4 1, 3) := by decide +kernel
theorem dX7_markPlanned_82 : decode cX7_markPlanned 82 = .ok (.iinc 5 1, 3) := by decide +kernel
theorem dX7_markPlanned_85 : decode cX7_markPlanned 85 = .ok (.goto (-79), 3) := by decide +kernel
theorem dX7_markPlanned_88 : decode cX7_markPlanned 88 = .ok (.return_, 1) := by decide +kernel
theorem dX8_init_0 : decode cX8_init 0 = .ok (.aload_n 0, 1) := by decide +kernel
theorem dX8_init_1 : decode cX8_init 1 = .ok (.invokespecial 3, 3) := by decide +kernel
theorem dX8_init_4 : decode cX8_init 4 = .ok (.aload_n 0, 1) := by decide +kernel
theorem dX8_init_5 : decode cX8_init 5 = .ok (.bipush 6, 2) := by decide +kernel
theorem dX8_init_7 : decode cX8_init 7 = .ok (.newarray .int, 2) := by decide +kernel
theorem dX8_init_9 : decode cX8_init 9 = .ok (.putfield 9, 3) := by decide +kernel
theorem dX8_init_12 : decode cX8_init 12 = .ok (.aload_n 0, 1) := by decide +kernel
theorem dX8_init_13 : decode cX8_init 13 = .ok (.iconst 3, 1) := by decide +kernel
theorem dX8_init_14 : decode cX8_init 14 = .ok (.bipush 20, 2) := by decide +kernel
theorem dX8_init_16 : decode cX8_init 16 = .ok (.multianewarray 15 2, 4) := by decide +kernel
theorem dX8_init_20 : decode cX8_init 20 = .ok (.putfield 17, 3) := by decide +kernel
theorem dX8_init_23 : decode cX8_init 23 = .ok (.aload_n 0, 1) := by decide +kernel
theorem dX8_init_24 : decode cX8_init 24 = .ok (.bipush 12, 2) := by decide +kernel
theorem dX8_init_26 : decode cX8_init 26 = .ok (.newarray .int, 2) := by decide +kernel
theorem dX8_init_28 : decode cX8_init 28 = .ok (.putfield 20, 3) := by decide +kernel
theorem dX8_init_31 : decode cX8_init 31 = .ok (.aload_n 0, 1) := by decide +kernel
theorem dX8_init_32 : decode cX8_init 32 = .ok (.bipush 12, 2) := by decide +kernel
theorem dX8_init_34 : decode cX8_init 34 = .ok (.newarray .int, 2) := by decide +kernel
theorem dX8_init_36 : decode cX8_init 36 = .ok (.putfield 23, 3) := by decide +kernel
theorem dX8_init_39 : decode cX8_init 39 = .ok (.aload_n 0, 1) := by decide +kernel
theorem dX8_init_40 : decode cX8_init 40 = .ok (.bipush 60, 2) := by decide +kernel
theorem dX8_init_42 : decode cX8_init 42 = .ok (.newarray .int, 2) := by decide +kernel
theorem dX8_init_44 : decode cX8_init 44 = .ok (.putfield 26, 3) := by decide +kernel
theorem dX8_init_47 : decode cX8_init 47 = .ok (.aload_n 0, 1) := by decide +kernel
theorem dX8_init_48 : decode cX8_init 48 = .ok (.bipush 60, 2) := by decide +kernel
theorem dX8_init_50 : decode cX8_init 50 = .ok (.newarray .int, 2) := by decide +kernel
theorem dX8_init_52 : decode cX8_init 52 = .ok (.putfield 29, 3) := by decide +kernel
theorem dX8_init_55 : decode cX8_init 55 = .ok (.aload_n 0, 1) := by decide +kernel
theorem dX8_init_56 : decode cX8_init 56 = .ok (.iconst 2, 1) := by decide +kernel
theorem dX8_init_57 : decode cX8_init 57 = .ok (.bipush 60, 2) := by decide +kernel
theorem dX8_init_59 : decode cX8_init 59 = .ok (.multianewarray 15 2, 4) := by decide +kernel
theorem dX8_init_63 : decode cX8_init 63 = .ok (.putfield 32, 3) := by decide +kernel
theorem dX8_init_66 : decode cX8_init 66 = .ok (.aload_n 0, 1) := by decide +kernel
theorem dX8_init_67 : decode cX8_init 67 = .ok (.bipush 60, 2) := by decide +kernel
theorem dX8_init_69 : decode cX8_init 69 = .ok (.newarray .int, 2) := by decide +kernel
theorem dX8_init_71 : decode cX8_init 71 = .ok (.putfield 35, 3) := by decide +kernel
theorem dX8_init_74 : decode cX8_init 74 = .ok (.aload_n 0, 1) := by decide +kernel
theorem dX8_init_75 : decode cX8_init 75 = .ok (.bipush 20, 2) := by decide +kernel
theorem dX8_init_77 : decode cX8_init 77 = .ok (.newarray .int, 2) := by decide +kernel
theorem dX8_init_79 : decode cX8_init 79 = .ok (.putfield 38, 3) := by decide +kernel
theorem dX8_init_82 : decode cX8_init 82 = .ok (.aload_n 0, 1) := by decide +kernel
theorem dX8_init_83 : decode cX8_init 83 = .ok (.iconst 2, 1) := by decide +kernel
theorem dX8_init_84 : decode cX8_init 84 = .ok (.bipush 20, 2) := by decide +kernel
theorem dX8_init_86 : decode cX8_init 86 = .ok (.multianewarray 15 2, 4) := by decide +kernel
theorem dX8_init_90 : decode cX8_init 90 = .ok (.putfield 41, 3) := by decide +kernel
theorem dX8_init_93 : decode cX8_init 93 = .ok (.aload_n 0, 1) := by decide +kernel
theorem dX8_init_94 : decode cX8_init 94 = .ok (.bipush 12, 2) := by decide +kernel
theorem dX8_init_96 : decode cX8_init 96 = .ok (.newarray .int, 2) := by decide +kernel
theorem dX8_init_98 : decode cX8_init 98 = .ok (.putfield 44, 3) := by decide +kernel
theorem dX8_init_101 : decode cX8_init 101 = .ok (.aload_n 0, 1) := by decide +kernel
theorem dX8_init_102 : decode cX8_init 102 = .ok (.iconst 2, 1) := by decide +kernel
theorem dX8_init_103 : decode cX8_init 103 = .ok (.bipush 12, 2) := by decide +kernel
theorem dX8_init_105 : decode cX8_init 105 = .ok (.multianewarray 15 2, 4) := by decide +kernel
theorem dX8_init_109 : decode cX8_init 109 = .ok (.putfield 47, 3) := by decide +kernel
theorem dX8_init_112 : decode cX8_init 112 = .ok (.return_, 1) := by decide +kernel
set_option maxRecDepth 20000 in
theorem ggX8_clear_J7_fill_53178 : GoodIn wsX8_clear wsJ7_fill_53178 := goodIn_r _ [7] (by decide +kernel) (by decide +kernel)
set_option maxRecDepth 20000 in
theorem gX8_clear_J7_fill_53178 : GoodIn wsX8_clear (va_wsS RX8 50 yJ7_fill_53178 wsJ7_fill_53178) := goodIn_app (goodIn_of _ (by decide +kernel)) ggX8_clear_J7_fill_53178
theorem dX8_clear_0 : decode cX8_clear 0 = .ok (.aload_n 0, 1) := by decide +kernel
theorem dX8_clear_1 : decode cX8_clear 1 = .ok (.getfield 9, 3) := by decide +kernel
theorem dX8_clear_4 : decode cX8_clear 4 = .ok (.iconst 0, 1) := by decide +kernel
theorem dX8_clear_5 : decode cX8_clear 5 = .ok (.invokestatic 50, 3) := by decide +kernel
theorem dX8_clear_8 : decode cX8_clear 8 = .ok (.aload_n 0, 1) := by decide +kernel
theorem dX8_clear_9 : decode cX8_clear 9 = .ok (.getfield 38, 3) := by decide +kernel
theorem dX8_clear_12 : decode cX8_clear 12 = .ok (.iconst 0, 1) := by decide +kernel
theorem dX8_clear_13 : decode cX8_clear 13 = .ok (.invokestatic 50, 3) := by decide +kernel
theorem dX8_clear_16 : decode cX8_clear 16 = .ok (.aload_n 0, 1) := by decide +kernel
theorem dX8_clear_17 : decode cX8_clear 17 = .ok (.getfield 44, 3) := by decide +kernel
theorem dX8_clear_20 : decode cX8_clear 20 = .ok (.iconst 0, 1) := by decide +kernel
theorem dX8_clear_21 : decode cX8_clear 21 = .ok (.invokestatic 50, 3) := by decide +kernel
theorem dX8_clear_24 : decode cX8_clear 24 = .ok (.return_, 1) := by decide +kernel
set_option maxRecDepth 20000 in
theorem ggX8_takeFrom_X9_copyAll : GoodIn wsX8_takeFrom wsX9_copyAll := goodIn_r _ [15, 16, 17, 18, 19, 20, 21, 22, 23] (by decide +kernel) (by decide +kernel)
set_option maxRecDepth 20000 in
theorem gX8_takeFrom_X9_copyAll_n56 : GoodIn wsX8_takeFrom (wsX9_copyAll) := ggX8_takeFrom_X9_copyAll
theorem dX8_takeFrom_0 : decode cX8_takeFrom 0 = .ok (.aload_n 1, 1) := by decide +kernel
theorem dX8_takeFrom_1 : decode cX8_takeFrom 1 = .ok (.getfield 9, 3) := by decide +kernel
theorem dX8_takeFrom_4 : decode cX8_takeFrom 4 = .ok (.aload_n 0, 1) := by decide +kernel
theorem dX8_takeFrom_5 : decode cX8_takeFrom 5 = .ok (.getfield 9, 3) := by decide +kernel
theorem dX8_takeFrom_8 : decode cX8_takeFrom 8 = .ok (.invokestatic 56, 3) := by decide +kernel
theorem dX8_takeFrom_11 : decode cX8_takeFrom 11 = .ok (.iconst 0, 1) := by decide +kernel
theorem dX8_takeFrom_12 : decode cX8_takeFrom 12 = .ok (.istore_n 2, 1) := by decide +kernel
theorem dX8_takeFrom_13 : decode cX8_takeFrom 13 = .ok (.iload_n 2, 1) := by decide +kernel
theorem dX8_takeFrom_14 : decode cX8_takeFrom 14 = .ok (.iconst 2, 1) := by decide +kernel
theorem dX8_takeFrom_15 : decode cX8_takeFrom 15 = .ok (.if_icmp .gt 24, 3) := by decide +kernel
theorem dX8_takeFrom_18 : decode cX8_takeFrom 18 = .ok (.aload_n 1, 1) := by decide +kernel
theorem dX8_takeFrom_19 : decode cX8_takeFrom 19 = .ok (.getfield 17, 3) := by decide +kernel
theorem dX8_takeFrom_22 : decode cX8_takeFrom 22 = .ok (.iload_n 2, 1) := by decide +kernel
theorem dX8_takeFrom_23 : decode cX8_takeFrom 23 = .ok (.aaload, 1) := by decide +kernel
theorem dX8_takeFrom_24 : decode cX8_takeFrom 24 = .ok (.aload_n 0, 1) := by decide +kernel
theorem dX8_takeFrom_25 : decode cX8_takeFrom 25 = .ok (.getfield 17, 3) := by decide +kernel
theorem dX8_takeFrom_28 : decode cX8_takeFrom 28 = .ok (.iload_n 2, 1) := by decide +kernel
theorem dX8_takeFrom_29 : decode cX8_takeFrom 29 = .ok (.aaload, 1) := by decide +kernel
theorem dX8_takeFrom_30 : decode cX8_takeFrom 30 = .ok (.invokestatic 56, 3) := by decide +kernel
theorem dX8_takeFrom_33 : decode cX8_takeFrom 33 = .ok (.iinc 2 1, 3) := by decide +kernel
theorem dX8_takeFrom_36 : decode cX8_takeFrom 36 = .ok (.goto (-23), 3) := by decide +kernel
theorem dX8_takeFrom_39 : decode cX8_takeFrom 39 = .ok (.aload_n 1, 1) := by decide +kernel
theorem dX8_takeFrom_40 : decode cX8_takeFrom 40 = .ok (.getfield 20, 3) := by decide +kernel
theorem dX8_takeFrom_43 : decode cX8_takeFrom 43 = .ok (.aload_n 0, 1) := by decide +kernel
theorem dX8_takeFrom_44 : decode cX8_takeFrom 44 = .ok (.getfield 20, 3) := by decide +kernel
theorem dX8_takeFrom_47 : decode cX8_takeFrom 47 = .ok (.invokestatic 56, 3) := by decide +kernel
theorem dX8_takeFrom_50 : decode cX8_takeFrom 50 = .ok (.aload_n 1, 1) := by decide +kernel
theorem dX8_takeFrom_51 : decode cX8_takeFrom 51 = .ok (.getfield 23, 3) := by decide +kernel
theorem dX8_takeFrom_54 : decode cX8_takeFrom 54 = .ok (.aload_n 0, 1) := by decide +kernel
theorem dX8_takeFrom_55 : decode cX8_takeFrom 55 = .ok (.getfield 23, 3) := by decide +kernel
theorem dX8_takeFrom_58 : decode cX8_takeFrom 58 = .ok (.invokestatic 56, 3) := by decide +kernel
theorem dX8_takeFrom_61 : decode cX8_takeFrom 61 = .ok (.aload_n 1, 1) := by decide +kernel
theorem dX8_takeFrom_62 : decode cX8_takeFrom 62 = .ok (.getfield 26, 3) := by decide +kernel
theorem dX8_takeFrom_65 : decode cX8_takeFrom 65 = .ok (.aload_n 0, 1) := by decide +kernel
theorem dX8_takeFrom_66 : decode cX8_takeFrom 66 = .ok (.getfield 26, 3) := by decide +kernel
theorem dX8_takeFrom_69 : decode cX8_takeFrom 69 = .ok (.invokestatic 56, 3) := by decide +kernel
theorem dX8_takeFrom_72 : decode cX8_takeFrom 72 = .ok (.aload_n 1, 1) := by decide +kernel
theorem dX8_takeFrom_73 : decode cX8_takeFrom 73 = .ok (.getfield 29, 3) := by decide +kernel
theorem dX8_takeFrom_76 : decode cX8_takeFrom 76 = .ok (.aload_n 0, 1) := by decide +kernel
theorem dX8_takeFrom_77 : decode cX8_takeFrom 77 = .ok (.getfield 29, 3) := by decide +kernel
theorem dX8_takeFrom_80 : decode cX8_takeFrom 80 = .ok (.invokestatic 56, 3) := by decide +kernel
theorem dX8_takeFrom_83 : decode cX8_takeFrom 83 = .ok (.aload_n 1, 1) := by decide +kernel
theorem dX8_takeFrom_84 : decode cX8_takeFrom 84 = .ok (.getfield 35, 3) := by decide +kernel
theorem dX8_takeFrom_87 : decode cX8_takeFrom 87 = .ok (.aload_n 0, 1) := by decide +kernel
theorem dX8_takeFrom_88 : decode cX8_takeFrom 88 = .ok (.getfield 35, 3) := by decide +kernel
theorem dX8_takeFrom_91 : decode cX8_takeFrom 91 = .ok (.invokestatic 56, 3) := by decide +kernel
theorem dX8_takeFrom_94 : decode cX8_takeFrom 94 = .ok (.aload_n 1, 1) := by decide +kernel
theorem dX8_takeFrom_95 : decode cX8_takeFrom 95 = .ok (.getfield 38, 3) := by decide +kernel
theorem dX8_takeFrom_98 : decode cX8_takeFrom 98 = .ok (.aload_n 0, 1) := by decide +kernel
theorem dX8_takeFrom_99 : decode cX8_takeFrom 99 = .ok (.getfield 38, 3) := by decide +kernel
theorem dX8_takeFrom_102 : decode cX8_takeFrom 102 = .ok (.invokestatic 56, 3) := by decide +kernel
theorem dX8_takeFrom_105 : decode cX8_takeFrom 105 = .ok (.aload_n 1, 1) := by decide +kernel
theorem dX8_takeFrom_106 : decode cX8_takeFrom 106 = .ok (.getfield 44, 3) := by decide +kernel
theorem dX8_takeFrom_109 : decode cX8_takeFrom 109 = .ok (.aload_n 0, 1) := by decide +kernel
theorem dX8_takeFrom_110 : decode cX8_takeFrom 110 = .ok (.getfield 44, 3) := by decide +kernel
theorem dX8_takeFrom_113 : decode cX8_takeFrom 113 = .ok (.invokestatic 56, 3) := by decide +kernel
theorem dX8_takeFrom_116 : decode cX8_takeFrom 116 = .ok (.iconst 0, 1) := by decide +kernel
theorem dX8_takeFrom_117 : decode cX8_takeFrom 117 = .ok (.istore_n 2, 1) := by decide +kernel
theorem dX8_takeFrom_118 : decode cX8_takeFrom 118 = .ok (.iload_n 2, 1) := by decide +kernel
theorem dX8_takeFrom_119 : decode cX8_takeFrom 119 = .ok (.iconst 2, 1) := by decide +kernel
theorem dX8_takeFrom_120 : decode cX8_takeFrom 120 = .ok (.if_icmp .ge 54, 3) := by decide +kernel
theorem dX8_takeFrom_123 : decode cX8_takeFrom 123 = .ok (.aload_n 1, 1) := by decide +kernel
theorem dX8_takeFrom_124 : decode cX8_takeFrom 124 = .ok (.getfield 32, 3) := by decide +kernel
theorem dX8_takeFrom_127 : decode cX8_takeFrom 127 = .ok (.iload_n 2, 1) := by decide +kernel
theorem dX8_takeFrom_128 : decode cX8_takeFrom 128 = .ok (.aaload, 1) := by decide +kernel
theorem dX8_takeFrom_129 : decode cX8_takeFrom 129 = .ok (.aload_n 0, 1) := by decide +kernel
theorem dX8_takeFrom_130 : decode cX8_takeFrom 130 = .ok (.getfield 32, 3) := by decide +kernel
theorem dX8_takeFrom_133 : decode cX8_takeFrom 133 = .ok (.iload_n 2, 1) := by decide +kernel
theorem dX8_takeFrom_134 : decode cX8_takeFrom 134 = .ok (.aaload, 1) := by decide +kernel
theorem dX8_takeFrom_135 : decode cX8_takeFrom 135 = .ok (.invokestatic 56, 3) := by decide +kernel
theorem dX8_takeFrom_138 : decode cX8_takeFrom 138 = .ok (.aload_n 1, 1) := by decide +kernel
theorem dX8_takeFrom_139 : decode cX8_takeFrom 139 = .ok (.getfield 41, 3) := by decide +kernel
theorem dX8_takeFrom_142 : decode cX8_takeFrom 142 = .ok (.iload_n 2, 1) := by decide +kernel
theorem dX8_takeFrom_143 : decode cX8_takeFrom 143 = .ok (.aaload, 1) := by decide +kernel
theorem dX8_takeFrom_144 : decode cX8_takeFrom 144 = .ok (.aload_n 0, 1) := by decide +kernel
theorem dX8_takeFrom_145 : decode cX8_takeFrom 145 = .ok (.getfield 41, 3) := by decide +kernel
theorem dX8_takeFrom_148 : decode cX8_takeFrom 148 = .ok (.iload_n 2, 1) := by decide +kernel
theorem dX8_takeFrom_149 : decode cX8_takeFrom 149 = .ok (.aaload, 1) := by decide +kernel
theorem dX8_takeFrom_150 : decode cX8_takeFrom 150 = .ok (.invokestatic 56, 3) := by decide +kernel
theorem dX8_takeFrom_153 : decode cX8_takeFrom 153 = .ok (.aload_n 1, 1) := by decide +kernel
theorem dX8_takeFrom_154 : decode cX8_takeFrom 154 = .ok (.getfield 47, 3) := by decide +kernel
theorem dX8_takeFrom_157 : decode cX8_takeFrom 157 = .ok (.iload_n 2, 1) := by decide +kernel
theorem dX8_takeFrom_158 : decode cX8_takeFrom 158 = .ok (.aaload, 1) := by decide +kernel
theorem dX8_takeFrom_159 : decode cX8_takeFrom 159 = .ok (.aload_n 0, 1) := by decide +kernel
theorem dX8_takeFrom_160 : decode cX8_takeFrom 160 = .ok (.getfield 47, 3) := by decide +kernel
theorem dX8_takeFrom_163 : decode cX8_takeFrom 163 = .ok (.iload_n 2, 1) := by decide +kernel
theorem dX8_takeFrom_164 : decode cX8_takeFrom 164 = .ok (.aaload, 1) := by decide +kernel
theorem dX8_takeFrom_165 : decode cX8_takeFrom 165 = .ok (.invokestatic 56, 3) := by decide +kernel
theorem dX8_takeFrom_168 : decode cX8_takeFrom 168 = .ok (.iinc 2 1, 3) := by decide +kernel
theorem dX8_takeFrom_171 : decode cX8_takeFrom 171 = .ok (.goto (-53), 3) := by decide +kernel
theorem dX8_takeFrom_174 : decode cX8_takeFrom 174 = .ok (.return_, 1) := by decide +kernel
theorem dX8_exists_0 : decode cX8_exists 0 = .ok (.iload_n 2, 1) := by decide +kernel
theorem dX8_exists_1 : decode cX8_exists 1 = .ok (.ifCond .lt 17, 3) := by decide +kernel
theorem dX8_exists_4 : decode cX8_exists 4 = .ok (.iload_n 2, 1) := by decide +kernel
theorem dX8_exists_5 : decode cX8_exists 5 = .ok (.aload_n 0, 1) := by decide +kernel
theorem dX8_exists_6 : decode cX8_exists 6 = .ok (.getfield 9, 3) := by decide +kernel
theorem dX8_exists_9 : decode cX8_exists 9 = .ok (.iload_n 1, 1) := by decide +kernel
theorem dX8_exists_10 : decode cX8_exists 10 = .ok (.iaload, 1) := by decide +kernel
theorem dX8_exists_11 : decode cX8_exists 11 = .ok (.if_icmp .ge 7, 3) := by decide +kernel
theorem dX8_exists_14 : decode cX8_exists 14 = .ok (.iconst 1, 1) := by decide +kernel
theorem dX8_exists_15 : decode cX8_exists 15 = .ok (.goto 4, 3) := by decide +kernel
theorem dX8_exists_18 : decode cX8_exists 18 = .ok (.iconst 0, 1) := by decide +kernel
theorem dX8_exists_19 : decode cX8_exists 19 = .ok (.ireturn, 1) := by decide +kernel
theorem dX8_isFull_0 : decode cX8_isFull 0 = .ok (.iload_n 1, 1) := by decide +kernel
theorem dX8_isFull_1 : decode cX8_isFull 1 = .ok (.ifCond .lt 29, 3) := by decide +kernel
theorem dX8_isFull_4 : decode cX8_isFull 4 = .ok (.iload_n 1, 1) := by decide +kernel
theorem dX8_isFull_5 : decode cX8_isFull 5 = .ok (.getstatic 60, 3) := by decide +kernel
theorem dX8_isFull_8 : decode cX8_isFull 8 = .ok (.arraylength, 1) := by decide +kernel
theorem dX8_isFull_9 : decode cX8_isFull 9 = .ok (.if_icmp .ge 21, 3) := by decide +kernel
theorem dX8_isFull_12 : decode cX8_isFull 12 = .ok (.aload_n 0, 1) := by decide +kernel
theorem dX8_isFull_13 : decode cX8_isFull 13 = .ok (.getfield 9, 3) := by decide +kernel
theorem dX8_isFull_16 : decode cX8_isFull 16 = .ok (.iload_n 1, 1) := by decide +kernel
theorem dX8_isFull_17 : decode cX8_isFull 17 = .ok (.iaload, 1) := by decide +kernel
theorem dX8_isFull_18 : decode cX8_isFull 18 = .ok (.getstatic 60, 3) := by decide +kernel
theorem dX8_isFull_21 : decode cX8_isFull 21 = .ok (.iload_n 1, 1) := by decide +kernel
theorem dX8_isFull_22 : decode cX8_isFull 22 = .ok (.iaload, 1) := by decide +kernel
theorem dX8_isFull_23 : decode cX8_isFull 23 = .ok (.if_icmp .lt 7, 3) := by decide +kernel
theorem dX8_isFull_26 : decode cX8_isFull 26 = .ok (.iconst 1, 1) := by decide +kernel
theorem dX8_isFull_27 : decode cX8_isFull 27 = .ok (.goto 4, 3) := by decide +kernel
theorem dX8_isFull_30 : decode cX8_isFull 30 = .ok (.iconst 0, 1) := by decide +kernel
theorem dX8_isFull_31 : decode cX8_isFull 31 = .ok (.ireturn, 1) := by decide +kernel
theorem dX8_find_0 : decode cX8_find 0 = .ok (.iconst 0, 1) := by decide +kernel
theorem dX8_find_1 : decode cX8_find 1 = .ok (.istore_n 3, 1) := by decide +kernel
theorem dX8_find_2 : decode cX8_find 2 = .ok (.iload_n 3, 1) := by decide +kernel
theorem dX8_find_3 : decode cX8_find 3 = .ok (.aload_n 0, 1) := by decide +kernel
theorem dX8_find_4 : decode cX8_find 4 = .ok (.getfield 9, 3) := by decide +kernel
theorem dX8_find_7 : decode cX8_find 7 = .ok (.iload_n 1, 1) := by decide +kernel
theorem dX8_find_8 : decode cX8_find 8 = .ok (.iaload, 1) := by decide +kernel
theorem dX8_find_9 : decode cX8_find 9 = .ok (.if_icmp .ge 23, 3) := by decide +kernel
theorem dX8_find_12 : decode cX8_find 12 = .ok (.aload_n 0, 1) := by decide +kernel
theorem dX8_find_13 : decode cX8_find 13 = .ok (.getfield 17, 3) := by decide +kernel
theorem dX8_find_16 : decode cX8_find 16 = .ok (.iload_n 1, 1) := by decide +kernel
theorem dX8_find_17 : decode cX8_find 17 = .ok (.aaload, 1) := by decide +kernel
theorem dX8_find_18 : decode cX8_find 18 = .ok (.iload_n 3, 1) := by decide +kernel
theorem dX8_find_19 : decode cX8_find 19 = .ok (.iaload, 1) := by decide +kernel
theorem dX8_find_20 : decode cX8_find 20 = .ok (.iload_n 2, 1) := by decide +kernel
theorem dX8_find_21 : decode cX8_find 21 = .ok (.if_icmp .ne 5, 3) := by decide +kernel
theorem dX8_find_24 : decode cX8_find 24 = .ok (.iload_n 3, 1) := by decide +kernel
theorem dX8_find_25 : decode cX8_find 25 = .ok (.ireturn, 1) := by decide +kernel
theorem dX8_find_26 : decode cX8_find 26 = .ok (.iinc 3 1, 3) := by decide +kernel
theorem dX8_find_29 : decode cX8_find 29 = .ok (.goto (-27), 3) := by decide +kernel
theorem dX8_find_32 : decode cX8_find 32 = .ok (.iconst (-1), 1) := by decide +kernel
theorem dX8_find_33 : decode cX8_find 33 = .ok (.ireturn, 1) := by decide +kernel
set_option maxRecDepth 20000 in
theorem ggX8_isNamed_X8_find : GoodIn wsX8_isNamed wsX8_find := goodIn_r _ [5, 6, 7, 8, 9, 10, 11, 12, 13, 14, 15, 16, 17, 18, 19] (by decide +kernel) (by decide +kernel)
set_option maxRecDepth 20000 in
theorem gX8_isNamed_X8_find : GoodIn wsX8_isNamed (wsV RX8 63 RX8 yX8_find wsX8_find) := goodIn_app (goodIn_of _ (by decide +kernel)) ggX8_isNamed_X8_find
theorem dX8_isNamed_0 : decode cX8_isNamed 0 = .ok (.aload_n 0, 1) := by decide +kernel
theorem dX8_isNamed_1 : decode cX8_isNamed 1 = .ok (.iconst 0, 1) := by decide +kernel
theorem dX8_isNamed_2 : decode cX8_isNamed 2 = .ok (.iload_n 1, 1) := by decide +kernel
theorem dX8_isNamed_3 : decode cX8_isNamed 3 = .ok (.invokevirtual 63, 3) := by decide +kernel
theorem dX8_isNamed_6 : decode cX8_isNamed 6 = .ok (.iconst (-1), 1) := by decide +kernel
theorem dX8_isNamed_7 : decode cX8_isNamed 7 = .ok (.if_icmp .ne 23, 3) := by decide +kernel
theorem dX8_isNamed_10 : decode cX8_isNamed 10 = .ok (.aload_n 0, 1) := by decide +kernel
theorem dX8_isNamed_11 : decode cX8_isNamed 11 = .ok (.iconst 1, 1) := by decide +kernel
theorem dX8_isNamed_12 : decode cX8_isNamed 12 = .ok (.iload_n 1, 1) := by decide +kernel
theorem dX8_isNamed_13 : decode cX8_isNamed 13 = .ok (.invokevirtual 63, 3) := by decide +kernel
theorem dX8_isNamed_16 : decode cX8_isNamed 16 = .ok (.iconst (-1), 1) := by decide +kernel
theorem dX8_isNamed_17 : decode cX8_isNamed 17 = .ok (.if_icmp .ne 13, 3) := by decide +kernel
theorem dX8_isNamed_20 : decode cX8_isNamed 20 = .ok (.aload_n 0, 1) := by decide +kernel
theorem dX8_isNamed_21 : decode cX8_isNamed 21 = .ok (.iconst 2, 1) := by decide +kernel
theorem dX8_isNamed_22 : decode cX8_isNamed 22 = .ok (.iload_n 1, 1) := by decide +kernel
theorem dX8_isNamed_23 : decode cX8_isNamed 23 = .ok (.invokevirtual 63, 3) := by decide +kernel
theorem dX8_isNamed_26 : decode cX8_isNamed 26 = .ok (.iconst (-1), 1) := by decide +kernel
theorem dX8_isNamed_27 : decode cX8_isNamed 27 = .ok (.if_icmp .eq 7, 3) := by decide +kernel
theorem dX8_isNamed_30 : decode cX8_isNamed 30 = .ok (.iconst 1, 1) := by decide +kernel
theorem dX8_isNamed_31 : decode cX8_isNamed 31 = .ok (.goto 4, 3) := by decide +kernel
theorem dX8_isNamed_34 : decode cX8_isNamed 34 = .ok (.iconst 0, 1) := by decide +kernel
theorem dX8_isNamed_35 : decode cX8_isNamed 35 = .ok (.ireturn, 1) := by decide +kernel
theorem dX8_findRow_0 : decode cX8_findRow 0 = .ok (.iconst 0, 1) := by decide +kernel
theorem dX8_findRow_1 : decode cX8_findRow 1 = .ok (.istore_n 3, 1) := by decide +kernel
theorem dX8_findRow_2 : decode cX8_findRow 2 = .ok (.iload_n 3, 1) := by decide +kernel
theorem dX8_findRow_3 : decode cX8_findRow 3 = .ok (.aload_n 0, 1) := by decide +kernel
theorem dX8_findRow_4 : decode cX8_findRow 4 = .ok (.getfield 9, 3) := by decide +kernel
theorem dX8_findRow_7 : decode cX8_findRow 7 = .ok (.iconst 3, 1) := by decide +kernel
theorem dX8_findRow_8 : decode cX8_findRow 8 = .ok (.iaload, 1) := by decide +kernel
theorem dX8_findRow_9 : decode cX8_findRow 9 = .ok (.if_icmp .ge 31, 3) := by decide +kernel
theorem dX8_findRow_12 : decode cX8_findRow 12 = .ok (.aload_n 0, 1) := by decide +kernel
theorem dX8_findRow_13 : decode cX8_findRow 13 = .ok (.getfield 26, 3) := by decide +kernel
theorem dX8_findRow_16 : decode cX8_findRow 16 = .ok (.iload_n 3, 1) := by decide +kernel
theorem dX8_findRow_17 : decode cX8_findRow 17 = .ok (.iaload, 1) := by decide +kernel
theorem dX8_findRow_18 : decode cX8_findRow 18 = .ok (.iload_n 1, 1) := by decide +kernel
theorem dX8_findRow_19 : decode cX8_findRow 19 = .ok (.if_icmp .ne 15, 3) := by decide +kernel
theorem dX8_findRow_22 : decode cX8_findRow 22 = .ok (.aload_n 0, 1) := by decide +kernel
theorem dX8_findRow_23 : decode cX8_findRow 23 = .ok (.getfield 29, 3) := by decide +kernel
theorem dX8_findRow_26 : decode cX8_findRow 26 = .ok (.iload_n 3, 1) := by decide +kernel
theorem dX8_findRow_27 : decode cX8_findRow 27 = .ok (.iaload, 1) := by decide +kernel
theorem dX8_findRow_28 : decode cX8_findRow 28 = .ok (.iload_n 2, 1) := by decide +kernel
theorem dX8_findRow_29 : decode cX8_findRow 29 = .ok (.if_icmp .ne 5, 3) := by decide +kernel
theorem dX8_findRow_32 : decode cX8_findRow 32 = .ok (.iload_n 3, 1) := by decide +kernel
theorem dX8_findRow_33 : decode cX8_findRow 33 = .ok (.ireturn, 1) := by decide +kernel
theorem dX8_findRow_34 : decode cX8_findRow 34 = .ok (.iinc 3 1, 3) := by decide +kernel
theorem dX8_findRow_37 : decode cX8_findRow 37 = .ok (.goto (-35), 3) := by decide +kernel
theorem dX8_findRow_40 : decode cX8_findRow 40 = .ok (.iconst (-1), 1) := by decide +kernel
theorem dX8_findRow_41 : decode cX8_findRow 41 = .ok (.ireturn, 1) := by decide +kernel
set_option maxRecDepth 20000 in
theorem ggX8_addNamed_X8_isFull : GoodIn wsX8_addNamed wsX8_isFull := goodIn_r _ [7, 2, 8, 9, 10, 11, 12, 13, 14, 15, 16, 17, 18, 19] (by decide +kernel) (by decide +kernel)
set_option maxRecDepth 20000 in
theorem gX8_addNamed_X8_isFull : GoodIn wsX8_addNamed (wsV RX8 67 RX8 yX8_isFull wsX8_isFull) := goodIn_app (goodIn_of _ (by decide +kernel)) ggX8_addNamed_X8_isFull
theorem dX8_addNamed_0 : decode cX8_addNamed 0 = .ok (.aload_n 0, 1) := by decide +kernel
theorem dX8_addNamed_1 : decode cX8_addNamed 1 = .ok (.iload_n 1, 1) := by decide +kernel
theorem dX8_addNamed_2 : decode cX8_addNamed 2 = .ok (.invokevirtual 67, 3) := by decide +kernel
theorem dX8_addNamed_5 : decode cX8_addNamed 5 = .ok (.ifCond .eq 4, 3) := by decide +kernel
theorem dX8_addNamed_8 : decode cX8_addNamed 8 = .ok (.return_, 1) := by decide +kernel
theorem dX8_addNamed_9 : decode cX8_addNamed 9 = .ok (.aload_n 0, 1) := by decide +kernel
theorem dX8_addNamed_10 : decode cX8_addNamed 10 = .ok (.getfield 17, 3) := by decide +kernel
theorem dX8_addNamed_13 : decode cX8_addNamed 13 = .ok (.iload_n 1, 1) := by decide +kernel
theorem dX8_addNamed_14 : decode cX8_addNamed 14 = .ok (.aaload, 1) := by decide +kernel
theorem dX8_addNamed_15 : decode cX8_addNamed 15 = .ok (.aload_n 0, 1) := by decide +kernel
theorem dX8_addNamed_16 : decode cX8_addNamed 16 = .ok (.getfield 9, 3) := by decide +kernel
theorem dX8_addNamed_19 : decode cX8_addNamed 19 = .ok (.iload_n 1, 1) := by decide +kernel
theorem dX8_addNamed_20 : decode cX8_addNamed 20 = .ok (.iaload, 1) := by decide +kernel
theorem dX8_addNamed_21 : decode cX8_addNamed 21 = .ok (.iload_n 2, 1) := by decide +kernel
theorem dX8_addNamed_22 : decode cX8_addNamed 22 = .ok (.iastore, 1) := by decide +kernel
theorem dX8_addNamed_23 : decode cX8_addNamed 23 = .ok (.aload_n 0, 1) := by decide +kernel
theorem dX8_addNamed_24 : decode cX8_addNamed 24 = .ok (.getfield 9, 3) := by decide +kernel
theorem dX8_addNamed_27 : decode cX8_addNamed 27 = .ok (.iload_n 1, 1) := by decide +kernel
theorem dX8_addNamed_28 : decode cX8_addNamed 28 = .ok (.dup2, 1) := by decide +kernel
theorem dX8_addNamed_29 : decode cX8_addNamed 29 = .ok (.iaload, 1) := by decide +kernel
theorem dX8_addNamed_30 : decode cX8_addNamed 30 = .ok (.iconst 1, 1) := by decide +kernel
theorem dX8_addNamed_31 : decode cX8_addNamed 31 = .ok (.iadd, 1) := by decide +kernel
theorem dX8_addNamed_32 : decode cX8_addNamed 32 = .ok (.iastore, 1) := by decide +kernel
theorem dX8_addNamed_33 : decode cX8_addNamed 33 = .ok (.return_, 1) := by decide +kernel
set_option maxRecDepth 20000 in
theorem ggX8_addPicture_X8_isFull : GoodIn wsX8_addPicture wsX8_isFull := goodIn_r _ [8, 2, 14, 15, 16, 17, 18, 19, 20, 21, 22, 23, 24, 25] (by decide +kernel) (by decide +kernel)
set_option maxRecDepth 20000 in
theorem gX8_addPicture_X8_isFull : GoodIn wsX8_addPicture (wsV RX8 67 RX8 yX8_isFull wsX8_isFull) := goodIn_app (goodIn_of _ (by decide +kernel)) ggX8_addPicture_X8_isFull
set_option maxRecDepth 20000 in
theorem ggX8_addPicture_X8_addNamed : GoodIn wsX8_addPicture wsX8_addNamed := goodIn_r _ [12, 13, 2, 4, 5, 6, 7, 8, 14, 15, 16, 17, 18, 19, 20, 21, 22, 23, 24, 25] (by decide +kernel) (by decide +kernel)
set_option maxRecDepth 20000 in
theorem gX8_addPicture_X8_addNamed : GoodIn wsX8_addPicture (wsV RX8 71 RX8 yX8_addNamed wsX8_addNamed) := goodIn_app (goodIn_of _ (by decide +kernel)) ggX8_addPicture_X8_addNamed
theorem dX8_addPicture_0 : decode cX8_addPicture 0 = .ok (.aload_n 0, 1) := by decide +kernel
theorem dX8_addPicture_1 : decode cX8_addPicture 1 = .ok (.iconst 1, 1) := by decide +kernel
theorem dX8_addPicture_2 : decode cX8_addPicture 2 = .ok (.invokevirtual 67, 3) := by decide +kernel
theorem dX8_addPicture_5 : decode cX8_addPicture 5 = .ok (.ifCond .eq 4, 3) := by decide +kernel
theorem dX8_addPicture_8 : decode cX8_addPicture 8 = .ok (.return_, 1) := by decide +kernel
theorem dX8_addPicture_9 : decode cX8_addPicture 9 = .ok (.aload_n 0, 1) := by decide +kernel
theorem dX8_addPicture_10 : decode cX8_addPicture 10 = .ok (.getfield 20, 3) := by decide +kernel
theorem dX8_addPicture_13 : decode cX8_addPicture 13 = .ok (.aload_n 0, 1) := by decide +kernel
theorem dX8_addPicture_14 : decode cX8_addPicture 14 = .ok (.getfield 9, 3) := by decide +kernel
theorem dX8_addPicture_17 : decode cX8_addPicture 17 = .ok (.iconst 1, 1) := by decide +kernel
theorem dX8_addPicture_18 : decode cX8_addPicture 18 = .ok (.iaload, 1) := by decide +kernel
theorem dX8_addPicture_19 : decode cX8_addPicture 19 = .ok (.iload_n 2, 1) := by decide +kernel
theorem dX8_addPicture_20 : decode cX8_addPicture 20 = .ok (.iastore, 1) := by decide +kernel
theorem dX8_addPicture_21 : decode cX8_addPicture 21 = .ok (.aload_n 0, 1) := by decide +kernel
theorem dX8_addPicture_22 : decode cX8_addPicture 22 = .ok (.getfield 23, 3) := by decide +kernel
theorem dX8_addPicture_25 : decode cX8_addPicture 25 = .ok (.aload_n 0, 1) := by decide +kernel
theorem dX8_addPicture_26 : decode cX8_addPicture 26 = .ok (.getfield 9, 3) := by decide +kernel
theorem dX8_addPicture_29 : decode cX8_addPicture 29 = .ok (.iconst 1, 1) := by decide +kernel
theorem dX8_addPicture_30 : decode cX8_addPicture 30 = .ok (.iaload, 1) := by decide +kernel
theorem dX8_addPicture_31 : decode cX8_addPicture 31 = .ok (.iload_n 3, 1) := by decide +kernel
theorem dX8_addPicture_32 : decode cX8_addPicture 32 = .ok (.iastore, 1) := by decide +kernel
theorem dX8_addPicture_33 : decode cX8_addPicture 33 = .ok (.aload_n 0, 1) := by decide +kernel
theorem dX8_addPicture_34 : decode cX8_addPicture 34 = .ok (.iconst 1, 1) := by decide +kernel
theorem dX8_addPicture_35 : decode cX8_addPicture 35 = .ok (.iload_n 1, 1) := by decide +kernel
theorem dX8_addPicture_36 : decode cX8_addPicture 36 = .ok (.invokevirtual 71, 3) := by decide +kernel
theorem dX8_addPicture_39 : decode cX8_addPicture 39 = .ok (.return_, 1) := by decide +kernel
set_option maxRecDepth 20000 in
theorem ggX8_addRow_X8_isFull : GoodIn wsX8_addRow wsX8_isFull := goodIn_r _ [9, 1, 15, 16, 17, 18, 19, 20, 21, 22, 23, 24, 25, 26] (by decide +kernel) (by decide +kernel)
set_option maxRecDepth 20000 in
theorem gX8_addRow_X8_isFull : GoodIn wsX8_addRow (wsV RX8 67 RX8 yX8_isFull wsX8_isFull) := goodIn_app (goodIn_of _ (by decide +kernel)) ggX8_addRow_X8_isFull
set_option maxRecDepth 20000 in
theorem ggX8_addRow_X8_setMeasured : GoodIn wsX8_addRow wsX8_setMeasured := goodIn_r _ [13, 14, 15, 16, 17, 18, 19, 20, 21, 22, 23, 24, 25, 26] (by decide +kernel) (by decide +kernel)
set_option maxRecDepth 20000 in
theorem gX8_addRow_X8_setMeasured : GoodIn wsX8_addRow (wsV RX8 75 RX8 yX8_setMeasured wsX8_setMeasured) := goodIn_app (goodIn_of _ (by decide +kernel)) ggX8_addRow_X8_setMeasured
theorem dX8_addRow_0 : decode cX8_addRow 0 = .ok (.aload_n 0, 1) := by decide +kernel
theorem dX8_addRow_1 : decode cX8_addRow 1 = .ok (.iconst 3, 1) := by decide +kernel
theorem dX8_addRow_2 : decode cX8_addRow 2 = .ok (.invokevirtual 67, 3) := by decide +kernel
theorem dX8_addRow_5 : decode cX8_addRow 5 = .ok (.ifCond .eq 4, 3) := by decide +kernel
theorem dX8_addRow_8 : decode cX8_addRow 8 = .ok (.return_, 1) := by decide +kernel
theorem dX8_addRow_9 : decode cX8_addRow 9 = .ok (.aload_n 0, 1) := by decide +kernel
theorem dX8_addRow_10 : decode cX8_addRow 10 = .ok (.getfield 9, 3) := by decide +kernel
theorem dX8_addRow_13 : decode cX8_addRow 13 = .ok (.iconst 3, 1) := by decide +kernel
theorem dX8_addRow_14 : decode cX8_addRow 14 = .ok (.iaload, 1) := by decide +kernel
theorem dX8_addRow_15 : decode cX8_addRow 15 = .ok (.istore 6, 2) := by decide +kernel
theorem dX8_addRow_17 : decode cX8_addRow 17 = .ok (.aload_n 0, 1) := by decide +kernel
theorem dX8_addRow_18 : decode cX8_addRow 18 = .ok (.getfield 26, 3) := by decide +kernel
theorem dX8_addRow_21 : decode cX8_addRow 21 = .ok (.iload 6, 2) := by decide +kernel
theorem dX8_addRow_23 : decode cX8_addRow 23 = .ok (.iload_n 1, 1) := by decide +kernel
theorem dX8_addRow_24 : decode cX8_addRow 24 = .ok (.iastore, 1) := by decide +kernel
theorem dX8_addRow_25 : decode cX8_addRow 25 = .ok (.aload_n 0, 1) := by decide +kernel
theorem dX8_addRow_26 : decode cX8_addRow 26 = .ok (.getfield 29, 3) := by decide +kernel
theorem dX8_addRow_29 : decode cX8_addRow 29 = .ok (.iload 6, 2) := by decide +kernel
theorem dX8_addRow_31 : decode cX8_addRow 31 = .ok (.iload_n 2, 1) := by decide +kernel
theorem dX8_addRow_32 : decode cX8_addRow 32 = .ok (.iastore, 1) := by decide +kernel
theorem dX8_addRow_33 : decode cX8_addRow 33 = .ok (.aload_n 0, 1) := by decide +kernel
theorem dX8_addRow_34 : decode cX8_addRow 34 = .ok (.getfield 35, 3) := by decide +kernel
theorem dX8_addRow_37 : decode cX8_addRow 37 = .ok (.iload 6, 2) := by decide +kernel
theorem dX8_addRow_39 : decode cX8_addRow 39 = .ok (.iload 5, 2) := by decide +kernel
theorem dX8_addRow_41 : decode cX8_addRow 41 = .ok (.iastore, 1) := by decide +kernel
theorem dX8_addRow_42 : decode cX8_addRow 42 = .ok (.aload_n 0, 1) := by decide +kernel
theorem dX8_addRow_43 : decode cX8_addRow 43 = .ok (.getfield 9, 3) := by decide +kernel
theorem dX8_addRow_46 : decode cX8_addRow 46 = .ok (.iconst 3, 1) := by decide +kernel
theorem dX8_addRow_47 : decode cX8_addRow 47 = .ok (.dup2, 1) := by decide +kernel
theorem dX8_addRow_48 : decode cX8_addRow 48 = .ok (.iaload, 1) := by decide +kernel
theorem dX8_addRow_49 : decode cX8_addRow 49 = .ok (.iconst 1, 1) := by decide +kernel
theorem dX8_addRow_50 : decode cX8_addRow 50 = .ok (.iadd, 1) := by decide +kernel
theorem dX8_addRow_51 : decode cX8_addRow 51 = .ok (.iastore, 1) := by decide +kernel
theorem dX8_addRow_52 : decode cX8_addRow 52 = .ok (.aload_n 0, 1) := by decide +kernel
theorem dX8_addRow_53 : decode cX8_addRow 53 = .ok (.iload 6, 2) := by decide +kernel
theorem dX8_addRow_55 : decode cX8_addRow 55 = .ok (.iload_n 3, 1) := by decide +kernel
theorem dX8_addRow_56 : decode cX8_addRow 56 = .ok (.iload 4, 2) := by decide +kernel
theorem dX8_addRow_58 : decode cX8_addRow 58 = .ok (.invokevirtual 75, 3) := by decide +kernel
theorem dX8_addRow_61 : decode cX8_addRow 61 = .ok (.return_, 1) := by decide +kernel
theorem dX8_addControl_0 : decode cX8_addControl 0 = .ok (.aload_n 0, 1) := by decide +kernel
theorem dX8_addControl_1 : decode cX8_addControl 1 = .ok (.getfield 38, 3) := by decide +kernel
theorem dX8_addControl_4 : decode cX8_addControl 4 = .ok (.iload_n 1, 1) := by decide +kernel
theorem dX8_addControl_5 : decode cX8_addControl 5 = .ok (.iload 4, 2) := by decide +kernel
theorem dX8_addControl_7 : decode cX8_addControl 7 = .ok (.iastore, 1) := by decide +kernel
theorem dX8_addControl_8 : decode cX8_addControl 8 = .ok (.aload_n 0, 1) := by decide +kernel
theorem dX8_addControl_9 : decode cX8_addControl 9 = .ok (.getfield 41, 3) := by decide +kernel
theorem dX8_addControl_12 : decode cX8_addControl 12 = .ok (.iconst 0, 1) := by decide +kernel
theorem dX8_addControl_13 : decode cX8_addControl 13 = .ok (.aaload, 1) := by decide +kernel
theorem dX8_addControl_14 : decode cX8_addControl 14 = .ok (.iload_n 1, 1) := by decide +kernel
theorem dX8_addControl_15 : decode cX8_addControl 15 = .ok (.iload_n 2, 1) := by decide +kernel
theorem dX8_addControl_16 : decode cX8_addControl 16 = .ok (.iastore, 1) := by decide +kernel
theorem dX8_addControl_17 : decode cX8_addControl 17 = .ok (.aload_n 0, 1) := by decide +kernel
theorem dX8_addControl_18 : decode cX8_addControl 18 = .ok (.getfield 41, 3) := by decide +kernel
theorem dX8_addControl_21 : decode cX8_addControl 21 = .ok (.iconst 1, 1) := by decide +kernel
theorem dX8_addControl_22 : decode cX8_addControl 22 = .ok (.aaload, 1) := by decide +kernel
theorem dX8_addControl_23 : decode cX8_addControl 23 = .ok (.iload_n 1, 1) := by decide +kernel
theorem dX8_addControl_24 : decode cX8_addControl 24 = .ok (.iload_n 3, 1) := by decide +kernel
theorem dX8_addControl_25 : decode cX8_addControl 25 = .ok (.iastore, 1) := by decide +kernel
theorem dX8_addControl_26 : decode cX8_addControl 26 = .ok (.aload_n 0, 1) := by decide +kernel
theorem dX8_addControl_27 : decode cX8_addControl 27 = .ok (.getfield 9, 3) := by decide +kernel
theorem dX8_addControl_30 : decode cX8_addControl 30 = .ok (.iconst 4, 1) := by decide +kernel
theorem dX8_addControl_31 : decode cX8_addControl 31 = .ok (.dup2, 1) := by decide +kernel
theorem dX8_addControl_32 : decode cX8_addControl 32 = .ok (.iaload, 1) := by decide +kernel
theorem dX8_addControl_33 : decode cX8_addControl 33 = .ok (.iconst 1, 1) := by decide +kernel
theorem dX8_addControl_34 : decode cX8_addControl 34 = .ok (.iadd, 1) := by decide +kernel
theorem dX8_addControl_35 : decode cX8_addControl 35 = .ok (.iastore, 1) := by decide +kernel
theorem dX8_addControl_36 : decode cX8_addControl 36 = .ok (.return_, 1) := by decide +kernel
theorem dX8_addCentre_0 : decode cX8_addCentre 0 = .ok (.aload_n 0, 1) := by decide +kernel
theorem dX8_addCentre_1 : decode cX8_addCentre 1 = .ok (.getfield 44, 3) := by decide +kernel
theorem dX8_addCentre_4 : decode cX8_addCentre 4 = .ok (.iload_n 1, 1) := by decide +kernel
theorem dX8_addCentre_5 : decode cX8_addCentre 5 = .ok (.iload 4, 2) := by decide +kernel
theorem dX8_addCentre_7 : decode cX8_addCentre 7 = .ok (.iastore, 1) := by decide +kernel
theorem dX8_addCentre_8 : decode cX8_addCentre 8 = .ok (.aload_n 0, 1) := by decide +kernel
theorem dX8_addCentre_9 : decode cX8_addCentre 9 = .ok (.getfield 47, 3) := by decide +kernel
theorem dX8_addCentre_12 : decode cX8_addCentre 12 = .ok (.iconst 0, 1) := by decide +kernel
theorem dX8_addCentre_13 : decode cX8_addCentre 13 = .ok (.aaload, 1) := by decide +kernel
theorem dX8_addCentre_14 : decode cX8_addCentre 14 = .ok (.iload_n 1, 1) := by decide +kernel
theorem dX8_addCentre_15 : decode cX8_addCentre 15 = .ok (.iload_n 2, 1) := by decide +kernel
theorem dX8_addCentre_16 : decode cX8_addCentre 16 = .ok (.iastore, 1) := by decide +kernel
theorem dX8_addCentre_17 : decode cX8_addCentre 17 = .ok (.aload_n 0, 1) := by decide +kernel
theorem dX8_addCentre_18 : decode cX8_addCentre 18 = .ok (.getfield 47, 3) := by decide +kernel
theorem dX8_addCentre_21 : decode cX8_addCentre 21 = .ok (.iconst 1, 1) := by decide +kernel
theorem dX8_addCentre_22 : decode cX8_addCentre 22 = .ok (.aaload, 1) := by decide +kernel
theorem dX8_addCentre_23 : decode cX8_addCentre 23 = .ok (.iload_n 1, 1) := by decide +kernel
theorem dX8_addCentre_24 : decode cX8_addCentre 24 = .ok (.iload_n 3, 1) := by decide +kernel
theorem dX8_addCentre_25 : decode cX8_addCentre 25 = .ok (.iastore, 1) := by decide +kernel
theorem dX8_addCentre_26 : decode cX8_addCentre 26 = .ok (.aload_n 0, 1) := by decide +kernel
theorem dX8_addCentre_27 : decode cX8_addCentre 27 = .ok (.getfield 9, 3) := by decide +kernel
theorem dX8_addCentre_30 : decode cX8_addCentre 30 = .ok (.iconst 5, 1) := by decide +kernel
theorem dX8_addCentre_31 : decode cX8_addCentre 31 = .ok (.dup2, 1) := by decide +kernel
theorem dX8_addCentre_32 : decode cX8_addCentre 32 = .ok (.iaload, 1) := by decide +kernel
theorem dX8_addCentre_33 : decode cX8_addCentre 33 = .ok (.iconst 1, 1) := by decide +kernel
theorem dX8_addCentre_34 : decode cX8_addCentre 34 = .ok (.iadd, 1) := by decide +kernel
theorem dX8_addCentre_35 : decode cX8_addCentre 35 = .ok (.iastore, 1) := by decide +kernel
theorem dX8_addCentre_36 : decode cX8_addCentre 36 = .ok (.return_, 1) := by decide +kernel
theorem dX8_setMeasured_0 : decode cX8_setMeasured 0 = .ok (.aload_n 0, 1) := by decide +kernel
theorem dX8_setMeasured_1 : decode cX8_setMeasured 1 = .ok (.getfield 32, 3) := by decide +kernel
theorem dX8_setMeasured_4 : decode cX8_setMeasured 4 = .ok (.iconst 0, 1) := by decide +kernel
theorem dX8_setMeasured_5 : decode cX8_setMeasured 5 = .ok (.aaload, 1) := by decide +kernel
theorem dX8_setMeasured_6 : decode cX8_setMeasured 6 = .ok (.iload_n 1, 1) := by decide +kernel
theorem dX8_setMeasured_7 : decode cX8_setMeasured 7 = .ok (.iload_n 2, 1) := by decide +kernel
theorem dX8_setMeasured_8 : decode cX8_setMeasured 8 = .ok (.iastore, 1) := by decide +kernel
theorem dX8_setMeasured_9 : decode cX8_setMeasured 9 = .ok (.aload_n 0, 1) := by decide +kernel
theorem dX8_setMeasured_10 : decode cX8_setMeasured 10 = .ok (.getfield 32, 3) := by decide +kernel
theorem dX8_setMeasured_13 : decode cX8_setMeasured 13 = .ok (.iconst 1, 1) := by decide +kernel
theorem dX8_setMeasured_14 : decode cX8_setMeasured 14 = .ok (.aaload, 1) := by decide +kernel
theorem dX8_setMeasured_15 : decode cX8_setMeasured 15 = .ok (.iload_n 1, 1) := by decide +kernel
theorem dX8_setMeasured_16 : decode cX8_setMeasured 16 = .ok (.iload_n 3, 1) := by decide +kernel
theorem dX8_setMeasured_17 : decode cX8_setMeasured 17 = .ok (.iastore, 1) := by decide +kernel
theorem dX8_setMeasured_18 : decode cX8_setMeasured 18 = .ok (.return_, 1) := by decide +kernel
theorem dX8_drifts_0 : decode cX8_drifts 0 = .ok (.iconst 0, 1) := by decide +kernel
theorem dX8_drifts_1 : decode cX8_drifts 1 = .ok (.istore_n 2, 1) := by decide +kernel
theorem dX8_drifts_2 : decode cX8_drifts 2 = .ok (.iload_n 2, 1) := by decide +kernel
theorem dX8_drifts_3 : decode cX8_drifts 3 = .ok (.aload_n 0, 1) := by decide +kernel
theorem dX8_drifts_4 : decode cX8_drifts 4 = .ok (.getfield 9, 3) := by decide +kernel
theorem dX8_drifts_7 : decode cX8_drifts 7 = .ok (.iconst 1, 1) := by decide +kernel
theorem dX8_drifts_8 : decode cX8_drifts 8 = .ok (.iaload, 1) := by decide +kernel
theorem dX8_drifts_9 : decode cX8_drifts 9 = .ok (.if_icmp .ge 30, 3) := by decide +kernel
theorem dX8_drifts_12 : decode cX8_drifts 12 = .ok (.aload_n 0, 1) := by decide +kernel
theorem dX8_drifts_13 : decode cX8_drifts 13 = .ok (.getfield 20, 3) := by decide +kernel
theorem dX8_drifts_16 : decode cX8_drifts 16 = .ok (.iload_n 2, 1) := by decide +kernel
theorem dX8_drifts_17 : decode cX8_drifts 17 = .ok (.iaload, 1) := by decide +kernel
theorem dX8_drifts_18 : decode cX8_drifts 18 = .ok (.iload_n 1, 1) := by decide +kernel
theorem dX8_drifts_19 : decode cX8_drifts 19 = .ok (.if_icmp .ne 14, 3) := by decide +kernel
theorem dX8_drifts_22 : decode cX8_drifts 22 = .ok (.aload_n 0, 1) := by decide +kernel
theorem dX8_drifts_23 : decode cX8_drifts 23 = .ok (.getfield 44, 3) := by decide +kernel
theorem dX8_drifts_26 : decode cX8_drifts 26 = .ok (.iload_n 2, 1) := by decide +kernel
theorem dX8_drifts_27 : decode cX8_drifts 27 = .ok (.iaload, 1) := by decide +kernel
theorem dX8_drifts_28 : decode cX8_drifts 28 = .ok (.ifCond .le 5, 3) := by decide +kernel
theorem dX8_drifts_31 : decode cX8_drifts 31 = .ok (.iconst 1, 1) := by decide +kernel
theorem dX8_drifts_32 : decode cX8_drifts 32 = .ok (.ireturn, 1) := by decide +kernel
theorem dX8_drifts_33 : decode cX8_drifts 33 = .ok (.iinc 2 1, 3) := by decide +kernel
theorem dX8_drifts_36 : decode cX8_drifts 36 = .ok (.goto (-34), 3) := by decide +kernel
theorem dX8_drifts_39 : decode cX8_drifts 39 = .ok (.iconst 0, 1) := by decide +kernel
theorem dX8_drifts_40 : decode cX8_drifts 40 = .ok (.ireturn, 1) := by decide +kernel
theorem dX8_turnedBy_0 : decode cX8_turnedBy 0 = .ok (.iload_n 3, 1) := by decide +kernel
theorem dX8_turnedBy_1 : decode cX8_turnedBy 1 = .ok (.ifCond .ne 9, 3) := by decide +kernel
theorem dX8_turnedBy_4 : decode cX8_turnedBy 4 = .ok (.iload_n 1, 1) := by decide +kernel
theorem dX8_turnedBy_5 : decode cX8_turnedBy 5 = .ok (.iconst 3, 1) := by decide +kernel
theorem dX8_turnedBy_6 : decode cX8_turnedBy 6 = .ok (.iand, 1) := by decide +kernel
theorem dX8_turnedBy_7 : decode cX8_turnedBy 7 = .ok (.goto 8, 3) := by decide +kernel
theorem dX8_turnedBy_10 : decode cX8_turnedBy 10 = .ok (.iload_n 1, 1) := by decide +kernel
theorem dX8_turnedBy_11 : decode cX8_turnedBy 11 = .ok (.iconst 3, 1) := by decide +kernel
theorem dX8_turnedBy_12 : decode cX8_turnedBy 12 = .ok (.iadd, 1) := by decide +kernel
theorem dX8_turnedBy_13 : decode cX8_turnedBy 13 = .ok (.iconst 3, 1) := by decide +kernel
theorem dX8_turnedBy_14 : decode cX8_turnedBy 14 = .ok (.iand, 1) := by decide +kernel
theorem dX8_turnedBy_15 : decode cX8_turnedBy 15 = .ok (.istore 4, 2) := by decide +kernel
theorem dX8_turnedBy_17 : decode cX8_turnedBy 17 = .ok (.bipush 100, 2) := by decide +kernel
theorem dX8_turnedBy_19 : decode cX8_turnedBy 19 = .ok (.aload_n 0, 1) := by decide +kernel
theorem dX8_turnedBy_20 : decode cX8_turnedBy 20 = .ok (.getfield 32, 3) := by decide +kernel
theorem dX8_turnedBy_23 : decode cX8_turnedBy 23 = .ok (.iconst 0, 1) := by decide +kernel
theorem dX8_turnedBy_24 : decode cX8_turnedBy 24 = .ok (.aaload, 1) := by decide +kernel
theorem dX8_turnedBy_25 : decode cX8_turnedBy 25 = .ok (.iload_n 2, 1) := by decide +kernel
theorem dX8_turnedBy_26 : decode cX8_turnedBy 26 = .ok (.iaload, 1) := by decide +kernel
theorem dX8_turnedBy_27 : decode cX8_turnedBy 27 = .ok (.imul, 1) := by decide +kernel
theorem dX8_turnedBy_28 : decode cX8_turnedBy 28 = .ok (.istore 5, 2) := by decide +kernel
theorem dX8_turnedBy_30 : decode cX8_turnedBy 30 = .ok (.bipush 100, 2) := by decide +kernel
theorem dX8_turnedBy_32 : decode cX8_turnedBy 32 = .ok (.aload_n 0, 1) := by decide +kernel
theorem dX8_turnedBy_33 : decode cX8_turnedBy 33 = .ok (.getfield 32, 3) := by decide +kernel
theorem dX8_turnedBy_36 : decode cX8_turnedBy 36 = .ok (.iconst 1, 1) := by decide +kernel
theorem dX8_turnedBy_37 : decode cX8_turnedBy 37 = .ok (.aaload, 1) := by decide +kernel
theorem dX8_turnedBy_38 : decode cX8_turnedBy 38 = .ok (.iload_n 2, 1) := by decide +kernel
theorem dX8_turnedBy_39 : decode cX8_turnedBy 39 = .ok (.iaload, 1) := by decide +kernel
theorem dX8_turnedBy_40 : decode cX8_turnedBy 40 = .ok (.imul, 1) := by decide +kernel
theorem dX8_turnedBy_41 : decode cX8_turnedBy 41 = .ok (.istore 6, 2) := by decide +kernel
theorem dX8_turnedBy_43 : decode cX8_turnedBy 43 = .ok (.iload 4, 2) := by decide +kernel
theorem dX8_turnedBy_45 : decode cX8_turnedBy 45 = .ok (.tableswitch 38 0 2 #[27, 30, 34], 27) := by decide +kernel
theorem dX8_turnedBy_72 : decode cX8_turnedBy 72 = .ok (.iload 5, 2) := by decide +kernel
theorem dX8_turnedBy_74 : decode cX8_turnedBy 74 = .ok (.ireturn, 1) := by decide +kernel
theorem dX8_turnedBy_75 : decode cX8_turnedBy 75 = .ok (.iload 6, 2) := by decide +kernel
theorem dX8_turnedBy_77 : decode cX8_turnedBy 77 = .ok (.ineg, 1) := by decide +kernel
theorem dX8_turnedBy_78 : decode cX8_turnedBy 78 = .ok (.ireturn, 1) := by decide +kernel
theorem dX8_turnedBy_79 : decode cX8_turnedBy 79 = .ok (.iload 5, 2) := by decide +kernel
theorem dX8_turnedBy_81 : decode cX8_turnedBy 81 = .ok (.ineg, 1) := by decide +kernel
theorem dX8_turnedBy_82 : decode cX8_turnedBy 82 = .ok (.ireturn, 1) := by decide +kernel
theorem dX8_turnedBy_83 : decode cX8_turnedBy 83 = .ok (.iload 6, 2) := by decide +kernel
theorem dX8_turnedBy_85 : decode cX8_turnedBy 85 = .ok (.ireturn, 1) := by decide +kernel
set_option maxRecDepth 20000 in
theorem ggX9_init_X8_init : GoodIn wsX9_init wsX8_init := goodIn_r _ [50, 51, 2, 3, 4, 52, 53, 54, 55, 56, 57, 58, 59, 60, 61, 62, 63, 64, 178, 179, 180, 181, 182, 183, 184, 185, 186, 187, 188, 189] (by decide +kernel) (by decide +kernel)
set_option maxRecDepth 20000 in
theorem gX9_init_X8_init_n19 : GoodIn wsX9_init (wsX8_init) := ggX9_init_X8_init
set_option maxRecDepth 20000 in
theorem ggX9_init_X3_init : GoodIn wsX9_init wsX3_init := goodIn_r _ [67, 68, 2, 3, 69, 70, 71, 72, 73, 74, 75, 76, 77, 78, 79, 80, 81, 82, 190, 191, 192, 193, 194, 195, 196, 197, 198, 199, 200, 201, 202, 203] (by decide +kernel) (by decide +kernel)
set_option maxRecDepth 20000 in
theorem gX9_init_X3_init : GoodIn wsX9_init (wsX3_init) := ggX9_init_X3_init
set_option maxRecDepth 20000 in
theorem ggX9_init_X5_init : GoodIn wsX9_init wsX5_init := goodIn_r _ [85, 86, 2, 3, 87, 4, 88, 89, 90, 91, 92, 93, 94, 204, 205, 206, 207, 208, 209, 210] (by decide +kernel) (by decide +kernel)
set_option maxRecDepth 20000 in
theorem gX9_init_X5_init : GoodIn wsX9_init (wsX5_init) := ggX9_init_X5_init
set_option maxRecDepth 20000 in
theorem ggX9_init_X6_init : GoodIn wsX9_init wsX6_init := goodIn_r _ [97, 98, 2, 3, 4, 99, 100, 101, 102, 103, 104, 105, 211, 212, 213, 214, 215, 216] (by decide +kernel) (by decide +kernel)
set_option maxRecDepth 20000 in
theorem gX9_init_X6_init : GoodIn wsX9_init (wsX6_init) := ggX9_init_X6_init
set_option maxRecDepth 20000 in
theorem ggX9_init_X1_init : GoodIn wsX9_init wsX1_init := goodIn_r _ [108, 109, 2, 3, 110, 111, 112, 113, 4, 114, 115, 116, 217, 218, 219, 220, 221] (by decide +kernel) (by decide +kernel)
set_option maxRecDepth 20000 in
theorem gX9_init_X1_init : GoodIn wsX9_init (wsX1_init) := ggX9_init_X1_init
set_option maxRecDepth 20000 in
theorem ggX9_init_X4_init : GoodIn wsX9_init wsX4_init := goodIn_r _ [119, 120, 2, 3, 4, 121, 122, 110, 123, 124, 125, 126, 222, 223, 224, 225, 226] (by decide +kernel) (by decide +kernel)
set_option maxRecDepth 20000 in
theorem gX9_init_X4_init : GoodIn wsX9_init (wsX4_init) := ggX9_init_X4_init
set_option maxRecDepth 20000 in
theorem ggX9_init_X2_init : GoodIn wsX9_init wsX2_init := goodIn_r _ [129, 130, 2, 3, 4, 131, 132, 133, 134, 227, 228, 229, 230] (by decide +kernel) (by decide +kernel)
set_option maxRecDepth 20000 in
theorem gX9_init_X2_init : GoodIn wsX9_init (wsX2_init) := ggX9_init_X2_init
set_option maxRecDepth 20000 in
theorem ggX9_init_X7_init : GoodIn wsX9_init wsX7_init := goodIn_r _ [137, 138, 2, 3, 139, 4, 140, 141, 142, 143, 144, 145, 146, 147, 148, 149, 150, 151, 152, 231, 232, 233, 234, 235, 236, 237, 238, 239, 240, 241, 242, 243] (by decide +kernel) (by decide +kernel)
set_option maxRecDepth 20000 in
theorem gX9_init_X7_init : GoodIn wsX9_init (wsX7_init) := ggX9_init_X7_init
set_option maxRecDepth 20000 in
theorem ggX9_init_X0_init : GoodIn wsX9_init wsX0_init := goodIn_r _ [155, 156, 2, 3, 4, 157, 158, 159, 160, 244, 245, 246, 247] (by decide +kernel) (by decide +kernel)
set_option maxRecDepth 20000 in
theorem gX9_init_X0_init : GoodIn wsX9_init (wsX0_init) := ggX9_init_X0_init
theorem dX9_init_0 : decode cX9_init 0 = .ok (.aload_n 0, 1) := by decide +kernel
theorem dX9_init_1 : decode cX9_init 1 = .ok (.invokespecial 3, 3) := by decide +kernel
theorem dX9_init_4 : decode cX9_init 4 = .ok (.aload_n 0, 1) := by decide +kernel
theorem dX9_init_5 : decode cX9_init 5 = .ok (.sipush 1600, 3) := by decide +kernel
theorem dX9_init_8 : decode cX9_init 8 = .ok (.newarray .int, 2) := by decide +kernel
theorem dX9_init_10 : decode cX9_init 10 = .ok (.putfield 9, 3) := by decide +kernel
theorem dX9_init_13 : decode cX9_init 13 = .ok (.aload_n 0, 1) := by decide +kernel
theorem dX9_init_14 : decode cX9_init 14 = .ok (.iconst 0, 1) := by decide +kernel
theorem dX9_init_15 : decode cX9_init 15 = .ok (.putfield 13, 3) := by decide +kernel
theorem dX9_init_18 : decode cX9_init 18 = .ok (.aload_n 0, 1) := by decide +kernel
theorem dX9_init_19 : decode cX9_init 19 = .ok (.new 17, 3) := by decide +kernel
theorem dX9_init_22 : decode cX9_init 22 = .ok (.dup, 1) := by decide +kernel
theorem dX9_init_23 : decode cX9_init 23 = .ok (.invokespecial 19, 3) := by decide +kernel
theorem dX9_init_26 : decode cX9_init 26 = .ok (.putfield 20, 3) := by decide +kernel
theorem dX9_init_29 : decode cX9_init 29 = .ok (.aload_n 0, 1) := by decide +kernel
theorem dX9_init_30 : decode cX9_init 30 = .ok (.new 17, 3) := by decide +kernel
theorem dX9_init_33 : decode cX9_init 33 = .ok (.dup, 1) := by decide +kernel
theorem dX9_init_34 : decode cX9_init 34 = .ok (.invokespecial 19, 3) := by decide +kernel
theorem dX9_init_37 : decode cX9_init 37 = .ok (.putfield 24, 3) := by decide +kernel
theorem dX9_init_40 : decode cX9_init 40 = .ok (.aload_n 0, 1) := by decide +kernel
theorem dX9_init_41 : decode cX9_init 41 = .ok (.new 27, 3) := by decide +kernel
theorem dX9_init_44 : decode cX9_init 44 = .ok (.dup, 1) := by decide +kernel
theorem dX9_init_45 : decode cX9_init 45 = .ok (.aload_n 0, 1) := by decide +kernel
theorem dX9_init_46 : decode cX9_init 46 = .ok (.getfield 9, 3) := by decide +kernel
theorem dX9_init_49 : decode cX9_init 49 = .ok (.aload_n 0, 1) := by decide +kernel
theorem dX9_init_50 : decode cX9_init 50 = .ok (.getfield 24, 3) := by decide +kernel
theorem dX9_init_53 : decode cX9_init 53 = .ok (.invokespecial 29, 3) := by decide +kernel
theorem dX9_init_56 : decode cX9_init 56 = .ok (.putfield 32, 3) := by decide +kernel
theorem dX9_init_59 : decode cX9_init 59 = .ok (.aload_n 0, 1) := by decide +kernel
theorem dX9_init_60 : decode cX9_init 60 = .ok (.new 36, 3) := by decide +kernel
theorem dX9_init_63 : decode cX9_init 63 = .ok (.dup, 1) := by decide +kernel
theorem dX9_init_64 : decode cX9_init 64 = .ok (.aload_n 0, 1) := by decide +kernel
theorem dX9_init_65 : decode cX9_init 65 = .ok (.getfield 20, 3) := by decide +kernel
theorem dX9_init_68 : decode cX9_init 68 = .ok (.invokespecial 38, 3) := by decide +kernel
theorem dX9_init_71 : decode cX9_init 71 = .ok (.putfield 41, 3) := by decide +kernel
theorem dX9_init_74 : decode cX9_init 74 = .ok (.aload_n 0, 1) := by decide +kernel
theorem dX9_init_75 : decode cX9_init 75 = .ok (.new 36, 3) := by decide +kernel
theorem dX9_init_78 : decode cX9_init 78 = .ok (.dup, 1) := by decide +kernel
theorem dX9_init_79 : decode cX9_init 79 = .ok (.aload_n 0, 1) := by decide +kernel
theorem dX9_init_80 : decode cX9_init 80 = .ok (.getfield 20, 3) := by decide +kernel
theorem dX9_init_83 : decode cX9_init 83 = .ok (.invokespecial 38, 3) := by decide +kernel
theorem dX9_init_86 : decode cX9_init 86 = .ok (.putfield 45, 3) := by decide +kernel
theorem dX9_init_89 : decode cX9_init 89 = .ok (.aload_n 0, 1) := by decide +kernel
theorem dX9_init_90 : decode cX9_init 90 = .ok (.new 36, 3) := by decide +kernel
theorem dX9_init_93 : decode cX9_init 93 = .ok (.dup, 1) := by decide +kernel
theorem dX9_init_94 : decode cX9_init 94 = .ok (.aload_n 0, 1) := by decide +kernel
theorem dX9_init_95 : decode cX9_init 95 = .ok (.getfield 20, 3) := by decide +kernel
theorem dX9_init_98 : decode cX9_init 98 = .ok (.invokespecial 38, 3) := by decide +kernel
theorem dX9_init_101 : decode cX9_init 101 = .ok (.putfield 48, 3) := by decide +kernel
theorem dX9_init_104 : decode cX9_init 104 = .ok (.aload_n 0, 1) := by decide +kernel
theorem dX9_init_105 : decode cX9_init 105 = .ok (.new 51, 3) := by decide +kernel
theorem dX9_init_108 : decode cX9_init 108 = .ok (.dup, 1) := by decide +kernel
theorem dX9_init_109 : decode cX9_init 109 = .ok (.aload_n 0, 1) := by decide +kernel
theorem dX9_init_110 : decode cX9_init 110 = .ok (.getfield 20, 3) := by decide +kernel
theorem dX9_init_113 : decode cX9_init 113 = .ok (.aload_n 0, 1) := by decide +kernel
theorem dX9_init_114 : decode cX9_init 114 = .ok (.getfield 41, 3) := by decide +kernel
theorem dX9_init_117 : decode cX9_init 117 = .ok (.invokespecial 53, 3) := by decide +kernel
theorem dX9_init_120 : decode cX9_init 120 = .ok (.putfield 56, 3) := by decide +kernel
theorem dX9_init_123 : decode cX9_init 123 = .ok (.aload_n 0, 1) := by decide +kernel
theorem dX9_init_124 : decode cX9_init 124 = .ok (.new 60, 3) := by decide +kernel
theorem dX9_init_127 : decode cX9_init 127 = .ok (.dup, 1) := by decide +kernel
theorem dX9_init_128 : decode cX9_init 128 = .ok (.aload_n 0, 1) := by decide +kernel
theorem dX9_init_129 : decode cX9_init 129 = .ok (.getfield 20, 3) := by decide +kernel
theorem dX9_init_132 : decode cX9_init 132 = .ok (.aload_n 0, 1) := by decide +kernel
theorem dX9_init_133 : decode cX9_init 133 = .ok (.getfield 41, 3) := by decide +kernel
theorem dX9_init_136 : decode cX9_init 136 = .ok (.invokespecial 62, 3) := by decide +kernel
theorem dX9_init_139 : decode cX9_init 139 = .ok (.putfield 63, 3) := by decide +kernel
theorem dX9_init_142 : decode cX9_init 142 = .ok (.aload_n 0, 1) := by decide +kernel
theorem dX9_init_143 : decode cX9_init 143 = .ok (.new 67, 3) := by decide +kernel
theorem dX9_init_146 : decode cX9_init 146 = .ok (.dup, 1) := by decide +kernel
theorem dX9_init_147 : decode cX9_init 147 = .ok (.aload_n 0, 1) := by decide +kernel
theorem dX9_init_148 : decode cX9_init 148 = .ok (.getfield 20, 3) := by decide +kernel
theorem dX9_init_151 : decode cX9_init 151 = .ok (.aload_n 0, 1) := by decide +kernel
theorem dX9_init_152 : decode cX9_init 152 = .ok (.getfield 41, 3) := by decide +kernel
theorem dX9_init_155 : decode cX9_init 155 = .ok (.invokespecial 69, 3) := by decide +kernel
theorem dX9_init_158 : decode cX9_init 158 = .ok (.putfield 70, 3) := by decide +kernel
theorem dX9_init_161 : decode cX9_init 161 = .ok (.aload_n 0, 1) := by decide +kernel
theorem dX9_init_162 : decode cX9_init 162 = .ok (.new 74, 3) := by decide +kernel
theorem dX9_init_165 : decode cX9_init 165 = .ok (.dup, 1) := by decide +kernel
theorem dX9_init_166 : decode cX9_init 166 = .ok (.aload_n 0, 1) := by decide +kernel
theorem dX9_init_167 : decode cX9_init 167 = .ok (.getfield 20, 3) := by decide +kernel
theorem dX9_init_170 : decode cX9_init 170 = .ok (.aload_n 0, 1) := by decide +kernel
theorem dX9_init_171 : decode cX9_init 171 = .ok (.getfield 41, 3) := by decide +kernel
theorem dX9_init_174 : decode cX9_init 174 = .ok (.invokespecial 76, 3) := by decide +kernel
theorem dX9_init_177 : decode cX9_init 177 = .ok (.putfield 77, 3) := by decide +kernel
theorem dX9_init_180 : decode cX9_init 180 = .ok (.aload_n 0, 1) := by decide +kernel
theorem dX9_init_181 : decode cX9_init 181 = .ok (.new 81, 3) := by decide +kernel
theorem dX9_init_184 : decode cX9_init 184 = .ok (.dup, 1) := by decide +kernel
theorem dX9_init_185 : decode cX9_init 185 = .ok (.aload_n 0, 1) := by decide +kernel
theorem dX9_init_186 : decode cX9_init 186 = .ok (.getfield 20, 3) := by decide +kernel
theorem dX9_init_189 : decode cX9_init 189 = .ok (.aload_n 0, 1) := by decide +kernel
theorem dX9_init_190 : decode cX9_init 190 = .ok (.getfield 41, 3) := by decide +kernel
theorem dX9_init_193 : decode cX9_init 193 = .ok (.invokespecial 83, 3) := by decide +kernel
theorem dX9_init_196 : decode cX9_init 196 = .ok (.putfield 84, 3) := by decide +kernel
theorem dX9_init_199 : decode cX9_init 199 = .ok (.aload_n 0, 1) := by decide +kernel
theorem dX9_init_200 : decode cX9_init 200 = .ok (.new 88, 3) := by decide +kernel
theorem dX9_init_203 : decode cX9_init 203 = .ok (.dup, 1) := by decide +kernel
theorem dX9_init_204 : decode cX9_init 204 = .ok (.aload_n 0, 1) := by decide +kernel
theorem dX9_init_205 : decode cX9_init 205 = .ok (.getfield 20, 3) := by decide +kernel
theorem dX9_init_208 : decode cX9_init 208 = .ok (.invokespecial 90, 3) := by decide +kernel
theorem dX9_init_211 : decode cX9_init 211 = .ok (.putfield 91, 3) := by decide +kernel
theorem dX9_init_214 : decode cX9_init 214 = .ok (.aload_n 0, 1) := by decide +kernel
theorem dX9_init_215 : decode cX9_init 215 = .ok (.bipush 60, 2) := by decide +kernel
theorem dX9_init_217 : decode cX9_init 217 = .ok (.newarray .int, 2) := by decide +kernel
theorem dX9_init_219 : decode cX9_init 219 = .ok (.putfield 95, 3) := by decide +kernel
theorem dX9_init_222 : decode cX9_init 222 = .ok (.aload_n 0, 1) := by decide +kernel
theorem dX9_init_223 : decode cX9_init 223 = .ok (.iconst 0, 1) := by decide +kernel
theorem dX9_init_224 : decode cX9_init 224 = .ok (.putfield 98, 3) := by decide +kernel
theorem dX9_init_227 : decode cX9_init 227 = .ok (.aload_n 0, 1) := by decide +kernel
theorem dX9_init_228 : decode cX9_init 228 = .ok (.iconst (-1), 1) := by decide +kernel
theorem dX9_init_229 : decode cX9_init 229 = .ok (.putfield 101, 3) := by decide +kernel
theorem dX9_init_232 : decode cX9_init 232 = .ok (.return_, 1) := by decide +kernel
set_option maxRecDepth 20000 in
theorem ggX9_feed_X9_tapeNumber : GoodIn wsX9_feed wsX9_tapeNumber := goodIn_r _ [6, 7, 1, 8, 9, 10, 11, 12, 13, 14, 15, 16, 17, 18, 19, 20, 21, 22, 23, 24] (by decide +kernel) (by decide +kernel)
set_option maxRecDepth 20000 in
theorem gX9_feed_X9_tapeNumber : GoodIn wsX9_feed (wsV RX9 104 RX9 yX9_tapeNumber wsX9_tapeNumber) := goodIn_app (goodIn_of _ (by decide +kernel)) ggX9_feed_X9_tapeNumber
theorem dX9_feed_0 : decode cX9_feed 0 = .ok (.aload_n 0, 1) := by decide +kernel
theorem dX9_feed_1 : decode cX9_feed 1 = .ok (.getfield 13, 3) := by decide +kernel
theorem dX9_feed_4 : decode cX9_feed 4 = .ok (.bipush 20, 2) := by decide +kernel
theorem dX9_feed_6 : decode cX9_feed 6 = .ok (.iadd, 1) := by decide +kernel
theorem dX9_feed_7 : decode cX9_feed 7 = .ok (.sipush 1600, 3) := by decide +kernel
theorem dX9_feed_10 : decode cX9_feed 10 = .ok (.if_icmp .le 5, 3) := by decide +kernel
theorem dX9_feed_13 : decode cX9_feed 13 = .ok (.iconst (-1), 1) := by decide +kernel
theorem dX9_feed_14 : decode cX9_feed 14 = .ok (.ireturn, 1) := by decide +kernel
theorem dX9_feed_15 : decode cX9_feed 15 = .ok (.aload_n 0, 1) := by decide +kernel
theorem dX9_feed_16 : decode cX9_feed 16 = .ok (.iload_n 1, 1) := by decide +kernel
theorem dX9_feed_17 : decode cX9_feed 17 = .ok (.invokevirtual 104, 3) := by decide +kernel
theorem dX9_feed_20 : decode cX9_feed 20 = .ok (.aload_n 0, 1) := by decide +kernel
theorem dX9_feed_21 : decode cX9_feed 21 = .ok (.iload_n 2, 1) := by decide +kernel
theorem dX9_feed_22 : decode cX9_feed 22 = .ok (.invokevirtual 104, 3) := by decide +kernel
theorem dX9_feed_25 : decode cX9_feed 25 = .ok (.aload_n 0, 1) := by decide +kernel
theorem dX9_feed_26 : decode cX9_feed 26 = .ok (.iload_n 3, 1) := by decide +kernel
theorem dX9_feed_27 : decode cX9_feed 27 = .ok (.invokevirtual 104, 3) := by decide +kernel
theorem dX9_feed_30 : decode cX9_feed 30 = .ok (.aload_n 0, 1) := by decide +kernel
theorem dX9_feed_31 : decode cX9_feed 31 = .ok (.iload 4, 2) := by decide +kernel
theorem dX9_feed_33 : decode cX9_feed 33 = .ok (.invokevirtual 104, 3) := by decide +kernel
theorem dX9_feed_36 : decode cX9_feed 36 = .ok (.aload_n 0, 1) := by decide +kernel
theorem dX9_feed_37 : decode cX9_feed 37 = .ok (.iload 5, 2) := by decide +kernel
theorem dX9_feed_39 : decode cX9_feed 39 = .ok (.invokevirtual 104, 3) := by decide +kernel
theorem dX9_feed_42 : decode cX9_feed 42 = .ok (.aload_n 0, 1) := by decide +kernel
theorem dX9_feed_43 : decode cX9_feed 43 = .ok (.getfield 13, 3) := by decide +kernel
theorem dX9_feed_46 : decode cX9_feed 46 = .ok (.ireturn, 1) := by decide +kernel
theorem dX9_tapeNumber_0 : decode cX9_tapeNumber 0 = .ok (.bipush 24, 2) := by decide +kernel
theorem dX9_tapeNumber_2 : decode cX9_tapeNumber 2 = .ok (.istore_n 2, 1) := by decide +kernel
theorem dX9_tapeNumber_3 : decode cX9_tapeNumber 3 = .ok (.iload_n 2, 1) := by decide +kernel
theorem dX9_tapeNumber_4 : decode cX9_tapeNumber 4 = .ok (.ifCond .lt 35, 3) := by decide +kernel
theorem dX9_tapeNumber_7 : decode cX9_tapeNumber 7 = .ok (.aload_n 0, 1) := by decide +kernel
theorem dX9_tapeNumber_8 : decode cX9_tapeNumber 8 = .ok (.getfield 9, 3) := by decide +kernel
theorem dX9_tapeNumber_11 : decode cX9_tapeNumber 11 = .ok (.aload_n 0, 1) := by decide +kernel
theorem dX9_tapeNumber_12 : decode cX9_tapeNumber 12 = .ok (.getfield 13, 3) := by decide +kernel
theorem dX9_tapeNumber_15 : decode cX9_tapeNumber 15 = .ok (.iload_n 1, 1) := by decide +kernel
theorem dX9_tapeNumber_16 : decode cX9_tapeNumber 16 = .ok (.iload_n 2, 1) := by decide +kernel
theorem dX9_tapeNumber_17 : decode cX9_tapeNumber 17 = .ok (.iushr, 1) := by decide +kernel
theorem dX9_tapeNumber_18 : decode cX9_tapeNumber 18 = .ok (.sipush 255, 3) := by decide +kernel
theorem dX9_tapeNumber_21 : decode cX9_tapeNumber 21 = .ok (.iand, 1) := by decide +kernel
theorem dX9_tapeNumber_22 : decode cX9_tapeNumber 22 = .ok (.iastore, 1) := by decide +kernel
theorem dX9_tapeNumber_23 : decode cX9_tapeNumber 23 = .ok (.aload_n 0, 1) := by decide +kernel
theorem dX9_tapeNumber_24 : decode cX9_tapeNumber 24 = .ok (.dup, 1) := by decide +kernel
theorem dX9_tapeNumber_25 : decode cX9_tapeNumber 25 = .ok (.getfield 13, 3) := by decide +kernel
theorem dX9_tapeNumber_28 : decode cX9_tapeNumber 28 = .ok (.iconst 1, 1) := by decide +kernel
theorem dX9_tapeNumber_29 : decode cX9_tapeNumber 29 = .ok (.iadd, 1) := by decide +kernel
theorem dX9_tapeNumber_30 : decode cX9_tapeNumber 30 = .ok (.putfield 13, 3) := by decide +kernel
theorem dX9_tapeNumber_33 : decode cX9_tapeNumber 33 = .ok (.iinc 2 (-8), 3) := by decide +kernel
theorem dX9_tapeNumber_36 : decode cX9_tapeNumber 36 = .ok (.goto (-33), 3) := by decide +kernel
theorem dX9_tapeNumber_39 : decode cX9_tapeNumber 39 = .ok (.return_, 1) := by decide +kernel
theorem dX9_end_0 : decode cX9_end 0 = .ok (.iload_n 1, 1) := by decide +kernel
theorem dX9_end_1 : decode cX9_end 1 = .ok (.ifCond .lt 11, 3) := by decide +kernel
theorem dX9_end_4 : decode cX9_end 4 = .ok (.iload_n 1, 1) := by decide +kernel
theorem dX9_end_5 : decode cX9_end 5 = .ok (.aload_n 0, 1) := by decide +kernel
theorem dX9_end_6 : decode cX9_end 6 = .ok (.getfield 13, 3) := by decide +kernel
theorem dX9_end_9 : decode cX9_end 9 = .ok (.if_icmp .le 5, 3) := by decide +kernel
theorem dX9_end_12 : decode cX9_end 12 = .ok (.iconst 0, 1) := by decide +kernel
theorem dX9_end_13 : decode cX9_end 13 = .ok (.ireturn, 1) := by decide +kernel
theorem dX9_end_14 : decode cX9_end 14 = .ok (.aload_n 0, 1) := by decide +kernel
theorem dX9_end_15 : decode cX9_end 15 = .ok (.iload_n 1, 1) := by decide +kernel
theorem dX9_end_16 : decode cX9_end 16 = .ok (.putfield 13, 3) := by decide +kernel
theorem dX9_end_19 : decode cX9_end 19 = .ok (.iconst 1, 1) := by decide +kernel
theorem dX9_end_20 : decode cX9_end 20 = .ok (.ireturn, 1) := by decide +kernel
set_option maxRecDepth 20000 in
theorem ggX9_block_X3_read : GoodIn wsX9_block wsX3_read := goodIn_r _ [17, 18, 19, 20, 21, 22, 23, 24, 25, 26, 27, 28, 29, 30, 31, 32, 33, 34, 35, 36, 37, 38, 39, 40, 41, 42, 43, 16, 44, 45, 46, 47, 48, 49, 50, 51, 52, 53, 54, 55, 56, 57, 58, 59, 60, 61, 62, 63, 64, 65, 66, 67, 68, 69, 70, 71, 72, 73, 74, 75, 76, 77, 78, 79, 80, 81, 82, 83, 84, 85, 86, 87, 88, 89, 90, 91, 92, 93, 94, 95, 96, 97, 98, 99, 100, 101, 102, 103, 104, 105, 106, 107, 108, 109, 110, 111, 112, 113, 114, 115, 116, 117, 118, 119, 120, 121, 122, 123, 124, 125, 126, 127, 128, 129, 130, 131, 132, 133, 134, 135, 136, 137, 138, 139, 140, 141, 142, 143, 144, 145, 146, 147, 148, 149, 150, 151, 152, 153, 154, 155, 156, 157, 158, 159, 160, 161, 162, 163, 164, 165, 166, 167, 168, 169, 170, 171, 172, 173, 174, 175, 176, 177, 178, 179, 180, 181, 182, 183, 184, 185, 186, 187, 188, 189, 190, 191, 192, 193, 194, 195, 196, 197, 198, 199, 200, 201, 202, 203, 204, 205, 206, 207, 208, 209, 210, 211, 212, 213, 214, 215, 216, 217, 218, 219, 220, 221, 222, 223, 224, 225, 226, 227, 228, 229, 230, 364, 365, 366, 367, 368, 369, 370, 371, 372, 373, 374, 375, 376, 377, 385, 386, 387, 388, 389, 390, 391, 392, 393, 394, 395, 396] (by decide +kernel) (by decide +kernel)
set_option maxRecDepth 20000 in
theorem gX9_block_X3_read : GoodIn wsX9_block (wsV RX9 108 RX3 yX3_read wsX3_read) := goodIn_app (goodIn_of _ (by decide +kernel)) ggX9_block_X3_read
set_option maxRecDepth 20000 in
theorem ggX9_block_X8_takeFrom : GoodIn wsX9_block wsX8_takeFrom := goodIn_r _ [234, 34, 147, 169, 170, 186, 187, 196, 35, 36, 201, 211, 221, 235, 236, 237, 238, 20, 21, 22, 239, 240, 241, 242, 385, 386, 387, 388, 389, 390, 391, 392, 393, 394, 395, 396] (by decide +kernel) (by decide +kernel)
set_option maxRecDepth 20000 in
theorem gX9_block_X8_takeFrom : GoodIn wsX9_block (wsV RX9 118 RX8 yX8_takeFrom wsX8_takeFrom) := goodIn_app (goodIn_of _ (by decide +kernel)) ggX9_block_X8_takeFrom
set_option maxRecDepth 20000 in
theorem ggX9_block_J7_fill_53178 : GoodIn wsX9_block wsJ7_fill_53178 := goodIn_r _ [40] (by decide +kernel) (by decide +kernel)
set_option maxRecDepth 20000 in
theorem gX9_block_J7_fill_53178 : GoodIn wsX9_block (va_wsS RX9 127 yJ7_fill_53178 wsJ7_fill_53178) := goodIn_app (goodIn_of _ (by decide +kernel)) ggX9_block_J7_fill_53178
set_option maxRecDepth 20000 in
theorem ggX9_block_X6_begin : GoodIn wsX9_block wsX6_begin := goodIn_r _ [248, 249, 250, 251, 252, 253, 254, 247, 255, 256, 257, 258, 259, 260, 261, 262, 38, 39, 40, 263, 264, 265, 266, 267, 268, 269, 270, 271, 272, 273, 274, 275, 276, 277, 278, 279, 280, 281, 282, 283, 284, 285, 286, 287, 288, 289, 290, 291, 32, 292, 201, 293, 294, 295, 296, 297, 298, 299, 300, 301, 302, 303, 304, 305, 306, 307, 308, 309, 310, 311, 312, 313, 314, 315, 316, 317, 318, 319, 21, 320, 321, 322, 323, 324, 325, 326, 327, 328, 329, 330, 331, 332, 333, 334, 335, 336, 337, 338, 339, 340, 341, 342, 343, 344, 345, 346, 397, 398, 399, 400, 401, 402, 385, 386, 387, 388, 389, 390, 391, 392, 393, 394, 395, 396, 378, 379, 380, 381, 382, 383, 384] (by decide +kernel) (by decide +kernel)
set_option maxRecDepth 20000 in
theorem gX9_block_X6_begin : GoodIn wsX9_block (wsV RX9 133 RX6 yX6_begin wsX6_begin) := goodIn_app (goodIn_of _ (by decide +kernel)) ggX9_block_X6_begin
theorem dX9_block_0 : decode cX9_block 0 = .ok (.aload_n 0, 1) := by decide +kernel
theorem dX9_block_1 : decode cX9_block 1 = .ok (.getfield 32, 3) := by decide +kernel
theorem dX9_block_4 : decode cX9_block 4 = .ok (.aload_n 0, 1) := by decide +kernel
theorem dX9_block_5 : decode cX9_block 5 = .ok (.getfield 13, 3) := by decide +kernel
theorem dX9_block_8 : decode cX9_block 8 = .ok (.invokevirtual 108, 3) := by decide +kernel
theorem dX9_block_11 : decode cX9_block 11 = .ok (.istore_n 1, 1) := by decide +kernel
theorem dX9_block_12 : decode cX9_block 12 = .ok (.aload_n 0, 1) := by decide +kernel
theorem dX9_block_13 : decode cX9_block 13 = .ok (.iconst 0, 1) := by decide +kernel
theorem dX9_block_14 : decode cX9_block 14 = .ok (.putfield 13, 3) := by decide +kernel
theorem dX9_block_17 : decode cX9_block 17 = .ok (.aload_n 0, 1) := by decide +kernel
theorem dX9_block_18 : decode cX9_block 18 = .ok (.aload_n 0, 1) := by decide +kernel
theorem dX9_block_19 : decode cX9_block 19 = .ok (.getfield 32, 3) := by decide +kernel
theorem dX9_block_22 : decode cX9_block 22 = .ok (.getfield 112, 3) := by decide +kernel
theorem dX9_block_25 : decode cX9_block 25 = .ok (.putfield 98, 3) := by decide +kernel
theorem dX9_block_28 : decode cX9_block 28 = .ok (.aload_n 0, 1) := by decide +kernel
theorem dX9_block_29 : decode cX9_block 29 = .ok (.aload_n 0, 1) := by decide +kernel
theorem dX9_block_30 : decode cX9_block 30 = .ok (.getfield 32, 3) := by decide +kernel
theorem dX9_block_33 : decode cX9_block 33 = .ok (.getfield 115, 3) := by decide +kernel
theorem dX9_block_36 : decode cX9_block 36 = .ok (.putfield 101, 3) := by decide +kernel
theorem dX9_block_39 : decode cX9_block 39 = .ok (.iload_n 1, 1) := by decide +kernel
theorem dX9_block_40 : decode cX9_block 40 = .ok (.iconst (-1), 1) := by decide +kernel
theorem dX9_block_41 : decode cX9_block 41 = .ok (.if_icmp .ne 5, 3) := by decide +kernel
theorem dX9_block_44 : decode cX9_block 44 = .ok (.iconst (-1), 1) := by decide +kernel
theorem dX9_block_45 : decode cX9_block 45 = .ok (.ireturn, 1) := by decide +kernel
theorem dX9_block_46 : decode cX9_block 46 = .ok (.aload_n 0, 1) := by decide +kernel
theorem dX9_block_47 : decode cX9_block 47 = .ok (.getfield 20, 3) := by decide +kernel
theorem dX9_block_50 : decode cX9_block 50 = .ok (.aload_n 0, 1) := by decide +kernel
theorem dX9_block_51 : decode cX9_block 51 = .ok (.getfield 24, 3) := by decide +kernel
theorem dX9_block_54 : decode cX9_block 54 = .ok (.invokevirtual 118, 3) := by decide +kernel
theorem dX9_block_57 : decode cX9_block 57 = .ok (.aload_n 0, 1) := by decide +kernel
theorem dX9_block_58 : decode cX9_block 58 = .ok (.getfield 41, 3) := by decide +kernel
theorem dX9_block_61 : decode cX9_block 61 = .ok (.iconst 3, 1) := by decide +kernel
theorem dX9_block_62 : decode cX9_block 62 = .ok (.putfield 121, 3) := by decide +kernel
theorem dX9_block_65 : decode cX9_block 65 = .ok (.aload_n 0, 1) := by decide +kernel
theorem dX9_block_66 : decode cX9_block 66 = .ok (.getfield 41, 3) := by decide +kernel
theorem dX9_block_69 : decode cX9_block 69 = .ok (.getfield 124, 3) := by decide +kernel
theorem dX9_block_72 : decode cX9_block 72 = .ok (.iconst 0, 1) := by decide +kernel
theorem dX9_block_73 : decode cX9_block 73 = .ok (.invokestatic 127, 3) := by decide +kernel
theorem dX9_block_76 : decode cX9_block 76 = .ok (.aload_n 0, 1) := by decide +kernel
theorem dX9_block_77 : decode cX9_block 77 = .ok (.getfield 56, 3) := by decide +kernel
theorem dX9_block_80 : decode cX9_block 80 = .ok (.invokevirtual 133, 3) := by decide +kernel
theorem dX9_block_83 : decode cX9_block 83 = .ok (.pop, 1) := by decide +kernel
theorem dX9_block_84 : decode cX9_block 84 = .ok (.iload_n 1, 1) := by decide +kernel
theorem dX9_block_85 : decode cX9_block 85 = .ok (.ireturn, 1) := by decide +kernel
theorem dX9_fault_0 : decode cX9_fault 0 = .ok (.iload_n 1, 1) := by decide +kernel
theorem dX9_fault_1 : decode cX9_fault 1 = .ok (.ifCond .ne 8, 3) := by decide +kernel
theorem dX9_fault_4 : decode cX9_fault 4 = .ok (.aload_n 0, 1) := by decide +kernel
theorem dX9_fault_5 : decode cX9_fault 5 = .ok (.getfield 98, 3) := by decide +kernel
theorem dX9_fault_8 : decode cX9_fault 8 = .ok (.ireturn, 1) := by decide +kernel
theorem dX9_fault_9 : decode cX9_fault 9 = .ok (.iload_n 1, 1) := by decide +kernel
theorem dX9_fault_10 : decode cX9_fault 10 = .ok (.iconst 1, 1) := by decide +kernel
theorem dX9_fault_11 : decode cX9_fault 11 = .ok (.if_icmp .ne 8, 3) := by decide +kernel
theorem dX9_fault_14 : decode cX9_fault 14 = .ok (.aload_n 0, 1) := by decide +kernel
theorem dX9_fault_15 : decode cX9_fault 15 = .ok (.getfield 101, 3) := by decide +kernel
theorem dX9_fault_18 : decode cX9_fault 18 = .ok (.ireturn, 1) := by decide +kernel
theorem dX9_fault_19 : decode cX9_fault 19 = .ok (.iconst (-1), 1) := by decide +kernel
theorem dX9_fault_20 : decode cX9_fault 20 = .ok (.ireturn, 1) := by decide +kernel
set_option maxRecDepth 20000 in
theorem ggX9_has_X9_countDropped : GoodIn wsX9_has wsX9_countDropped := goodIn_r _ [9, 1, 2, 3, 10, 11, 12, 13, 14, 15, 28, 29, 30, 31, 32, 33, 34, 35, 36, 37, 38, 39, 40, 41, 42, 43, 44, 45, 46, 47, 48, 49, 50, 51, 52, 53, 54, 55, 56, 57, 58, 59, 60, 61, 62, 63] (by decide +kernel) (by decide +kernel)
set_option maxRecDepth 20000 in
theorem gX9_has_X9_countDropped : GoodIn wsX9_has (wsV RX9 140 RX9 yX9_countDropped wsX9_countDropped) := goodIn_app (goodIn_of _ (by decide +kernel)) ggX9_has_X9_countDropped
set_option maxRecDepth 20000 in
theorem ggX9_has_X5_countFixed : GoodIn wsX9_has wsX5_countFixed := goodIn_r _ [19, 20, 21, 22, 23, 24, 13, 25, 26, 27, 57, 58, 59, 60, 61, 62, 63, 45, 46, 47, 48, 49, 50, 51, 52, 53, 54, 55, 56] (by decide +kernel) (by decide +kernel)
set_option maxRecDepth 20000 in
theorem gX9_has_X5_countFixed : GoodIn wsX9_has (wsV RX9 143 RX5 yX5_countFixed wsX5_countFixed) := goodIn_app (goodIn_of _ (by decide +kernel)) ggX9_has_X5_countFixed
theorem dX9_has_0 : decode cX9_has 0 = .ok (.iload_n 1, 1) := by decide +kernel
theorem dX9_has_1 : decode cX9_has 1 = .ok (.ifCond .lt 18, 3) := by decide +kernel
theorem dX9_has_4 : decode cX9_has 4 = .ok (.iload_n 1, 1) := by decide +kernel
theorem dX9_has_5 : decode cX9_has 5 = .ok (.iconst 5, 1) := by decide +kernel
theorem dX9_has_6 : decode cX9_has 6 = .ok (.if_icmp .gt 13, 3) := by decide +kernel
theorem dX9_has_9 : decode cX9_has 9 = .ok (.aload_n 0, 1) := by decide +kernel
theorem dX9_has_10 : decode cX9_has 10 = .ok (.getfield 20, 3) := by decide +kernel
theorem dX9_has_13 : decode cX9_has 13 = .ok (.getfield 137, 3) := by decide +kernel
theorem dX9_has_16 : decode cX9_has 16 = .ok (.iload_n 1, 1) := by decide +kernel
theorem dX9_has_17 : decode cX9_has 17 = .ok (.iaload, 1) := by decide +kernel
theorem dX9_has_18 : decode cX9_has 18 = .ok (.ireturn, 1) := by decide +kernel
theorem dX9_has_19 : decode cX9_has 19 = .ok (.iload_n 1, 1) := by decide +kernel
theorem dX9_has_20 : decode cX9_has 20 = .ok (.bipush 6, 2) := by decide +kernel
theorem dX9_has_22 : decode cX9_has 22 = .ok (.if_icmp .ne 8, 3) := by decide +kernel
theorem dX9_has_25 : decode cX9_has 25 = .ok (.aload_n 0, 1) := by decide +kernel
theorem dX9_has_26 : decode cX9_has 26 = .ok (.invokevirtual 140, 3) := by decide +kernel
theorem dX9_has_29 : decode cX9_has 29 = .ok (.ireturn, 1) := by decide +kernel
theorem dX9_has_30 : decode cX9_has 30 = .ok (.iload_n 1, 1) := by decide +kernel
theorem dX9_has_31 : decode cX9_has 31 = .ok (.bipush 7, 2) := by decide +kernel
theorem dX9_has_33 : decode cX9_has 33 = .ok (.if_icmp .ne 11, 3) := by decide +kernel
theorem dX9_has_36 : decode cX9_has 36 = .ok (.aload_n 0, 1) := by decide +kernel
theorem dX9_has_37 : decode cX9_has 37 = .ok (.getfield 41, 3) := by decide +kernel
theorem dX9_has_40 : decode cX9_has 40 = .ok (.getfield 121, 3) := by decide +kernel
theorem dX9_has_43 : decode cX9_has 43 = .ok (.ireturn, 1) := by decide +kernel
theorem dX9_has_44 : decode cX9_has 44 = .ok (.iload_n 1, 1) := by decide +kernel
theorem dX9_has_45 : decode cX9_has 45 = .ok (.bipush 8, 2) := by decide +kernel
theorem dX9_has_47 : decode cX9_has 47 = .ok (.if_icmp .ne 11, 3) := by decide +kernel
theorem dX9_has_50 : decode cX9_has 50 = .ok (.aload_n 0, 1) := by decide +kernel
theorem dX9_has_51 : decode cX9_has 51 = .ok (.getfield 41, 3) := by decide +kernel
theorem dX9_has_54 : decode cX9_has 54 = .ok (.invokevirtual 143, 3) := by decide +kernel
theorem dX9_has_57 : decode cX9_has 57 = .ok (.ireturn, 1) := by decide +kernel
theorem dX9_has_58 : decode cX9_has 58 = .ok (.iconst (-1), 1) := by decide +kernel
theorem dX9_has_59 : decode cX9_has 59 = .ok (.ireturn, 1) := by decide +kernel
set_option maxRecDepth 20000 in
theorem ggX9_countDropped_X5_uses : GoodIn wsX9_countDropped wsX5_uses := goodIn_r _ [8, 9, 39, 40, 41, 42, 43, 44, 45] (by decide +kernel) (by decide +kernel)
set_option maxRecDepth 20000 in
theorem gX9_countDropped_X5_uses : GoodIn wsX9_countDropped (wsV RX9 146 RX5 yX5_uses wsX5_uses) := goodIn_app (goodIn_of _ (by decide +kernel)) ggX9_countDropped_X5_uses
theorem dX9_countDropped_0 : decode cX9_countDropped 0 = .ok (.iconst 0, 1) := by decide +kernel
theorem dX9_countDropped_1 : decode cX9_countDropped 1 = .ok (.istore_n 1, 1) := by decide +kernel
theorem dX9_countDropped_2 : decode cX9_countDropped 2 = .ok (.iconst 0, 1) := by decide +kernel
theorem dX9_countDropped_3 : decode cX9_countDropped 3 = .ok (.istore_n 2, 1) := by decide +kernel
theorem dX9_countDropped_4 : decode cX9_countDropped 4 = .ok (.iload_n 2, 1) := by decide +kernel
theorem dX9_countDropped_5 : decode cX9_countDropped 5 = .ok (.aload_n 0, 1) := by decide +kernel
theorem dX9_countDropped_6 : decode cX9_countDropped 6 = .ok (.getfield 20, 3) := by decide +kernel
theorem dX9_countDropped_9 : decode cX9_countDropped 9 = .ok (.getfield 137, 3) := by decide +kernel
theorem dX9_countDropped_12 : decode cX9_countDropped 12 = .ok (.iconst 3, 1) := by decide +kernel
theorem dX9_countDropped_13 : decode cX9_countDropped 13 = .ok (.iaload, 1) := by decide +kernel
theorem dX9_countDropped_14 : decode cX9_countDropped 14 = .ok (.if_icmp .ge 23, 3) := by decide +kernel
theorem dX9_countDropped_17 : decode cX9_countDropped 17 = .ok (.aload_n 0, 1) := by decide +kernel
theorem dX9_countDropped_18 : decode cX9_countDropped 18 = .ok (.getfield 41, 3) := by decide +kernel
theorem dX9_countDropped_21 : decode cX9_countDropped 21 = .ok (.iload_n 2, 1) := by decide +kernel
theorem dX9_countDropped_22 : decode cX9_countDropped 22 = .ok (.invokevirtual 146, 3) := by decide +kernel
theorem dX9_countDropped_25 : decode cX9_countDropped 25 = .ok (.ifCond .ne 6, 3) := by decide +kernel
theorem dX9_countDropped_28 : decode cX9_countDropped 28 = .ok (.iinc 1 1, 3) := by decide +kernel
theorem dX9_countDropped_31 : decode cX9_countDropped 31 = .ok (.iinc 2 1, 3) := by decide +kernel
theorem dX9_countDropped_34 : decode cX9_countDropped 34 = .ok (.goto (-30), 3) := by decide +kernel
theorem dX9_countDropped_37 : decode cX9_countDropped 37 = .ok (.iload_n 1, 1) := by decide +kernel
theorem dX9_countDropped_38 : decode cX9_countDropped 38 = .ok (.ireturn, 1) := by decide +kernel
set_option maxRecDepth 20000 in
theorem ggX9_letter_X8_exists : GoodIn wsX9_letter wsX8_exists := goodIn_r _ [7, 8, 26, 27, 28, 29, 30, 31, 32, 33, 34, 35, 36, 37] (by decide +kernel) (by decide +kernel)
set_option maxRecDepth 20000 in
theorem gX9_letter_X8_exists : GoodIn wsX9_letter (wsV RX9 150 RX8 yX8_exists wsX8_exists) := goodIn_app (goodIn_of _ (by decide +kernel)) ggX9_letter_X8_exists
theorem dX9_letter_0 : decode cX9_letter 0 = .ok (.iload_n 1, 1) := by decide +kernel
theorem dX9_letter_1 : decode cX9_letter 1 = .ok (.ifCond .lt 20, 3) := by decide +kernel
theorem dX9_letter_4 : decode cX9_letter 4 = .ok (.iload_n 1, 1) := by decide +kernel
theorem dX9_letter_5 : decode cX9_letter 5 = .ok (.iconst 2, 1) := by decide +kernel
theorem dX9_letter_6 : decode cX9_letter 6 = .ok (.if_icmp .gt 15, 3) := by decide +kernel
theorem dX9_letter_9 : decode cX9_letter 9 = .ok (.aload_n 0, 1) := by decide +kernel
theorem dX9_letter_10 : decode cX9_letter 10 = .ok (.getfield 20, 3) := by decide +kernel
theorem dX9_letter_13 : decode cX9_letter 13 = .ok (.iload_n 1, 1) := by decide +kernel
theorem dX9_letter_14 : decode cX9_letter 14 = .ok (.iload_n 2, 1) := by decide +kernel
theorem dX9_letter_15 : decode cX9_letter 15 = .ok (.invokevirtual 150, 3) := by decide +kernel
theorem dX9_letter_18 : decode cX9_letter 18 = .ok (.ifCond .ne 5, 3) := by decide +kernel
theorem dX9_letter_21 : decode cX9_letter 21 = .ok (.iconst (-1), 1) := by decide +kernel
theorem dX9_letter_22 : decode cX9_letter 22 = .ok (.ireturn, 1) := by decide +kernel
theorem dX9_letter_23 : decode cX9_letter 23 = .ok (.iload_n 3, 1) := by decide +kernel
theorem dX9_letter_24 : decode cX9_letter 24 = .ok (.ifCond .lt 9, 3) := by decide +kernel
theorem dX9_letter_27 : decode cX9_letter 27 = .ok (.iload_n 3, 1) := by decide +kernel
theorem dX9_letter_28 : decode cX9_letter 28 = .ok (.bipush 6, 2) := by decide +kernel
theorem dX9_letter_30 : decode cX9_letter 30 = .ok (.if_icmp .lt 5, 3) := by decide +kernel
theorem dX9_letter_33 : decode cX9_letter 33 = .ok (.iconst (-1), 1) := by decide +kernel
theorem dX9_letter_34 : decode cX9_letter 34 = .ok (.ireturn, 1) := by decide +kernel
theorem dX9_letter_35 : decode cX9_letter 35 = .ok (.aload_n 0, 1) := by decide +kernel
theorem dX9_letter_36 : decode cX9_letter 36 = .ok (.getfield 20, 3) := by decide +kernel
theorem dX9_letter_39 : decode cX9_letter 39 = .ok (.getfield 154, 3) := by decide +kernel
theorem dX9_letter_42 : decode cX9_letter 42 = .ok (.iload_n 1, 1) := by decide +kernel
theorem dX9_letter_43 : decode cX9_letter 43 = .ok (.aaload, 1) := by decide +kernel
theorem dX9_letter_44 : decode cX9_letter 44 = .ok (.iload_n 2, 1) := by decide +kernel
theorem dX9_letter_45 : decode cX9_letter 45 = .ok (.iaload, 1) := by decide +kernel
theorem dX9_letter_46 : decode cX9_letter 46 = .ok (.istore 4, 2) := by decide +kernel
theorem dX9_letter_48 : decode cX9_letter 48 = .ok (.iconst 5, 1) := by decide +kernel
theorem dX9_letter_49 : decode cX9_letter 49 = .ok (.istore 5, 2) := by decide +kernel
theorem dX9_letter_51 : decode cX9_letter 51 = .ok (.iload 5, 2) := by decide +kernel
theorem dX9_letter_53 : decode cX9_letter 53 = .ok (.iload_n 3, 1) := by decide +kernel
theorem dX9_letter_54 : decode cX9_letter 54 = .ok (.if_icmp .le 16, 3) := by decide +kernel
theorem dX9_letter_57 : decode cX9_letter 57 = .ok (.iload 4, 2) := by decide +kernel
theorem dX9_letter_59 : decode cX9_letter 59 = .ok (.bipush 27, 2) := by decide +kernel
theorem dX9_letter_61 : decode cX9_letter 61 = .ok (.idiv, 1) := by decide +kernel
theorem dX9_letter_62 : decode cX9_letter 62 = .ok (.istore 4, 2) := by decide +kernel
theorem dX9_letter_64 : decode cX9_letter 64 = .ok (.iinc 5 (-1), 3) := by decide +kernel
theorem dX9_letter_67 : decode cX9_letter 67 = .ok (.goto (-16), 3) := by decide +kernel
theorem dX9_letter_70 : decode cX9_letter 70 = .ok (.iload 4, 2) := by decide +kernel
theorem dX9_letter_72 : decode cX9_letter 72 = .ok (.bipush 27, 2) := by decide +kernel
theorem dX9_letter_74 : decode cX9_letter 74 = .ok (.irem, 1) := by decide +kernel
theorem dX9_letter_75 : decode cX9_letter 75 = .ok (.ireturn, 1) := by decide +kernel
set_option maxRecDepth 20000 in
theorem ggX9_picture_X8_exists : GoodIn wsX9_picture wsX8_exists := goodIn_r _ [15, 16, 87, 88, 89, 90, 91, 92, 93, 94, 95, 96, 97, 98] (by decide +kernel) (by decide +kernel)
set_option maxRecDepth 20000 in
theorem gX9_picture_X8_exists : GoodIn wsX9_picture (wsV RX9 150 RX8 yX8_exists wsX8_exists) := goodIn_app (goodIn_of _ (by decide +kernel)) ggX9_picture_X8_exists
set_option maxRecDepth 20000 in
theorem ggX9_picture_X5_countRows : GoodIn wsX9_picture wsX5_countRows := goodIn_r _ [21, 22, 23, 24, 25, 26, 20, 27, 28, 99, 100, 101, 102, 103, 104, 105, 87, 88, 89, 90, 91, 92, 93, 94, 95, 96, 97, 98] (by decide +kernel) (by decide +kernel)
set_option maxRecDepth 20000 in
theorem gX9_picture_X5_countRows : GoodIn wsX9_picture (wsV RX9 172 RX5 yX5_countRows wsX5_countRows) := goodIn_app (goodIn_of _ (by decide +kernel)) ggX9_picture_X5_countRows
set_option maxRecDepth 20000 in
theorem ggX9_picture_X2_isPictureLoose : GoodIn wsX9_picture wsX2_isPictureLoose := goodIn_r _ [33, 34, 35, 36, 32, 37, 38, 39, 40, 41, 42, 43, 44, 45, 46, 47, 25, 26, 20, 27, 28, 48, 49, 50, 51, 52, 53, 54, 55, 56, 57, 58, 59, 60, 61, 62, 63, 22, 64, 65, 66, 67, 68, 69, 106, 107, 108, 109, 87, 88, 89, 90, 91, 92, 93, 94, 95, 96, 97, 98, 99, 100, 101, 102, 103, 104, 105] (by decide +kernel) (by decide +kernel)
set_option maxRecDepth 20000 in
theorem gX9_picture_X2_isPictureLoose : GoodIn wsX9_picture (wsV RX9 176 RX2 yX2_isPictureLoose wsX2_isPictureLoose) := goodIn_app (goodIn_of _ (by decide +kernel)) ggX9_picture_X2_isPictureLoose
theorem dX9_picture_0 : decode cX9_picture 0 = .ok (.aload_n 0, 1) := by decide +kernel
theorem dX9_picture_1 : decode cX9_picture 1 = .ok (.getfield 20, 3) := by decide +kernel
theorem dX9_picture_4 : decode cX9_picture 4 = .ok (.iconst 1, 1) := by decide +kernel
theorem dX9_picture_5 : decode cX9_picture 5 = .ok (.iload_n 1, 1) := by decide +kernel
theorem dX9_picture_6 : decode cX9_picture 6 = .ok (.invokevirtual 150, 3) := by decide +kernel
theorem dX9_picture_9 : decode cX9_picture 9 = .ok (.ifCond .ne 6, 3) := by decide +kernel
theorem dX9_picture_12 : decode cX9_picture 12 = .ok (.ldc 158, 2) := by decide +kernel
theorem dX9_picture_14 : decode cX9_picture 14 = .ok (.ireturn, 1) := by decide +kernel
theorem dX9_picture_15 : decode cX9_picture 15 = .ok (.iload_n 2, 1) := by decide +kernel
theorem dX9_picture_16 : decode cX9_picture 16 = .ok (.tableswitch 162 0 7 #[48, 58, 68, 87, 99, 111, 127, 144], 48) := by decide +kernel
theorem dX9_picture_64 : decode cX9_picture 64 = .ok (.aload_n 0, 1) := by decide +kernel
theorem dX9_picture_65 : decode cX9_picture 65 = .ok (.getfield 20, 3) := by decide +kernel
theorem dX9_picture_68 : decode cX9_picture 68 = .ok (.getfield 159, 3) := by decide +kernel
theorem dX9_picture_71 : decode cX9_picture 71 = .ok (.iload_n 1, 1) := by decide +kernel
theorem dX9_picture_72 : decode cX9_picture 72 = .ok (.iaload, 1) := by decide +kernel
theorem dX9_picture_73 : decode cX9_picture 73 = .ok (.ireturn, 1) := by decide +kernel
theorem dX9_picture_74 : decode cX9_picture 74 = .ok (.aload_n 0, 1) := by decide +kernel
theorem dX9_picture_75 : decode cX9_picture 75 = .ok (.getfield 41, 3) := by decide +kernel
theorem dX9_picture_78 : decode cX9_picture 78 = .ok (.getfield 162, 3) := by decide +kernel
theorem dX9_picture_81 : decode cX9_picture 81 = .ok (.iload_n 1, 1) := by decide +kernel
theorem dX9_picture_82 : decode cX9_picture 82 = .ok (.iaload, 1) := by decide +kernel
theorem dX9_picture_83 : decode cX9_picture 83 = .ok (.ireturn, 1) := by decide +kernel
theorem dX9_picture_84 : decode cX9_picture 84 = .ok (.aload_n 0, 1) := by decide +kernel
theorem dX9_picture_85 : decode cX9_picture 85 = .ok (.getfield 20, 3) := by decide +kernel
theorem dX9_picture_88 : decode cX9_picture 88 = .ok (.getfield 165, 3) := by decide +kernel
theorem dX9_picture_91 : decode cX9_picture 91 = .ok (.iload_n 1, 1) := by decide +kernel
theorem dX9_picture_92 : decode cX9_picture 92 = .ok (.iaload, 1) := by decide +kernel
theorem dX9_picture_93 : decode cX9_picture 93 = .ok (.iconst 4, 1) := by decide +kernel
theorem dX9_picture_94 : decode cX9_picture 94 = .ok (.if_icmp .ne 7, 3) := by decide +kernel
theorem dX9_picture_97 : decode cX9_picture 97 = .ok (.iconst 1, 1) := by decide +kernel
theorem dX9_picture_98 : decode cX9_picture 98 = .ok (.goto 4, 3) := by decide +kernel
theorem dX9_picture_101 : decode cX9_picture 101 = .ok (.iconst 0, 1) := by decide +kernel
theorem dX9_picture_102 : decode cX9_picture 102 = .ok (.ireturn, 1) := by decide +kernel
theorem dX9_picture_103 : decode cX9_picture 103 = .ok (.aload_n 0, 1) := by decide +kernel
theorem dX9_picture_104 : decode cX9_picture 104 = .ok (.getfield 41, 3) := by decide +kernel
theorem dX9_picture_107 : decode cX9_picture 107 = .ok (.getfield 166, 3) := by decide +kernel
theorem dX9_picture_110 : decode cX9_picture 110 = .ok (.iconst 0, 1) := by decide +kernel
theorem dX9_picture_111 : decode cX9_picture 111 = .ok (.aaload, 1) := by decide +kernel
theorem dX9_picture_112 : decode cX9_picture 112 = .ok (.iload_n 1, 1) := by decide +kernel
theorem dX9_picture_113 : decode cX9_picture 113 = .ok (.iaload, 1) := by decide +kernel
theorem dX9_picture_114 : decode cX9_picture 114 = .ok (.ireturn, 1) := by decide +kernel
theorem dX9_picture_115 : decode cX9_picture 115 = .ok (.aload_n 0, 1) := by decide +kernel
theorem dX9_picture_116 : decode cX9_picture 116 = .ok (.getfield 41, 3) := by decide +kernel
theorem dX9_picture_119 : decode cX9_picture 119 = .ok (.getfield 166, 3) := by decide +kernel
theorem dX9_picture_122 : decode cX9_picture 122 = .ok (.iconst 1, 1) := by decide +kernel
theorem dX9_picture_123 : decode cX9_picture 123 = .ok (.aaload, 1) := by decide +kernel
theorem dX9_picture_124 : decode cX9_picture 124 = .ok (.iload_n 1, 1) := by decide +kernel
theorem dX9_picture_125 : decode cX9_picture 125 = .ok (.iaload, 1) := by decide +kernel
theorem dX9_picture_126 : decode cX9_picture 126 = .ok (.ireturn, 1) := by decide +kernel
theorem dX9_picture_127 : decode cX9_picture 127 = .ok (.aload_n 0, 1) := by decide +kernel
theorem dX9_picture_128 : decode cX9_picture 128 = .ok (.getfield 41, 3) := by decide +kernel
theorem dX9_picture_131 : decode cX9_picture 131 = .ok (.aload_n 0, 1) := by decide +kernel
theorem dX9_picture_132 : decode cX9_picture 132 = .ok (.getfield 20, 3) := by decide +kernel
theorem dX9_picture_135 : decode cX9_picture 135 = .ok (.getfield 169, 3) := by decide +kernel
theorem dX9_picture_138 : decode cX9_picture 138 = .ok (.iload_n 1, 1) := by decide +kernel
theorem dX9_picture_139 : decode cX9_picture 139 = .ok (.invokevirtual 172, 3) := by decide +kernel
theorem dX9_picture_142 : decode cX9_picture 142 = .ok (.ireturn, 1) := by decide +kernel
theorem dX9_picture_143 : decode cX9_picture 143 = .ok (.aload_n 0, 1) := by decide +kernel
theorem dX9_picture_144 : decode cX9_picture 144 = .ok (.getfield 77, 3) := by decide +kernel
theorem dX9_picture_147 : decode cX9_picture 147 = .ok (.iload_n 1, 1) := by decide +kernel
theorem dX9_picture_148 : decode cX9_picture 148 = .ok (.invokevirtual 176, 3) := by decide +kernel
theorem dX9_picture_151 : decode cX9_picture 151 = .ok (.ifCond .eq 7, 3) := by decide +kernel
theorem dX9_picture_154 : decode cX9_picture 154 = .ok (.iconst 1, 1) := by decide +kernel
theorem dX9_picture_155 : decode cX9_picture 155 = .ok (.goto 4, 3) := by decide +kernel
theorem dX9_picture_158 : decode cX9_picture 158 = .ok (.iconst 0, 1) := by decide +kernel
theorem dX9_picture_159 : decode cX9_picture 159 = .ok (.ireturn, 1) := by decide +kernel
theorem dX9_picture_160 : decode cX9_picture 160 = .ok (.aload_n 0, 1) := by decide +kernel
theorem dX9_picture_161 : decode cX9_picture 161 = .ok (.getfield 20, 3) := by decide +kernel
theorem dX9_picture_164 : decode cX9_picture 164 = .ok (.getfield 179, 3) := by decide +kernel
theorem dX9_picture_167 : decode cX9_picture 167 = .ok (.iload_n 1, 1) := by decide +kernel
theorem dX9_picture_168 : decode cX9_picture 168 = .ok (.iaload, 1) := by decide +kernel
theorem dX9_picture_169 : decode cX9_picture 169 = .ok (.ifCond .le 7, 3) := by decide +kernel
theorem dX9_picture_172 : decode cX9_picture 172 = .ok (.iconst 1, 1) := by decide +kernel
theorem dX9_picture_173 : decode cX9_picture 173 = .ok (.goto 4, 3) := by decide +kernel
theorem dX9_picture_176 : decode cX9_picture 176 = .ok (.iconst 0, 1) := by decide +kernel
theorem dX9_picture_177 : decode cX9_picture 177 = .ok (.ireturn, 1) := by decide +kernel
theorem dX9_picture_178 : decode cX9_picture 178 = .ok (.ldc 158, 2) := by decide +kernel
theorem dX9_picture_180 : decode cX9_picture 180 = .ok (.ireturn, 1) := by decide +kernel
set_option maxRecDepth 20000 in
theorem ggX9_point_X8_exists : GoodIn wsX9_point wsX8_exists := goodIn_r _ [12, 13, 92, 93, 94, 95, 96, 97, 98, 99, 100, 101, 102, 103] (by decide +kernel) (by decide +kernel)
set_option maxRecDepth 20000 in
theorem gX9_point_X8_exists : GoodIn wsX9_point (wsV RX9 150 RX8 yX8_exists wsX8_exists) := goodIn_app (goodIn_of _ (by decide +kernel)) ggX9_point_X8_exists
set_option maxRecDepth 20000 in
theorem ggX9_point_X5_countRows : GoodIn wsX9_point wsX5_countRows := goodIn_r _ [18, 19, 20, 21, 22, 23, 17, 24, 25, 85, 86, 87, 88, 89, 90, 91, 92, 93, 94, 95, 96, 97, 98, 99, 100, 101, 102, 103] (by decide +kernel) (by decide +kernel)
set_option maxRecDepth 20000 in
theorem gX9_point_X5_countRows : GoodIn wsX9_point (wsV RX9 172 RX5 yX5_countRows wsX5_countRows) := goodIn_app (goodIn_of _ (by decide +kernel)) ggX9_point_X5_countRows
set_option maxRecDepth 20000 in
theorem ggX9_point_X5_isFixed : GoodIn wsX9_point wsX5_isFixed := goodIn_r _ [29, 19, 30, 31, 85, 86, 87, 88, 89, 90, 91, 92, 93, 94, 95, 96, 97, 98, 99, 100, 101, 102, 103] (by decide +kernel) (by decide +kernel)
set_option maxRecDepth 20000 in
theorem gX9_point_X5_isFixed : GoodIn wsX9_point (wsV RX9 191 RX5 yX5_isFixed wsX5_isFixed) := goodIn_app (goodIn_of _ (by decide +kernel)) ggX9_point_X5_isFixed
set_option maxRecDepth 20000 in
theorem ggX9_point_X2_isPointLoose : GoodIn wsX9_point wsX2_isPointLoose := goodIn_r _ [36, 37, 38, 39, 35, 40, 41, 42, 43, 44, 45, 46, 47, 48, 49, 50, 22, 23, 17, 24, 25, 51, 52, 53, 54, 55, 56, 57, 58, 59, 60, 61, 62, 63, 27, 28, 29, 19, 30, 31, 64, 65, 66, 67, 104, 105, 106, 107, 92, 93, 94, 95, 96, 97, 98, 99, 100, 101, 102, 103, 85, 86, 87, 88, 89, 90, 91] (by decide +kernel) (by decide +kernel)
set_option maxRecDepth 20000 in
theorem gX9_point_X2_isPointLoose : GoodIn wsX9_point (wsV RX9 194 RX2 yX2_isPointLoose wsX2_isPointLoose) := goodIn_app (goodIn_of _ (by decide +kernel)) ggX9_point_X2_isPointLoose
theorem dX9_point_0 : decode cX9_point 0 = .ok (.aload_n 0, 1) := by decide +kernel
theorem dX9_point_1 : decode cX9_point 1 = .ok (.getfield 20, 3) := by decide +kernel
theorem dX9_point_4 : decode cX9_point 4 = .ok (.iconst 2, 1) := by decide +kernel
theorem dX9_point_5 : decode cX9_point 5 = .ok (.iload_n 1, 1) := by decide +kernel
theorem dX9_point_6 : decode cX9_point 6 = .ok (.invokevirtual 150, 3) := by decide +kernel
theorem dX9_point_9 : decode cX9_point 9 = .ok (.ifCond .ne 6, 3) := by decide +kernel
theorem dX9_point_12 : decode cX9_point 12 = .ok (.ldc 158, 2) := by decide +kernel
theorem dX9_point_14 : decode cX9_point 14 = .ok (.ireturn, 1) := by decide +kernel
theorem dX9_point_15 : decode cX9_point 15 = .ok (.iload_n 2, 1) := by decide +kernel
theorem dX9_point_16 : decode cX9_point 16 = .ok (.tableswitch 132 0 5 #[40, 52, 64, 80, 98, 115], 40) := by decide +kernel
theorem dX9_point_56 : decode cX9_point 56 = .ok (.aload_n 0, 1) := by decide +kernel
theorem dX9_point_57 : decode cX9_point 57 = .ok (.getfield 41, 3) := by decide +kernel
theorem dX9_point_60 : decode cX9_point 60 = .ok (.getfield 182, 3) := by decide +kernel
theorem dX9_point_63 : decode cX9_point 63 = .ok (.iconst 0, 1) := by decide +kernel
theorem dX9_point_64 : decode cX9_point 64 = .ok (.aaload, 1) := by decide +kernel
theorem dX9_point_65 : decode cX9_point 65 = .ok (.iload_n 1, 1) := by decide +kernel
theorem dX9_point_66 : decode cX9_point 66 = .ok (.iaload, 1) := by decide +kernel
theorem dX9_point_67 : decode cX9_point 67 = .ok (.ireturn, 1) := by decide +kernel
theorem dX9_point_68 : decode cX9_point 68 = .ok (.aload_n 0, 1) := by decide +kernel
theorem dX9_point_69 : decode cX9_point 69 = .ok (.getfield 41, 3) := by decide +kernel
theorem dX9_point_72 : decode cX9_point 72 = .ok (.getfield 182, 3) := by decide +kernel
theorem dX9_point_75 : decode cX9_point 75 = .ok (.iconst 1, 1) := by decide +kernel
theorem dX9_point_76 : decode cX9_point 76 = .ok (.aaload, 1) := by decide +kernel
theorem dX9_point_77 : decode cX9_point 77 = .ok (.iload_n 1, 1) := by decide +kernel
theorem dX9_point_78 : decode cX9_point 78 = .ok (.iaload, 1) := by decide +kernel
theorem dX9_point_79 : decode cX9_point 79 = .ok (.ireturn, 1) := by decide +kernel
theorem dX9_point_80 : decode cX9_point 80 = .ok (.aload_n 0, 1) := by decide +kernel
theorem dX9_point_81 : decode cX9_point 81 = .ok (.getfield 41, 3) := by decide +kernel
theorem dX9_point_84 : decode cX9_point 84 = .ok (.aload_n 0, 1) := by decide +kernel
theorem dX9_point_85 : decode cX9_point 85 = .ok (.getfield 20, 3) := by decide +kernel
theorem dX9_point_88 : decode cX9_point 88 = .ok (.getfield 185, 3) := by decide +kernel
theorem dX9_point_91 : decode cX9_point 91 = .ok (.iload_n 1, 1) := by decide +kernel
theorem dX9_point_92 : decode cX9_point 92 = .ok (.invokevirtual 172, 3) := by decide +kernel
theorem dX9_point_95 : decode cX9_point 95 = .ok (.ireturn, 1) := by decide +kernel
theorem dX9_point_96 : decode cX9_point 96 = .ok (.aload_n 0, 1) := by decide +kernel
theorem dX9_point_97 : decode cX9_point 97 = .ok (.getfield 20, 3) := by decide +kernel
theorem dX9_point_100 : decode cX9_point 100 = .ok (.getfield 188, 3) := by decide +kernel
theorem dX9_point_103 : decode cX9_point 103 = .ok (.iload_n 1, 1) := by decide +kernel
theorem dX9_point_104 : decode cX9_point 104 = .ok (.iaload, 1) := by decide +kernel
theorem dX9_point_105 : decode cX9_point 105 = .ok (.ifCond .eq 7, 3) := by decide +kernel
theorem dX9_point_108 : decode cX9_point 108 = .ok (.iconst 1, 1) := by decide +kernel
theorem dX9_point_109 : decode cX9_point 109 = .ok (.goto 4, 3) := by decide +kernel
theorem dX9_point_112 : decode cX9_point 112 = .ok (.iconst 0, 1) := by decide +kernel
theorem dX9_point_113 : decode cX9_point 113 = .ok (.ireturn, 1) := by decide +kernel
theorem dX9_point_114 : decode cX9_point 114 = .ok (.aload_n 0, 1) := by decide +kernel
theorem dX9_point_115 : decode cX9_point 115 = .ok (.getfield 41, 3) := by decide +kernel
theorem dX9_point_118 : decode cX9_point 118 = .ok (.iload_n 1, 1) := by decide +kernel
theorem dX9_point_119 : decode cX9_point 119 = .ok (.invokevirtual 191, 3) := by decide +kernel
theorem dX9_point_122 : decode cX9_point 122 = .ok (.ifCond .eq 7, 3) := by decide +kernel
theorem dX9_point_125 : decode cX9_point 125 = .ok (.iconst 1, 1) := by decide +kernel
theorem dX9_point_126 : decode cX9_point 126 = .ok (.goto 4, 3) := by decide +kernel
theorem dX9_point_129 : decode cX9_point 129 = .ok (.iconst 0, 1) := by decide +kernel
theorem dX9_point_130 : decode cX9_point 130 = .ok (.ireturn, 1) := by decide +kernel
theorem dX9_point_131 : decode cX9_point 131 = .ok (.aload_n 0, 1) := by decide +kernel
theorem dX9_point_132 : decode cX9_point 132 = .ok (.getfield 77, 3) := by decide +kernel
theorem dX9_point_135 : decode cX9_point 135 = .ok (.iload_n 1, 1) := by decide +kernel
theorem dX9_point_136 : decode cX9_point 136 = .ok (.invokevirtual 194, 3) := by decide +kernel
theorem dX9_point_139 : decode cX9_point 139 = .ok (.ifCond .eq 7, 3) := by decide +kernel
theorem dX9_point_142 : decode cX9_point 142 = .ok (.iconst 1, 1) := by decide +kernel
theorem dX9_point_143 : decode cX9_point 143 = .ok (.goto 4, 3) := by decide +kernel
theorem dX9_point_146 : decode cX9_point 146 = .ok (.iconst 0, 1) := by decide +kernel
theorem dX9_point_147 : decode cX9_point 147 = .ok (.ireturn, 1) := by decide +kernel
theorem dX9_point_148 : decode cX9_point 148 = .ok (.ldc 158, 2) := by decide +kernel
theorem dX9_point_150 : decode cX9_point 150 = .ok (.ireturn, 1) := by decide +kernel
set_option maxRecDepth 20000 in
theorem ggX9_row_X8_exists : GoodIn wsX9_row wsX8_exists := goodIn_r _ [14, 15, 98, 99, 100, 101, 102, 103, 104, 105, 106, 107, 108, 109] (by decide +kernel) (by decide +kernel)
set_option maxRecDepth 20000 in
theorem gX9_row_X8_exists : GoodIn wsX9_row (wsV RX9 150 RX8 yX8_exists wsX8_exists) := goodIn_app (goodIn_of _ (by decide +kernel)) ggX9_row_X8_exists
set_option maxRecDepth 20000 in
theorem ggX9_row_X5_miss : GoodIn wsX9_row wsX5_miss := goodIn_r _ [20, 21, 22, 23, 24, 25, 26, 19, 27, 28, 29, 30, 31, 32, 33, 13, 34, 35, 110, 111, 112, 113, 114, 115, 116, 98, 99, 100, 101, 102, 103, 104, 105, 106, 107, 108, 109] (by decide +kernel) (by decide +kernel)
set_option maxRecDepth 20000 in
theorem gX9_row_X5_miss : GoodIn wsX9_row (wsV RX9 203 RX5 yX5_miss wsX5_miss) := goodIn_app (goodIn_of _ (by decide +kernel)) ggX9_row_X5_miss
set_option maxRecDepth 20000 in
theorem ggX9_row_X2_canShow : GoodIn wsX9_row wsX2_canShow := goodIn_r _ [40, 41, 42, 43, 44, 45, 46, 47, 48, 19, 49, 50, 51, 52, 53, 39, 54, 55, 56, 57, 58, 59, 60, 61, 62, 63, 64, 65, 66, 67, 68, 69, 70, 71, 72, 73, 74, 22, 75, 76, 77, 78, 79, 80, 117, 118, 119, 120, 98, 99, 100, 101, 102, 103, 104, 105, 106, 107, 108, 109, 110, 111, 112, 113, 114, 115, 116] (by decide +kernel) (by decide +kernel)
set_option maxRecDepth 20000 in
theorem gX9_row_X2_canShow : GoodIn wsX9_row (wsV RX9 207 RX2 yX2_canShow wsX2_canShow) := goodIn_app (goodIn_of _ (by decide +kernel)) ggX9_row_X2_canShow
theorem dX9_row_0 : decode cX9_row 0 = .ok (.aload_n 0, 1) := by decide +kernel
theorem dX9_row_1 : decode cX9_row 1 = .ok (.getfield 20, 3) := by decide +kernel
theorem dX9_row_4 : decode cX9_row 4 = .ok (.iconst 3, 1) := by decide +kernel
theorem dX9_row_5 : decode cX9_row 5 = .ok (.iload_n 1, 1) := by decide +kernel
theorem dX9_row_6 : decode cX9_row 6 = .ok (.invokevirtual 150, 3) := by decide +kernel
theorem dX9_row_9 : decode cX9_row 9 = .ok (.ifCond .ne 6, 3) := by decide +kernel
theorem dX9_row_12 : decode cX9_row 12 = .ok (.ldc 158, 2) := by decide +kernel
theorem dX9_row_14 : decode cX9_row 14 = .ok (.ireturn, 1) := by decide +kernel
theorem dX9_row_15 : decode cX9_row 15 = .ok (.iload_n 2, 1) := by decide +kernel
theorem dX9_row_16 : decode cX9_row 16 = .ok (.tableswitch 153 0 8 #[52, 62, 72, 84, 96, 106, 116, 126, 136], 52) := by decide +kernel
theorem dX9_row_68 : decode cX9_row 68 = .ok (.aload_n 0, 1) := by decide +kernel
theorem dX9_row_69 : decode cX9_row 69 = .ok (.getfield 20, 3) := by decide +kernel
theorem dX9_row_72 : decode cX9_row 72 = .ok (.getfield 169, 3) := by decide +kernel
theorem dX9_row_75 : decode cX9_row 75 = .ok (.iload_n 1, 1) := by decide +kernel
theorem dX9_row_76 : decode cX9_row 76 = .ok (.iaload, 1) := by decide +kernel
theorem dX9_row_77 : decode cX9_row 77 = .ok (.ireturn, 1) := by decide +kernel
theorem dX9_row_78 : decode cX9_row 78 = .ok (.aload_n 0, 1) := by decide +kernel
theorem dX9_row_79 : decode cX9_row 79 = .ok (.getfield 20, 3) := by decide +kernel
theorem dX9_row_82 : decode cX9_row 82 = .ok (.getfield 185, 3) := by decide +kernel
theorem dX9_row_85 : decode cX9_row 85 = .ok (.iload_n 1, 1) := by decide +kernel
theorem dX9_row_86 : decode cX9_row 86 = .ok (.iaload, 1) := by decide +kernel
theorem dX9_row_87 : decode cX9_row 87 = .ok (.ireturn, 1) := by decide +kernel
theorem dX9_row_88 : decode cX9_row 88 = .ok (.aload_n 0, 1) := by decide +kernel
theorem dX9_row_89 : decode cX9_row 89 = .ok (.getfield 20, 3) := by decide +kernel
theorem dX9_row_92 : decode cX9_row 92 = .ok (.getfield 197, 3) := by decide +kernel
theorem dX9_row_95 : decode cX9_row 95 = .ok (.iconst 0, 1) := by decide +kernel
theorem dX9_row_96 : decode cX9_row 96 = .ok (.aaload, 1) := by decide +kernel
theorem dX9_row_97 : decode cX9_row 97 = .ok (.iload_n 1, 1) := by decide +kernel
theorem dX9_row_98 : decode cX9_row 98 = .ok (.iaload, 1) := by decide +kernel
theorem dX9_row_99 : decode cX9_row 99 = .ok (.ireturn, 1) := by decide +kernel
theorem dX9_row_100 : decode cX9_row 100 = .ok (.aload_n 0, 1) := by decide +kernel
theorem dX9_row_101 : decode cX9_row 101 = .ok (.getfield 20, 3) := by decide +kernel
theorem dX9_row_104 : decode cX9_row 104 = .ok (.getfield 197, 3) := by decide +kernel
theorem dX9_row_107 : decode cX9_row 107 = .ok (.iconst 1, 1) := by decide +kernel
theorem dX9_row_108 : decode cX9_row 108 = .ok (.aaload, 1) := by decide +kernel
theorem dX9_row_109 : decode cX9_row 109 = .ok (.iload_n 1, 1) := by decide +kernel
theorem dX9_row_110 : decode cX9_row 110 = .ok (.iaload, 1) := by decide +kernel
theorem dX9_row_111 : decode cX9_row 111 = .ok (.ireturn, 1) := by decide +kernel
theorem dX9_row_112 : decode cX9_row 112 = .ok (.aload_n 0, 1) := by decide +kernel
theorem dX9_row_113 : decode cX9_row 113 = .ok (.getfield 20, 3) := by decide +kernel
theorem dX9_row_116 : decode cX9_row 116 = .ok (.getfield 200, 3) := by decide +kernel
theorem dX9_row_119 : decode cX9_row 119 = .ok (.iload_n 1, 1) := by decide +kernel
theorem dX9_row_120 : decode cX9_row 120 = .ok (.iaload, 1) := by decide +kernel
theorem dX9_row_121 : decode cX9_row 121 = .ok (.ireturn, 1) := by decide +kernel
theorem dX9_row_122 : decode cX9_row 122 = .ok (.aload_n 0, 1) := by decide +kernel
theorem dX9_row_123 : decode cX9_row 123 = .ok (.getfield 41, 3) := by decide +kernel
theorem dX9_row_126 : decode cX9_row 126 = .ok (.getfield 124, 3) := by decide +kernel
theorem dX9_row_129 : decode cX9_row 129 = .ok (.iload_n 1, 1) := by decide +kernel
theorem dX9_row_130 : decode cX9_row 130 = .ok (.iaload, 1) := by decide +kernel
theorem dX9_row_131 : decode cX9_row 131 = .ok (.ireturn, 1) := by decide +kernel
theorem dX9_row_132 : decode cX9_row 132 = .ok (.aload_n 0, 1) := by decide +kernel
theorem dX9_row_133 : decode cX9_row 133 = .ok (.getfield 41, 3) := by decide +kernel
theorem dX9_row_136 : decode cX9_row 136 = .ok (.iload_n 1, 1) := by decide +kernel
theorem dX9_row_137 : decode cX9_row 137 = .ok (.iconst 0, 1) := by decide +kernel
theorem dX9_row_138 : decode cX9_row 138 = .ok (.invokevirtual 203, 3) := by decide +kernel
theorem dX9_row_141 : decode cX9_row 141 = .ok (.ireturn, 1) := by decide +kernel
theorem dX9_row_142 : decode cX9_row 142 = .ok (.aload_n 0, 1) := by decide +kernel
theorem dX9_row_143 : decode cX9_row 143 = .ok (.getfield 41, 3) := by decide +kernel
theorem dX9_row_146 : decode cX9_row 146 = .ok (.iload_n 1, 1) := by decide +kernel
theorem dX9_row_147 : decode cX9_row 147 = .ok (.iconst 1, 1) := by decide +kernel
theorem dX9_row_148 : decode cX9_row 148 = .ok (.invokevirtual 203, 3) := by decide +kernel
theorem dX9_row_151 : decode cX9_row 151 = .ok (.ireturn, 1) := by decide +kernel
theorem dX9_row_152 : decode cX9_row 152 = .ok (.aload_n 0, 1) := by decide +kernel
theorem dX9_row_153 : decode cX9_row 153 = .ok (.getfield 77, 3) := by decide +kernel
theorem dX9_row_156 : decode cX9_row 156 = .ok (.iload_n 1, 1) := by decide +kernel
theorem dX9_row_157 : decode cX9_row 157 = .ok (.invokevirtual 207, 3) := by decide +kernel
theorem dX9_row_160 : decode cX9_row 160 = .ok (.ifCond .eq 7, 3) := by decide +kernel
theorem dX9_row_163 : decode cX9_row 163 = .ok (.iconst 1, 1) := by decide +kernel
theorem dX9_row_164 : decode cX9_row 164 = .ok (.goto 4, 3) := by decide +kernel
theorem dX9_row_167 : decode cX9_row 167 = .ok (.iconst 0, 1) := by decide +kernel
theorem dX9_row_168 : decode cX9_row 168 = .ok (.ireturn, 1) := by decide +kernel
theorem dX9_row_169 : decode cX9_row 169 = .ok (.ldc 158, 2) := by decide +kernel
theorem dX9_row_171 : decode cX9_row 171 = .ok (.ireturn, 1) := by decide +kernel
set_option maxRecDepth 20000 in
theorem ggX9_drift_X8_exists : GoodIn wsX9_drift wsX8_exists := goodIn_r _ [9, 10, 45, 46, 47, 48, 49, 50, 51, 52, 53, 54, 55, 56] (by decide +kernel) (by decide +kernel)
set_option maxRecDepth 20000 in
theorem gX9_drift_X8_exists : GoodIn wsX9_drift (wsV RX9 150 RX8 yX8_exists wsX8_exists) := goodIn_app (goodIn_of _ (by decide +kernel)) ggX9_drift_X8_exists
set_option maxRecDepth 20000 in
theorem ggX9_drift_X9_isAxis : GoodIn wsX9_drift wsX9_isAxis := goodIn_r _ [14] (by decide +kernel) (by decide +kernel)
set_option maxRecDepth 20000 in
theorem gX9_drift_X9_isAxis : GoodIn wsX9_drift (va_wsS RX9 210 yX9_isAxis wsX9_isAxis) := goodIn_app (goodIn_of _ (by decide +kernel)) ggX9_drift_X9_isAxis
set_option maxRecDepth 20000 in
theorem ggX9_drift_X8_drifts : GoodIn wsX9_drift wsX8_drifts := goodIn_r _ [18, 10, 19, 20, 45, 46, 47, 48, 49, 50, 51, 52, 53, 54, 55, 56] (by decide +kernel) (by decide +kernel)
set_option maxRecDepth 20000 in
theorem gX9_drift_X8_drifts : GoodIn wsX9_drift (wsV RX9 213 RX8 yX8_drifts wsX8_drifts) := goodIn_app (goodIn_of _ (by decide +kernel)) ggX9_drift_X8_drifts
theorem dX9_drift_0 : decode cX9_drift 0 = .ok (.aload_n 0, 1) := by decide +kernel
theorem dX9_drift_1 : decode cX9_drift 1 = .ok (.getfield 20, 3) := by decide +kernel
theorem dX9_drift_4 : decode cX9_drift 4 = .ok (.iconst 0, 1) := by decide +kernel
theorem dX9_drift_5 : decode cX9_drift 5 = .ok (.iload_n 1, 1) := by decide +kernel
theorem dX9_drift_6 : decode cX9_drift 6 = .ok (.invokevirtual 150, 3) := by decide +kernel
theorem dX9_drift_9 : decode cX9_drift 9 = .ok (.ifCond .eq 21, 3) := by decide +kernel
theorem dX9_drift_12 : decode cX9_drift 12 = .ok (.iload_n 2, 1) := by decide +kernel
theorem dX9_drift_13 : decode cX9_drift 13 = .ok (.invokestatic 210, 3) := by decide +kernel
