theorem dX9_drift_16 : decode cX9_drift 16 = .ok (.ifCond .eq 14, 3) := by decide +kernel
theorem dX9_drift_19 : decode cX9_drift 19 = .ok (.aload_n 0, 1) := by decide +kernel
theorem dX9_drift_20 : decode cX9_drift 20 = .ok (.getfield 20, 3) := by decide +kernel
theorem dX9_drift_23 : decode cX9_drift 23 = .ok (.iload_n 1, 1) := by decide +kernel
theorem dX9_drift_24 : decode cX9_drift 24 = .ok (.invokevirtual 213, 3) := by decide +kernel
theorem dX9_drift_27 : decode cX9_drift 27 = .ok (.ifCond .ne 6, 3) := by decide +kernel
theorem dX9_drift_30 : decode cX9_drift 30 = .ok (.ldc 158, 2) := by decide +kernel
theorem dX9_drift_32 : decode cX9_drift 32 = .ok (.ireturn, 1) := by decide +kernel
theorem dX9_drift_33 : decode cX9_drift 33 = .ok (.aload_n 0, 1) := by decide +kernel
theorem dX9_drift_34 : decode cX9_drift 34 = .ok (.getfield 41, 3) := by decide +kernel
theorem dX9_drift_37 : decode cX9_drift 37 = .ok (.getfield 216, 3) := by decide +kernel
theorem dX9_drift_40 : decode cX9_drift 40 = .ok (.iload_n 2, 1) := by decide +kernel
theorem dX9_drift_41 : decode cX9_drift 41 = .ok (.aaload, 1) := by decide +kernel
theorem dX9_drift_42 : decode cX9_drift 42 = .ok (.iload_n 1, 1) := by decide +kernel
theorem dX9_drift_43 : decode cX9_drift 43 = .ok (.iaload, 1) := by decide +kernel
theorem dX9_drift_44 : decode cX9_drift 44 = .ok (.ireturn, 1) := by decide +kernel
theorem dX9_isAxis_0 : decode cX9_isAxis 0 = .ok (.iload_n 0, 1) := by decide +kernel
theorem dX9_isAxis_1 : decode cX9_isAxis 1 = .ok (.ifCond .eq 8, 3) := by decide +kernel
theorem dX9_isAxis_4 : decode cX9_isAxis 4 = .ok (.iload_n 0, 1) := by decide +kernel
theorem dX9_isAxis_5 : decode cX9_isAxis 5 = .ok (.iconst 1, 1) := by decide +kernel
theorem dX9_isAxis_6 : decode cX9_isAxis 6 = .ok (.if_icmp .ne 7, 3) := by decide +kernel
theorem dX9_isAxis_9 : decode cX9_isAxis 9 = .ok (.iconst 1, 1) := by decide +kernel
theorem dX9_isAxis_10 : decode cX9_isAxis 10 = .ok (.goto 4, 3) := by decide +kernel
theorem dX9_isAxis_13 : decode cX9_isAxis 13 = .ok (.iconst 0, 1) := by decide +kernel
theorem dX9_isAxis_14 : decode cX9_isAxis 14 = .ok (.ireturn, 1) := by decide +kernel
set_option maxRecDepth 20000 in
theorem ggX9_start_X6_begin : GoodIn wsX9_start wsX6_begin := goodIn_r _ [6, 7, 8, 9, 10, 11, 12, 5, 13, 14, 15, 16, 17, 18, 19, 20, 21, 22, 23, 24, 25, 26, 27, 28, 29, 30, 31, 32, 33, 34, 35, 36, 37, 38, 39, 40, 41, 42, 43, 44, 45, 46, 47, 48, 49, 50, 51, 52, 53, 54, 55, 56, 57, 58, 59, 60, 61, 62, 63, 64, 65, 66, 67, 68, 69, 70, 71, 72, 73, 74, 75, 76, 77, 78, 79, 80, 81, 82, 83, 84, 85, 86, 87, 88, 89, 90, 91, 92, 93, 94, 95, 96, 97, 98, 99, 100, 101, 102, 103, 104, 105, 106, 107, 108, 109, 110, 128, 129, 130, 131, 132, 133, 134, 135, 136, 137, 138, 139, 140, 141, 142, 143, 144, 145, 146, 147, 148, 149, 150, 151, 152] (by decide +kernel) (by decide +kernel)
set_option maxRecDepth 20000 in
theorem gX9_start_X6_begin : GoodIn wsX9_start (wsV RX9 133 RX6 yX6_begin wsX6_begin) := goodIn_app (goodIn_of _ (by decide +kernel)) ggX9_start_X6_begin
theorem dX9_start_0 : decode cX9_start 0 = .ok (.aload_n 0, 1) := by decide +kernel
theorem dX9_start_1 : decode cX9_start 1 = .ok (.getfield 56, 3) := by decide +kernel
theorem dX9_start_4 : decode cX9_start 4 = .ok (.invokevirtual 133, 3) := by decide +kernel
theorem dX9_start_7 : decode cX9_start 7 = .ok (.ireturn, 1) := by decide +kernel
set_option maxRecDepth 20000 in
theorem ggX9_rounds_X1_settle : GoodIn wsX9_rounds wsX1_settle := goodIn_r _ [6, 7, 8, 9, 10, 11, 12, 13, 14, 15, 16, 17, 18, 19, 20, 21, 22, 23, 24, 25, 26, 27, 5, 28, 29, 30, 31, 32, 33, 34, 35, 36, 37, 38, 39, 40, 41, 42, 43, 44, 45, 46, 47, 48, 49, 50, 51, 52, 53, 54, 55, 56, 57, 58, 59, 60, 61, 62, 63, 64, 65, 66, 67, 68, 69, 70, 71, 72, 73, 74, 75, 76, 77, 78, 79, 80, 81, 82, 83, 84, 85, 86, 87, 88, 89, 90, 108, 109, 110, 111, 112, 113, 114, 115, 116, 117, 118, 119, 120, 121, 122, 123, 124, 125, 126, 127, 128, 129, 130, 131] (by decide +kernel) (by decide +kernel)
set_option maxRecDepth 20000 in
theorem gX9_rounds_X1_settle : GoodIn wsX9_rounds (wsV RX9 219 RX1 yX1_settle wsX1_settle) := goodIn_app (goodIn_of _ (by decide +kernel)) ggX9_rounds_X1_settle
theorem dX9_rounds_0 : decode cX9_rounds 0 = .ok (.iload_n 1, 1) := by decide +kernel
theorem dX9_rounds_1 : decode cX9_rounds 1 = .ok (.iconst 1, 1) := by decide +kernel
theorem dX9_rounds_2 : decode cX9_rounds 2 = .ok (.if_icmp .lt 10, 3) := by decide +kernel
theorem dX9_rounds_5 : decode cX9_rounds 5 = .ok (.iload_n 1, 1) := by decide +kernel
theorem dX9_rounds_6 : decode cX9_rounds 6 = .ok (.sipush 500, 3) := by decide +kernel
theorem dX9_rounds_9 : decode cX9_rounds 9 = .ok (.if_icmp .le 5, 3) := by decide +kernel
theorem dX9_rounds_12 : decode cX9_rounds 12 = .ok (.iconst (-1), 1) := by decide +kernel
theorem dX9_rounds_13 : decode cX9_rounds 13 = .ok (.ireturn, 1) := by decide +kernel
theorem dX9_rounds_14 : decode cX9_rounds 14 = .ok (.aload_n 0, 1) := by decide +kernel
theorem dX9_rounds_15 : decode cX9_rounds 15 = .ok (.getfield 63, 3) := by decide +kernel
theorem dX9_rounds_18 : decode cX9_rounds 18 = .ok (.iload_n 1, 1) := by decide +kernel
theorem dX9_rounds_19 : decode cX9_rounds 19 = .ok (.invokevirtual 219, 3) := by decide +kernel
theorem dX9_rounds_22 : decode cX9_rounds 22 = .ok (.ireturn, 1) := by decide +kernel
set_option maxRecDepth 20000 in
theorem ggX9_sum_X5_squares : GoodIn wsX9_sum wsX5_squares := goodIn_r _ [6, 7, 8, 9, 10, 11, 12, 13, 5, 14, 15, 16, 17, 18, 19, 20, 21, 22, 23, 24, 25, 26, 27, 28, 29, 30, 31, 32, 33, 34, 35, 36, 37, 38, 39, 40, 41, 42, 43, 44, 45, 63, 64, 65, 66, 67, 68, 69, 70, 71, 72, 73, 74, 75, 76, 77, 78, 79, 80, 81] (by decide +kernel) (by decide +kernel)
set_option maxRecDepth 20000 in
theorem gX9_sum_X5_squares : GoodIn wsX9_sum (wsV RX9 222 RX5 yX5_squares wsX5_squares) := goodIn_app (goodIn_of _ (by decide +kernel)) ggX9_sum_X5_squares
theorem dX9_sum_0 : decode cX9_sum 0 = .ok (.aload_n 0, 1) := by decide +kernel
theorem dX9_sum_1 : decode cX9_sum 1 = .ok (.getfield 41, 3) := by decide +kernel
theorem dX9_sum_4 : decode cX9_sum 4 = .ok (.invokevirtual 222, 3) := by decide +kernel
theorem dX9_sum_7 : decode cX9_sum 7 = .ok (.lreturn, 1) := by decide +kernel
set_option maxRecDepth 20000 in
theorem ggX9_whole_X9_isAxis : GoodIn wsX9_whole wsX9_isAxis := goodIn_r _ [9] (by decide +kernel) (by decide +kernel)
set_option maxRecDepth 20000 in
theorem gX9_whole_X9_isAxis : GoodIn wsX9_whole (va_wsS RX9 210 yX9_isAxis wsX9_isAxis) := goodIn_app (goodIn_of _ (by decide +kernel)) ggX9_whole_X9_isAxis
set_option maxRecDepth 20000 in
theorem ggX9_whole_X8_exists : GoodIn wsX9_whole wsX8_exists := goodIn_r _ [14, 15, 136, 137, 138, 139, 140, 141, 142, 143, 144, 145, 146, 147] (by decide +kernel) (by decide +kernel)
set_option maxRecDepth 20000 in
theorem gX9_whole_X8_exists : GoodIn wsX9_whole (wsV RX9 150 RX8 yX8_exists wsX8_exists) := goodIn_app (goodIn_of _ (by decide +kernel)) ggX9_whole_X8_exists
set_option maxRecDepth 20000 in
theorem ggX9_whole_X4_solveFor : GoodIn wsX9_whole wsX4_solveFor := goodIn_r _ [20, 21, 22, 23, 24, 25, 26, 19, 27, 28, 29, 30, 31, 32, 33, 34, 35, 36, 37, 38, 39, 40, 41, 42, 43, 44, 45, 46, 47, 48, 49, 50, 51, 52, 53, 54, 55, 56, 57, 58, 59, 60, 61, 62, 63, 64, 65, 66, 67, 68, 69, 70, 71, 72, 73, 74, 13, 75, 76, 77, 78, 79, 80, 81, 82, 83, 84, 85, 86, 87, 88, 89, 90, 91, 92, 93, 94, 95, 96, 97, 98, 99, 100, 101, 102, 103, 104, 105, 106, 107, 108, 109, 148, 149, 150, 151, 152, 136, 137, 138, 139, 140, 141, 142, 143, 144, 145, 146, 147, 129, 130, 131, 132, 133, 134, 135] (by decide +kernel) (by decide +kernel)
set_option maxRecDepth 20000 in
theorem gX9_whole_X4_solveFor : GoodIn wsX9_whole (wsV RX9 226 RX4 yX4_solveFor wsX4_solveFor) := goodIn_app (goodIn_of _ (by decide +kernel)) ggX9_whole_X4_solveFor
set_option maxRecDepth 20000 in
theorem ggX9_whole_X5_isFixed : GoodIn wsX9_whole wsX5_isFixed := goodIn_r _ [47, 48, 49, 50, 129, 130, 131, 132, 133, 134, 135, 136, 137, 138, 139, 140, 141, 142, 143, 144, 145, 146, 147] (by decide +kernel) (by decide +kernel)
set_option maxRecDepth 20000 in
theorem gX9_whole_X5_isFixed : GoodIn wsX9_whole (wsV RX9 191 RX5 yX5_isFixed wsX5_isFixed) := goodIn_app (goodIn_of _ (by decide +kernel)) ggX9_whole_X5_isFixed
set_option maxRecDepth 20000 in
theorem ggX9_whole_J9_floorMod_f86c9 : GoodIn wsX9_whole wsJ9_floorMod_f86c9 := goodIn_r _ [93] (by decide +kernel) (by decide +kernel)
set_option maxRecDepth 20000 in
theorem gX9_whole_J9_floorMod_f86c9 : GoodIn wsX9_whole (va_wsS RX9 231 yJ9_floorMod_f86c9 wsJ9_floorMod_f86c9) := goodIn_app (goodIn_of _ (by decide +kernel)) ggX9_whole_J9_floorMod_f86c9
theorem dX9_whole_0 : decode cX9_whole 0 = .ok (.iload_n 1, 1) := by decide +kernel
theorem dX9_whole_1 : decode cX9_whole 1 = .ok (.ifCond .lt 15, 3) := by decide +kernel
theorem dX9_whole_4 : decode cX9_whole 4 = .ok (.iload_n 1, 1) := by decide +kernel
theorem dX9_whole_5 : decode cX9_whole 5 = .ok (.iconst 2, 1) := by decide +kernel
theorem dX9_whole_6 : decode cX9_whole 6 = .ok (.if_icmp .gt 10, 3) := by decide +kernel
theorem dX9_whole_9 : decode cX9_whole 9 = .ok (.iload_n 3, 1) := by decide +kernel
theorem dX9_whole_10 : decode cX9_whole 10 = .ok (.invokestatic 210, 3) := by decide +kernel
theorem dX9_whole_13 : decode cX9_whole 13 = .ok (.ifCond .ne 5, 3) := by decide +kernel
theorem dX9_whole_16 : decode cX9_whole 16 = .ok (.iconst (-1), 1) := by decide +kernel
theorem dX9_whole_17 : decode cX9_whole 17 = .ok (.ireturn, 1) := by decide +kernel
theorem dX9_whole_18 : decode cX9_whole 18 = .ok (.iload_n 1, 1) := by decide +kernel
theorem dX9_whole_19 : decode cX9_whole 19 = .ok (.ifCond .ne 25, 3) := by decide +kernel
theorem dX9_whole_22 : decode cX9_whole 22 = .ok (.aload_n 0, 1) := by decide +kernel
theorem dX9_whole_23 : decode cX9_whole 23 = .ok (.getfield 20, 3) := by decide +kernel
theorem dX9_whole_26 : decode cX9_whole 26 = .ok (.iconst 1, 1) := by decide +kernel
theorem dX9_whole_27 : decode cX9_whole 27 = .ok (.iload_n 2, 1) := by decide +kernel
theorem dX9_whole_28 : decode cX9_whole 28 = .ok (.invokevirtual 150, 3) := by decide +kernel
theorem dX9_whole_31 : decode cX9_whole 31 = .ok (.ifCond .eq 13, 3) := by decide +kernel
theorem dX9_whole_34 : decode cX9_whole 34 = .ok (.aload_n 0, 1) := by decide +kernel
theorem dX9_whole_35 : decode cX9_whole 35 = .ok (.getfield 70, 3) := by decide +kernel
theorem dX9_whole_38 : decode cX9_whole 38 = .ok (.iload_n 2, 1) := by decide +kernel
theorem dX9_whole_39 : decode cX9_whole 39 = .ok (.iload_n 3, 1) := by decide +kernel
theorem dX9_whole_40 : decode cX9_whole 40 = .ok (.invokevirtual 226, 3) := by decide +kernel
theorem dX9_whole_43 : decode cX9_whole 43 = .ok (.ireturn, 1) := by decide +kernel
theorem dX9_whole_44 : decode cX9_whole 44 = .ok (.iload_n 1, 1) := by decide +kernel
theorem dX9_whole_45 : decode cX9_whole 45 = .ok (.iconst 1, 1) := by decide +kernel
theorem dX9_whole_46 : decode cX9_whole 46 = .ok (.if_icmp .ne 59, 3) := by decide +kernel
theorem dX9_whole_49 : decode cX9_whole 49 = .ok (.aload_n 0, 1) := by decide +kernel
theorem dX9_whole_50 : decode cX9_whole 50 = .ok (.getfield 20, 3) := by decide +kernel
theorem dX9_whole_53 : decode cX9_whole 53 = .ok (.iconst 2, 1) := by decide +kernel
theorem dX9_whole_54 : decode cX9_whole 54 = .ok (.iload_n 2, 1) := by decide +kernel
theorem dX9_whole_55 : decode cX9_whole 55 = .ok (.invokevirtual 150, 3) := by decide +kernel
theorem dX9_whole_58 : decode cX9_whole 58 = .ok (.ifCond .eq 47, 3) := by decide +kernel
theorem dX9_whole_61 : decode cX9_whole 61 = .ok (.aload_n 0, 1) := by decide +kernel
theorem dX9_whole_62 : decode cX9_whole 62 = .ok (.getfield 41, 3) := by decide +kernel
theorem dX9_whole_65 : decode cX9_whole 65 = .ok (.iload_n 2, 1) := by decide +kernel
theorem dX9_whole_66 : decode cX9_whole 66 = .ok (.invokevirtual 191, 3) := by decide +kernel
theorem dX9_whole_69 : decode cX9_whole 69 = .ok (.ifCond .eq 23, 3) := by decide +kernel
theorem dX9_whole_72 : decode cX9_whole 72 = .ok (.aload_n 0, 1) := by decide +kernel
theorem dX9_whole_73 : decode cX9_whole 73 = .ok (.getfield 41, 3) := by decide +kernel
theorem dX9_whole_76 : decode cX9_whole 76 = .ok (.getfield 182, 3) := by decide +kernel
theorem dX9_whole_79 : decode cX9_whole 79 = .ok (.iload_n 3, 1) := by decide +kernel
theorem dX9_whole_80 : decode cX9_whole 80 = .ok (.aaload, 1) := by decide +kernel
theorem dX9_whole_81 : decode cX9_whole 81 = .ok (.iload_n 2, 1) := by decide +kernel
theorem dX9_whole_82 : decode cX9_whole 82 = .ok (.iaload, 1) := by decide +kernel
theorem dX9_whole_83 : decode cX9_whole 83 = .ok (.i2l, 1) := by decide +kernel
theorem dX9_whole_84 : decode cX9_whole 84 = .ok (.ldc2_w 229, 3) := by decide +kernel
theorem dX9_whole_87 : decode cX9_whole 87 = .ok (.invokestatic 231, 3) := by decide +kernel
theorem dX9_whole_90 : decode cX9_whole 90 = .ok (.l2i, 1) := by decide +kernel
theorem dX9_whole_91 : decode cX9_whole 91 = .ok (.ireturn, 1) := by decide +kernel
theorem dX9_whole_92 : decode cX9_whole 92 = .ok (.aload_n 0, 1) := by decide +kernel
theorem dX9_whole_93 : decode cX9_whole 93 = .ok (.getfield 70, 3) := by decide +kernel
theorem dX9_whole_96 : decode cX9_whole 96 = .ok (.bipush 12, 2) := by decide +kernel
theorem dX9_whole_98 : decode cX9_whole 98 = .ok (.iload_n 2, 1) := by decide +kernel
theorem dX9_whole_99 : decode cX9_whole 99 = .ok (.iadd, 1) := by decide +kernel
theorem dX9_whole_100 : decode cX9_whole 100 = .ok (.iload_n 3, 1) := by decide +kernel
theorem dX9_whole_101 : decode cX9_whole 101 = .ok (.invokevirtual 226, 3) := by decide +kernel
theorem dX9_whole_104 : decode cX9_whole 104 = .ok (.ireturn, 1) := by decide +kernel
theorem dX9_whole_105 : decode cX9_whole 105 = .ok (.iload_n 1, 1) := by decide +kernel
theorem dX9_whole_106 : decode cX9_whole 106 = .ok (.iconst 2, 1) := by decide +kernel
theorem dX9_whole_107 : decode cX9_whole 107 = .ok (.if_icmp .ne 28, 3) := by decide +kernel
theorem dX9_whole_110 : decode cX9_whole 110 = .ok (.aload_n 0, 1) := by decide +kernel
theorem dX9_whole_111 : decode cX9_whole 111 = .ok (.getfield 20, 3) := by decide +kernel
theorem dX9_whole_114 : decode cX9_whole 114 = .ok (.iconst 0, 1) := by decide +kernel
theorem dX9_whole_115 : decode cX9_whole 115 = .ok (.iload_n 2, 1) := by decide +kernel
theorem dX9_whole_116 : decode cX9_whole 116 = .ok (.invokevirtual 150, 3) := by decide +kernel
theorem dX9_whole_119 : decode cX9_whole 119 = .ok (.ifCond .eq 16, 3) := by decide +kernel
theorem dX9_whole_122 : decode cX9_whole 122 = .ok (.aload_n 0, 1) := by decide +kernel
theorem dX9_whole_123 : decode cX9_whole 123 = .ok (.getfield 70, 3) := by decide +kernel
theorem dX9_whole_126 : decode cX9_whole 126 = .ok (.bipush 32, 2) := by decide +kernel
theorem dX9_whole_128 : decode cX9_whole 128 = .ok (.iload_n 2, 1) := by decide +kernel
theorem dX9_whole_129 : decode cX9_whole 129 = .ok (.iadd, 1) := by decide +kernel
theorem dX9_whole_130 : decode cX9_whole 130 = .ok (.iload_n 3, 1) := by decide +kernel
theorem dX9_whole_131 : decode cX9_whole 131 = .ok (.invokevirtual 226, 3) := by decide +kernel
theorem dX9_whole_134 : decode cX9_whole 134 = .ok (.ireturn, 1) := by decide +kernel
theorem dX9_whole_135 : decode cX9_whole 135 = .ok (.iconst (-1), 1) := by decide +kernel
theorem dX9_whole_136 : decode cX9_whole 136 = .ok (.ireturn, 1) := by decide +kernel
set_option maxRecDepth 20000 in
theorem ggX9_sets_X5_placeFixed : GoodIn wsX9_sets wsX5_placeFixed := goodIn_r _ [7, 8, 9, 10, 11, 12, 13, 6, 14, 15, 16, 17, 18, 19, 20, 21, 43, 44, 45, 46, 47, 48, 49, 50, 51, 52, 53, 54, 55, 56, 57, 58, 59, 60, 61] (by decide +kernel) (by decide +kernel)
set_option maxRecDepth 20000 in
theorem gX9_sets_X5_placeFixed : GoodIn wsX9_sets (wsV RX9 237 RX5 yX5_placeFixed wsX5_placeFixed) := goodIn_app (goodIn_of _ (by decide +kernel)) ggX9_sets_X5_placeFixed
set_option maxRecDepth 20000 in
theorem ggX9_sets_X5_countFixed : GoodIn wsX9_sets wsX5_countFixed := goodIn_r _ [25, 8, 9, 11, 12, 13, 6, 14, 15, 16, 43, 44, 45, 46, 47, 48, 49, 50, 51, 52, 53, 54, 55, 56, 57, 58, 59, 60, 61] (by decide +kernel) (by decide +kernel)
set_option maxRecDepth 20000 in
theorem gX9_sets_X5_countFixed : GoodIn wsX9_sets (wsV RX9 143 RX5 yX5_countFixed wsX5_countFixed) := goodIn_app (goodIn_of _ (by decide +kernel)) ggX9_sets_X5_countFixed
theorem dX9_sets_0 : decode cX9_sets 0 = .ok (.iload_n 1, 1) := by decide +kernel
theorem dX9_sets_1 : decode cX9_sets 1 = .ok (.ifCond .lt 8, 3) := by decide +kernel
theorem dX9_sets_4 : decode cX9_sets 4 = .ok (.iload_n 1, 1) := by decide +kernel
theorem dX9_sets_5 : decode cX9_sets 5 = .ok (.iconst 3, 1) := by decide +kernel
theorem dX9_sets_6 : decode cX9_sets 6 = .ok (.if_icmp .le 5, 3) := by decide +kernel
theorem dX9_sets_9 : decode cX9_sets 9 = .ok (.iconst (-1), 1) := by decide +kernel
theorem dX9_sets_10 : decode cX9_sets 10 = .ok (.ireturn, 1) := by decide +kernel
theorem dX9_sets_11 : decode cX9_sets 11 = .ok (.aload_n 0, 1) := by decide +kernel
theorem dX9_sets_12 : decode cX9_sets 12 = .ok (.getfield 41, 3) := by decide +kernel
theorem dX9_sets_15 : decode cX9_sets 15 = .ok (.iload_n 1, 1) := by decide +kernel
theorem dX9_sets_16 : decode cX9_sets 16 = .ok (.putfield 121, 3) := by decide +kernel
theorem dX9_sets_19 : decode cX9_sets 19 = .ok (.aload_n 0, 1) := by decide +kernel
theorem dX9_sets_20 : decode cX9_sets 20 = .ok (.getfield 41, 3) := by decide +kernel
theorem dX9_sets_23 : decode cX9_sets 23 = .ok (.invokevirtual 237, 3) := by decide +kernel
theorem dX9_sets_26 : decode cX9_sets 26 = .ok (.aload_n 0, 1) := by decide +kernel
theorem dX9_sets_27 : decode cX9_sets 27 = .ok (.getfield 41, 3) := by decide +kernel
theorem dX9_sets_30 : decode cX9_sets 30 = .ok (.invokevirtual 143, 3) := by decide +kernel
theorem dX9_sets_33 : decode cX9_sets 33 = .ok (.ireturn, 1) := by decide +kernel
set_option maxRecDepth 20000 in
theorem ggX9_parts_X2_countParts : GoodIn wsX9_parts wsX2_countParts := goodIn_r _ [6, 7, 8, 9, 10, 11, 12, 5, 13, 14, 15, 16, 17, 18, 19, 20, 21, 22, 23, 24, 25, 26, 27, 28, 29, 30, 31, 32, 33, 34, 35, 36, 37, 38, 39, 40, 41, 42, 43, 44, 62, 63, 64, 65, 66, 67, 68, 69, 70, 71, 72, 73, 74, 75, 76, 77, 78, 79, 80, 81, 82, 83, 84] (by decide +kernel) (by decide +kernel)
set_option maxRecDepth 20000 in
theorem gX9_parts_X2_countParts : GoodIn wsX9_parts (wsV RX9 240 RX2 yX2_countParts wsX2_countParts) := goodIn_app (goodIn_of _ (by decide +kernel)) ggX9_parts_X2_countParts
theorem dX9_parts_0 : decode cX9_parts 0 = .ok (.aload_n 0, 1) := by decide +kernel
theorem dX9_parts_1 : decode cX9_parts 1 = .ok (.getfield 77, 3) := by decide +kernel
theorem dX9_parts_4 : decode cX9_parts 4 = .ok (.invokevirtual 240, 3) := by decide +kernel
theorem dX9_parts_7 : decode cX9_parts 7 = .ok (.ireturn, 1) := by decide +kernel
set_option maxRecDepth 20000 in
theorem ggX9_hang_X8_exists : GoodIn wsX9_hang wsX8_exists := goodIn_r _ [7, 8, 69, 70, 71, 72, 73, 74, 75, 76, 77, 78, 79, 80] (by decide +kernel) (by decide +kernel)
set_option maxRecDepth 20000 in
theorem gX9_hang_X8_exists : GoodIn wsX9_hang (wsV RX9 150 RX8 yX8_exists wsX8_exists) := goodIn_app (goodIn_of _ (by decide +kernel)) ggX9_hang_X8_exists
set_option maxRecDepth 20000 in
theorem ggX9_hang_X2_isJoined : GoodIn wsX9_hang wsX2_isJoined := goodIn_r _ [13, 14, 15, 16, 17, 12, 18, 19, 20, 21, 22, 23, 24, 25, 26, 27, 28, 29, 30, 31, 32, 33, 34, 35, 36, 37, 38, 39, 40, 41, 42, 43, 44, 45, 46, 47, 48, 49, 50, 51, 81, 82, 83, 84, 69, 70, 71, 72, 73, 74, 75, 76, 77, 78, 79, 80, 85, 86, 87, 88, 89, 90, 91] (by decide +kernel) (by decide +kernel)
set_option maxRecDepth 20000 in
theorem gX9_hang_X2_isJoined : GoodIn wsX9_hang (wsV RX9 243 RX2 yX2_isJoined wsX2_isJoined) := goodIn_app (goodIn_of _ (by decide +kernel)) ggX9_hang_X2_isJoined
theorem dX9_hang_0 : decode cX9_hang 0 = .ok (.aload_n 0, 1) := by decide +kernel
theorem dX9_hang_1 : decode cX9_hang 1 = .ok (.getfield 20, 3) := by decide +kernel
theorem dX9_hang_4 : decode cX9_hang 4 = .ok (.iconst 1, 1) := by decide +kernel
theorem dX9_hang_5 : decode cX9_hang 5 = .ok (.iload_n 1, 1) := by decide +kernel
theorem dX9_hang_6 : decode cX9_hang 6 = .ok (.invokevirtual 150, 3) := by decide +kernel
theorem dX9_hang_9 : decode cX9_hang 9 = .ok (.ifCond .eq 15, 3) := by decide +kernel
theorem dX9_hang_12 : decode cX9_hang 12 = .ok (.aload_n 0, 1) := by decide +kernel
theorem dX9_hang_13 : decode cX9_hang 13 = .ok (.getfield 20, 3) := by decide +kernel
theorem dX9_hang_16 : decode cX9_hang 16 = .ok (.iconst 1, 1) := by decide +kernel
theorem dX9_hang_17 : decode cX9_hang 17 = .ok (.iload_n 2, 1) := by decide +kernel
theorem dX9_hang_18 : decode cX9_hang 18 = .ok (.invokevirtual 150, 3) := by decide +kernel
theorem dX9_hang_21 : decode cX9_hang 21 = .ok (.ifCond .ne 5, 3) := by decide +kernel
theorem dX9_hang_24 : decode cX9_hang 24 = .ok (.iconst (-1), 1) := by decide +kernel
theorem dX9_hang_25 : decode cX9_hang 25 = .ok (.ireturn, 1) := by decide +kernel
theorem dX9_hang_26 : decode cX9_hang 26 = .ok (.aload_n 0, 1) := by decide +kernel
theorem dX9_hang_27 : decode cX9_hang 27 = .ok (.getfield 77, 3) := by decide +kernel
theorem dX9_hang_30 : decode cX9_hang 30 = .ok (.iload_n 1, 1) := by decide +kernel
theorem dX9_hang_31 : decode cX9_hang 31 = .ok (.iload_n 2, 1) := by decide +kernel
theorem dX9_hang_32 : decode cX9_hang 32 = .ok (.invokevirtual 243, 3) := by decide +kernel
theorem dX9_hang_35 : decode cX9_hang 35 = .ok (.ifCond .eq 7, 3) := by decide +kernel
theorem dX9_hang_38 : decode cX9_hang 38 = .ok (.iconst 1, 1) := by decide +kernel
theorem dX9_hang_39 : decode cX9_hang 39 = .ok (.goto 4, 3) := by decide +kernel
theorem dX9_hang_42 : decode cX9_hang 42 = .ok (.iconst 0, 1) := by decide +kernel
theorem dX9_hang_43 : decode cX9_hang 43 = .ok (.ireturn, 1) := by decide +kernel
set_option maxRecDepth 20000 in
theorem ggX9_blind_X5_uses : GoodIn wsX9_blind wsX5_uses := goodIn_r _ [9, 10, 82, 83, 84, 85, 86, 87, 88] (by decide +kernel) (by decide +kernel)
set_option maxRecDepth 20000 in
theorem gX9_blind_X5_uses : GoodIn wsX9_blind (wsV RX9 146 RX5 yX5_uses wsX5_uses) := goodIn_app (goodIn_of _ (by decide +kernel)) ggX9_blind_X5_uses
set_option maxRecDepth 20000 in
theorem ggX9_blind_X2_canShow : GoodIn wsX9_blind wsX2_canShow := goodIn_r _ [15, 16, 17, 18, 19, 20, 21, 6, 7, 8, 9, 10, 22, 23, 24, 14, 25, 26, 27, 28, 29, 30, 31, 32, 33, 34, 35, 36, 37, 38, 39, 40, 41, 42, 43, 44, 45, 46, 47, 48, 49, 50, 51, 52, 89, 90, 91, 92, 70, 71, 72, 73, 74, 75, 76, 77, 78, 79, 80, 81, 82, 83, 84, 85, 86, 87, 88] (by decide +kernel) (by decide +kernel)
set_option maxRecDepth 20000 in
theorem gX9_blind_X2_canShow : GoodIn wsX9_blind (wsV RX9 207 RX2 yX2_canShow wsX2_canShow) := goodIn_app (goodIn_of _ (by decide +kernel)) ggX9_blind_X2_canShow
theorem dX9_blind_0 : decode cX9_blind 0 = .ok (.iconst 0, 1) := by decide +kernel
theorem dX9_blind_1 : decode cX9_blind 1 = .ok (.istore_n 1, 1) := by decide +kernel
theorem dX9_blind_2 : decode cX9_blind 2 = .ok (.iconst 0, 1) := by decide +kernel
theorem dX9_blind_3 : decode cX9_blind 3 = .ok (.istore_n 2, 1) := by decide +kernel
theorem dX9_blind_4 : decode cX9_blind 4 = .ok (.iload_n 2, 1) := by decide +kernel
theorem dX9_blind_5 : decode cX9_blind 5 = .ok (.aload_n 0, 1) := by decide +kernel
theorem dX9_blind_6 : decode cX9_blind 6 = .ok (.getfield 20, 3) := by decide +kernel
theorem dX9_blind_9 : decode cX9_blind 9 = .ok (.getfield 137, 3) := by decide +kernel
theorem dX9_blind_12 : decode cX9_blind 12 = .ok (.iconst 3, 1) := by decide +kernel
theorem dX9_blind_13 : decode cX9_blind 13 = .ok (.iaload, 1) := by decide +kernel
theorem dX9_blind_14 : decode cX9_blind 14 = .ok (.if_icmp .ge 34, 3) := by decide +kernel
theorem dX9_blind_17 : decode cX9_blind 17 = .ok (.aload_n 0, 1) := by decide +kernel
theorem dX9_blind_18 : decode cX9_blind 18 = .ok (.getfield 41, 3) := by decide +kernel
theorem dX9_blind_21 : decode cX9_blind 21 = .ok (.iload_n 2, 1) := by decide +kernel
theorem dX9_blind_22 : decode cX9_blind 22 = .ok (.invokevirtual 146, 3) := by decide +kernel
theorem dX9_blind_25 : decode cX9_blind 25 = .ok (.ifCond .eq 17, 3) := by decide +kernel
theorem dX9_blind_28 : decode cX9_blind 28 = .ok (.aload_n 0, 1) := by decide +kernel
theorem dX9_blind_29 : decode cX9_blind 29 = .ok (.getfield 77, 3) := by decide +kernel
theorem dX9_blind_32 : decode cX9_blind 32 = .ok (.iload_n 2, 1) := by decide +kernel
theorem dX9_blind_33 : decode cX9_blind 33 = .ok (.invokevirtual 207, 3) := by decide +kernel
theorem dX9_blind_36 : decode cX9_blind 36 = .ok (.ifCond .ne 6, 3) := by decide +kernel
theorem dX9_blind_39 : decode cX9_blind 39 = .ok (.iinc 1 1, 3) := by decide +kernel
theorem dX9_blind_42 : decode cX9_blind 42 = .ok (.iinc 2 1, 3) := by decide +kernel
theorem dX9_blind_45 : decode cX9_blind 45 = .ok (.goto (-41), 3) := by decide +kernel
theorem dX9_blind_48 : decode cX9_blind 48 = .ok (.iload_n 1, 1) := by decide +kernel
theorem dX9_blind_49 : decode cX9_blind 49 = .ok (.ireturn, 1) := by decide +kernel
set_option maxRecDepth 20000 in
theorem ggX9_needs_X8_exists : GoodIn wsX9_needs wsX8_exists := goodIn_r _ [8, 9, 75, 76, 77, 78, 79, 80, 81, 82, 83, 84, 85, 86] (by decide +kernel) (by decide +kernel)
set_option maxRecDepth 20000 in
theorem gX9_needs_X8_exists : GoodIn wsX9_needs (wsV RX9 150 RX8 yX8_exists wsX8_exists) := goodIn_app (goodIn_of _ (by decide +kernel)) ggX9_needs_X8_exists
set_option maxRecDepth 20000 in
theorem ggX9_needs_X5_uses : GoodIn wsX9_needs wsX5_uses := goodIn_r _ [14, 15, 87, 88, 89, 90, 91, 92, 93] (by decide +kernel) (by decide +kernel)
set_option maxRecDepth 20000 in
theorem gX9_needs_X5_uses : GoodIn wsX9_needs (wsV RX9 146 RX5 yX5_uses wsX5_uses) := goodIn_app (goodIn_of _ (by decide +kernel)) ggX9_needs_X5_uses
set_option maxRecDepth 20000 in
theorem ggX9_needs_X2_countLoose : GoodIn wsX9_needs wsX2_countLoose := goodIn_r _ [20, 21, 22, 23, 24, 25, 19, 26, 27, 28, 29, 30, 31, 32, 33, 34, 11, 12, 13, 14, 15, 35, 36, 37, 38, 39, 40, 41, 42, 43, 44, 45, 46, 47, 48, 49, 50, 51, 52, 53, 54, 55, 56, 57, 94, 95, 96, 97, 75, 76, 77, 78, 79, 80, 81, 82, 83, 84, 85, 86, 87, 88, 89, 90, 91, 92, 93] (by decide +kernel) (by decide +kernel)
set_option maxRecDepth 20000 in
theorem gX9_needs_X2_countLoose : GoodIn wsX9_needs (wsV RX9 246 RX2 yX2_countLoose wsX2_countLoose) := goodIn_app (goodIn_of _ (by decide +kernel)) ggX9_needs_X2_countLoose
theorem dX9_needs_0 : decode cX9_needs 0 = .ok (.aload_n 0, 1) := by decide +kernel
theorem dX9_needs_1 : decode cX9_needs 1 = .ok (.getfield 20, 3) := by decide +kernel
theorem dX9_needs_4 : decode cX9_needs 4 = .ok (.iconst 3, 1) := by decide +kernel
theorem dX9_needs_5 : decode cX9_needs 5 = .ok (.iload_n 1, 1) := by decide +kernel
theorem dX9_needs_6 : decode cX9_needs 6 = .ok (.invokevirtual 150, 3) := by decide +kernel
theorem dX9_needs_9 : decode cX9_needs 9 = .ok (.ifCond .eq 14, 3) := by decide +kernel
theorem dX9_needs_12 : decode cX9_needs 12 = .ok (.aload_n 0, 1) := by decide +kernel
theorem dX9_needs_13 : decode cX9_needs 13 = .ok (.getfield 41, 3) := by decide +kernel
theorem dX9_needs_16 : decode cX9_needs 16 = .ok (.iload_n 1, 1) := by decide +kernel
theorem dX9_needs_17 : decode cX9_needs 17 = .ok (.invokevirtual 146, 3) := by decide +kernel
theorem dX9_needs_20 : decode cX9_needs 20 = .ok (.ifCond .ne 5, 3) := by decide +kernel
theorem dX9_needs_23 : decode cX9_needs 23 = .ok (.iconst (-1), 1) := by decide +kernel
theorem dX9_needs_24 : decode cX9_needs 24 = .ok (.ireturn, 1) := by decide +kernel
theorem dX9_needs_25 : decode cX9_needs 25 = .ok (.aload_n 0, 1) := by decide +kernel
theorem dX9_needs_26 : decode cX9_needs 26 = .ok (.getfield 77, 3) := by decide +kernel
theorem dX9_needs_29 : decode cX9_needs 29 = .ok (.iload_n 1, 1) := by decide +kernel
theorem dX9_needs_30 : decode cX9_needs 30 = .ok (.invokevirtual 246, 3) := by decide +kernel
theorem dX9_needs_33 : decode cX9_needs 33 = .ok (.aload_n 0, 1) := by decide +kernel
theorem dX9_needs_34 : decode cX9_needs 34 = .ok (.getfield 77, 3) := by decide +kernel
theorem dX9_needs_37 : decode cX9_needs 37 = .ok (.iconst (-1), 1) := by decide +kernel
theorem dX9_needs_38 : decode cX9_needs 38 = .ok (.invokevirtual 246, 3) := by decide +kernel
theorem dX9_needs_41 : decode cX9_needs 41 = .ok (.isub, 1) := by decide +kernel
theorem dX9_needs_42 : decode cX9_needs 42 = .ok (.ireturn, 1) := by decide +kernel
set_option maxRecDepth 20000 in
theorem ggX9_doubt_X8_exists : GoodIn wsX9_doubt wsX8_exists := goodIn_r _ [8, 9, 52, 53, 54, 55, 56, 57, 58, 59, 60, 61, 62, 63] (by decide +kernel) (by decide +kernel)
set_option maxRecDepth 20000 in
theorem gX9_doubt_X8_exists : GoodIn wsX9_doubt (wsV RX9 150 RX8 yX8_exists wsX8_exists) := goodIn_app (goodIn_of _ (by decide +kernel)) ggX9_doubt_X8_exists
set_option maxRecDepth 20000 in
theorem ggX9_doubt_X5_doubtOf : GoodIn wsX9_doubt wsX5_doubtOf := goodIn_r _ [14, 15, 16, 17, 18, 19, 13, 20, 21, 22, 23, 24, 25, 26, 27, 28, 29, 30, 31, 32, 7, 33, 34, 64, 65, 66, 67, 68, 69, 70, 52, 53, 54, 55, 56, 57, 58, 59, 60, 61, 62, 63] (by decide +kernel) (by decide +kernel)
set_option maxRecDepth 20000 in
theorem gX9_doubt_X5_doubtOf : GoodIn wsX9_doubt (wsV RX9 251 RX5 yX5_doubtOf wsX5_doubtOf) := goodIn_app (goodIn_of _ (by decide +kernel)) ggX9_doubt_X5_doubtOf
theorem dX9_doubt_0 : decode cX9_doubt 0 = .ok (.aload_n 0, 1) := by decide +kernel
theorem dX9_doubt_1 : decode cX9_doubt 1 = .ok (.getfield 20, 3) := by decide +kernel
theorem dX9_doubt_4 : decode cX9_doubt 4 = .ok (.iconst 3, 1) := by decide +kernel
theorem dX9_doubt_5 : decode cX9_doubt 5 = .ok (.iload_n 1, 1) := by decide +kernel
theorem dX9_doubt_6 : decode cX9_doubt 6 = .ok (.invokevirtual 150, 3) := by decide +kernel
theorem dX9_doubt_9 : decode cX9_doubt 9 = .ok (.ifCond .ne 7, 3) := by decide +kernel
theorem dX9_doubt_12 : decode cX9_doubt 12 = .ok (.ldc2_w 249, 3) := by decide +kernel
theorem dX9_doubt_15 : decode cX9_doubt 15 = .ok (.lreturn, 1) := by decide +kernel
theorem dX9_doubt_16 : decode cX9_doubt 16 = .ok (.aload_n 0, 1) := by decide +kernel
theorem dX9_doubt_17 : decode cX9_doubt 17 = .ok (.getfield 41, 3) := by decide +kernel
theorem dX9_doubt_20 : decode cX9_doubt 20 = .ok (.iload_n 1, 1) := by decide +kernel
theorem dX9_doubt_21 : decode cX9_doubt 21 = .ok (.invokevirtual 251, 3) := by decide +kernel
theorem dX9_doubt_24 : decode cX9_doubt 24 = .ok (.lreturn, 1) := by decide +kernel
set_option maxRecDepth 20000 in
theorem ggX9_worst_X9_findWorst : GoodIn wsX9_worst wsX9_findWorst := goodIn_r _ [5, 6, 7, 8, 9, 10, 11, 12, 13, 14, 15, 16, 17, 18, 19, 20, 21, 22, 23, 24, 25, 26, 27, 28, 29, 30, 31, 32, 33, 34, 35, 36, 37, 38, 39, 40, 41, 42, 43, 44, 45, 46, 47, 48, 49, 50, 51, 52, 53, 54, 55, 56, 57, 58, 59, 60, 61, 62, 63, 64, 65, 66, 67, 68, 69, 70, 71, 72, 73, 74, 75, 76, 77, 78, 79, 80, 81, 82, 83, 84, 85, 86, 87, 88, 89, 90, 91, 92, 93, 94, 95, 96, 97, 98, 99, 100, 101, 102, 103, 104, 105, 106, 107, 108, 109, 110, 111, 112, 113, 114, 115, 116, 117, 118, 119, 120, 121] (by decide +kernel) (by decide +kernel)
set_option maxRecDepth 20000 in
theorem gX9_worst_X9_findWorst : GoodIn wsX9_worst (wsV RX9 255 RX9 yX9_findWorst wsX9_findWorst) := goodIn_app (goodIn_of _ (by decide +kernel)) ggX9_worst_X9_findWorst
theorem dX9_worst_0 : decode cX9_worst 0 = .ok (.aload_n 0, 1) := by decide +kernel
theorem dX9_worst_1 : decode cX9_worst 1 = .ok (.invokevirtual 255, 3) := by decide +kernel
theorem dX9_worst_4 : decode cX9_worst 4 = .ok (.ireturn, 1) := by decide +kernel
set_option maxRecDepth 20000 in
theorem ggX9_findWorst_X5_doubtOf : GoodIn wsX9_findWorst wsX5_doubtOf := goodIn_r _ [10, 11, 12, 13, 14, 15, 9, 16, 17, 18, 19, 20, 21, 22, 23, 24, 25, 26, 27, 28, 29, 30, 31, 106, 107, 108, 109, 110, 111, 112, 94, 95, 96, 97, 98, 99, 100, 101, 102, 103, 104, 105] (by decide +kernel) (by decide +kernel)
set_option maxRecDepth 20000 in
theorem gX9_findWorst_X5_doubtOf : GoodIn wsX9_findWorst (wsV RX9 251 RX5 yX5_doubtOf wsX5_doubtOf) := goodIn_app (goodIn_of _ (by decide +kernel)) ggX9_findWorst_X5_doubtOf
set_option maxRecDepth 20000 in
theorem ggX9_findWorst_X2_canShow : GoodIn wsX9_findWorst wsX2_canShow := goodIn_r _ [36, 37, 38, 39, 40, 41, 42, 43, 44, 9, 45, 46, 47, 48, 49, 35, 50, 51, 52, 53, 54, 55, 56, 57, 58, 59, 60, 61, 62, 63, 64, 65, 66, 67, 68, 69, 70, 11, 71, 72, 73, 74, 75, 76, 113, 114, 115, 116, 94, 95, 96, 97, 98, 99, 100, 101, 102, 103, 104, 105, 106, 107, 108, 109, 110, 111, 112] (by decide +kernel) (by decide +kernel)
set_option maxRecDepth 20000 in
theorem gX9_findWorst_X2_canShow : GoodIn wsX9_findWorst (wsV RX9 207 RX2 yX2_canShow wsX2_canShow) := goodIn_app (goodIn_of _ (by decide +kernel)) ggX9_findWorst_X2_canShow
theorem dX9_findWorst_0 : decode cX9_findWorst 0 = .ok (.iconst (-1), 1) := by decide +kernel
theorem dX9_findWorst_1 : decode cX9_findWorst 1 = .ok (.istore_n 1, 1) := by decide +kernel
theorem dX9_findWorst_2 : decode cX9_findWorst 2 = .ok (.ldc2_w 249, 3) := by decide +kernel
theorem dX9_findWorst_5 : decode cX9_findWorst 5 = .ok (.lstore_n 2, 1) := by decide +kernel
theorem dX9_findWorst_6 : decode cX9_findWorst 6 = .ok (.iconst 0, 1) := by decide +kernel
theorem dX9_findWorst_7 : decode cX9_findWorst 7 = .ok (.istore 4, 2) := by decide +kernel
theorem dX9_findWorst_9 : decode cX9_findWorst 9 = .ok (.iload 4, 2) := by decide +kernel
theorem dX9_findWorst_11 : decode cX9_findWorst 11 = .ok (.aload_n 0, 1) := by decide +kernel
theorem dX9_findWorst_12 : decode cX9_findWorst 12 = .ok (.getfield 20, 3) := by decide +kernel
theorem dX9_findWorst_15 : decode cX9_findWorst 15 = .ok (.getfield 137, 3) := by decide +kernel
theorem dX9_findWorst_18 : decode cX9_findWorst 18 = .ok (.iconst 3, 1) := by decide +kernel
theorem dX9_findWorst_19 : decode cX9_findWorst 19 = .ok (.iaload, 1) := by decide +kernel
theorem dX9_findWorst_20 : decode cX9_findWorst 20 = .ok (.if_icmp .ge 45, 3) := by decide +kernel
theorem dX9_findWorst_23 : decode cX9_findWorst 23 = .ok (.aload_n 0, 1) := by decide +kernel
theorem dX9_findWorst_24 : decode cX9_findWorst 24 = .ok (.getfield 41, 3) := by decide +kernel
theorem dX9_findWorst_27 : decode cX9_findWorst 27 = .ok (.iload 4, 2) := by decide +kernel
theorem dX9_findWorst_29 : decode cX9_findWorst 29 = .ok (.invokevirtual 251, 3) := by decide +kernel
theorem dX9_findWorst_32 : decode cX9_findWorst 32 = .ok (.lstore 5, 2) := by decide +kernel
theorem dX9_findWorst_34 : decode cX9_findWorst 34 = .ok (.lload 5, 2) := by decide +kernel
theorem dX9_findWorst_36 : decode cX9_findWorst 36 = .ok (.lload_n 2, 1) := by decide +kernel
theorem dX9_findWorst_37 : decode cX9_findWorst 37 = .ok (.lcmp, 1) := by decide +kernel
theorem dX9_findWorst_38 : decode cX9_findWorst 38 = .ok (.ifCond .le 21, 3) := by decide +kernel
theorem dX9_findWorst_41 : decode cX9_findWorst 41 = .ok (.aload_n 0, 1) := by decide +kernel
theorem dX9_findWorst_42 : decode cX9_findWorst 42 = .ok (.getfield 77, 3) := by decide +kernel
theorem dX9_findWorst_45 : decode cX9_findWorst 45 = .ok (.iload 4, 2) := by decide +kernel
theorem dX9_findWorst_47 : decode cX9_findWorst 47 = .ok (.invokevirtual 207, 3) := by decide +kernel
theorem dX9_findWorst_50 : decode cX9_findWorst 50 = .ok (.ifCond .eq 9, 3) := by decide +kernel
theorem dX9_findWorst_53 : decode cX9_findWorst 53 = .ok (.iload 4, 2) := by decide +kernel
theorem dX9_findWorst_55 : decode cX9_findWorst 55 = .ok (.istore_n 1, 1) := by decide +kernel
theorem dX9_findWorst_56 : decode cX9_findWorst 56 = .ok (.lload 5, 2) := by decide +kernel
theorem dX9_findWorst_58 : decode cX9_findWorst 58 = .ok (.lstore_n 2, 1) := by decide +kernel
theorem dX9_findWorst_59 : decode cX9_findWorst 59 = .ok (.iinc 4 1, 3) := by decide +kernel
theorem dX9_findWorst_62 : decode cX9_findWorst 62 = .ok (.goto (-53), 3) := by decide +kernel
theorem dX9_findWorst_65 : decode cX9_findWorst 65 = .ok (.iload_n 1, 1) := by decide +kernel
theorem dX9_findWorst_66 : decode cX9_findWorst 66 = .ok (.ireturn, 1) := by decide +kernel
set_option maxRecDepth 20000 in
theorem ggX9_drop_X8_exists : GoodIn wsX9_drop wsX8_exists := goodIn_r _ [8, 9, 34, 35, 36, 37, 38, 39, 40, 41, 42, 43, 44, 45] (by decide +kernel) (by decide +kernel)
set_option maxRecDepth 20000 in
theorem gX9_drop_X8_exists : GoodIn wsX9_drop (wsV RX9 150 RX8 yX8_exists wsX8_exists) := goodIn_app (goodIn_of _ (by decide +kernel)) ggX9_drop_X8_exists
theorem dX9_drop_0 : decode cX9_drop 0 = .ok (.iload_n 2, 1) := by decide +kernel
theorem dX9_drop_1 : decode cX9_drop 1 = .ok (.ifCond .eq 7, 3) := by decide +kernel
theorem dX9_drop_4 : decode cX9_drop 4 = .ok (.iconst 1, 1) := by decide +kernel
theorem dX9_drop_5 : decode cX9_drop 5 = .ok (.goto 4, 3) := by decide +kernel
theorem dX9_drop_8 : decode cX9_drop 8 = .ok (.iconst 0, 1) := by decide +kernel
theorem dX9_drop_9 : decode cX9_drop 9 = .ok (.istore_n 3, 1) := by decide +kernel
theorem dX9_drop_10 : decode cX9_drop 10 = .ok (.aload_n 0, 1) := by decide +kernel
theorem dX9_drop_11 : decode cX9_drop 11 = .ok (.getfield 20, 3) := by decide +kernel
theorem dX9_drop_14 : decode cX9_drop 14 = .ok (.iconst 3, 1) := by decide +kernel
theorem dX9_drop_15 : decode cX9_drop 15 = .ok (.iload_n 1, 1) := by decide +kernel
theorem dX9_drop_16 : decode cX9_drop 16 = .ok (.invokevirtual 150, 3) := by decide +kernel
theorem dX9_drop_19 : decode cX9_drop 19 = .ok (.ifCond .eq 16, 3) := by decide +kernel
theorem dX9_drop_22 : decode cX9_drop 22 = .ok (.aload_n 0, 1) := by decide +kernel
theorem dX9_drop_23 : decode cX9_drop 23 = .ok (.getfield 41, 3) := by decide +kernel
theorem dX9_drop_26 : decode cX9_drop 26 = .ok (.getfield 124, 3) := by decide +kernel
theorem dX9_drop_29 : decode cX9_drop 29 = .ok (.iload_n 1, 1) := by decide +kernel
theorem dX9_drop_30 : decode cX9_drop 30 = .ok (.iaload, 1) := by decide +kernel
theorem dX9_drop_31 : decode cX9_drop 31 = .ok (.iload_n 3, 1) := by decide +kernel
theorem dX9_drop_32 : decode cX9_drop 32 = .ok (.if_icmp .ne 5, 3) := by decide +kernel
theorem dX9_drop_35 : decode cX9_drop 35 = .ok (.iconst 0, 1) := by decide +kernel
theorem dX9_drop_36 : decode cX9_drop 36 = .ok (.ireturn, 1) := by decide +kernel
theorem dX9_drop_37 : decode cX9_drop 37 = .ok (.aload_n 0, 1) := by decide +kernel
theorem dX9_drop_38 : decode cX9_drop 38 = .ok (.getfield 41, 3) := by decide +kernel
theorem dX9_drop_41 : decode cX9_drop 41 = .ok (.getfield 124, 3) := by decide +kernel
theorem dX9_drop_44 : decode cX9_drop 44 = .ok (.iload_n 1, 1) := by decide +kernel
theorem dX9_drop_45 : decode cX9_drop 45 = .ok (.iload_n 3, 1) := by decide +kernel
theorem dX9_drop_46 : decode cX9_drop 46 = .ok (.iastore, 1) := by decide +kernel
theorem dX9_drop_47 : decode cX9_drop 47 = .ok (.iconst 1, 1) := by decide +kernel
theorem dX9_drop_48 : decode cX9_drop 48 = .ok (.ireturn, 1) := by decide +kernel
set_option maxRecDepth 20000 in
theorem ggX9_clean_X9_dropAbove : GoodIn wsX9_clean wsX9_dropAbove := goodIn_r _ [6, 7, 1, 8, 9, 10, 11, 12, 13, 14, 15, 16, 17, 18, 19, 20, 21, 22, 23, 24, 25, 26, 27, 28, 29, 30, 31, 32, 33, 34, 35, 36, 37, 38, 39, 40, 41, 42, 43, 44, 45, 46, 47, 48, 49, 50, 51, 52, 53, 54, 55, 56, 57, 58, 59, 60, 61, 62, 63, 64, 65, 66, 67, 68, 69, 70, 71, 72, 73, 74, 75, 76, 77, 78, 79, 80, 81, 82, 83, 84, 85, 86, 87, 88, 89, 90, 91, 92, 93, 94, 95, 96, 97, 98, 99, 100, 101, 102, 103, 104, 5, 105, 106, 107, 108, 109, 110, 111, 112, 113, 114, 115, 116, 117, 118, 119, 120, 121, 122, 123, 124, 125, 126, 127, 128, 129, 130, 131, 132, 133, 134, 135, 136, 137, 138, 139, 140, 141, 142, 143, 144, 145, 146, 147, 148, 149, 150, 151, 152, 153, 154, 155, 156, 157, 158, 163, 164, 165, 166, 167, 168, 169, 170, 171, 172, 173, 174, 175, 176, 177, 178, 179, 180, 181, 182, 183, 184, 185, 186, 187, 188, 189, 190, 191, 192, 193, 194, 195, 196, 197, 198, 199, 200, 201, 202, 203, 204, 205, 206, 207] (by decide +kernel) (by decide +kernel)
set_option maxRecDepth 20000 in
theorem gX9_clean_X9_dropAbove : GoodIn wsX9_clean (wsV RX9 258 RX9 yX9_dropAbove wsX9_dropAbove) := goodIn_app (goodIn_of _ (by decide +kernel)) ggX9_clean_X9_dropAbove
set_option maxRecDepth 20000 in
theorem ggX9_clean_X9_putBack : GoodIn wsX9_clean wsX9_putBack := goodIn_r _ [162, 107, 108, 7, 8, 9, 110, 111, 112, 26, 113, 28, 114, 115, 116, 117, 118, 119, 120, 121, 122, 123, 124, 30, 125, 29, 31, 32, 33, 34, 35, 36, 163, 164, 165, 166, 167, 168, 169, 170, 171, 172, 173, 174, 175, 176, 177, 178, 179, 192, 193, 194, 195, 196, 197, 198, 199, 200, 201, 202, 203, 180, 181, 182, 183, 184, 185, 186] (by decide +kernel) (by decide +kernel)
set_option maxRecDepth 20000 in
theorem gX9_clean_X9_putBack : GoodIn wsX9_clean (wsV RX9 262 RX9 yX9_putBack wsX9_putBack) := goodIn_app (goodIn_of _ (by decide +kernel)) ggX9_clean_X9_putBack
set_option maxRecDepth 20000 in
theorem ggX9_clean_X1_settle : GoodIn wsX9_clean wsX1_settle := goodIn_r _ [18, 19, 20, 21, 22, 23, 24, 25, 26, 27, 28, 29, 30, 31, 32, 33, 34, 35, 36, 37, 38, 39, 17, 40, 41, 42, 43, 44, 45, 46, 47, 48, 49, 50, 51, 52, 53, 54, 55, 56, 57, 12, 58, 59, 60, 61, 62, 63, 64, 65, 66, 67, 68, 69, 70, 71, 72, 73, 74, 75, 76, 77, 78, 79, 80, 81, 82, 83, 84, 85, 86, 87, 88, 89, 90, 91, 92, 93, 94, 95, 96, 97, 98, 99, 100, 101, 187, 188, 189, 190, 191, 192, 193, 194, 195, 196, 197, 198, 199, 200, 201, 202, 203, 180, 181, 182, 183, 184, 185, 186] (by decide +kernel) (by decide +kernel)
set_option maxRecDepth 20000 in
theorem gX9_clean_X1_settle : GoodIn wsX9_clean (wsV RX9 219 RX1 yX1_settle wsX1_settle) := goodIn_app (goodIn_of _ (by decide +kernel)) ggX9_clean_X1_settle
theorem dX9_clean_0 : decode cX9_clean 0 = .ok (.lload_n 1, 1) := by decide +kernel
theorem dX9_clean_1 : decode cX9_clean 1 = .ok (.lconst 0, 1) := by decide +kernel
theorem dX9_clean_2 : decode cX9_clean 2 = .ok (.lcmp, 1) := by decide +kernel
theorem dX9_clean_3 : decode cX9_clean 3 = .ok (.ifCond .ge 5, 3) := by decide +kernel
theorem dX9_clean_6 : decode cX9_clean 6 = .ok (.iconst (-1), 1) := by decide +kernel
theorem dX9_clean_7 : decode cX9_clean 7 = .ok (.ireturn, 1) := by decide +kernel
theorem dX9_clean_8 : decode cX9_clean 8 = .ok (.aload_n 0, 1) := by decide +kernel
theorem dX9_clean_9 : decode cX9_clean 9 = .ok (.lload_n 1, 1) := by decide +kernel
theorem dX9_clean_10 : decode cX9_clean 10 = .ok (.invokevirtual 258, 3) := by decide +kernel
theorem dX9_clean_13 : decode cX9_clean 13 = .ok (.istore_n 3, 1) := by decide +kernel
theorem dX9_clean_14 : decode cX9_clean 14 = .ok (.aload_n 0, 1) := by decide +kernel
theorem dX9_clean_15 : decode cX9_clean 15 = .ok (.lload_n 1, 1) := by decide +kernel
theorem dX9_clean_16 : decode cX9_clean 16 = .ok (.invokevirtual 262, 3) := by decide +kernel
theorem dX9_clean_19 : decode cX9_clean 19 = .ok (.istore 4, 2) := by decide +kernel
theorem dX9_clean_21 : decode cX9_clean 21 = .ok (.iload 4, 2) := by decide +kernel
theorem dX9_clean_23 : decode cX9_clean 23 = .ok (.ifCond .le 13, 3) := by decide +kernel
theorem dX9_clean_26 : decode cX9_clean 26 = .ok (.aload_n 0, 1) := by decide +kernel
theorem dX9_clean_27 : decode cX9_clean 27 = .ok (.getfield 63, 3) := by decide +kernel
theorem dX9_clean_30 : decode cX9_clean 30 = .ok (.bipush 50, 2) := by decide +kernel
theorem dX9_clean_32 : decode cX9_clean 32 = .ok (.invokevirtual 219, 3) := by decide +kernel
theorem dX9_clean_35 : decode cX9_clean 35 = .ok (.pop, 1) := by decide +kernel
theorem dX9_clean_36 : decode cX9_clean 36 = .ok (.iload_n 3, 1) := by decide +kernel
theorem dX9_clean_37 : decode cX9_clean 37 = .ok (.iload 4, 2) := by decide +kernel
theorem dX9_clean_39 : decode cX9_clean 39 = .ok (.isub, 1) := by decide +kernel
theorem dX9_clean_40 : decode cX9_clean 40 = .ok (.ireturn, 1) := by decide +kernel
set_option maxRecDepth 20000 in
theorem ggX9_dropAbove_J7_fill_53178 : GoodIn wsX9_dropAbove wsJ7_fill_53178 := goodIn_r _ [8] (by decide +kernel) (by decide +kernel)
set_option maxRecDepth 20000 in
theorem gX9_dropAbove_J7_fill_53178 : GoodIn wsX9_dropAbove (va_wsS RX9 127 yJ7_fill_53178 wsJ7_fill_53178) := goodIn_app (goodIn_of _ (by decide +kernel)) ggX9_dropAbove_J7_fill_53178
set_option maxRecDepth 20000 in
theorem ggX9_dropAbove_X1_settle : GoodIn wsX9_dropAbove wsX1_settle := goodIn_r _ [13, 14, 15, 16, 17, 18, 19, 20, 21, 22, 23, 24, 25, 26, 27, 28, 29, 30, 31, 32, 33, 34, 12, 35, 36, 37, 38, 39, 40, 41, 42, 43, 44, 45, 46, 47, 48, 49, 50, 51, 52, 7, 53, 54, 55, 56, 57, 58, 59, 60, 61, 62, 63, 64, 65, 66, 67, 68, 69, 70, 71, 72, 73, 74, 75, 76, 77, 78, 79, 80, 81, 82, 83, 84, 85, 86, 87, 88, 89, 90, 91, 92, 93, 94, 95, 96, 179, 180, 181, 182, 183, 184, 185, 186, 187, 188, 189, 190, 191, 192, 193, 194, 195, 172, 173, 174, 175, 176, 177, 178] (by decide +kernel) (by decide +kernel)
set_option maxRecDepth 20000 in
theorem gX9_dropAbove_X1_settle : GoodIn wsX9_dropAbove (wsV RX9 219 RX1 yX1_settle wsX1_settle) := goodIn_app (goodIn_of _ (by decide +kernel)) ggX9_dropAbove_X1_settle
set_option maxRecDepth 20000 in
theorem ggX9_dropAbove_X9_findWorst : GoodIn wsX9_dropAbove wsX9_findWorst := goodIn_r _ [101, 102, 103, 104, 3, 105, 106, 107, 108, 21, 109, 23, 110, 111, 112, 113, 114, 115, 116, 117, 118, 119, 120, 25, 121, 24, 26, 27, 28, 29, 30, 31, 122, 123, 124, 125, 126, 127, 128, 129, 130, 131, 132, 55, 56, 57, 58, 133, 134, 135, 136, 137, 138, 139, 140, 141, 142, 143, 144, 145, 146, 147, 148, 149, 6, 7, 8, 150, 64, 65, 66, 67, 68, 151, 152, 153, 154, 155, 156, 157, 158, 159, 160, 161, 162, 163, 164, 165, 166, 167, 168, 169, 170, 171, 184, 185, 186, 187, 188, 189, 190, 191, 192, 193, 194, 195, 172, 173, 174, 175, 176, 177, 178, 196, 197, 198, 199] (by decide +kernel) (by decide +kernel)
set_option maxRecDepth 20000 in
theorem gX9_dropAbove_X9_findWorst : GoodIn wsX9_dropAbove (wsV RX9 255 RX9 yX9_findWorst wsX9_findWorst) := goodIn_app (goodIn_of _ (by decide +kernel)) ggX9_dropAbove_X9_findWorst
set_option maxRecDepth 20000 in
theorem ggX9_dropAbove_X5_doubtOf : GoodIn wsX9_dropAbove wsX5_doubtOf := goodIn_r _ [109, 23, 110, 111, 112, 113, 21, 114, 115, 116, 117, 118, 119, 120, 25, 121, 24, 26, 27, 28, 29, 30, 31, 172, 173, 174, 175, 176, 177, 178, 184, 185, 186, 187, 188, 189, 190, 191, 192, 193, 194, 195] (by decide +kernel) (by decide +kernel)
set_option maxRecDepth 20000 in
theorem gX9_dropAbove_X5_doubtOf : GoodIn wsX9_dropAbove (wsV RX9 251 RX5 yX5_doubtOf wsX5_doubtOf) := goodIn_app (goodIn_of _ (by decide +kernel)) ggX9_dropAbove_X5_doubtOf
theorem dX9_dropAbove_0 : decode cX9_dropAbove 0 = .ok (.aload_n 0, 1) := by decide +kernel
theorem dX9_dropAbove_1 : decode cX9_dropAbove 1 = .ok (.getfield 95, 3) := by decide +kernel
theorem dX9_dropAbove_4 : decode cX9_dropAbove 4 = .ok (.iconst 0, 1) := by decide +kernel
theorem dX9_dropAbove_5 : decode cX9_dropAbove 5 = .ok (.invokestatic 127, 3) := by decide +kernel
theorem dX9_dropAbove_8 : decode cX9_dropAbove 8 = .ok (.aload_n 0, 1) := by decide +kernel
theorem dX9_dropAbove_9 : decode cX9_dropAbove 9 = .ok (.getfield 63, 3) := by decide +kernel
theorem dX9_dropAbove_12 : decode cX9_dropAbove 12 = .ok (.bipush 50, 2) := by decide +kernel
theorem dX9_dropAbove_14 : decode cX9_dropAbove 14 = .ok (.invokevirtual 219, 3) := by decide +kernel
theorem dX9_dropAbove_17 : decode cX9_dropAbove 17 = .ok (.pop, 1) := by decide +kernel
theorem dX9_dropAbove_18 : decode cX9_dropAbove 18 = .ok (.iconst 0, 1) := by decide +kernel
theorem dX9_dropAbove_19 : decode cX9_dropAbove 19 = .ok (.istore_n 3, 1) := by decide +kernel
theorem dX9_dropAbove_20 : decode cX9_dropAbove 20 = .ok (.iload_n 3, 1) := by decide +kernel
theorem dX9_dropAbove_21 : decode cX9_dropAbove 21 = .ok (.bipush 20, 2) := by decide +kernel
theorem dX9_dropAbove_23 : decode cX9_dropAbove 23 = .ok (.if_icmp .ge 66, 3) := by decide +kernel
theorem dX9_dropAbove_26 : decode cX9_dropAbove 26 = .ok (.aload_n 0, 1) := by decide +kernel
theorem dX9_dropAbove_27 : decode cX9_dropAbove 27 = .ok (.invokevirtual 255, 3) := by decide +kernel
theorem dX9_dropAbove_30 : decode cX9_dropAbove 30 = .ok (.istore 4, 2) := by decide +kernel
theorem dX9_dropAbove_32 : decode cX9_dropAbove 32 = .ok (.iload 4, 2) := by decide +kernel
theorem dX9_dropAbove_34 : decode cX9_dropAbove 34 = .ok (.iconst (-1), 1) := by decide +kernel
theorem dX9_dropAbove_35 : decode cX9_dropAbove 35 = .ok (.if_icmp .eq 17, 3) := by decide +kernel
theorem dX9_dropAbove_38 : decode cX9_dropAbove 38 = .ok (.aload_n 0, 1) := by decide +kernel
theorem dX9_dropAbove_39 : decode cX9_dropAbove 39 = .ok (.getfield 41, 3) := by decide +kernel
theorem dX9_dropAbove_42 : decode cX9_dropAbove 42 = .ok (.iload 4, 2) := by decide +kernel
theorem dX9_dropAbove_44 : decode cX9_dropAbove 44 = .ok (.invokevirtual 251, 3) := by decide +kernel
theorem dX9_dropAbove_47 : decode cX9_dropAbove 47 = .ok (.lload_n 1, 1) := by decide +kernel
theorem dX9_dropAbove_48 : decode cX9_dropAbove 48 = .ok (.lcmp, 1) := by decide +kernel
theorem dX9_dropAbove_49 : decode cX9_dropAbove 49 = .ok (.ifCond .gt 5, 3) := by decide +kernel
theorem dX9_dropAbove_52 : decode cX9_dropAbove 52 = .ok (.iload_n 3, 1) := by decide +kernel
theorem dX9_dropAbove_53 : decode cX9_dropAbove 53 = .ok (.ireturn, 1) := by decide +kernel
theorem dX9_dropAbove_54 : decode cX9_dropAbove 54 = .ok (.aload_n 0, 1) := by decide +kernel
theorem dX9_dropAbove_55 : decode cX9_dropAbove 55 = .ok (.getfield 41, 3) := by decide +kernel
theorem dX9_dropAbove_58 : decode cX9_dropAbove 58 = .ok (.getfield 124, 3) := by decide +kernel
theorem dX9_dropAbove_61 : decode cX9_dropAbove 61 = .ok (.iload 4, 2) := by decide +kernel
theorem dX9_dropAbove_63 : decode cX9_dropAbove 63 = .ok (.iconst 1, 1) := by decide +kernel
theorem dX9_dropAbove_64 : decode cX9_dropAbove 64 = .ok (.iastore, 1) := by decide +kernel
theorem dX9_dropAbove_65 : decode cX9_dropAbove 65 = .ok (.aload_n 0, 1) := by decide +kernel
theorem dX9_dropAbove_66 : decode cX9_dropAbove 66 = .ok (.getfield 95, 3) := by decide +kernel
theorem dX9_dropAbove_69 : decode cX9_dropAbove 69 = .ok (.iload 4, 2) := by decide +kernel
theorem dX9_dropAbove_71 : decode cX9_dropAbove 71 = .ok (.iconst 1, 1) := by decide +kernel
theorem dX9_dropAbove_72 : decode cX9_dropAbove 72 = .ok (.iastore, 1) := by decide +kernel
theorem dX9_dropAbove_73 : decode cX9_dropAbove 73 = .ok (.aload_n 0, 1) := by decide +kernel
theorem dX9_dropAbove_74 : decode cX9_dropAbove 74 = .ok (.getfield 63, 3) := by decide +kernel
theorem dX9_dropAbove_77 : decode cX9_dropAbove 77 = .ok (.bipush 50, 2) := by decide +kernel
theorem dX9_dropAbove_79 : decode cX9_dropAbove 79 = .ok (.invokevirtual 219, 3) := by decide +kernel
theorem dX9_dropAbove_82 : decode cX9_dropAbove 82 = .ok (.pop, 1) := by decide +kernel
theorem dX9_dropAbove_83 : decode cX9_dropAbove 83 = .ok (.iinc 3 1, 3) := by decide +kernel
theorem dX9_dropAbove_86 : decode cX9_dropAbove 86 = .ok (.goto (-66), 3) := by decide +kernel
theorem dX9_dropAbove_89 : decode cX9_dropAbove 89 = .ok (.bipush 20, 2) := by decide +kernel
theorem dX9_dropAbove_91 : decode cX9_dropAbove 91 = .ok (.ireturn, 1) := by decide +kernel
set_option maxRecDepth 20000 in
theorem ggX9_putBack_X5_doubtOf : GoodIn wsX9_putBack wsX5_doubtOf := goodIn_r _ [10, 11, 12, 13, 14, 15, 9, 16, 17, 18, 19, 20, 21, 22, 23, 24, 25, 26, 27, 28, 29, 30, 31, 61, 62, 63, 64, 65, 66, 67, 49, 50, 51, 52, 53, 54, 55, 56, 57, 58, 59, 60] (by decide +kernel) (by decide +kernel)
set_option maxRecDepth 20000 in
theorem gX9_putBack_X5_doubtOf : GoodIn wsX9_putBack (wsV RX9 251 RX5 yX5_doubtOf wsX5_doubtOf) := goodIn_app (goodIn_of _ (by decide +kernel)) ggX9_putBack_X5_doubtOf
theorem dX9_putBack_0 : decode cX9_putBack 0 = .ok (.iconst 0, 1) := by decide +kernel
theorem dX9_putBack_1 : decode cX9_putBack 1 = .ok (.istore_n 3, 1) := by decide +kernel
theorem dX9_putBack_2 : decode cX9_putBack 2 = .ok (.iconst 0, 1) := by decide +kernel
theorem dX9_putBack_3 : decode cX9_putBack 3 = .ok (.istore 4, 2) := by decide +kernel
theorem dX9_putBack_5 : decode cX9_putBack 5 = .ok (.iload 4, 2) := by decide +kernel
theorem dX9_putBack_7 : decode cX9_putBack 7 = .ok (.aload_n 0, 1) := by decide +kernel
theorem dX9_putBack_8 : decode cX9_putBack 8 = .ok (.getfield 20, 3) := by decide +kernel
theorem dX9_putBack_11 : decode cX9_putBack 11 = .ok (.getfield 137, 3) := by decide +kernel
theorem dX9_putBack_14 : decode cX9_putBack 14 = .ok (.iconst 3, 1) := by decide +kernel
theorem dX9_putBack_15 : decode cX9_putBack 15 = .ok (.iaload, 1) := by decide +kernel
theorem dX9_putBack_16 : decode cX9_putBack 16 = .ok (.if_icmp .ge 48, 3) := by decide +kernel
theorem dX9_putBack_19 : decode cX9_putBack 19 = .ok (.aload_n 0, 1) := by decide +kernel
theorem dX9_putBack_20 : decode cX9_putBack 20 = .ok (.getfield 95, 3) := by decide +kernel
theorem dX9_putBack_23 : decode cX9_putBack 23 = .ok (.iload 4, 2) := by decide +kernel
theorem dX9_putBack_25 : decode cX9_putBack 25 = .ok (.iaload, 1) := by decide +kernel
theorem dX9_putBack_26 : decode cX9_putBack 26 = .ok (.iconst 1, 1) := by decide +kernel
theorem dX9_putBack_27 : decode cX9_putBack 27 = .ok (.if_icmp .ne 31, 3) := by decide +kernel
theorem dX9_putBack_30 : decode cX9_putBack 30 = .ok (.aload_n 0, 1) := by decide +kernel
theorem dX9_putBack_31 : decode cX9_putBack 31 = .ok (.getfield 41, 3) := by decide +kernel
theorem dX9_putBack_34 : decode cX9_putBack 34 = .ok (.iload 4, 2) := by decide +kernel
theorem dX9_putBack_36 : decode cX9_putBack 36 = .ok (.invokevirtual 251, 3) := by decide +kernel
theorem dX9_putBack_39 : decode cX9_putBack 39 = .ok (.lload_n 1, 1) := by decide +kernel
theorem dX9_putBack_40 : decode cX9_putBack 40 = .ok (.lcmp, 1) := by decide +kernel
theorem dX9_putBack_41 : decode cX9_putBack 41 = .ok (.ifCond .gt 17, 3) := by decide +kernel
theorem dX9_putBack_44 : decode cX9_putBack 44 = .ok (.aload_n 0, 1) := by decide +kernel
theorem dX9_putBack_45 : decode cX9_putBack 45 = .ok (.getfield 41, 3) := by decide +kernel
theorem dX9_putBack_48 : decode cX9_putBack 48 = .ok (.getfield 124, 3) := by decide +kernel
theorem dX9_putBack_51 : decode cX9_putBack 51 = .ok (.iload 4, 2) := by decide +kernel
theorem dX9_putBack_53 : decode cX9_putBack 53 = .ok (.iconst 0, 1) := by decide +kernel
theorem dX9_putBack_54 : decode cX9_putBack 54 = .ok (.iastore, 1) := by decide +kernel
theorem dX9_putBack_55 : decode cX9_putBack 55 = .ok (.iinc 3 1, 3) := by decide +kernel
theorem dX9_putBack_58 : decode cX9_putBack 58 = .ok (.iinc 4 1, 3) := by decide +kernel
theorem dX9_putBack_61 : decode cX9_putBack 61 = .ok (.goto (-56), 3) := by decide +kernel
theorem dX9_putBack_64 : decode cX9_putBack 64 = .ok (.iload_n 3, 1) := by decide +kernel
theorem dX9_putBack_65 : decode cX9_putBack 65 = .ok (.ireturn, 1) := by decide +kernel
set_option maxRecDepth 20000 in
theorem ggX9_tie_X9_areUnlike : GoodIn wsX9_tie wsX9_areUnlike := goodIn_r _ [8, 9, 10, 11, 12, 13, 14, 15, 64, 65, 66, 67, 68, 69, 70, 71, 72, 73, 74, 75, 76, 77, 78, 79, 80, 94, 95, 96, 97, 98, 99, 100, 101, 102, 103, 104, 105] (by decide +kernel) (by decide +kernel)
set_option maxRecDepth 20000 in
theorem gX9_tie_X9_areUnlike : GoodIn wsX9_tie (wsV RX9 265 RX9 yX9_areUnlike wsX9_areUnlike) := goodIn_app (goodIn_of _ (by decide +kernel)) ggX9_tie_X9_areUnlike
set_option maxRecDepth 20000 in
theorem ggX9_tie_X7_survey : GoodIn wsX9_tie wsX7_survey := goodIn_r _ [20, 21, 22, 23, 24, 25, 26, 27, 28, 29, 30, 31, 32, 33, 34, 35, 36, 37, 38, 39, 19, 40, 41, 42, 43, 44, 45, 46, 47, 48, 49, 50, 51, 52, 53, 13, 54, 55, 56, 57, 58, 59, 81, 82, 83, 84, 85, 86, 87, 88, 89, 90, 91, 92, 93, 94, 95, 96, 97, 98, 99, 100, 101, 102, 103, 104, 105, 106, 107, 108, 109, 110, 111, 112] (by decide +kernel) (by decide +kernel)
set_option maxRecDepth 20000 in
theorem gX9_tie_X7_survey : GoodIn wsX9_tie (wsV RX9 268 RX7 yX7_survey wsX7_survey) := goodIn_app (goodIn_of _ (by decide +kernel)) ggX9_tie_X7_survey
set_option maxRecDepth 20000 in
theorem ggX9_tie_X7_stepOf : GoodIn wsX9_tie wsX7_stepOf := goodIn_r _ [63, 42, 43, 81, 82, 83, 84, 85, 86, 87, 88, 89, 90, 91, 92, 93] (by decide +kernel) (by decide +kernel)
set_option maxRecDepth 20000 in
theorem gX9_tie_X7_stepOf : GoodIn wsX9_tie (wsV RX9 274 RX7 yX7_stepOf wsX7_stepOf) := goodIn_app (goodIn_of _ (by decide +kernel)) ggX9_tie_X7_stepOf
theorem dX9_tie_0 : decode cX9_tie 0 = .ok (.aload_n 0, 1) := by decide +kernel
theorem dX9_tie_1 : decode cX9_tie 1 = .ok (.iload_n 1, 1) := by decide +kernel
theorem dX9_tie_2 : decode cX9_tie 2 = .ok (.iload_n 2, 1) := by decide +kernel
theorem dX9_tie_3 : decode cX9_tie 3 = .ok (.invokevirtual 265, 3) := by decide +kernel
theorem dX9_tie_6 : decode cX9_tie 6 = .ok (.ifCond .eq 12, 3) := by decide +kernel
theorem dX9_tie_9 : decode cX9_tie 9 = .ok (.iload_n 3, 1) := by decide +kernel
theorem dX9_tie_10 : decode cX9_tie 10 = .ok (.ifCond .lt 8, 3) := by decide +kernel
theorem dX9_tie_13 : decode cX9_tie 13 = .ok (.iload_n 3, 1) := by decide +kernel
theorem dX9_tie_14 : decode cX9_tie 14 = .ok (.iconst 2, 1) := by decide +kernel
theorem dX9_tie_15 : decode cX9_tie 15 = .ok (.if_icmp .le 6, 3) := by decide +kernel
theorem dX9_tie_18 : decode cX9_tie 18 = .ok (.ldc 158, 2) := by decide +kernel
theorem dX9_tie_20 : decode cX9_tie 20 = .ok (.ireturn, 1) := by decide +kernel
theorem dX9_tie_21 : decode cX9_tie 21 = .ok (.aload_n 0, 1) := by decide +kernel
theorem dX9_tie_22 : decode cX9_tie 22 = .ok (.getfield 84, 3) := by decide +kernel
theorem dX9_tie_25 : decode cX9_tie 25 = .ok (.invokevirtual 268, 3) := by decide +kernel
theorem dX9_tie_28 : decode cX9_tie 28 = .ok (.iload_n 3, 1) := by decide +kernel
theorem dX9_tie_29 : decode cX9_tie 29 = .ok (.ifCond .ne 15, 3) := by decide +kernel
theorem dX9_tie_32 : decode cX9_tie 32 = .ok (.aload_n 0, 1) := by decide +kernel
theorem dX9_tie_33 : decode cX9_tie 33 = .ok (.getfield 84, 3) := by decide +kernel
theorem dX9_tie_36 : decode cX9_tie 36 = .ok (.getfield 271, 3) := by decide +kernel
theorem dX9_tie_39 : decode cX9_tie 39 = .ok (.iload_n 1, 1) := by decide +kernel
theorem dX9_tie_40 : decode cX9_tie 40 = .ok (.aaload, 1) := by decide +kernel
theorem dX9_tie_41 : decode cX9_tie 41 = .ok (.iload_n 2, 1) := by decide +kernel
theorem dX9_tie_42 : decode cX9_tie 42 = .ok (.iaload, 1) := by decide +kernel
theorem dX9_tie_43 : decode cX9_tie 43 = .ok (.ireturn, 1) := by decide +kernel
theorem dX9_tie_44 : decode cX9_tie 44 = .ok (.aload_n 0, 1) := by decide +kernel
theorem dX9_tie_45 : decode cX9_tie 45 = .ok (.getfield 84, 3) := by decide +kernel
theorem dX9_tie_48 : decode cX9_tie 48 = .ok (.getfield 271, 3) := by decide +kernel
theorem dX9_tie_51 : decode cX9_tie 51 = .ok (.iload_n 1, 1) := by decide +kernel
theorem dX9_tie_52 : decode cX9_tie 52 = .ok (.aaload, 1) := by decide +kernel
theorem dX9_tie_53 : decode cX9_tie 53 = .ok (.iload_n 2, 1) := by decide +kernel
theorem dX9_tie_54 : decode cX9_tie 54 = .ok (.iaload, 1) := by decide +kernel
theorem dX9_tie_55 : decode cX9_tie 55 = .ok (.ifCond .ne 6, 3) := by decide +kernel
theorem dX9_tie_58 : decode cX9_tie 58 = .ok (.ldc 158, 2) := by decide +kernel
theorem dX9_tie_60 : decode cX9_tie 60 = .ok (.ireturn, 1) := by decide +kernel
theorem dX9_tie_61 : decode cX9_tie 61 = .ok (.aload_n 0, 1) := by decide +kernel
theorem dX9_tie_62 : decode cX9_tie 62 = .ok (.getfield 84, 3) := by decide +kernel
theorem dX9_tie_65 : decode cX9_tie 65 = .ok (.iload_n 1, 1) := by decide +kernel
theorem dX9_tie_66 : decode cX9_tie 66 = .ok (.iload_n 2, 1) := by decide +kernel
theorem dX9_tie_67 : decode cX9_tie 67 = .ok (.iload_n 3, 1) := by decide +kernel
theorem dX9_tie_68 : decode cX9_tie 68 = .ok (.iconst 1, 1) := by decide +kernel
theorem dX9_tie_69 : decode cX9_tie 69 = .ok (.isub, 1) := by decide +kernel
theorem dX9_tie_70 : decode cX9_tie 70 = .ok (.invokevirtual 274, 3) := by decide +kernel
theorem dX9_tie_73 : decode cX9_tie 73 = .ok (.ireturn, 1) := by decide +kernel
set_option maxRecDepth 20000 in
theorem ggX9_areUnlike_X8_exists : GoodIn wsX9_areUnlike wsX8_exists := goodIn_r _ [6, 7, 25, 26, 27, 28, 29, 30, 31, 32, 33, 34, 35, 36] (by decide +kernel) (by decide +kernel)
set_option maxRecDepth 20000 in
theorem gX9_areUnlike_X8_exists : GoodIn wsX9_areUnlike (wsV RX9 150 RX8 yX8_exists wsX8_exists) := goodIn_app (goodIn_of _ (by decide +kernel)) ggX9_areUnlike_X8_exists
theorem dX9_areUnlike_0 : decode cX9_areUnlike 0 = .ok (.iload_n 1, 1) := by decide +kernel
theorem dX9_areUnlike_1 : decode cX9_areUnlike 1 = .ok (.iload_n 2, 1) := by decide +kernel
theorem dX9_areUnlike_2 : decode cX9_areUnlike 2 = .ok (.if_icmp .eq 31, 3) := by decide +kernel
theorem dX9_areUnlike_5 : decode cX9_areUnlike 5 = .ok (.aload_n 0, 1) := by decide +kernel
theorem dX9_areUnlike_6 : decode cX9_areUnlike 6 = .ok (.getfield 20, 3) := by decide +kernel
theorem dX9_areUnlike_9 : decode cX9_areUnlike 9 = .ok (.iconst 1, 1) := by decide +kernel
theorem dX9_areUnlike_10 : decode cX9_areUnlike 10 = .ok (.iload_n 1, 1) := by decide +kernel
theorem dX9_areUnlike_11 : decode cX9_areUnlike 11 = .ok (.invokevirtual 150, 3) := by decide +kernel
theorem dX9_areUnlike_14 : decode cX9_areUnlike 14 = .ok (.ifCond .eq 19, 3) := by decide +kernel
theorem dX9_areUnlike_17 : decode cX9_areUnlike 17 = .ok (.aload_n 0, 1) := by decide +kernel
theorem dX9_areUnlike_18 : decode cX9_areUnlike 18 = .ok (.getfield 20, 3) := by decide +kernel
theorem dX9_areUnlike_21 : decode cX9_areUnlike 21 = .ok (.iconst 1, 1) := by decide +kernel
theorem dX9_areUnlike_22 : decode cX9_areUnlike 22 = .ok (.iload_n 2, 1) := by decide +kernel
theorem dX9_areUnlike_23 : decode cX9_areUnlike 23 = .ok (.invokevirtual 150, 3) := by decide +kernel
theorem dX9_areUnlike_26 : decode cX9_areUnlike 26 = .ok (.ifCond .eq 7, 3) := by decide +kernel
theorem dX9_areUnlike_29 : decode cX9_areUnlike 29 = .ok (.iconst 1, 1) := by decide +kernel
theorem dX9_areUnlike_30 : decode cX9_areUnlike 30 = .ok (.goto 4, 3) := by decide +kernel
theorem dX9_areUnlike_33 : decode cX9_areUnlike 33 = .ok (.iconst 0, 1) := by decide +kernel
theorem dX9_areUnlike_34 : decode cX9_areUnlike 34 = .ok (.ireturn, 1) := by decide +kernel
set_option maxRecDepth 20000 in
theorem ggX9_loop_X9_isAxis : GoodIn wsX9_loop wsX9_isAxis := goodIn_r _ [6] (by decide +kernel) (by decide +kernel)
set_option maxRecDepth 20000 in
theorem gX9_loop_X9_isAxis : GoodIn wsX9_loop (va_wsS RX9 210 yX9_isAxis wsX9_isAxis) := goodIn_app (goodIn_of _ (by decide +kernel)) ggX9_loop_X9_isAxis
set_option maxRecDepth 20000 in
theorem ggX9_loop_X9_areUnlike : GoodIn wsX9_loop wsX9_areUnlike := goodIn_r _ [10, 11, 12, 13, 14, 15, 16, 17, 74, 75, 76, 77, 78, 79, 80, 81, 82, 83, 84, 85, 86, 87, 88, 89, 90, 91, 92, 93, 94, 95, 96, 97, 98, 99, 100, 101, 102] (by decide +kernel) (by decide +kernel)
set_option maxRecDepth 20000 in
theorem gX9_loop_X9_areUnlike : GoodIn wsX9_loop (wsV RX9 265 RX9 yX9_areUnlike wsX9_areUnlike) := goodIn_app (goodIn_of _ (by decide +kernel)) ggX9_loop_X9_areUnlike
set_option maxRecDepth 20000 in
theorem ggX9_loop_X7_survey : GoodIn wsX9_loop wsX7_survey := goodIn_r _ [22, 23, 24, 25, 26, 27, 28, 29, 30, 31, 32, 33, 34, 35, 36, 37, 38, 39, 40, 41, 21, 42, 43, 44, 45, 46, 47, 48, 49, 50, 51, 52, 53, 54, 55, 15, 56, 57, 58, 59, 60, 61, 103, 104, 105, 106, 107, 108, 109, 110, 111, 112, 113, 114, 115, 91, 92, 93, 94, 95, 96, 97, 98, 99, 100, 101, 102, 116, 117, 118, 119, 120, 121, 122] (by decide +kernel) (by decide +kernel)
set_option maxRecDepth 20000 in
theorem gX9_loop_X7_survey : GoodIn wsX9_loop (wsV RX9 268 RX7 yX7_survey wsX7_survey) := goodIn_app (goodIn_of _ (by decide +kernel)) ggX9_loop_X7_survey
set_option maxRecDepth 20000 in
theorem ggX9_loop_X7_isLoop : GoodIn wsX9_loop wsX7_isLoop := goodIn_r _ [65, 43, 103, 104, 105, 106, 107, 108, 109, 110, 111, 112, 113, 114, 115] (by decide +kernel) (by decide +kernel)
set_option maxRecDepth 20000 in
theorem gX9_loop_X7_isLoop : GoodIn wsX9_loop (wsV RX9 278 RX7 yX7_isLoop wsX7_isLoop) := goodIn_app (goodIn_of _ (by decide +kernel)) ggX9_loop_X7_isLoop
set_option maxRecDepth 20000 in
theorem ggX9_loop_X7_loopOf : GoodIn wsX9_loop wsX7_loopOf := goodIn_r _ [69, 70, 71, 72, 21, 73, 44, 45, 103, 104, 105, 106, 107, 108, 109, 110, 111, 112, 113, 114, 115] (by decide +kernel) (by decide +kernel)
set_option maxRecDepth 20000 in
theorem gX9_loop_X7_loopOf : GoodIn wsX9_loop (wsV RX9 282 RX7 yX7_loopOf wsX7_loopOf) := goodIn_app (goodIn_of _ (by decide +kernel)) ggX9_loop_X7_loopOf
theorem dX9_loop_0 : decode cX9_loop 0 = .ok (.iload 4, 2) := by decide +kernel
theorem dX9_loop_2 : decode cX9_loop 2 = .ok (.invokestatic 210, 3) := by decide +kernel
theorem dX9_loop_5 : decode cX9_loop 5 = .ok (.ifCond .ne 6, 3) := by decide +kernel
theorem dX9_loop_8 : decode cX9_loop 8 = .ok (.ldc 158, 2) := by decide +kernel
theorem dX9_loop_10 : decode cX9_loop 10 = .ok (.ireturn, 1) := by decide +kernel
theorem dX9_loop_11 : decode cX9_loop 11 = .ok (.aload_n 0, 1) := by decide +kernel
theorem dX9_loop_12 : decode cX9_loop 12 = .ok (.iload_n 1, 1) := by decide +kernel
theorem dX9_loop_13 : decode cX9_loop 13 = .ok (.iload_n 2, 1) := by decide +kernel
theorem dX9_loop_14 : decode cX9_loop 14 = .ok (.invokevirtual 265, 3) := by decide +kernel
theorem dX9_loop_17 : decode cX9_loop 17 = .ok (.ifCond .eq 21, 3) := by decide +kernel
theorem dX9_loop_20 : decode cX9_loop 20 = .ok (.aload_n 0, 1) := by decide +kernel
theorem dX9_loop_21 : decode cX9_loop 21 = .ok (.iload_n 2, 1) := by decide +kernel
theorem dX9_loop_22 : decode cX9_loop 22 = .ok (.iload_n 3, 1) := by decide +kernel
theorem dX9_loop_23 : decode cX9_loop 23 = .ok (.invokevirtual 265, 3) := by decide +kernel
theorem dX9_loop_26 : decode cX9_loop 26 = .ok (.ifCond .eq 12, 3) := by decide +kernel
theorem dX9_loop_29 : decode cX9_loop 29 = .ok (.aload_n 0, 1) := by decide +kernel
theorem dX9_loop_30 : decode cX9_loop 30 = .ok (.iload_n 3, 1) := by decide +kernel
theorem dX9_loop_31 : decode cX9_loop 31 = .ok (.iload_n 1, 1) := by decide +kernel
theorem dX9_loop_32 : decode cX9_loop 32 = .ok (.invokevirtual 265, 3) := by decide +kernel
theorem dX9_loop_35 : decode cX9_loop 35 = .ok (.ifCond .ne 6, 3) := by decide +kernel
theorem dX9_loop_38 : decode cX9_loop 38 = .ok (.ldc 158, 2) := by decide +kernel
theorem dX9_loop_40 : decode cX9_loop 40 = .ok (.ireturn, 1) := by decide +kernel
theorem dX9_loop_41 : decode cX9_loop 41 = .ok (.aload_n 0, 1) := by decide +kernel
theorem dX9_loop_42 : decode cX9_loop 42 = .ok (.getfield 84, 3) := by decide +kernel
theorem dX9_loop_45 : decode cX9_loop 45 = .ok (.invokevirtual 268, 3) := by decide +kernel
theorem dX9_loop_48 : decode cX9_loop 48 = .ok (.aload_n 0, 1) := by decide +kernel
theorem dX9_loop_49 : decode cX9_loop 49 = .ok (.getfield 84, 3) := by decide +kernel
theorem dX9_loop_52 : decode cX9_loop 52 = .ok (.iload_n 1, 1) := by decide +kernel
theorem dX9_loop_53 : decode cX9_loop 53 = .ok (.iload_n 2, 1) := by decide +kernel
theorem dX9_loop_54 : decode cX9_loop 54 = .ok (.iload_n 3, 1) := by decide +kernel
theorem dX9_loop_55 : decode cX9_loop 55 = .ok (.invokevirtual 278, 3) := by decide +kernel
theorem dX9_loop_58 : decode cX9_loop 58 = .ok (.ifCond .ne 6, 3) := by decide +kernel
theorem dX9_loop_61 : decode cX9_loop 61 = .ok (.ldc 158, 2) := by decide +kernel
theorem dX9_loop_63 : decode cX9_loop 63 = .ok (.ireturn, 1) := by decide +kernel
theorem dX9_loop_64 : decode cX9_loop 64 = .ok (.aload_n 0, 1) := by decide +kernel
theorem dX9_loop_65 : decode cX9_loop 65 = .ok (.getfield 84, 3) := by decide +kernel
theorem dX9_loop_68 : decode cX9_loop 68 = .ok (.iload_n 1, 1) := by decide +kernel
theorem dX9_loop_69 : decode cX9_loop 69 = .ok (.iload_n 2, 1) := by decide +kernel
theorem dX9_loop_70 : decode cX9_loop 70 = .ok (.iload_n 3, 1) := by decide +kernel
theorem dX9_loop_71 : decode cX9_loop 71 = .ok (.iload 4, 2) := by decide +kernel
theorem dX9_loop_73 : decode cX9_loop 73 = .ok (.invokevirtual 282, 3) := by decide +kernel
theorem dX9_loop_76 : decode cX9_loop 76 = .ok (.ireturn, 1) := by decide +kernel
set_option maxRecDepth 20000 in
theorem ggX9_gap_X7_survey : GoodIn wsX9_gap wsX7_survey := goodIn_r _ [8, 9, 10, 11, 12, 13, 14, 15, 16, 17, 18, 19, 20, 21, 22, 23, 24, 25, 26, 27, 7, 28, 29, 30, 31, 32, 33, 34, 35, 36, 37, 38, 39, 40, 41, 42, 43, 44, 45, 46, 47, 48, 92, 93, 94, 95, 96, 97, 98, 99, 100, 101, 102, 103, 104, 105, 106, 107, 108, 109, 110, 111, 112, 113, 114, 115, 116, 117, 118, 119, 120, 121, 122, 123] (by decide +kernel) (by decide +kernel)
set_option maxRecDepth 20000 in
theorem gX9_gap_X7_survey : GoodIn wsX9_gap (wsV RX9 268 RX7 yX7_survey wsX7_survey) := goodIn_app (goodIn_of _ (by decide +kernel)) ggX9_gap_X7_survey
set_option maxRecDepth 20000 in
theorem ggX9_gap_X7_findGap : GoodIn wsX9_gap wsX7_findGap := goodIn_r _ [52, 53, 54, 9, 10, 55, 56, 57, 7, 58, 29, 59, 60, 61, 62, 63, 64, 65, 66, 67, 68, 69, 70, 71, 72, 73, 74, 30, 31, 92, 93, 94, 95, 96, 97, 98, 99, 100, 101, 102, 103, 104, 105, 106, 107, 108, 109, 110, 111, 112, 113, 114, 115, 116] (by decide +kernel) (by decide +kernel)
set_option maxRecDepth 20000 in
theorem gX9_gap_X7_findGap : GoodIn wsX9_gap (wsV RX9 286 RX7 yX7_findGap wsX7_findGap) := goodIn_app (goodIn_of _ (by decide +kernel)) ggX9_gap_X7_findGap
theorem dX9_gap_0 : decode cX9_gap 0 = .ok (.iload_n 1, 1) := by decide +kernel
theorem dX9_gap_1 : decode cX9_gap 1 = .ok (.ifCond .eq 10, 3) := by decide +kernel
theorem dX9_gap_4 : decode cX9_gap 4 = .ok (.iload_n 1, 1) := by decide +kernel
theorem dX9_gap_5 : decode cX9_gap 5 = .ok (.iconst 1, 1) := by decide +kernel
theorem dX9_gap_6 : decode cX9_gap 6 = .ok (.if_icmp .eq 5, 3) := by decide +kernel
theorem dX9_gap_9 : decode cX9_gap 9 = .ok (.iconst (-1), 1) := by decide +kernel
theorem dX9_gap_10 : decode cX9_gap 10 = .ok (.ireturn, 1) := by decide +kernel
theorem dX9_gap_11 : decode cX9_gap 11 = .ok (.aload_n 0, 1) := by decide +kernel
theorem dX9_gap_12 : decode cX9_gap 12 = .ok (.getfield 84, 3) := by decide +kernel
theorem dX9_gap_15 : decode cX9_gap 15 = .ok (.invokevirtual 268, 3) := by decide +kernel
theorem dX9_gap_18 : decode cX9_gap 18 = .ok (.aload_n 0, 1) := by decide +kernel
theorem dX9_gap_19 : decode cX9_gap 19 = .ok (.getfield 84, 3) := by decide +kernel
theorem dX9_gap_22 : decode cX9_gap 22 = .ok (.invokevirtual 286, 3) := by decide +kernel
theorem dX9_gap_25 : decode cX9_gap 25 = .ok (.iload_n 1, 1) := by decide +kernel
theorem dX9_gap_26 : decode cX9_gap 26 = .ok (.ifCond .ne 13, 3) := by decide +kernel
theorem dX9_gap_29 : decode cX9_gap 29 = .ok (.aload_n 0, 1) := by decide +kernel
theorem dX9_gap_30 : decode cX9_gap 30 = .ok (.getfield 84, 3) := by decide +kernel
theorem dX9_gap_33 : decode cX9_gap 33 = .ok (.getfield 289, 3) := by decide +kernel
theorem dX9_gap_36 : decode cX9_gap 36 = .ok (.goto 10, 3) := by decide +kernel
theorem dX9_gap_39 : decode cX9_gap 39 = .ok (.aload_n 0, 1) := by decide +kernel
theorem dX9_gap_40 : decode cX9_gap 40 = .ok (.getfield 84, 3) := by decide +kernel
theorem dX9_gap_43 : decode cX9_gap 43 = .ok (.getfield 292, 3) := by decide +kernel
theorem dX9_gap_46 : decode cX9_gap 46 = .ok (.ireturn, 1) := by decide +kernel
set_option maxRecDepth 20000 in
theorem ggX9_tree_X7_survey : GoodIn wsX9_tree wsX7_survey := goodIn_r _ [9, 10, 11, 12, 13, 14, 15, 16, 17, 18, 19, 20, 21, 22, 23, 24, 25, 26, 27, 28, 8, 29, 30, 31, 32, 33, 34, 35, 36, 37, 38, 39, 40, 41, 42, 43, 44, 45, 46, 47, 48, 49, 79, 80, 81, 82, 83, 84, 85, 86, 87, 88, 89, 90, 91, 92, 93, 94, 95, 96, 97, 98, 99, 100, 101, 102, 103, 104, 105, 106, 107, 108, 109, 110] (by decide +kernel) (by decide +kernel)
set_option maxRecDepth 20000 in
theorem gX9_tree_X7_survey : GoodIn wsX9_tree (wsV RX9 268 RX7 yX7_survey wsX7_survey) := goodIn_app (goodIn_of _ (by decide +kernel)) ggX9_tree_X7_survey
set_option maxRecDepth 20000 in
theorem ggX9_tree_X7_growTree : GoodIn wsX9_tree wsX7_growTree := goodIn_r _ [53, 54, 55, 10, 11, 56, 57, 58, 8, 59, 30, 60, 61, 79, 80, 81, 82, 83, 84, 85, 86, 87, 88, 89, 90, 91, 92, 93, 94, 95, 96, 97, 98, 99, 100, 101, 102, 103] (by decide +kernel) (by decide +kernel)
set_option maxRecDepth 20000 in
theorem gX9_tree_X7_growTree : GoodIn wsX9_tree (wsV RX9 295 RX7 yX7_growTree wsX7_growTree) := goodIn_app (goodIn_of _ (by decide +kernel)) ggX9_tree_X7_growTree
theorem dX9_tree_0 : decode cX9_tree 0 = .ok (.aload_n 0, 1) := by decide +kernel
theorem dX9_tree_1 : decode cX9_tree 1 = .ok (.getfield 84, 3) := by decide +kernel
theorem dX9_tree_4 : decode cX9_tree 4 = .ok (.invokevirtual 268, 3) := by decide +kernel
theorem dX9_tree_7 : decode cX9_tree 7 = .ok (.aload_n 0, 1) := by decide +kernel
theorem dX9_tree_8 : decode cX9_tree 8 = .ok (.getfield 84, 3) := by decide +kernel
theorem dX9_tree_11 : decode cX9_tree 11 = .ok (.invokevirtual 295, 3) := by decide +kernel
theorem dX9_tree_14 : decode cX9_tree 14 = .ok (.iload_n 1, 1) := by decide +kernel
theorem dX9_tree_15 : decode cX9_tree 15 = .ok (.iconst (-1), 1) := by decide +kernel
theorem dX9_tree_16 : decode cX9_tree 16 = .ok (.if_icmp .ne 11, 3) := by decide +kernel
theorem dX9_tree_19 : decode cX9_tree 19 = .ok (.aload_n 0, 1) := by decide +kernel
theorem dX9_tree_20 : decode cX9_tree 20 = .ok (.getfield 84, 3) := by decide +kernel
theorem dX9_tree_23 : decode cX9_tree 23 = .ok (.getfield 298, 3) := by decide +kernel
theorem dX9_tree_26 : decode cX9_tree 26 = .ok (.ireturn, 1) := by decide +kernel
theorem dX9_tree_27 : decode cX9_tree 27 = .ok (.iload_n 1, 1) := by decide +kernel
theorem dX9_tree_28 : decode cX9_tree 28 = .ok (.ifCond .lt 14, 3) := by decide +kernel
theorem dX9_tree_31 : decode cX9_tree 31 = .ok (.iload_n 1, 1) := by decide +kernel
theorem dX9_tree_32 : decode cX9_tree 32 = .ok (.aload_n 0, 1) := by decide +kernel
theorem dX9_tree_33 : decode cX9_tree 33 = .ok (.getfield 84, 3) := by decide +kernel
theorem dX9_tree_36 : decode cX9_tree 36 = .ok (.getfield 298, 3) := by decide +kernel
theorem dX9_tree_39 : decode cX9_tree 39 = .ok (.if_icmp .lt 5, 3) := by decide +kernel
theorem dX9_tree_42 : decode cX9_tree 42 = .ok (.iconst (-1), 1) := by decide +kernel
theorem dX9_tree_43 : decode cX9_tree 43 = .ok (.ireturn, 1) := by decide +kernel
theorem dX9_tree_44 : decode cX9_tree 44 = .ok (.bipush 100, 2) := by decide +kernel
theorem dX9_tree_46 : decode cX9_tree 46 = .ok (.aload_n 0, 1) := by decide +kernel
theorem dX9_tree_47 : decode cX9_tree 47 = .ok (.getfield 84, 3) := by decide +kernel
theorem dX9_tree_50 : decode cX9_tree 50 = .ok (.getfield 301, 3) := by decide +kernel
theorem dX9_tree_53 : decode cX9_tree 53 = .ok (.iload_n 1, 1) := by decide +kernel
theorem dX9_tree_54 : decode cX9_tree 54 = .ok (.iaload, 1) := by decide +kernel
theorem dX9_tree_55 : decode cX9_tree 55 = .ok (.imul, 1) := by decide +kernel
theorem dX9_tree_56 : decode cX9_tree 56 = .ok (.aload_n 0, 1) := by decide +kernel
theorem dX9_tree_57 : decode cX9_tree 57 = .ok (.getfield 84, 3) := by decide +kernel
theorem dX9_tree_60 : decode cX9_tree 60 = .ok (.getfield 304, 3) := by decide +kernel
theorem dX9_tree_63 : decode cX9_tree 63 = .ok (.iload_n 1, 1) := by decide +kernel
theorem dX9_tree_64 : decode cX9_tree 64 = .ok (.iaload, 1) := by decide +kernel
theorem dX9_tree_65 : decode cX9_tree 65 = .ok (.iadd, 1) := by decide +kernel
theorem dX9_tree_66 : decode cX9_tree 66 = .ok (.ireturn, 1) := by decide +kernel
set_option maxRecDepth 20000 in
theorem ggX9_plan_X7_survey : GoodIn wsX9_plan wsX7_survey := goodIn_r _ [6, 7, 8, 9, 10, 11, 12, 13, 14, 15, 16, 17, 18, 19, 20, 21, 22, 23, 24, 25, 5, 26, 27, 28, 29, 30, 31, 32, 33, 34, 35, 36, 37, 38, 39, 40, 41, 42, 43, 44, 45, 46, 85, 86, 87, 88, 89, 90, 91, 92, 93, 94, 95, 96, 97, 98, 99, 100, 101, 102, 103, 104, 105, 106, 107, 108, 109, 110, 111, 112, 113, 114, 115, 116] (by decide +kernel) (by decide +kernel)
set_option maxRecDepth 20000 in
theorem gX9_plan_X7_survey : GoodIn wsX9_plan (wsV RX9 268 RX7 yX7_survey wsX7_survey) := goodIn_app (goodIn_of _ (by decide +kernel)) ggX9_plan_X7_survey
set_option maxRecDepth 20000 in
theorem ggX9_plan_X7_growTree : GoodIn wsX9_plan wsX7_growTree := goodIn_r _ [50, 51, 52, 7, 8, 53, 54, 55, 5, 56, 27, 57, 58, 85, 86, 87, 88, 89, 90, 91, 92, 93, 94, 95, 96, 97, 98, 99, 100, 101, 102, 103, 104, 105, 106, 107, 108, 109] (by decide +kernel) (by decide +kernel)
set_option maxRecDepth 20000 in
theorem gX9_plan_X7_growTree : GoodIn wsX9_plan (wsV RX9 295 RX7 yX7_growTree wsX7_growTree) := goodIn_app (goodIn_of _ (by decide +kernel)) ggX9_plan_X7_growTree
set_option maxRecDepth 20000 in
theorem ggX9_plan_X7_countPlanned : GoodIn wsX9_plan wsX7_countPlanned := goodIn_r _ [62, 63, 51, 57, 58, 7, 8, 13, 14, 15, 16, 64, 65, 66, 5, 67, 9, 85, 86, 87, 88, 89, 90, 91, 92, 93, 94, 95, 96, 97, 98, 99, 100, 101, 102, 103, 104, 105, 106, 107, 108, 109] (by decide +kernel) (by decide +kernel)
set_option maxRecDepth 20000 in
theorem gX9_plan_X7_countPlanned : GoodIn wsX9_plan (wsV RX9 307 RX7 yX7_countPlanned wsX7_countPlanned) := goodIn_app (goodIn_of _ (by decide +kernel)) ggX9_plan_X7_countPlanned
theorem dX9_plan_0 : decode cX9_plan 0 = .ok (.iload_n 1, 1) := by decide +kernel
theorem dX9_plan_1 : decode cX9_plan 1 = .ok (.iconst 1, 1) := by decide +kernel
theorem dX9_plan_2 : decode cX9_plan 2 = .ok (.if_icmp .lt 9, 3) := by decide +kernel
theorem dX9_plan_5 : decode cX9_plan 5 = .ok (.iload_n 1, 1) := by decide +kernel
theorem dX9_plan_6 : decode cX9_plan 6 = .ok (.bipush 20, 2) := by decide +kernel
theorem dX9_plan_8 : decode cX9_plan 8 = .ok (.if_icmp .le 5, 3) := by decide +kernel
theorem dX9_plan_11 : decode cX9_plan 11 = .ok (.iconst (-1), 1) := by decide +kernel
theorem dX9_plan_12 : decode cX9_plan 12 = .ok (.ireturn, 1) := by decide +kernel
theorem dX9_plan_13 : decode cX9_plan 13 = .ok (.aload_n 0, 1) := by decide +kernel
theorem dX9_plan_14 : decode cX9_plan 14 = .ok (.getfield 84, 3) := by decide +kernel
theorem dX9_plan_17 : decode cX9_plan 17 = .ok (.invokevirtual 268, 3) := by decide +kernel
theorem dX9_plan_20 : decode cX9_plan 20 = .ok (.aload_n 0, 1) := by decide +kernel
theorem dX9_plan_21 : decode cX9_plan 21 = .ok (.getfield 84, 3) := by decide +kernel
theorem dX9_plan_24 : decode cX9_plan 24 = .ok (.invokevirtual 295, 3) := by decide +kernel
theorem dX9_plan_27 : decode cX9_plan 27 = .ok (.aload_n 0, 1) := by decide +kernel
theorem dX9_plan_28 : decode cX9_plan 28 = .ok (.getfield 84, 3) := by decide +kernel
theorem dX9_plan_31 : decode cX9_plan 31 = .ok (.iload_n 1, 1) := by decide +kernel
theorem dX9_plan_32 : decode cX9_plan 32 = .ok (.invokevirtual 307, 3) := by decide +kernel
theorem dX9_plan_35 : decode cX9_plan 35 = .ok (.ireturn, 1) := by decide +kernel
set_option maxRecDepth 20000 in
theorem ggX9_differ_X8_exists : GoodIn wsX9_differ wsX8_exists := goodIn_r _ [9, 10, 227, 228, 229, 230, 231, 232, 233, 234, 235, 236, 237, 238] (by decide +kernel) (by decide +kernel)
set_option maxRecDepth 20000 in
theorem gX9_differ_X8_exists : GoodIn wsX9_differ (wsV RX9 150 RX8 yX8_exists wsX8_exists) := goodIn_app (goodIn_of _ (by decide +kernel)) ggX9_differ_X8_exists
set_option maxRecDepth 20000 in
theorem ggX9_differ_X9_isAxis : GoodIn wsX9_differ wsX9_isAxis := goodIn_r _ [14] (by decide +kernel) (by decide +kernel)
set_option maxRecDepth 20000 in
theorem gX9_differ_X9_isAxis : GoodIn wsX9_differ (va_wsS RX9 210 yX9_isAxis wsX9_isAxis) := goodIn_app (goodIn_of _ (by decide +kernel)) ggX9_differ_X9_isAxis
set_option maxRecDepth 20000 in
theorem ggX9_differ_X5_takeFrom : GoodIn wsX9_differ wsX5_takeFrom := goodIn_r _ [19, 20, 21, 22, 23, 24, 25, 26, 13, 27, 28, 29, 30, 31, 32, 33, 34, 35, 239, 240, 241, 242, 243, 244, 245] (by decide +kernel) (by decide +kernel)
set_option maxRecDepth 20000 in
theorem gX9_differ_X5_takeFrom : GoodIn wsX9_differ (wsV RX9 310 RX5 yX5_takeFrom wsX5_takeFrom) := goodIn_app (goodIn_of _ (by decide +kernel)) ggX9_differ_X5_takeFrom
set_option maxRecDepth 20000 in
theorem ggX9_differ_X9_placeBySet : GoodIn wsX9_differ wsX9_placeBySet := goodIn_r _ [39, 4, 40, 41, 42, 43, 44, 45, 46, 47, 48, 49, 50, 51, 52, 53, 54, 55, 56, 57, 58, 59, 60, 61, 62, 63, 64, 65, 66, 67, 68, 69, 70, 71, 72, 73, 74, 75, 76, 77, 78, 79, 80, 18, 81, 22, 82, 83, 84, 85, 86, 87, 23, 21, 88, 89, 90, 8, 91, 92, 93, 94, 95, 96, 97, 98, 99, 100, 101, 102, 103, 104, 105, 106, 107, 108, 109, 110, 111, 112, 113, 114, 115, 116, 117, 118, 119, 30, 120, 121, 122, 123, 124, 125, 126, 127, 128, 129, 130, 131, 132, 133, 134, 24, 135, 136, 137, 138, 139, 20, 140, 141, 142, 143, 144, 145, 146, 147, 148, 149, 150, 151, 152, 153, 154, 155, 156, 157, 158, 159, 160, 161, 162, 163, 164, 165, 166, 167, 168, 169, 170, 171, 172, 173, 174, 175, 176, 177, 178, 179, 180, 181, 182, 183, 184, 185, 186, 187, 188, 189, 190, 191, 192, 193, 194, 195, 196, 197, 198, 199, 200, 25, 201, 202, 203, 204, 205, 206, 207, 208, 209, 210, 211, 212, 213, 214, 215, 216, 217, 218, 219, 220, 221, 222, 223, 224, 225, 226, 239, 240, 241, 242, 243, 244, 245, 246, 247, 248, 249, 250, 251, 227, 228, 229, 230, 231, 232, 233, 234, 235, 236, 237, 238, 252, 253, 254, 255, 256] (by decide +kernel) (by decide +kernel)
set_option maxRecDepth 20000 in
theorem gX9_differ_X9_placeBySet : GoodIn wsX9_differ (wsV RX9 313 RX9 yX9_placeBySet wsX9_placeBySet) := goodIn_app (goodIn_of _ (by decide +kernel)) ggX9_differ_X9_placeBySet
theorem dX9_differ_0 : decode cX9_differ 0 = .ok (.aload_n 0, 1) := by decide +kernel
theorem dX9_differ_1 : decode cX9_differ 1 = .ok (.getfield 20, 3) := by decide +kernel
theorem dX9_differ_4 : decode cX9_differ 4 = .ok (.iconst 1, 1) := by decide +kernel
theorem dX9_differ_5 : decode cX9_differ 5 = .ok (.iload_n 1, 1) := by decide +kernel
theorem dX9_differ_6 : decode cX9_differ 6 = .ok (.invokevirtual 150, 3) := by decide +kernel
theorem dX9_differ_9 : decode cX9_differ 9 = .ok (.ifCond .eq 10, 3) := by decide +kernel
theorem dX9_differ_12 : decode cX9_differ 12 = .ok (.iload_n 2, 1) := by decide +kernel
theorem dX9_differ_13 : decode cX9_differ 13 = .ok (.invokestatic 210, 3) := by decide +kernel
theorem dX9_differ_16 : decode cX9_differ 16 = .ok (.ifCond .ne 6, 3) := by decide +kernel
theorem dX9_differ_19 : decode cX9_differ 19 = .ok (.ldc 158, 2) := by decide +kernel
theorem dX9_differ_21 : decode cX9_differ 21 = .ok (.ireturn, 1) := by decide +kernel
theorem dX9_differ_22 : decode cX9_differ 22 = .ok (.aload_n 0, 1) := by decide +kernel
theorem dX9_differ_23 : decode cX9_differ 23 = .ok (.getfield 45, 3) := by decide +kernel
theorem dX9_differ_26 : decode cX9_differ 26 = .ok (.aload_n 0, 1) := by decide +kernel
theorem dX9_differ_27 : decode cX9_differ 27 = .ok (.getfield 41, 3) := by decide +kernel
theorem dX9_differ_30 : decode cX9_differ 30 = .ok (.invokevirtual 310, 3) := by decide +kernel
theorem dX9_differ_33 : decode cX9_differ 33 = .ok (.aload_n 0, 1) := by decide +kernel
theorem dX9_differ_34 : decode cX9_differ 34 = .ok (.iconst 1, 1) := by decide +kernel
theorem dX9_differ_35 : decode cX9_differ 35 = .ok (.iload_n 1, 1) := by decide +kernel
theorem dX9_differ_36 : decode cX9_differ 36 = .ok (.iload_n 2, 1) := by decide +kernel
theorem dX9_differ_37 : decode cX9_differ 37 = .ok (.invokevirtual 313, 3) := by decide +kernel
theorem dX9_differ_40 : decode cX9_differ 40 = .ok (.istore_n 3, 1) := by decide +kernel
theorem dX9_differ_41 : decode cX9_differ 41 = .ok (.aload_n 0, 1) := by decide +kernel
theorem dX9_differ_42 : decode cX9_differ 42 = .ok (.iconst 2, 1) := by decide +kernel
theorem dX9_differ_43 : decode cX9_differ 43 = .ok (.iload_n 1, 1) := by decide +kernel
theorem dX9_differ_44 : decode cX9_differ 44 = .ok (.iload_n 2, 1) := by decide +kernel
theorem dX9_differ_45 : decode cX9_differ 45 = .ok (.invokevirtual 313, 3) := by decide +kernel
theorem dX9_differ_48 : decode cX9_differ 48 = .ok (.istore 4, 2) := by decide +kernel
theorem dX9_differ_50 : decode cX9_differ 50 = .ok (.aload_n 0, 1) := by decide +kernel
theorem dX9_differ_51 : decode cX9_differ 51 = .ok (.getfield 41, 3) := by decide +kernel
theorem dX9_differ_54 : decode cX9_differ 54 = .ok (.aload_n 0, 1) := by decide +kernel
theorem dX9_differ_55 : decode cX9_differ 55 = .ok (.getfield 45, 3) := by decide +kernel
theorem dX9_differ_58 : decode cX9_differ 58 = .ok (.invokevirtual 310, 3) := by decide +kernel
theorem dX9_differ_61 : decode cX9_differ 61 = .ok (.iload_n 3, 1) := by decide +kernel
theorem dX9_differ_62 : decode cX9_differ 62 = .ok (.iload 4, 2) := by decide +kernel
theorem dX9_differ_64 : decode cX9_differ 64 = .ok (.isub, 1) := by decide +kernel
theorem dX9_differ_65 : decode cX9_differ 65 = .ok (.ireturn, 1) := by decide +kernel
set_option maxRecDepth 20000 in
theorem ggX9_placeBySet_X6_begin : GoodIn wsX9_placeBySet wsX6_begin := goodIn_r _ [10, 11, 12, 13, 14, 15, 16, 9, 17, 18, 19, 20, 21, 22, 23, 24, 25, 26, 27, 28, 29, 30, 31, 32, 33, 34, 35, 36, 37, 38, 39, 40, 41, 42, 43, 44, 45, 46, 47, 48, 49, 50, 51, 52, 53, 54, 55, 56, 57, 58, 59, 60, 61, 62, 63, 64, 65, 66, 67, 68, 69, 70, 71, 72, 73, 74, 75, 76, 77, 78, 79, 80, 81, 82, 83, 84, 85, 86, 87, 88, 89, 90, 91, 92, 93, 94, 95, 96, 97, 98, 99, 100, 101, 102, 103, 104, 105, 106, 107, 108, 109, 110, 111, 112, 113, 114, 205, 206, 207, 208, 209, 210, 211, 212, 213, 214, 215, 216, 217, 218, 219, 220, 221, 222, 198, 199, 200, 201, 202, 203, 204] (by decide +kernel) (by decide +kernel)
set_option maxRecDepth 20000 in
theorem gX9_placeBySet_X6_begin : GoodIn wsX9_placeBySet (wsV RX9 133 RX6 yX6_begin wsX6_begin) := goodIn_app (goodIn_of _ (by decide +kernel)) ggX9_placeBySet_X6_begin
set_option maxRecDepth 20000 in
theorem ggX9_placeBySet_X1_settle : GoodIn wsX9_placeBySet wsX1_settle := goodIn_r _ [119, 120, 121, 122, 123, 124, 91, 92, 43, 93, 50, 53, 51, 54, 55, 56, 57, 58, 59, 125, 126, 127, 118, 128, 129, 130, 131, 132, 133, 134, 135, 136, 137, 138, 139, 140, 141, 142, 143, 144, 145, 26, 146, 147, 41, 42, 44, 45, 148, 149, 150, 151, 152, 105, 106, 107, 108, 109, 153, 154, 155, 156, 157, 158, 159, 160, 161, 162, 163, 164, 165, 166, 167, 168, 169, 170, 171, 172, 173, 174, 175, 176, 177, 178, 179, 180, 223, 224, 225, 226, 227, 211, 212, 213, 214, 215, 216, 217, 218, 219, 220, 221, 222, 198, 199, 200, 201, 202, 203, 204] (by decide +kernel) (by decide +kernel)
set_option maxRecDepth 20000 in
theorem gX9_placeBySet_X1_settle : GoodIn wsX9_placeBySet (wsV RX9 219 RX1 yX1_settle wsX1_settle) := goodIn_app (goodIn_of _ (by decide +kernel)) ggX9_placeBySet_X1_settle
theorem dX9_placeBySet_0 : decode cX9_placeBySet 0 = .ok (.aload_n 0, 1) := by decide +kernel
theorem dX9_placeBySet_1 : decode cX9_placeBySet 1 = .ok (.getfield 41, 3) := by decide +kernel
theorem dX9_placeBySet_4 : decode cX9_placeBySet 4 = .ok (.iload_n 1, 1) := by decide +kernel
theorem dX9_placeBySet_5 : decode cX9_placeBySet 5 = .ok (.putfield 121, 3) := by decide +kernel
theorem dX9_placeBySet_8 : decode cX9_placeBySet 8 = .ok (.aload_n 0, 1) := by decide +kernel
theorem dX9_placeBySet_9 : decode cX9_placeBySet 9 = .ok (.getfield 56, 3) := by decide +kernel
theorem dX9_placeBySet_12 : decode cX9_placeBySet 12 = .ok (.invokevirtual 133, 3) := by decide +kernel
theorem dX9_placeBySet_15 : decode cX9_placeBySet 15 = .ok (.pop, 1) := by decide +kernel
theorem dX9_placeBySet_16 : decode cX9_placeBySet 16 = .ok (.aload_n 0, 1) := by decide +kernel
theorem dX9_placeBySet_17 : decode cX9_placeBySet 17 = .ok (.getfield 63, 3) := by decide +kernel
theorem dX9_placeBySet_20 : decode cX9_placeBySet 20 = .ok (.sipush 200, 3) := by decide +kernel
theorem dX9_placeBySet_23 : decode cX9_placeBySet 23 = .ok (.invokevirtual 219, 3) := by decide +kernel
theorem dX9_placeBySet_26 : decode cX9_placeBySet 26 = .ok (.pop, 1) := by decide +kernel
theorem dX9_placeBySet_27 : decode cX9_placeBySet 27 = .ok (.aload_n 0, 1) := by decide +kernel
theorem dX9_placeBySet_28 : decode cX9_placeBySet 28 = .ok (.getfield 41, 3) := by decide +kernel
theorem dX9_placeBySet_31 : decode cX9_placeBySet 31 = .ok (.getfield 166, 3) := by decide +kernel
theorem dX9_placeBySet_34 : decode cX9_placeBySet 34 = .ok (.iload_n 3, 1) := by decide +kernel
theorem dX9_placeBySet_35 : decode cX9_placeBySet 35 = .ok (.aaload, 1) := by decide +kernel
theorem dX9_placeBySet_36 : decode cX9_placeBySet 36 = .ok (.iload_n 2, 1) := by decide +kernel
theorem dX9_placeBySet_37 : decode cX9_placeBySet 37 = .ok (.iaload, 1) := by decide +kernel
theorem dX9_placeBySet_38 : decode cX9_placeBySet 38 = .ok (.ireturn, 1) := by decide +kernel
set_option maxRecDepth 20000 in
theorem ggX9_alters_X9_canMeasure : GoodIn wsX9_alters wsX9_canMeasure := goodIn_r _ [11, 1, 12, 13, 14, 15, 16, 17, 135, 136, 137, 138, 139, 140, 141, 142, 143, 144, 145, 146, 147, 148, 149, 150, 151, 152, 153, 154, 155, 156, 157, 158, 159, 160, 161, 162, 163] (by decide +kernel) (by decide +kernel)
set_option maxRecDepth 20000 in
theorem gX9_alters_X9_canMeasure : GoodIn wsX9_alters (wsV RX9 316 RX9 yX9_canMeasure wsX9_canMeasure) := goodIn_app (goodIn_of _ (by decide +kernel)) ggX9_alters_X9_canMeasure
set_option maxRecDepth 20000 in
theorem ggX9_alters_X5_takeFrom : GoodIn wsX9_alters wsX5_takeFrom := goodIn_r _ [22, 23, 24, 25, 26, 27, 28, 29, 10, 30, 31, 32, 33, 34, 35, 36, 37, 38, 164, 165, 166, 167, 168, 169, 170] (by decide +kernel) (by decide +kernel)
set_option maxRecDepth 20000 in
theorem gX9_alters_X5_takeFrom : GoodIn wsX9_alters (wsV RX9 310 RX5 yX5_takeFrom wsX5_takeFrom) := goodIn_app (goodIn_of _ (by decide +kernel)) ggX9_alters_X5_takeFrom
set_option maxRecDepth 20000 in
theorem ggX9_alters_X1_settle : GoodIn wsX9_alters wsX1_settle := goodIn_r _ [43, 44, 45, 46, 47, 48, 49, 50, 21, 51, 52, 24, 53, 54, 55, 56, 15, 57, 58, 59, 60, 61, 42, 62, 63, 64, 65, 66, 67, 68, 69, 70, 71, 72, 73, 74, 75, 76, 77, 78, 79, 80, 81, 82, 83, 84, 85, 25, 86, 87, 88, 89, 90, 91, 92, 93, 94, 23, 95, 96, 97, 98, 99, 100, 101, 102, 103, 104, 105, 106, 107, 108, 109, 110, 111, 112, 28, 113, 114, 115, 116, 117, 118, 119, 120, 121, 171, 172, 173, 174, 175, 152, 153, 154, 155, 156, 157, 158, 159, 160, 161, 162, 163, 164, 165, 166, 167, 168, 169, 170] (by decide +kernel) (by decide +kernel)
set_option maxRecDepth 20000 in
theorem gX9_alters_X1_settle : GoodIn wsX9_alters (wsV RX9 219 RX1 yX1_settle wsX1_settle) := goodIn_app (goodIn_of _ (by decide +kernel)) ggX9_alters_X1_settle
set_option maxRecDepth 20000 in
theorem ggX9_alters_X8_setMeasured : GoodIn wsX9_alters wsX8_setMeasured := goodIn_r _ [125, 58, 152, 153, 154, 155, 156, 157, 158, 159, 160, 161, 162, 163] (by decide +kernel) (by decide +kernel)
set_option maxRecDepth 20000 in
theorem gX9_alters_X8_setMeasured : GoodIn wsX9_alters (wsV RX9 319 RX8 yX8_setMeasured wsX8_setMeasured) := goodIn_app (goodIn_of _ (by decide +kernel)) ggX9_alters_X8_setMeasured
set_option maxRecDepth 20000 in
theorem ggX9_alters_X9_countMoved : GoodIn wsX9_alters wsX9_countMoved := goodIn_r _ [129, 1, 130, 4, 131, 6, 132, 133, 33, 134, 135, 136, 137, 138, 139, 140, 141, 142, 143, 144, 145, 146, 147, 148, 149, 150, 151, 152, 153, 154, 155, 156, 157, 158, 159, 160, 161, 162, 163, 164, 165, 166, 167, 168, 169, 170] (by decide +kernel) (by decide +kernel)
set_option maxRecDepth 20000 in
theorem gX9_alters_X9_countMoved : GoodIn wsX9_alters (wsV RX9 323 RX9 yX9_countMoved wsX9_countMoved) := goodIn_app (goodIn_of _ (by decide +kernel)) ggX9_alters_X9_countMoved
theorem dX9_alters_0 : decode cX9_alters 0 = .ok (.aload_n 0, 1) := by decide +kernel
theorem dX9_alters_1 : decode cX9_alters 1 = .ok (.iload_n 1, 1) := by decide +kernel
theorem dX9_alters_2 : decode cX9_alters 2 = .ok (.iload_n 2, 1) := by decide +kernel
theorem dX9_alters_3 : decode cX9_alters 3 = .ok (.iload_n 3, 1) := by decide +kernel
theorem dX9_alters_4 : decode cX9_alters 4 = .ok (.invokevirtual 316, 3) := by decide +kernel
theorem dX9_alters_7 : decode cX9_alters 7 = .ok (.ifCond .eq 8, 3) := by decide +kernel
theorem dX9_alters_10 : decode cX9_alters 10 = .ok (.iload 4, 2) := by decide +kernel
theorem dX9_alters_12 : decode cX9_alters 12 = .ok (.ifCond .ge 5, 3) := by decide +kernel
theorem dX9_alters_15 : decode cX9_alters 15 = .ok (.iconst (-1), 1) := by decide +kernel
theorem dX9_alters_16 : decode cX9_alters 16 = .ok (.ireturn, 1) := by decide +kernel
theorem dX9_alters_17 : decode cX9_alters 17 = .ok (.aload_n 0, 1) := by decide +kernel
theorem dX9_alters_18 : decode cX9_alters 18 = .ok (.getfield 20, 3) := by decide +kernel
theorem dX9_alters_21 : decode cX9_alters 21 = .ok (.getfield 197, 3) := by decide +kernel
theorem dX9_alters_24 : decode cX9_alters 24 = .ok (.iconst 0, 1) := by decide +kernel
theorem dX9_alters_25 : decode cX9_alters 25 = .ok (.aaload, 1) := by decide +kernel
theorem dX9_alters_26 : decode cX9_alters 26 = .ok (.iload_n 1, 1) := by decide +kernel
theorem dX9_alters_27 : decode cX9_alters 27 = .ok (.iaload, 1) := by decide +kernel
theorem dX9_alters_28 : decode cX9_alters 28 = .ok (.istore 5, 2) := by decide +kernel
theorem dX9_alters_30 : decode cX9_alters 30 = .ok (.aload_n 0, 1) := by decide +kernel
theorem dX9_alters_31 : decode cX9_alters 31 = .ok (.getfield 20, 3) := by decide +kernel
theorem dX9_alters_34 : decode cX9_alters 34 = .ok (.getfield 197, 3) := by decide +kernel
theorem dX9_alters_37 : decode cX9_alters 37 = .ok (.iconst 1, 1) := by decide +kernel
theorem dX9_alters_38 : decode cX9_alters 38 = .ok (.aaload, 1) := by decide +kernel
theorem dX9_alters_39 : decode cX9_alters 39 = .ok (.iload_n 1, 1) := by decide +kernel
theorem dX9_alters_40 : decode cX9_alters 40 = .ok (.iaload, 1) := by decide +kernel
theorem dX9_alters_41 : decode cX9_alters 41 = .ok (.istore 6, 2) := by decide +kernel
theorem dX9_alters_43 : decode cX9_alters 43 = .ok (.aload_n 0, 1) := by decide +kernel
theorem dX9_alters_44 : decode cX9_alters 44 = .ok (.getfield 45, 3) := by decide +kernel
theorem dX9_alters_47 : decode cX9_alters 47 = .ok (.aload_n 0, 1) := by decide +kernel
theorem dX9_alters_48 : decode cX9_alters 48 = .ok (.getfield 41, 3) := by decide +kernel
theorem dX9_alters_51 : decode cX9_alters 51 = .ok (.invokevirtual 310, 3) := by decide +kernel
theorem dX9_alters_54 : decode cX9_alters 54 = .ok (.aload_n 0, 1) := by decide +kernel
theorem dX9_alters_55 : decode cX9_alters 55 = .ok (.getfield 63, 3) := by decide +kernel
theorem dX9_alters_58 : decode cX9_alters 58 = .ok (.sipush 200, 3) := by decide +kernel
theorem dX9_alters_61 : decode cX9_alters 61 = .ok (.invokevirtual 219, 3) := by decide +kernel
theorem dX9_alters_64 : decode cX9_alters 64 = .ok (.pop, 1) := by decide +kernel
theorem dX9_alters_65 : decode cX9_alters 65 = .ok (.aload_n 0, 1) := by decide +kernel
theorem dX9_alters_66 : decode cX9_alters 66 = .ok (.getfield 48, 3) := by decide +kernel
theorem dX9_alters_69 : decode cX9_alters 69 = .ok (.aload_n 0, 1) := by decide +kernel
theorem dX9_alters_70 : decode cX9_alters 70 = .ok (.getfield 41, 3) := by decide +kernel
theorem dX9_alters_73 : decode cX9_alters 73 = .ok (.invokevirtual 310, 3) := by decide +kernel
theorem dX9_alters_76 : decode cX9_alters 76 = .ok (.aload_n 0, 1) := by decide +kernel
theorem dX9_alters_77 : decode cX9_alters 77 = .ok (.getfield 41, 3) := by decide +kernel
theorem dX9_alters_80 : decode cX9_alters 80 = .ok (.aload_n 0, 1) := by decide +kernel
theorem dX9_alters_81 : decode cX9_alters 81 = .ok (.getfield 45, 3) := by decide +kernel
theorem dX9_alters_84 : decode cX9_alters 84 = .ok (.invokevirtual 310, 3) := by decide +kernel
theorem dX9_alters_87 : decode cX9_alters 87 = .ok (.aload_n 0, 1) := by decide +kernel
theorem dX9_alters_88 : decode cX9_alters 88 = .ok (.getfield 20, 3) := by decide +kernel
theorem dX9_alters_91 : decode cX9_alters 91 = .ok (.iload_n 1, 1) := by decide +kernel
theorem dX9_alters_92 : decode cX9_alters 92 = .ok (.iload_n 2, 1) := by decide +kernel
theorem dX9_alters_93 : decode cX9_alters 93 = .ok (.iload_n 3, 1) := by decide +kernel
theorem dX9_alters_94 : decode cX9_alters 94 = .ok (.invokevirtual 319, 3) := by decide +kernel
theorem dX9_alters_97 : decode cX9_alters 97 = .ok (.aload_n 0, 1) := by decide +kernel
theorem dX9_alters_98 : decode cX9_alters 98 = .ok (.getfield 63, 3) := by decide +kernel
theorem dX9_alters_101 : decode cX9_alters 101 = .ok (.sipush 200, 3) := by decide +kernel
theorem dX9_alters_104 : decode cX9_alters 104 = .ok (.invokevirtual 219, 3) := by decide +kernel
theorem dX9_alters_107 : decode cX9_alters 107 = .ok (.pop, 1) := by decide +kernel
theorem dX9_alters_108 : decode cX9_alters 108 = .ok (.aload_n 0, 1) := by decide +kernel
theorem dX9_alters_109 : decode cX9_alters 109 = .ok (.iload 4, 2) := by decide +kernel
theorem dX9_alters_111 : decode cX9_alters 111 = .ok (.invokevirtual 323, 3) := by decide +kernel
theorem dX9_alters_114 : decode cX9_alters 114 = .ok (.istore 7, 2) := by decide +kernel
theorem dX9_alters_116 : decode cX9_alters 116 = .ok (.aload_n 0, 1) := by decide +kernel
theorem dX9_alters_117 : decode cX9_alters 117 = .ok (.getfield 20, 3) := by decide +kernel
theorem dX9_alters_120 : decode cX9_alters 120 = .ok (.iload_n 1, 1) := by decide +kernel
theorem dX9_alters_121 : decode cX9_alters 121 = .ok (.iload 5, 2) := by decide +kernel
theorem dX9_alters_123 : decode cX9_alters 123 = .ok (.iload 6, 2) := by decide +kernel
theorem dX9_alters_125 : decode cX9_alters 125 = .ok (.invokevirtual 319, 3) := by decide +kernel
theorem dX9_alters_128 : decode cX9_alters 128 = .ok (.aload_n 0, 1) := by decide +kernel
theorem dX9_alters_129 : decode cX9_alters 129 = .ok (.getfield 41, 3) := by decide +kernel
theorem dX9_alters_132 : decode cX9_alters 132 = .ok (.aload_n 0, 1) := by decide +kernel
theorem dX9_alters_133 : decode cX9_alters 133 = .ok (.getfield 45, 3) := by decide +kernel
theorem dX9_alters_136 : decode cX9_alters 136 = .ok (.invokevirtual 310, 3) := by decide +kernel
theorem dX9_alters_139 : decode cX9_alters 139 = .ok (.iload 7, 2) := by decide +kernel
theorem dX9_alters_141 : decode cX9_alters 141 = .ok (.ireturn, 1) := by decide +kernel
theorem dX9_countMoved_0 : decode cX9_countMoved 0 = .ok (.iconst 0, 1) := by decide +kernel
theorem dX9_countMoved_1 : decode cX9_countMoved 1 = .ok (.istore_n 2, 1) := by decide +kernel
theorem dX9_countMoved_2 : decode cX9_countMoved 2 = .ok (.iconst 0, 1) := by decide +kernel
theorem dX9_countMoved_3 : decode cX9_countMoved 3 = .ok (.istore_n 3, 1) := by decide +kernel
theorem dX9_countMoved_4 : decode cX9_countMoved 4 = .ok (.iload_n 3, 1) := by decide +kernel
theorem dX9_countMoved_5 : decode cX9_countMoved 5 = .ok (.aload_n 0, 1) := by decide +kernel
theorem dX9_countMoved_6 : decode cX9_countMoved 6 = .ok (.getfield 20, 3) := by decide +kernel
theorem dX9_countMoved_9 : decode cX9_countMoved 9 = .ok (.getfield 137, 3) := by decide +kernel
theorem dX9_countMoved_12 : decode cX9_countMoved 12 = .ok (.iconst 1, 1) := by decide +kernel
theorem dX9_countMoved_13 : decode cX9_countMoved 13 = .ok (.iaload, 1) := by decide +kernel
theorem dX9_countMoved_14 : decode cX9_countMoved 14 = .ok (.if_icmp .ge 80, 3) := by decide +kernel
theorem dX9_countMoved_17 : decode cX9_countMoved 17 = .ok (.aload_n 0, 1) := by decide +kernel
theorem dX9_countMoved_18 : decode cX9_countMoved 18 = .ok (.getfield 41, 3) := by decide +kernel
theorem dX9_countMoved_21 : decode cX9_countMoved 21 = .ok (.getfield 166, 3) := by decide +kernel
theorem dX9_countMoved_24 : decode cX9_countMoved 24 = .ok (.iconst 0, 1) := by decide +kernel
theorem dX9_countMoved_25 : decode cX9_countMoved 25 = .ok (.aaload, 1) := by decide +kernel
theorem dX9_countMoved_26 : decode cX9_countMoved 26 = .ok (.iload_n 3, 1) := by decide +kernel
theorem dX9_countMoved_27 : decode cX9_countMoved 27 = .ok (.iaload, 1) := by decide +kernel
theorem dX9_countMoved_28 : decode cX9_countMoved 28 = .ok (.aload_n 0, 1) := by decide +kernel
theorem dX9_countMoved_29 : decode cX9_countMoved 29 = .ok (.getfield 48, 3) := by decide +kernel
theorem dX9_countMoved_32 : decode cX9_countMoved 32 = .ok (.getfield 166, 3) := by decide +kernel
theorem dX9_countMoved_35 : decode cX9_countMoved 35 = .ok (.iconst 0, 1) := by decide +kernel
theorem dX9_countMoved_36 : decode cX9_countMoved 36 = .ok (.aaload, 1) := by decide +kernel
theorem dX9_countMoved_37 : decode cX9_countMoved 37 = .ok (.iload_n 3, 1) := by decide +kernel
theorem dX9_countMoved_38 : decode cX9_countMoved 38 = .ok (.iaload, 1) := by decide +kernel
theorem dX9_countMoved_39 : decode cX9_countMoved 39 = .ok (.isub, 1) := by decide +kernel
theorem dX9_countMoved_40 : decode cX9_countMoved 40 = .ok (.invokestatic 326, 3) := by decide +kernel
theorem dX9_countMoved_43 : decode cX9_countMoved 43 = .ok (.istore 4, 2) := by decide +kernel
theorem dX9_countMoved_45 : decode cX9_countMoved 45 = .ok (.aload_n 0, 1) := by decide +kernel
theorem dX9_countMoved_46 : decode cX9_countMoved 46 = .ok (.getfield 41, 3) := by decide +kernel
theorem dX9_countMoved_49 : decode cX9_countMoved 49 = .ok (.getfield 166, 3) := by decide +kernel
theorem dX9_countMoved_52 : decode cX9_countMoved 52 = .ok (.iconst 1, 1) := by decide +kernel
theorem dX9_countMoved_53 : decode cX9_countMoved 53 = .ok (.aaload, 1) := by decide +kernel
theorem dX9_countMoved_54 : decode cX9_countMoved 54 = .ok (.iload_n 3, 1) := by decide +kernel
theorem dX9_countMoved_55 : decode cX9_countMoved 55 = .ok (.iaload, 1) := by decide +kernel
theorem dX9_countMoved_56 : decode cX9_countMoved 56 = .ok (.aload_n 0, 1) := by decide +kernel
theorem dX9_countMoved_57 : decode cX9_countMoved 57 = .ok (.getfield 48, 3) := by decide +kernel
theorem dX9_countMoved_60 : decode cX9_countMoved 60 = .ok (.getfield 166, 3) := by decide +kernel
theorem dX9_countMoved_63 : decode cX9_countMoved 63 = .ok (.iconst 1, 1) := by decide +kernel
theorem dX9_countMoved_64 : decode cX9_countMoved 64 = .ok (.aaload, 1) := by decide +kernel
theorem dX9_countMoved_65 : decode cX9_countMoved 65 = .ok (.iload_n 3, 1) := by decide +kernel
theorem dX9_countMoved_66 : decode cX9_countMoved 66 = .ok (.iaload, 1) := by decide +kernel
theorem dX9_countMoved_67 : decode cX9_countMoved 67 = .ok (.isub, 1) := by decide +kernel
theorem dX9_countMoved_68 : decode cX9_countMoved 68 = .ok (.invokestatic 326, 3) := by decide +kernel
theorem dX9_countMoved_71 : decode cX9_countMoved 71 = .ok (.istore 5, 2) := by decide +kernel
theorem dX9_countMoved_73 : decode cX9_countMoved 73 = .ok (.iload 4, 2) := by decide +kernel
theorem dX9_countMoved_75 : decode cX9_countMoved 75 = .ok (.iload_n 1, 1) := by decide +kernel
theorem dX9_countMoved_76 : decode cX9_countMoved 76 = .ok (.if_icmp .gt 9, 3) := by decide +kernel
theorem dX9_countMoved_79 : decode cX9_countMoved 79 = .ok (.iload 5, 2) := by decide +kernel
theorem dX9_countMoved_81 : decode cX9_countMoved 81 = .ok (.iload_n 1, 1) := by decide +kernel
theorem dX9_countMoved_82 : decode cX9_countMoved 82 = .ok (.if_icmp .le 6, 3) := by decide +kernel
theorem dX9_countMoved_85 : decode cX9_countMoved 85 = .ok (.iinc 2 1, 3) := by decide +kernel
theorem dX9_countMoved_88 : decode cX9_countMoved 88 = .ok (.iinc 3 1, 3) := by decide +kernel
theorem dX9_countMoved_91 : decode cX9_countMoved 91 = .ok (.goto (-87), 3) := by decide +kernel
theorem dX9_countMoved_94 : decode cX9_countMoved 94 = .ok (.iload_n 2, 1) := by decide +kernel
theorem dX9_countMoved_95 : decode cX9_countMoved 95 = .ok (.ireturn, 1) := by decide +kernel
set_option maxRecDepth 20000 in
theorem ggX9_measure_X9_canMeasure : GoodIn wsX9_measure wsX9_canMeasure := goodIn_r _ [6, 1, 7, 8, 9, 10, 11, 12, 18, 19, 20, 21, 22, 23, 24, 25, 26, 27, 28, 29, 30, 31, 32, 33, 34, 35, 36, 37, 38, 39, 40, 41, 42, 43, 44, 45, 46] (by decide +kernel) (by decide +kernel)
set_option maxRecDepth 20000 in
theorem gX9_measure_X9_canMeasure : GoodIn wsX9_measure (wsV RX9 316 RX9 yX9_canMeasure wsX9_canMeasure) := goodIn_app (goodIn_of _ (by decide +kernel)) ggX9_measure_X9_canMeasure
set_option maxRecDepth 20000 in
theorem ggX9_measure_X8_setMeasured : GoodIn wsX9_measure wsX8_setMeasured := goodIn_r _ [16, 17, 35, 36, 37, 38, 39, 40, 41, 42, 43, 44, 45, 46] (by decide +kernel) (by decide +kernel)
set_option maxRecDepth 20000 in
theorem gX9_measure_X8_setMeasured : GoodIn wsX9_measure (wsV RX9 319 RX8 yX8_setMeasured wsX8_setMeasured) := goodIn_app (goodIn_of _ (by decide +kernel)) ggX9_measure_X8_setMeasured
theorem dX9_measure_0 : decode cX9_measure 0 = .ok (.aload_n 0, 1) := by decide +kernel
theorem dX9_measure_1 : decode cX9_measure 1 = .ok (.iload_n 1, 1) := by decide +kernel
theorem dX9_measure_2 : decode cX9_measure 2 = .ok (.iload_n 2, 1) := by decide +kernel
theorem dX9_measure_3 : decode cX9_measure 3 = .ok (.iload_n 3, 1) := by decide +kernel
theorem dX9_measure_4 : decode cX9_measure 4 = .ok (.invokevirtual 316, 3) := by decide +kernel
theorem dX9_measure_7 : decode cX9_measure 7 = .ok (.ifCond .ne 5, 3) := by decide +kernel
theorem dX9_measure_10 : decode cX9_measure 10 = .ok (.iconst 0, 1) := by decide +kernel
theorem dX9_measure_11 : decode cX9_measure 11 = .ok (.ireturn, 1) := by decide +kernel
theorem dX9_measure_12 : decode cX9_measure 12 = .ok (.aload_n 0, 1) := by decide +kernel
theorem dX9_measure_13 : decode cX9_measure 13 = .ok (.getfield 20, 3) := by decide +kernel
theorem dX9_measure_16 : decode cX9_measure 16 = .ok (.iload_n 1, 1) := by decide +kernel
theorem dX9_measure_17 : decode cX9_measure 17 = .ok (.iload_n 2, 1) := by decide +kernel
theorem dX9_measure_18 : decode cX9_measure 18 = .ok (.iload_n 3, 1) := by decide +kernel
theorem dX9_measure_19 : decode cX9_measure 19 = .ok (.invokevirtual 319, 3) := by decide +kernel
theorem dX9_measure_22 : decode cX9_measure 22 = .ok (.iconst 1, 1) := by decide +kernel
theorem dX9_measure_23 : decode cX9_measure 23 = .ok (.ireturn, 1) := by decide +kernel
set_option maxRecDepth 20000 in
theorem ggX9_canMeasure_X8_exists : GoodIn wsX9_canMeasure wsX8_exists := goodIn_r _ [6, 7, 25, 26, 27, 28, 29, 30, 31, 32, 33, 34, 35, 36] (by decide +kernel) (by decide +kernel)
set_option maxRecDepth 20000 in
theorem gX9_canMeasure_X8_exists : GoodIn wsX9_canMeasure (wsV RX9 150 RX8 yX8_exists wsX8_exists) := goodIn_app (goodIn_of _ (by decide +kernel)) ggX9_canMeasure_X8_exists
theorem dX9_canMeasure_0 : decode cX9_canMeasure 0 = .ok (.aload_n 0, 1) := by decide +kernel
theorem dX9_canMeasure_1 : decode cX9_canMeasure 1 = .ok (.getfield 20, 3) := by decide +kernel
theorem dX9_canMeasure_4 : decode cX9_canMeasure 4 = .ok (.iconst 3, 1) := by decide +kernel
theorem dX9_canMeasure_5 : decode cX9_canMeasure 5 = .ok (.iload_n 1, 1) := by decide +kernel
theorem dX9_canMeasure_6 : decode cX9_canMeasure 6 = .ok (.invokevirtual 150, 3) := by decide +kernel
theorem dX9_canMeasure_9 : decode cX9_canMeasure 9 = .ok (.ifCond .eq 29, 3) := by decide +kernel
theorem dX9_canMeasure_12 : decode cX9_canMeasure 12 = .ok (.iload_n 2, 1) := by decide +kernel
theorem dX9_canMeasure_13 : decode cX9_canMeasure 13 = .ok (.ifCond .lt 25, 3) := by decide +kernel
theorem dX9_canMeasure_16 : decode cX9_canMeasure 16 = .ok (.iload_n 2, 1) := by decide +kernel
theorem dX9_canMeasure_17 : decode cX9_canMeasure 17 = .ok (.sipush 9999, 3) := by decide +kernel
theorem dX9_canMeasure_20 : decode cX9_canMeasure 20 = .ok (.if_icmp .gt 18, 3) := by decide +kernel
theorem dX9_canMeasure_23 : decode cX9_canMeasure 23 = .ok (.iload_n 3, 1) := by decide +kernel
theorem dX9_canMeasure_24 : decode cX9_canMeasure 24 = .ok (.ifCond .lt 14, 3) := by decide +kernel
theorem dX9_canMeasure_27 : decode cX9_canMeasure 27 = .ok (.iload_n 3, 1) := by decide +kernel
theorem dX9_canMeasure_28 : decode cX9_canMeasure 28 = .ok (.sipush 9999, 3) := by decide +kernel
theorem dX9_canMeasure_31 : decode cX9_canMeasure 31 = .ok (.if_icmp .gt 7, 3) := by decide +kernel
theorem dX9_canMeasure_34 : decode cX9_canMeasure 34 = .ok (.iconst 1, 1) := by decide +kernel
theorem dX9_canMeasure_35 : decode cX9_canMeasure 35 = .ok (.goto 4, 3) := by decide +kernel
theorem dX9_canMeasure_38 : decode cX9_canMeasure 38 = .ok (.iconst 0, 1) := by decide +kernel
theorem dX9_canMeasure_39 : decode cX9_canMeasure 39 = .ok (.ireturn, 1) := by decide +kernel
set_option maxRecDepth 20000 in
theorem ggX9_slips_X9_nextDraw : GoodIn wsX9_slips wsX9_nextDraw := goodIn_r _ [7, 8, 9, 10] (by decide +kernel) (by decide +kernel)
set_option maxRecDepth 20000 in
theorem gX9_slips_X9_nextDraw : GoodIn wsX9_slips (va_wsS RX9 329 yX9_nextDraw wsX9_nextDraw) := goodIn_app (goodIn_of _ (by decide +kernel)) ggX9_slips_X9_nextDraw
set_option maxRecDepth 20000 in
theorem ggX9_slips_X9_drawn : GoodIn wsX9_slips wsX9_drawn := goodIn_r _ [13, 14] (by decide +kernel) (by decide +kernel)
set_option maxRecDepth 20000 in
theorem gX9_slips_X9_drawn : GoodIn wsX9_slips (va_wsS RX9 333 yX9_drawn wsX9_drawn) := goodIn_app (goodIn_of _ (by decide +kernel)) ggX9_slips_X9_drawn
set_option maxRecDepth 20000 in
theorem ggX9_slips_X9_keptMeasured : GoodIn wsX9_slips wsX9_keptMeasured := goodIn_r _ [17, 18, 19, 20, 21, 22, 23, 24] (by decide +kernel) (by decide +kernel)
set_option maxRecDepth 20000 in
theorem gX9_slips_X9_keptMeasured : GoodIn wsX9_slips (va_wsS RX9 337 yX9_keptMeasured wsX9_keptMeasured) := goodIn_app (goodIn_of _ (by decide +kernel)) ggX9_slips_X9_keptMeasured
set_option maxRecDepth 20000 in
theorem ggX9_slips_X8_setMeasured : GoodIn wsX9_slips wsX8_setMeasured := goodIn_r _ [29, 30, 48, 49, 50, 51, 52, 53, 54, 55, 56, 57, 58, 59] (by decide +kernel) (by decide +kernel)
set_option maxRecDepth 20000 in
theorem gX9_slips_X8_setMeasured : GoodIn wsX9_slips (wsV RX9 319 RX8 yX8_setMeasured wsX8_setMeasured) := goodIn_app (goodIn_of _ (by decide +kernel)) ggX9_slips_X8_setMeasured
theorem dX9_slips_0 : decode cX9_slips 0 = .ok (.aload_n 0, 1) := by decide +kernel
theorem dX9_slips_1 : decode cX9_slips 1 = .ok (.getfield 20, 3) := by decide +kernel
theorem dX9_slips_4 : decode cX9_slips 4 = .ok (.getfield 137, 3) := by decide +kernel
theorem dX9_slips_7 : decode cX9_slips 7 = .ok (.iconst 3, 1) := by decide +kernel
theorem dX9_slips_8 : decode cX9_slips 8 = .ok (.iaload, 1) := by decide +kernel
theorem dX9_slips_9 : decode cX9_slips 9 = .ok (.istore 4, 2) := by decide +kernel
theorem dX9_slips_11 : decode cX9_slips 11 = .ok (.iload 4, 2) := by decide +kernel
theorem dX9_slips_13 : decode cX9_slips 13 = .ok (.ifCond .eq 29, 3) := by decide +kernel
theorem dX9_slips_16 : decode cX9_slips 16 = .ok (.iload_n 1, 1) := by decide +kernel
theorem dX9_slips_17 : decode cX9_slips 17 = .ok (.iconst 1, 1) := by decide +kernel
theorem dX9_slips_18 : decode cX9_slips 18 = .ok (.if_icmp .lt 24, 3) := by decide +kernel
theorem dX9_slips_21 : decode cX9_slips 21 = .ok (.iload_n 1, 1) := by decide +kernel
theorem dX9_slips_22 : decode cX9_slips 22 = .ok (.bipush 60, 2) := by decide +kernel
theorem dX9_slips_24 : decode cX9_slips 24 = .ok (.if_icmp .gt 18, 3) := by decide +kernel
theorem dX9_slips_27 : decode cX9_slips 27 = .ok (.iload_n 2, 1) := by decide +kernel
theorem dX9_slips_28 : decode cX9_slips 28 = .ok (.ifCond .lt 14, 3) := by decide +kernel
theorem dX9_slips_31 : decode cX9_slips 31 = .ok (.iload_n 2, 1) := by decide +kernel
theorem dX9_slips_32 : decode cX9_slips 32 = .ok (.sipush 999, 3) := by decide +kernel
theorem dX9_slips_35 : decode cX9_slips 35 = .ok (.if_icmp .gt 7, 3) := by decide +kernel
theorem dX9_slips_38 : decode cX9_slips 38 = .ok (.iload_n 3, 1) := by decide +kernel
theorem dX9_slips_39 : decode cX9_slips 39 = .ok (.ifCond .ge 5, 3) := by decide +kernel
theorem dX9_slips_42 : decode cX9_slips 42 = .ok (.iconst (-1), 1) := by decide +kernel
theorem dX9_slips_43 : decode cX9_slips 43 = .ok (.ireturn, 1) := by decide +kernel
theorem dX9_slips_44 : decode cX9_slips 44 = .ok (.iload_n 3, 1) := by decide +kernel
theorem dX9_slips_45 : decode cX9_slips 45 = .ok (.i2l, 1) := by decide +kernel
theorem dX9_slips_46 : decode cX9_slips 46 = .ok (.lstore 5, 2) := by decide +kernel
theorem dX9_slips_48 : decode cX9_slips 48 = .ok (.iconst 0, 1) := by decide +kernel
theorem dX9_slips_49 : decode cX9_slips 49 = .ok (.istore 7, 2) := by decide +kernel
theorem dX9_slips_51 : decode cX9_slips 51 = .ok (.iconst 0, 1) := by decide +kernel
theorem dX9_slips_52 : decode cX9_slips 52 = .ok (.istore 8, 2) := by decide +kernel
theorem dX9_slips_54 : decode cX9_slips 54 = .ok (.iload 8, 2) := by decide +kernel
theorem dX9_slips_56 : decode cX9_slips 56 = .ok (.iload_n 1, 1) := by decide +kernel
theorem dX9_slips_57 : decode cX9_slips 57 = .ok (.if_icmp .ge 115, 3) := by decide +kernel
theorem dX9_slips_60 : decode cX9_slips 60 = .ok (.lload 5, 2) := by decide +kernel
theorem dX9_slips_62 : decode cX9_slips 62 = .ok (.invokestatic 329, 3) := by decide +kernel
theorem dX9_slips_65 : decode cX9_slips 65 = .ok (.lstore 5, 2) := by decide +kernel
theorem dX9_slips_67 : decode cX9_slips 67 = .ok (.lload 5, 2) := by decide +kernel
theorem dX9_slips_69 : decode cX9_slips 69 = .ok (.iload 4, 2) := by decide +kernel
theorem dX9_slips_71 : decode cX9_slips 71 = .ok (.invokestatic 333, 3) := by decide +kernel
theorem dX9_slips_74 : decode cX9_slips 74 = .ok (.istore 9, 2) := by decide +kernel
theorem dX9_slips_76 : decode cX9_slips 76 = .ok (.lload 5, 2) := by decide +kernel
theorem dX9_slips_78 : decode cX9_slips 78 = .ok (.invokestatic 329, 3) := by decide +kernel
theorem dX9_slips_81 : decode cX9_slips 81 = .ok (.lstore 5, 2) := by decide +kernel
theorem dX9_slips_83 : decode cX9_slips 83 = .ok (.aload_n 0, 1) := by decide +kernel
theorem dX9_slips_84 : decode cX9_slips 84 = .ok (.getfield 20, 3) := by decide +kernel
theorem dX9_slips_87 : decode cX9_slips 87 = .ok (.getfield 197, 3) := by decide +kernel
theorem dX9_slips_90 : decode cX9_slips 90 = .ok (.iconst 0, 1) := by decide +kernel
theorem dX9_slips_91 : decode cX9_slips 91 = .ok (.aaload, 1) := by decide +kernel
theorem dX9_slips_92 : decode cX9_slips 92 = .ok (.iload 9, 2) := by decide +kernel
theorem dX9_slips_94 : decode cX9_slips 94 = .ok (.iaload, 1) := by decide +kernel
theorem dX9_slips_95 : decode cX9_slips 95 = .ok (.lload 5, 2) := by decide +kernel
theorem dX9_slips_97 : decode cX9_slips 97 = .ok (.iconst 2, 1) := by decide +kernel
theorem dX9_slips_98 : decode cX9_slips 98 = .ok (.iload_n 2, 1) := by decide +kernel
theorem dX9_slips_99 : decode cX9_slips 99 = .ok (.imul, 1) := by decide +kernel
theorem dX9_slips_100 : decode cX9_slips 100 = .ok (.iconst 1, 1) := by decide +kernel
theorem dX9_slips_101 : decode cX9_slips 101 = .ok (.iadd, 1) := by decide +kernel
theorem dX9_slips_102 : decode cX9_slips 102 = .ok (.invokestatic 333, 3) := by decide +kernel
theorem dX9_slips_105 : decode cX9_slips 105 = .ok (.iadd, 1) := by decide +kernel
theorem dX9_slips_106 : decode cX9_slips 106 = .ok (.iload_n 2, 1) := by decide +kernel
theorem dX9_slips_107 : decode cX9_slips 107 = .ok (.isub, 1) := by decide +kernel
theorem dX9_slips_108 : decode cX9_slips 108 = .ok (.istore 10, 2) := by decide +kernel
theorem dX9_slips_110 : decode cX9_slips 110 = .ok (.lload 5, 2) := by decide +kernel
theorem dX9_slips_112 : decode cX9_slips 112 = .ok (.invokestatic 329, 3) := by decide +kernel
theorem dX9_slips_115 : decode cX9_slips 115 = .ok (.lstore 5, 2) := by decide +kernel
theorem dX9_slips_117 : decode cX9_slips 117 = .ok (.aload_n 0, 1) := by decide +kernel
theorem dX9_slips_118 : decode cX9_slips 118 = .ok (.getfield 20, 3) := by decide +kernel
theorem dX9_slips_121 : decode cX9_slips 121 = .ok (.getfield 197, 3) := by decide +kernel
theorem dX9_slips_124 : decode cX9_slips 124 = .ok (.iconst 1, 1) := by decide +kernel
theorem dX9_slips_125 : decode cX9_slips 125 = .ok (.aaload, 1) := by decide +kernel
theorem dX9_slips_126 : decode cX9_slips 126 = .ok (.iload 9, 2) := by decide +kernel
theorem dX9_slips_128 : decode cX9_slips 128 = .ok (.iaload, 1) := by decide +kernel
theorem dX9_slips_129 : decode cX9_slips 129 = .ok (.lload 5, 2) := by decide +kernel
theorem dX9_slips_131 : decode cX9_slips 131 = .ok (.iconst 2, 1) := by decide +kernel
theorem dX9_slips_132 : decode cX9_slips 132 = .ok (.iload_n 2, 1) := by decide +kernel
theorem dX9_slips_133 : decode cX9_slips 133 = .ok (.imul, 1) := by decide +kernel
theorem dX9_slips_134 : decode cX9_slips 134 = .ok (.iconst 1, 1) := by decide +kernel
theorem dX9_slips_135 : decode cX9_slips 135 = .ok (.iadd, 1) := by decide +kernel
theorem dX9_slips_136 : decode cX9_slips 136 = .ok (.invokestatic 333, 3) := by decide +kernel
theorem dX9_slips_139 : decode cX9_slips 139 = .ok (.iadd, 1) := by decide +kernel
theorem dX9_slips_140 : decode cX9_slips 140 = .ok (.iload_n 2, 1) := by decide +kernel
theorem dX9_slips_141 : decode cX9_slips 141 = .ok (.isub, 1) := by decide +kernel
theorem dX9_slips_142 : decode cX9_slips 142 = .ok (.istore 11, 2) := by decide +kernel
theorem dX9_slips_144 : decode cX9_slips 144 = .ok (.aload_n 0, 1) := by decide +kernel
theorem dX9_slips_145 : decode cX9_slips 145 = .ok (.getfield 20, 3) := by decide +kernel
theorem dX9_slips_148 : decode cX9_slips 148 = .ok (.iload 9, 2) := by decide +kernel
theorem dX9_slips_150 : decode cX9_slips 150 = .ok (.iload 10, 2) := by decide +kernel
theorem dX9_slips_152 : decode cX9_slips 152 = .ok (.invokestatic 337, 3) := by decide +kernel
theorem dX9_slips_155 : decode cX9_slips 155 = .ok (.iload 11, 2) := by decide +kernel
theorem dX9_slips_157 : decode cX9_slips 157 = .ok (.invokestatic 337, 3) := by decide +kernel
theorem dX9_slips_160 : decode cX9_slips 160 = .ok (.invokevirtual 319, 3) := by decide +kernel
theorem dX9_slips_163 : decode cX9_slips 163 = .ok (.iinc 7 3, 3) := by decide +kernel
theorem dX9_slips_166 : decode cX9_slips 166 = .ok (.iinc 8 1, 3) := by decide +kernel
theorem dX9_slips_169 : decode cX9_slips 169 = .ok (.goto (-115), 3) := by decide +kernel
theorem dX9_slips_172 : decode cX9_slips 172 = .ok (.iload 7, 2) := by decide +kernel
theorem dX9_slips_174 : decode cX9_slips 174 = .ok (.ireturn, 1) := by decide +kernel
theorem dX9_nextDraw_0 : decode cX9_nextDraw 0 = .ok (.ldc2_w 340, 3) := by decide +kernel
theorem dX9_nextDraw_3 : decode cX9_nextDraw 3 = .ok (.lload_n 0, 1) := by decide +kernel
theorem dX9_nextDraw_4 : decode cX9_nextDraw 4 = .ok (.lmul, 1) := by decide +kernel
theorem dX9_nextDraw_5 : decode cX9_nextDraw 5 = .ok (.ldc2_w 342, 3) := by decide +kernel
theorem dX9_nextDraw_8 : decode cX9_nextDraw 8 = .ok (.ladd, 1) := by decide +kernel
theorem dX9_nextDraw_9 : decode cX9_nextDraw 9 = .ok (.ldc2_w 344, 3) := by decide +kernel
theorem dX9_nextDraw_12 : decode cX9_nextDraw 12 = .ok (.land, 1) := by decide +kernel
theorem dX9_nextDraw_13 : decode cX9_nextDraw 13 = .ok (.lreturn, 1) := by decide +kernel
theorem dX9_drawn_0 : decode cX9_drawn 0 = .ok (.iload_n 2, 1) := by decide +kernel
theorem dX9_drawn_1 : decode cX9_drawn 1 = .ok (.iconst 1, 1) := by decide +kernel
theorem dX9_drawn_2 : decode cX9_drawn 2 = .ok (.if_icmp .ge 7, 3) := by decide +kernel
theorem dX9_drawn_5 : decode cX9_drawn 5 = .ok (.iconst 0, 1) := by decide +kernel
theorem dX9_drawn_6 : decode cX9_drawn 6 = .ok (.goto 12, 3) := by decide +kernel
theorem dX9_drawn_9 : decode cX9_drawn 9 = .ok (.lload_n 0, 1) := by decide +kernel
theorem dX9_drawn_10 : decode cX9_drawn 10 = .ok (.ldc2_w 346, 3) := by decide +kernel
theorem dX9_drawn_13 : decode cX9_drawn 13 = .ok (.ldiv, 1) := by decide +kernel
theorem dX9_drawn_14 : decode cX9_drawn 14 = .ok (.iload_n 2, 1) := by decide +kernel
theorem dX9_drawn_15 : decode cX9_drawn 15 = .ok (.i2l, 1) := by decide +kernel
theorem dX9_drawn_16 : decode cX9_drawn 16 = .ok (.lrem, 1) := by decide +kernel
theorem dX9_drawn_17 : decode cX9_drawn 17 = .ok (.l2i, 1) := by decide +kernel
theorem dX9_drawn_18 : decode cX9_drawn 18 = .ok (.ireturn, 1) := by decide +kernel
theorem dX9_keptMeasured_0 : decode cX9_keptMeasured 0 = .ok (.iconst 0, 1) := by decide +kernel
theorem dX9_keptMeasured_1 : decode cX9_keptMeasured 1 = .ok (.sipush 9999, 3) := by decide +kernel
theorem dX9_keptMeasured_4 : decode cX9_keptMeasured 4 = .ok (.iload_n 0, 1) := by decide +kernel
theorem dX9_keptMeasured_5 : decode cX9_keptMeasured 5 = .ok (.invokestatic 348, 3) := by decide +kernel
theorem dX9_keptMeasured_8 : decode cX9_keptMeasured 8 = .ok (.invokestatic 351, 3) := by decide +kernel
theorem dX9_keptMeasured_11 : decode cX9_keptMeasured 11 = .ok (.ireturn, 1) := by decide +kernel
set_option maxRecDepth 20000 in
theorem ggX9_image_X0_write : GoodIn wsX9_image wsX0_write := goodIn_r _ [7, 8, 9, 10, 11, 12, 13, 14, 15, 16, 17, 18, 19, 20, 6, 21, 22, 23, 24, 25, 26, 27, 28, 46, 47, 48, 49, 50, 51, 52, 53, 54, 55, 56, 57, 58, 59, 60, 61, 62, 63, 64, 65, 66, 67, 68] (by decide +kernel) (by decide +kernel)
set_option maxRecDepth 20000 in
theorem gX9_image_X0_write : GoodIn wsX9_image (wsV RX9 354 RX0 yX0_write wsX0_write) := goodIn_app (goodIn_of _ (by decide +kernel)) ggX9_image_X0_write
theorem dX9_image_0 : decode cX9_image 0 = .ok (.aload_n 0, 1) := by decide +kernel
theorem dX9_image_1 : decode cX9_image 1 = .ok (.getfield 91, 3) := by decide +kernel
theorem dX9_image_4 : decode cX9_image 4 = .ok (.aload_n 0, 1) := by decide +kernel
theorem dX9_image_5 : decode cX9_image 5 = .ok (.getfield 41, 3) := by decide +kernel
theorem dX9_image_8 : decode cX9_image 8 = .ok (.invokevirtual 354, 3) := by decide +kernel
theorem dX9_image_11 : decode cX9_image 11 = .ok (.ireturn, 1) := by decide +kernel
theorem dX9_octet_0 : decode cX9_octet 0 = .ok (.iload_n 1, 1) := by decide +kernel
theorem dX9_octet_1 : decode cX9_octet 1 = .ok (.ifCond .lt 14, 3) := by decide +kernel
theorem dX9_octet_4 : decode cX9_octet 4 = .ok (.iload_n 1, 1) := by decide +kernel
theorem dX9_octet_5 : decode cX9_octet 5 = .ok (.aload_n 0, 1) := by decide +kernel
theorem dX9_octet_6 : decode cX9_octet 6 = .ok (.getfield 91, 3) := by decide +kernel
theorem dX9_octet_9 : decode cX9_octet 9 = .ok (.getfield 358, 3) := by decide +kernel
theorem dX9_octet_12 : decode cX9_octet 12 = .ok (.if_icmp .lt 5, 3) := by decide +kernel
theorem dX9_octet_15 : decode cX9_octet 15 = .ok (.iconst (-1), 1) := by decide +kernel
theorem dX9_octet_16 : decode cX9_octet 16 = .ok (.ireturn, 1) := by decide +kernel
theorem dX9_octet_17 : decode cX9_octet 17 = .ok (.aload_n 0, 1) := by decide +kernel
theorem dX9_octet_18 : decode cX9_octet 18 = .ok (.getfield 91, 3) := by decide +kernel
theorem dX9_octet_21 : decode cX9_octet 21 = .ok (.getfield 361, 3) := by decide +kernel
theorem dX9_octet_24 : decode cX9_octet 24 = .ok (.iload_n 1, 1) := by decide +kernel
theorem dX9_octet_25 : decode cX9_octet 25 = .ok (.iaload, 1) := by decide +kernel
theorem dX9_octet_26 : decode cX9_octet 26 = .ok (.ireturn, 1) := by decide +kernel
set_option maxRecDepth 20000 in
theorem ggX9_on_X0_read : GoodIn wsX9_on wsX0_read := goodIn_r _ [10, 11, 12, 13, 14, 9, 15, 16, 17, 18, 19, 20, 21, 22, 23, 24, 25, 26, 27, 28, 29, 30, 31, 32, 33, 34, 35, 36, 37, 38, 39, 40, 41, 42, 43, 44, 45, 46, 47, 48, 49, 50, 51, 52, 53, 54, 55, 56, 57, 58, 59, 60, 61, 62, 63, 64, 65, 66, 67, 68, 69, 70, 71, 72, 73, 74, 75, 76, 77, 78, 79, 80, 118, 119, 120, 121, 122, 123, 124, 125, 126, 127, 128, 129, 130, 131, 132, 133, 134, 135, 136, 137, 138, 139, 140] (by decide +kernel) (by decide +kernel)
set_option maxRecDepth 20000 in
theorem gX9_on_X0_read : GoodIn wsX9_on (wsV RX9 364 RX0 yX0_read wsX0_read) := goodIn_app (goodIn_of _ (by decide +kernel)) ggX9_on_X0_read
set_option maxRecDepth 20000 in
theorem ggX9_on_X5_takeFrom : GoodIn wsX9_on wsX5_takeFrom := goodIn_r _ [84, 56, 85, 86, 87, 88, 89, 90, 91, 92, 93, 94, 95, 96, 97, 98, 99, 100, 118, 119, 120, 121, 122, 123, 124] (by decide +kernel) (by decide +kernel)
set_option maxRecDepth 20000 in
theorem gX9_on_X5_takeFrom : GoodIn wsX9_on (wsV RX9 310 RX5 yX5_takeFrom wsX5_takeFrom) := goodIn_app (goodIn_of _ (by decide +kernel)) ggX9_on_X5_takeFrom
theorem dX9_on_0 : decode cX9_on 0 = .ok (.aload_n 0, 1) := by decide +kernel
theorem dX9_on_1 : decode cX9_on 1 = .ok (.getfield 13, 3) := by decide +kernel
theorem dX9_on_4 : decode cX9_on 4 = .ok (.istore_n 1, 1) := by decide +kernel
theorem dX9_on_5 : decode cX9_on 5 = .ok (.aload_n 0, 1) := by decide +kernel
theorem dX9_on_6 : decode cX9_on 6 = .ok (.iconst 0, 1) := by decide +kernel
theorem dX9_on_7 : decode cX9_on 7 = .ok (.putfield 13, 3) := by decide +kernel
theorem dX9_on_10 : decode cX9_on 10 = .ok (.aload_n 0, 1) := by decide +kernel
theorem dX9_on_11 : decode cX9_on 11 = .ok (.getfield 91, 3) := by decide +kernel
theorem dX9_on_14 : decode cX9_on 14 = .ok (.aload_n 0, 1) := by decide +kernel
theorem dX9_on_15 : decode cX9_on 15 = .ok (.getfield 9, 3) := by decide +kernel
theorem dX9_on_18 : decode cX9_on 18 = .ok (.iload_n 1, 1) := by decide +kernel
theorem dX9_on_19 : decode cX9_on 19 = .ok (.aload_n 0, 1) := by decide +kernel
theorem dX9_on_20 : decode cX9_on 20 = .ok (.getfield 48, 3) := by decide +kernel
theorem dX9_on_23 : decode cX9_on 23 = .ok (.invokevirtual 364, 3) := by decide +kernel
theorem dX9_on_26 : decode cX9_on 26 = .ok (.ifCond .ne 5, 3) := by decide +kernel
theorem dX9_on_29 : decode cX9_on 29 = .ok (.iconst 0, 1) := by decide +kernel
theorem dX9_on_30 : decode cX9_on 30 = .ok (.ireturn, 1) := by decide +kernel
theorem dX9_on_31 : decode cX9_on 31 = .ok (.aload_n 0, 1) := by decide +kernel
theorem dX9_on_32 : decode cX9_on 32 = .ok (.getfield 41, 3) := by decide +kernel
theorem dX9_on_35 : decode cX9_on 35 = .ok (.aload_n 0, 1) := by decide +kernel
theorem dX9_on_36 : decode cX9_on 36 = .ok (.getfield 48, 3) := by decide +kernel
theorem dX9_on_39 : decode cX9_on 39 = .ok (.invokevirtual 310, 3) := by decide +kernel
theorem dX9_on_42 : decode cX9_on 42 = .ok (.iconst 1, 1) := by decide +kernel
theorem dX9_on_43 : decode cX9_on 43 = .ok (.ireturn, 1) := by decide +kernel
theorem dX9_copyAll_0 : decode cX9_copyAll 0 = .ok (.aload_n 0, 1) := by decide +kernel
theorem dX9_copyAll_1 : decode cX9_copyAll 1 = .ok (.iconst 0, 1) := by decide +kernel
theorem dX9_copyAll_2 : decode cX9_copyAll 2 = .ok (.aload_n 1, 1) := by decide +kernel
theorem dX9_copyAll_3 : decode cX9_copyAll 3 = .ok (.iconst 0, 1) := by decide +kernel
theorem dX9_copyAll_4 : decode cX9_copyAll 4 = .ok (.aload_n 0, 1) := by decide +kernel
theorem dX9_copyAll_5 : decode cX9_copyAll 5 = .ok (.arraylength, 1) := by decide +kernel
theorem dX9_copyAll_6 : decode cX9_copyAll 6 = .ok (.aload_n 1, 1) := by decide +kernel
theorem dX9_copyAll_7 : decode cX9_copyAll 7 = .ok (.arraylength, 1) := by decide +kernel
theorem dX9_copyAll_8 : decode cX9_copyAll 8 = .ok (.invokestatic 348, 3) := by decide +kernel
theorem dX9_copyAll_11 : decode cX9_copyAll 11 = .ok (.invokestatic 367, 3) := by decide +kernel
theorem dX9_copyAll_14 : decode cX9_copyAll 14 = .ok (.return_, 1) := by decide +kernel
theorem dX10_init_0 : decode cX10_init 0 = .ok (.aload_n 0, 1) := by decide +kernel
theorem dX10_init_1 : decode cX10_init 1 = .ok (.invokespecial 1, 3) := by decide +kernel
theorem dX10_init_4 : decode cX10_init 4 = .ok (.aload_n 0, 1) := by decide +kernel
theorem dX10_init_5 : decode cX10_init 5 = .ok (.sipush 1600, 3) := by decide +kernel
theorem dX10_init_8 : decode cX10_init 8 = .ok (.newarray .int, 2) := by decide +kernel
theorem dX10_init_10 : decode cX10_init 10 = .ok (.putfield 7, 3) := by decide +kernel
theorem dX10_init_13 : decode cX10_init 13 = .ok (.aload_n 0, 1) := by decide +kernel
theorem dX10_init_14 : decode cX10_init 14 = .ok (.iconst (-1), 1) := by decide +kernel
theorem dX10_init_15 : decode cX10_init 15 = .ok (.putfield 13, 3) := by decide +kernel
theorem dX10_init_18 : decode cX10_init 18 = .ok (.aload_n 0, 1) := by decide +kernel
theorem dX10_init_19 : decode cX10_init 19 = .ok (.iconst 5, 1) := by decide +kernel
theorem dX10_init_20 : decode cX10_init 20 = .ok (.newarray .char, 2) := by decide +kernel
theorem dX10_init_22 : decode cX10_init 22 = .ok (.dup, 1) := by decide +kernel
theorem dX10_init_23 : decode cX10_init 23 = .ok (.iconst 0, 1) := by decide +kernel
theorem dX10_init_24 : decode cX10_init 24 = .ok (.bipush 115, 2) := by decide +kernel
theorem dX10_init_26 : decode cX10_init 26 = .ok (.castore, 1) := by decide +kernel
theorem dX10_init_27 : decode cX10_init 27 = .ok (.dup, 1) := by decide +kernel
theorem dX10_init_28 : decode cX10_init 28 = .ok (.iconst 1, 1) := by decide +kernel
theorem dX10_init_29 : decode cX10_init 29 = .ok (.bipush 116, 2) := by decide +kernel
theorem dX10_init_31 : decode cX10_init 31 = .ok (.castore, 1) := by decide +kernel
theorem dX10_init_32 : decode cX10_init 32 = .ok (.dup, 1) := by decide +kernel
theorem dX10_init_33 : decode cX10_init 33 = .ok (.iconst 2, 1) := by decide +kernel
theorem dX10_init_34 : decode cX10_init 34 = .ok (.bipush 114, 2) := by decide +kernel
theorem dX10_init_36 : decode cX10_init 36 = .ok (.castore, 1) := by decide +kernel
theorem dX10_init_37 : decode cX10_init 37 = .ok (.dup, 1) := by decide +kernel
theorem dX10_init_38 : decode cX10_init 38 = .ok (.iconst 3, 1) := by decide +kernel
theorem dX10_init_39 : decode cX10_init 39 = .ok (.bipush 105, 2) := by decide +kernel
theorem dX10_init_41 : decode cX10_init 41 = .ok (.castore, 1) := by decide +kernel
theorem dX10_init_42 : decode cX10_init 42 = .ok (.dup, 1) := by decide +kernel
theorem dX10_init_43 : decode cX10_init 43 = .ok (.iconst 4, 1) := by decide +kernel
theorem dX10_init_44 : decode cX10_init 44 = .ok (.bipush 112, 2) := by decide +kernel
theorem dX10_init_46 : decode cX10_init 46 = .ok (.castore, 1) := by decide +kernel
theorem dX10_init_47 : decode cX10_init 47 = .ok (.putfield 17, 3) := by decide +kernel
theorem dX10_init_50 : decode cX10_init 50 = .ok (.aload_n 0, 1) := by decide +kernel
theorem dX10_init_51 : decode cX10_init 51 = .ok (.bipush 7, 2) := by decide +kernel
theorem dX10_init_53 : decode cX10_init 53 = .ok (.newarray .char, 2) := by decide +kernel
theorem dX10_init_55 : decode cX10_init 55 = .ok (.dup, 1) := by decide +kernel
theorem dX10_init_56 : decode cX10_init 56 = .ok (.iconst 0, 1) := by decide +kernel
theorem dX10_init_57 : decode cX10_init 57 = .ok (.bipush 112, 2) := by decide +kernel
theorem dX10_init_59 : decode cX10_init 59 = .ok (.castore, 1) := by decide +kernel
theorem dX10_init_60 : decode cX10_init 60 = .ok (.dup, 1) := by decide +kernel
theorem dX10_init_61 : decode cX10_init 61 = .ok (.iconst 1, 1) := by decide +kernel
theorem dX10_init_62 : decode cX10_init 62 = .ok (.bipush 105, 2) := by decide +kernel
theorem dX10_init_64 : decode cX10_init 64 = .ok (.castore, 1) := by decide +kernel
theorem dX10_init_65 : decode cX10_init 65 = .ok (.dup, 1) := by decide +kernel
theorem dX10_init_66 : decode cX10_init 66 = .ok (.iconst 2, 1) := by decide +kernel
theorem dX10_init_67 : decode cX10_init 67 = .ok (.bipush 99, 2) := by decide +kernel
theorem dX10_init_69 : decode cX10_init 69 = .ok (.castore, 1) := by decide +kernel
theorem dX10_init_70 : decode cX10_init 70 = .ok (.dup, 1) := by decide +kernel
theorem dX10_init_71 : decode cX10_init 71 = .ok (.iconst 3, 1) := by decide +kernel
theorem dX10_init_72 : decode cX10_init 72 = .ok (.bipush 116, 2) := by decide +kernel
theorem dX10_init_74 : decode cX10_init 74 = .ok (.castore, 1) := by decide +kernel
theorem dX10_init_75 : decode cX10_init 75 = .ok (.dup, 1) := by decide +kernel
theorem dX10_init_76 : decode cX10_init 76 = .ok (.iconst 4, 1) := by decide +kernel
theorem dX10_init_77 : decode cX10_init 77 = .ok (.bipush 117, 2) := by decide +kernel
theorem dX10_init_79 : decode cX10_init 79 = .ok (.castore, 1) := by decide +kernel
theorem dX10_init_80 : decode cX10_init 80 = .ok (.dup, 1) := by decide +kernel
theorem dX10_init_81 : decode cX10_init 81 = .ok (.iconst 5, 1) := by decide +kernel
theorem dX10_init_82 : decode cX10_init 82 = .ok (.bipush 114, 2) := by decide +kernel
theorem dX10_init_84 : decode cX10_init 84 = .ok (.castore, 1) := by decide +kernel
theorem dX10_init_85 : decode cX10_init 85 = .ok (.dup, 1) := by decide +kernel
theorem dX10_init_86 : decode cX10_init 86 = .ok (.bipush 6, 2) := by decide +kernel
theorem dX10_init_88 : decode cX10_init 88 = .ok (.bipush 101, 2) := by decide +kernel
theorem dX10_init_90 : decode cX10_init 90 = .ok (.castore, 1) := by decide +kernel
theorem dX10_init_91 : decode cX10_init 91 = .ok (.putfield 21, 3) := by decide +kernel
theorem dX10_init_94 : decode cX10_init 94 = .ok (.aload_n 0, 1) := by decide +kernel
theorem dX10_init_95 : decode cX10_init 95 = .ok (.iconst 2, 1) := by decide +kernel
theorem dX10_init_96 : decode cX10_init 96 = .ok (.newarray .char, 2) := by decide +kernel
theorem dX10_init_98 : decode cX10_init 98 = .ok (.dup, 1) := by decide +kernel
theorem dX10_init_99 : decode cX10_init 99 = .ok (.iconst 0, 1) := by decide +kernel
theorem dX10_init_100 : decode cX10_init 100 = .ok (.bipush 105, 2) := by decide +kernel
theorem dX10_init_102 : decode cX10_init 102 = .ok (.castore, 1) := by decide +kernel
theorem dX10_init_103 : decode cX10_init 103 = .ok (.dup, 1) := by decide +kernel
theorem dX10_init_104 : decode cX10_init 104 = .ok (.iconst 1, 1) := by decide +kernel
theorem dX10_init_105 : decode cX10_init 105 = .ok (.bipush 110, 2) := by decide +kernel
theorem dX10_init_107 : decode cX10_init 107 = .ok (.castore, 1) := by decide +kernel
theorem dX10_init_108 : decode cX10_init 108 = .ok (.putfield 24, 3) := by decide +kernel
theorem dX10_init_111 : decode cX10_init 111 = .ok (.aload_n 0, 1) := by decide +kernel
theorem dX10_init_112 : decode cX10_init 112 = .ok (.iconst 4, 1) := by decide +kernel
theorem dX10_init_113 : decode cX10_init 113 = .ok (.newarray .char, 2) := by decide +kernel
theorem dX10_init_115 : decode cX10_init 115 = .ok (.dup, 1) := by decide +kernel
theorem dX10_init_116 : decode cX10_init 116 = .ok (.iconst 0, 1) := by decide +kernel
theorem dX10_init_117 : decode cX10_init 117 = .ok (.bipush 116, 2) := by decide +kernel
theorem dX10_init_119 : decode cX10_init 119 = .ok (.castore, 1) := by decide +kernel
theorem dX10_init_120 : decode cX10_init 120 = .ok (.dup, 1) := by decide +kernel
theorem dX10_init_121 : decode cX10_init 121 = .ok (.iconst 1, 1) := by decide +kernel
theorem dX10_init_122 : decode cX10_init 122 = .ok (.bipush 117, 2) := by decide +kernel
theorem dX10_init_124 : decode cX10_init 124 = .ok (.castore, 1) := by decide +kernel
theorem dX10_init_125 : decode cX10_init 125 = .ok (.dup, 1) := by decide +kernel
theorem dX10_init_126 : decode cX10_init 126 = .ok (.iconst 2, 1) := by decide +kernel
theorem dX10_init_127 : decode cX10_init 127 = .ok (.bipush 114, 2) := by decide +kernel
theorem dX10_init_129 : decode cX10_init 129 = .ok (.castore, 1) := by decide +kernel
theorem dX10_init_130 : decode cX10_init 130 = .ok (.dup, 1) := by decide +kernel
theorem dX10_init_131 : decode cX10_init 131 = .ok (.iconst 3, 1) := by decide +kernel
theorem dX10_init_132 : decode cX10_init 132 = .ok (.bipush 110, 2) := by decide +kernel
theorem dX10_init_134 : decode cX10_init 134 = .ok (.castore, 1) := by decide +kernel
theorem dX10_init_135 : decode cX10_init 135 = .ok (.putfield 27, 3) := by decide +kernel
theorem dX10_init_138 : decode cX10_init 138 = .ok (.aload_n 0, 1) := by decide +kernel
theorem dX10_init_139 : decode cX10_init 139 = .ok (.iconst 3, 1) := by decide +kernel
theorem dX10_init_140 : decode cX10_init 140 = .ok (.newarray .char, 2) := by decide +kernel
theorem dX10_init_142 : decode cX10_init 142 = .ok (.dup, 1) := by decide +kernel
theorem dX10_init_143 : decode cX10_init 143 = .ok (.iconst 0, 1) := by decide +kernel
theorem dX10_init_144 : decode cX10_init 144 = .ok (.bipush 97, 2) := by decide +kernel
theorem dX10_init_146 : decode cX10_init 146 = .ok (.castore, 1) := by decide +kernel
theorem dX10_init_147 : decode cX10_init 147 = .ok (.dup, 1) := by decide +kernel
theorem dX10_init_148 : decode cX10_init 148 = .ok (.iconst 1, 1) := by decide +kernel
theorem dX10_init_149 : decode cX10_init 149 = .ok (.bipush 110, 2) := by decide +kernel
theorem dX10_init_151 : decode cX10_init 151 = .ok (.castore, 1) := by decide +kernel
theorem dX10_init_152 : decode cX10_init 152 = .ok (.dup, 1) := by decide +kernel
theorem dX10_init_153 : decode cX10_init 153 = .ok (.iconst 2, 1) := by decide +kernel
theorem dX10_init_154 : decode cX10_init 154 = .ok (.bipush 121, 2) := by decide +kernel
theorem dX10_init_156 : decode cX10_init 156 = .ok (.castore, 1) := by decide +kernel
theorem dX10_init_157 : decode cX10_init 157 = .ok (.putfield 30, 3) := by decide +kernel
theorem dX10_init_160 : decode cX10_init 160 = .ok (.aload_n 0, 1) := by decide +kernel
theorem dX10_init_161 : decode cX10_init 161 = .ok (.iconst 5, 1) := by decide +kernel
theorem dX10_init_162 : decode cX10_init 162 = .ok (.newarray .char, 2) := by decide +kernel
theorem dX10_init_164 : decode cX10_init 164 = .ok (.dup, 1) := by decide +kernel
theorem dX10_init_165 : decode cX10_init 165 = .ok (.iconst 0, 1) := by decide +kernel
theorem dX10_init_166 : decode cX10_init 166 = .ok (.bipush 112, 2) := by decide +kernel
theorem dX10_init_168 : decode cX10_init 168 = .ok (.castore, 1) := by decide +kernel
theorem dX10_init_169 : decode cX10_init 169 = .ok (.dup, 1) := by decide +kernel
theorem dX10_init_170 : decode cX10_init 170 = .ok (.iconst 1, 1) := by decide +kernel
theorem dX10_init_171 : decode cX10_init 171 = .ok (.bipush 111, 2) := by decide +kernel
theorem dX10_init_173 : decode cX10_init 173 = .ok (.castore, 1) := by decide +kernel
theorem dX10_init_174 : decode cX10_init 174 = .ok (.dup, 1) := by decide +kernel
theorem dX10_init_175 : decode cX10_init 175 = .ok (.iconst 2, 1) := by decide +kernel
theorem dX10_init_176 : decode cX10_init 176 = .ok (.bipush 105, 2) := by decide +kernel
theorem dX10_init_178 : decode cX10_init 178 = .ok (.castore, 1) := by decide +kernel
theorem dX10_init_179 : decode cX10_init 179 = .ok (.dup, 1) := by decide +kernel
theorem dX10_init_180 : decode cX10_init 180 = .ok (.iconst 3, 1) := by decide +kernel
theorem dX10_init_181 : decode cX10_init 181 = .ok (.bipush 110, 2) := by decide +kernel
theorem dX10_init_183 : decode cX10_init 183 = .ok (.castore, 1) := by decide +kernel
theorem dX10_init_184 : decode cX10_init 184 = .ok (.dup, 1) := by decide +kernel
theorem dX10_init_185 : decode cX10_init 185 = .ok (.iconst 4, 1) := by decide +kernel
theorem dX10_init_186 : decode cX10_init 186 = .ok (.bipush 116, 2) := by decide +kernel
theorem dX10_init_188 : decode cX10_init 188 = .ok (.castore, 1) := by decide +kernel
theorem dX10_init_189 : decode cX10_init 189 = .ok (.putfield 33, 3) := by decide +kernel
theorem dX10_init_192 : decode cX10_init 192 = .ok (.aload_n 0, 1) := by decide +kernel
theorem dX10_init_193 : decode cX10_init 193 = .ok (.iconst 3, 1) := by decide +kernel
theorem dX10_init_194 : decode cX10_init 194 = .ok (.newarray .char, 2) := by decide +kernel
theorem dX10_init_196 : decode cX10_init 196 = .ok (.dup, 1) := by decide +kernel
theorem dX10_init_197 : decode cX10_init 197 = .ok (.iconst 0, 1) := by decide +kernel
theorem dX10_init_198 : decode cX10_init 198 = .ok (.bipush 114, 2) := by decide +kernel
theorem dX10_init_200 : decode cX10_init 200 = .ok (.castore, 1) := by decide +kernel
theorem dX10_init_201 : decode cX10_init 201 = .ok (.dup, 1) := by decide +kernel
theorem dX10_init_202 : decode cX10_init 202 = .ok (.iconst 1, 1) := by decide +kernel
theorem dX10_init_203 : decode cX10_init 203 = .ok (.bipush 111, 2) := by decide +kernel
theorem dX10_init_205 : decode cX10_init 205 = .ok (.castore, 1) := by decide +kernel
theorem dX10_init_206 : decode cX10_init 206 = .ok (.dup, 1) := by decide +kernel
theorem dX10_init_207 : decode cX10_init 207 = .ok (.iconst 2, 1) := by decide +kernel
theorem dX10_init_208 : decode cX10_init 208 = .ok (.bipush 119, 2) := by decide +kernel
theorem dX10_init_210 : decode cX10_init 210 = .ok (.castore, 1) := by decide +kernel
theorem dX10_init_211 : decode cX10_init 211 = .ok (.putfield 36, 3) := by decide +kernel
theorem dX10_init_214 : decode cX10_init 214 = .ok (.aload_n 0, 1) := by decide +kernel
theorem dX10_init_215 : decode cX10_init 215 = .ok (.iconst 2, 1) := by decide +kernel
theorem dX10_init_216 : decode cX10_init 216 = .ok (.newarray .char, 2) := by decide +kernel
theorem dX10_init_218 : decode cX10_init 218 = .ok (.dup, 1) := by decide +kernel
theorem dX10_init_219 : decode cX10_init 219 = .ok (.iconst 0, 1) := by decide +kernel
theorem dX10_init_220 : decode cX10_init 220 = .ok (.bipush 97, 2) := by decide +kernel
theorem dX10_init_222 : decode cX10_init 222 = .ok (.castore, 1) := by decide +kernel
theorem dX10_init_223 : decode cX10_init 223 = .ok (.dup, 1) := by decide +kernel
theorem dX10_init_224 : decode cX10_init 224 = .ok (.iconst 1, 1) := by decide +kernel
theorem dX10_init_225 : decode cX10_init 225 = .ok (.bipush 116, 2) := by decide +kernel
theorem dX10_init_227 : decode cX10_init 227 = .ok (.castore, 1) := by decide +kernel
theorem dX10_init_228 : decode cX10_init 228 = .ok (.putfield 39, 3) := by decide +kernel
theorem dX10_init_231 : decode cX10_init 231 = .ok (.aload_n 0, 1) := by decide +kernel
theorem dX10_init_232 : decode cX10_init 232 = .ok (.bipush 6, 2) := by decide +kernel
theorem dX10_init_234 : decode cX10_init 234 = .ok (.newarray .char, 2) := by decide +kernel
theorem dX10_init_236 : decode cX10_init 236 = .ok (.dup, 1) := by decide +kernel
theorem dX10_init_237 : decode cX10_init 237 = .ok (.iconst 0, 1) := by decide +kernel
theorem dX10_init_238 : decode cX10_init 238 = .ok (.bipush 119, 2) := by decide +kernel
theorem dX10_init_240 : decode cX10_init 240 = .ok (.castore, 1) := by decide +kernel
theorem dX10_init_241 : decode cX10_init 241 = .ok (.dup, 1) := by decide +kernel
theorem dX10_init_242 : decode cX10_init 242 = .ok (.iconst 1, 1) := by decide +kernel
theorem dX10_init_243 : decode cX10_init 243 = .ok (.bipush 101, 2) := by decide +kernel
theorem dX10_init_245 : decode cX10_init 245 = .ok (.castore, 1) := by decide +kernel
theorem dX10_init_246 : decode cX10_init 246 = .ok (.dup, 1) := by decide +kernel
theorem dX10_init_247 : decode cX10_init 247 = .ok (.iconst 2, 1) := by decide +kernel
theorem dX10_init_248 : decode cX10_init 248 = .ok (.bipush 105, 2) := by decide +kernel
theorem dX10_init_250 : decode cX10_init 250 = .ok (.castore, 1) := by decide +kernel
theorem dX10_init_251 : decode cX10_init 251 = .ok (.dup, 1) := by decide +kernel
theorem dX10_init_252 : decode cX10_init 252 = .ok (.iconst 3, 1) := by decide +kernel
theorem dX10_init_253 : decode cX10_init 253 = .ok (.bipush 103, 2) := by decide +kernel
theorem dX10_init_255 : decode cX10_init 255 = .ok (.castore, 1) := by decide +kernel
theorem dX10_init_256 : decode cX10_init 256 = .ok (.dup, 1) := by decide +kernel
theorem dX10_init_257 : decode cX10_init 257 = .ok (.iconst 4, 1) := by decide +kernel
theorem dX10_init_258 : decode cX10_init 258 = .ok (.bipush 104, 2) := by decide +kernel
theorem dX10_init_260 : decode cX10_init 260 = .ok (.castore, 1) := by decide +kernel
theorem dX10_init_261 : decode cX10_init 261 = .ok (.dup, 1) := by decide +kernel
theorem dX10_init_262 : decode cX10_init 262 = .ok (.iconst 5, 1) := by decide +kernel
theorem dX10_init_263 : decode cX10_init 263 = .ok (.bipush 116, 2) := by decide +kernel
theorem dX10_init_265 : decode cX10_init 265 = .ok (.castore, 1) := by decide +kernel
theorem dX10_init_266 : decode cX10_init 266 = .ok (.putfield 42, 3) := by decide +kernel
theorem dX10_init_269 : decode cX10_init 269 = .ok (.aload_n 0, 1) := by decide +kernel
theorem dX10_init_270 : decode cX10_init 270 = .ok (.bipush 7, 2) := by decide +kernel
theorem dX10_init_272 : decode cX10_init 272 = .ok (.newarray .char, 2) := by decide +kernel
theorem dX10_init_274 : decode cX10_init 274 = .ok (.dup, 1) := by decide +kernel
theorem dX10_init_275 : decode cX10_init 275 = .ok (.iconst 0, 1) := by decide +kernel
theorem dX10_init_276 : decode cX10_init 276 = .ok (.bipush 99, 2) := by decide +kernel
theorem dX10_init_278 : decode cX10_init 278 = .ok (.castore, 1) := by decide +kernel
theorem dX10_init_279 : decode cX10_init 279 = .ok (.dup, 1) := by decide +kernel
theorem dX10_init_280 : decode cX10_init 280 = .ok (.iconst 1, 1) := by decide +kernel
theorem dX10_init_281 : decode cX10_init 281 = .ok (.bipush 111, 2) := by decide +kernel
theorem dX10_init_283 : decode cX10_init 283 = .ok (.castore, 1) := by decide +kernel
theorem dX10_init_284 : decode cX10_init 284 = .ok (.dup, 1) := by decide +kernel
theorem dX10_init_285 : decode cX10_init 285 = .ok (.iconst 2, 1) := by decide +kernel
theorem dX10_init_286 : decode cX10_init 286 = .ok (.bipush 110, 2) := by decide +kernel
theorem dX10_init_288 : decode cX10_init 288 = .ok (.castore, 1) := by decide +kernel
theorem dX10_init_289 : decode cX10_init 289 = .ok (.dup, 1) := by decide +kernel
theorem dX10_init_290 : decode cX10_init 290 = .ok (.iconst 3, 1) := by decide +kernel
theorem dX10_init_291 : decode cX10_init 291 = .ok (.bipush 116, 2) := by decide +kernel
theorem dX10_init_293 : decode cX10_init 293 = .ok (.castore, 1) := by decide +kernel
theorem dX10_init_294 : decode cX10_init 294 = .ok (.dup, 1) := by decide +kernel
theorem dX10_init_295 : decode cX10_init 295 = .ok (.iconst 4, 1) := by decide +kernel
theorem dX10_init_296 : decode cX10_init 296 = .ok (.bipush 114, 2) := by decide +kernel
theorem dX10_init_298 : decode cX10_init 298 = .ok (.castore, 1) := by decide +kernel
theorem dX10_init_299 : decode cX10_init 299 = .ok (.dup, 1) := by decide +kernel
theorem dX10_init_300 : decode cX10_init 300 = .ok (.iconst 5, 1) := by decide +kernel
theorem dX10_init_301 : decode cX10_init 301 = .ok (.bipush 111, 2) := by decide +kernel
theorem dX10_init_303 : decode cX10_init 303 = .ok (.castore, 1) := by decide +kernel
theorem dX10_init_304 : decode cX10_init 304 = .ok (.dup, 1) := by decide +kernel
theorem dX10_init_305 : decode cX10_init 305 = .ok (.bipush 6, 2) := by decide +kernel
theorem dX10_init_307 : decode cX10_init 307 = .ok (.bipush 108, 2) := by decide +kernel
theorem dX10_init_309 : decode cX10_init 309 = .ok (.castore, 1) := by decide +kernel
theorem dX10_init_310 : decode cX10_init 310 = .ok (.putfield 45, 3) := by decide +kernel
theorem dX10_init_313 : decode cX10_init 313 = .ok (.aload_n 0, 1) := by decide +kernel
theorem dX10_init_314 : decode cX10_init 314 = .ok (.iconst 3, 1) := by decide +kernel
theorem dX10_init_315 : decode cX10_init 315 = .ok (.newarray .char, 2) := by decide +kernel
theorem dX10_init_317 : decode cX10_init 317 = .ok (.dup, 1) := by decide +kernel
theorem dX10_init_318 : decode cX10_init 318 = .ok (.iconst 0, 1) := by decide +kernel
theorem dX10_init_319 : decode cX10_init 319 = .ok (.bipush 115, 2) := by decide +kernel
theorem dX10_init_321 : decode cX10_init 321 = .ok (.castore, 1) := by decide +kernel
theorem dX10_init_322 : decode cX10_init 322 = .ok (.dup, 1) := by decide +kernel
theorem dX10_init_323 : decode cX10_init 323 = .ok (.iconst 1, 1) := by decide +kernel
theorem dX10_init_324 : decode cX10_init 324 = .ok (.bipush 101, 2) := by decide +kernel
theorem dX10_init_326 : decode cX10_init 326 = .ok (.castore, 1) := by decide +kernel
theorem dX10_init_327 : decode cX10_init 327 = .ok (.dup, 1) := by decide +kernel
theorem dX10_init_328 : decode cX10_init 328 = .ok (.iconst 2, 1) := by decide +kernel
theorem dX10_init_329 : decode cX10_init 329 = .ok (.bipush 116, 2) := by decide +kernel
theorem dX10_init_331 : decode cX10_init 331 = .ok (.castore, 1) := by decide +kernel
theorem dX10_init_332 : decode cX10_init 332 = .ok (.putfield 48, 3) := by decide +kernel
theorem dX10_init_335 : decode cX10_init 335 = .ok (.aload_n 0, 1) := by decide +kernel
theorem dX10_init_336 : decode cX10_init 336 = .ok (.bipush 6, 2) := by decide +kernel
theorem dX10_init_338 : decode cX10_init 338 = .ok (.newarray .char, 2) := by decide +kernel
theorem dX10_init_340 : decode cX10_init 340 = .ok (.dup, 1) := by decide +kernel
theorem dX10_init_341 : decode cX10_init 341 = .ok (.iconst 0, 1) := by decide +kernel
theorem dX10_init_342 : decode cX10_init 342 = .ok (.bipush 99, 2) := by decide +kernel
theorem dX10_init_344 : decode cX10_init 344 = .ok (.castore, 1) := by decide +kernel
theorem dX10_init_345 : decode cX10_init 345 = .ok (.dup, 1) := by decide +kernel
theorem dX10_init_346 : decode cX10_init 346 = .ok (.iconst 1, 1) := by decide +kernel
theorem dX10_init_347 : decode cX10_init 347 = .ok (.bipush 101, 2) := by decide +kernel
theorem dX10_init_349 : decode cX10_init 349 = .ok (.castore, 1) := by decide +kernel
theorem dX10_init_350 : decode cX10_init 350 = .ok (.dup, 1) := by decide +kernel
theorem dX10_init_351 : decode cX10_init 351 = .ok (.iconst 2, 1) := by decide +kernel
theorem dX10_init_352 : decode cX10_init 352 = .ok (.bipush 110, 2) := by decide +kernel
theorem dX10_init_354 : decode cX10_init 354 = .ok (.castore, 1) := by decide +kernel
theorem dX10_init_355 : decode cX10_init 355 = .ok (.dup, 1) := by decide +kernel
theorem dX10_init_356 : decode cX10_init 356 = .ok (.iconst 3, 1) := by decide +kernel
theorem dX10_init_357 : decode cX10_init 357 = .ok (.bipush 116, 2) := by decide +kernel
theorem dX10_init_359 : decode cX10_init 359 = .ok (.castore, 1) := by decide +kernel
theorem dX10_init_360 : decode cX10_init 360 = .ok (.dup, 1) := by decide +kernel
theorem dX10_init_361 : decode cX10_init 361 = .ok (.iconst 4, 1) := by decide +kernel
theorem dX10_init_362 : decode cX10_init 362 = .ok (.bipush 114, 2) := by decide +kernel
theorem dX10_init_364 : decode cX10_init 364 = .ok (.castore, 1) := by decide +kernel
theorem dX10_init_365 : decode cX10_init 365 = .ok (.dup, 1) := by decide +kernel
theorem dX10_init_366 : decode cX10_init 366 = .ok (.iconst 5, 1) := by decide +kernel
theorem dX10_init_367 : decode cX10_init 367 = .ok (.bipush 101, 2) := by decide +kernel
theorem dX10_init_369 : decode cX10_init 369 = .ok (.castore, 1) := by decide +kernel
theorem dX10_init_370 : decode cX10_init 370 = .ok (.putfield 51, 3) := by decide +kernel
theorem dX10_init_373 : decode cX10_init 373 = .ok (.aload_n 0, 1) := by decide +kernel
theorem dX10_init_374 : decode cX10_init 374 = .ok (.bipush 120, 2) := by decide +kernel
theorem dX10_init_376 : decode cX10_init 376 = .ok (.newarray .long, 2) := by decide +kernel
theorem dX10_init_378 : decode cX10_init 378 = .ok (.putfield 54, 3) := by decide +kernel
theorem dX10_init_381 : decode cX10_init 381 = .ok (.aload_n 0, 1) := by decide +kernel
theorem dX10_init_382 : decode cX10_init 382 = .ok (.bipush 12, 2) := by decide +kernel
theorem dX10_init_384 : decode cX10_init 384 = .ok (.newarray .int, 2) := by decide +kernel
theorem dX10_init_386 : decode cX10_init 386 = .ok (.putfield 58, 3) := by decide +kernel
theorem dX10_init_389 : decode cX10_init 389 = .ok (.aload_n 0, 1) := by decide +kernel
theorem dX10_init_390 : decode cX10_init 390 = .ok (.bipush 24, 2) := by decide +kernel
theorem dX10_init_392 : decode cX10_init 392 = .ok (.newarray .int, 2) := by decide +kernel
theorem dX10_init_394 : decode cX10_init 394 = .ok (.putfield 61, 3) := by decide +kernel
theorem dX10_init_397 : decode cX10_init 397 = .ok (.aload_n 0, 1) := by decide +kernel
theorem dX10_init_398 : decode cX10_init 398 = .ok (.bipush 24, 2) := by decide +kernel
theorem dX10_init_400 : decode cX10_init 400 = .ok (.newarray .int, 2) := by decide +kernel
theorem dX10_init_402 : decode cX10_init 402 = .ok (.putfield 64, 3) := by decide +kernel
theorem dX10_init_405 : decode cX10_init 405 = .ok (.aload_n 0, 1) := by decide +kernel
theorem dX10_init_406 : decode cX10_init 406 = .ok (.bipush 24, 2) := by decide +kernel
theorem dX10_init_408 : decode cX10_init 408 = .ok (.newarray .int, 2) := by decide +kernel
theorem dX10_init_410 : decode cX10_init 410 = .ok (.putfield 67, 3) := by decide +kernel
theorem dX10_init_413 : decode cX10_init 413 = .ok (.aload_n 0, 1) := by decide +kernel
theorem dX10_init_414 : decode cX10_init 414 = .ok (.bipush 48, 2) := by decide +kernel
theorem dX10_init_416 : decode cX10_init 416 = .ok (.newarray .int, 2) := by decide +kernel
theorem dX10_init_418 : decode cX10_init 418 = .ok (.putfield 70, 3) := by decide +kernel
theorem dX10_init_421 : decode cX10_init 421 = .ok (.aload_n 0, 1) := by decide +kernel
theorem dX10_init_422 : decode cX10_init 422 = .ok (.bipush 40, 2) := by decide +kernel
theorem dX10_init_424 : decode cX10_init 424 = .ok (.newarray .int, 2) := by decide +kernel
theorem dX10_init_426 : decode cX10_init 426 = .ok (.putfield 73, 3) := by decide +kernel
theorem dX10_init_429 : decode cX10_init 429 = .ok (.aload_n 0, 1) := by decide +kernel
theorem dX10_init_430 : decode cX10_init 430 = .ok (.bipush 80, 2) := by decide +kernel
theorem dX10_init_432 : decode cX10_init 432 = .ok (.newarray .int, 2) := by decide +kernel
theorem dX10_init_434 : decode cX10_init 434 = .ok (.putfield 76, 3) := by decide +kernel
theorem dX10_init_437 : decode cX10_init 437 = .ok (.aload_n 0, 1) := by decide +kernel
theorem dX10_init_438 : decode cX10_init 438 = .ok (.bipush 120, 2) := by decide +kernel
theorem dX10_init_440 : decode cX10_init 440 = .ok (.newarray .int, 2) := by decide +kernel
theorem dX10_init_442 : decode cX10_init 442 = .ok (.putfield 79, 3) := by decide +kernel
theorem dX10_init_445 : decode cX10_init 445 = .ok (.aload_n 0, 1) := by decide +kernel
theorem dX10_init_446 : decode cX10_init 446 = .ok (.bipush 120, 2) := by decide +kernel
theorem dX10_init_448 : decode cX10_init 448 = .ok (.newarray .int, 2) := by decide +kernel
theorem dX10_init_450 : decode cX10_init 450 = .ok (.putfield 82, 3) := by decide +kernel
theorem dX10_init_453 : decode cX10_init 453 = .ok (.aload_n 0, 1) := by decide +kernel
theorem dX10_init_454 : decode cX10_init 454 = .ok (.sipush 240, 3) := by decide +kernel
theorem dX10_init_457 : decode cX10_init 457 = .ok (.newarray .int, 2) := by decide +kernel
theorem dX10_init_459 : decode cX10_init 459 = .ok (.putfield 85, 3) := by decide +kernel
theorem dX10_init_462 : decode cX10_init 462 = .ok (.aload_n 0, 1) := by decide +kernel
theorem dX10_init_463 : decode cX10_init 463 = .ok (.bipush 120, 2) := by decide +kernel
theorem dX10_init_465 : decode cX10_init 465 = .ok (.newarray .int, 2) := by decide +kernel
theorem dX10_init_467 : decode cX10_init 467 = .ok (.putfield 88, 3) := by decide +kernel
theorem dX10_init_470 : decode cX10_init 470 = .ok (.aload_n 0, 1) := by decide +kernel
theorem dX10_init_471 : decode cX10_init 471 = .ok (.bipush 60, 2) := by decide +kernel
theorem dX10_init_473 : decode cX10_init 473 = .ok (.newarray .boolean, 2) := by decide +kernel
theorem dX10_init_475 : decode cX10_init 475 = .ok (.putfield 91, 3) := by decide +kernel
theorem dX10_init_478 : decode cX10_init 478 = .ok (.aload_n 0, 1) := by decide +kernel
theorem dX10_init_479 : decode cX10_init 479 = .ok (.iconst 3, 1) := by decide +kernel
theorem dX10_init_480 : decode cX10_init 480 = .ok (.putfield 95, 3) := by decide +kernel
theorem dX10_init_483 : decode cX10_init 483 = .ok (.aload_n 0, 1) := by decide +kernel
theorem dX10_init_484 : decode cX10_init 484 = .ok (.bipush 12, 2) := by decide +kernel
theorem dX10_init_486 : decode cX10_init 486 = .ok (.newarray .int, 2) := by decide +kernel
theorem dX10_init_488 : decode cX10_init 488 = .ok (.putfield 98, 3) := by decide +kernel
theorem dX10_init_491 : decode cX10_init 491 = .ok (.aload_n 0, 1) := by decide +kernel
theorem dX10_init_492 : decode cX10_init 492 = .ok (.bipush 76, 2) := by decide +kernel
theorem dX10_init_494 : decode cX10_init 494 = .ok (.newarray .int, 2) := by decide +kernel
theorem dX10_init_496 : decode cX10_init 496 = .ok (.putfield 101, 3) := by decide +kernel
theorem dX10_init_499 : decode cX10_init 499 = .ok (.aload_n 0, 1) := by decide +kernel
theorem dX10_init_500 : decode cX10_init 500 = .ok (.bipush 12, 2) := by decide +kernel
theorem dX10_init_502 : decode cX10_init 502 = .ok (.newarray .boolean, 2) := by decide +kernel
theorem dX10_init_504 : decode cX10_init 504 = .ok (.putfield 104, 3) := by decide +kernel
theorem dX10_init_507 : decode cX10_init 507 = .ok (.aload_n 0, 1) := by decide +kernel
theorem dX10_init_508 : decode cX10_init 508 = .ok (.bipush 38, 2) := by decide +kernel
theorem dX10_init_510 : decode cX10_init 510 = .ok (.newarray .int, 2) := by decide +kernel
theorem dX10_init_512 : decode cX10_init 512 = .ok (.putfield 107, 3) := by decide +kernel
theorem dX10_init_515 : decode cX10_init 515 = .ok (.aload_n 0, 1) := by decide +kernel
theorem dX10_init_516 : decode cX10_init 516 = .ok (.sipush 1520, 3) := by decide +kernel
theorem dX10_init_519 : decode cX10_init 519 = .ok (.newarray .long, 2) := by decide +kernel
theorem dX10_init_521 : decode cX10_init 521 = .ok (.putfield 110, 3) := by decide +kernel
theorem dX10_init_524 : decode cX10_init 524 = .ok (.aload_n 0, 1) := by decide +kernel
theorem dX10_init_525 : decode cX10_init 525 = .ok (.bipush 32, 2) := by decide +kernel
theorem dX10_init_527 : decode cX10_init 527 = .ok (.newarray .int, 2) := by decide +kernel
theorem dX10_init_529 : decode cX10_init 529 = .ok (.putfield 113, 3) := by decide +kernel
theorem dX10_init_532 : decode cX10_init 532 = .ok (.aload_n 0, 1) := by decide +kernel
theorem dX10_init_533 : decode cX10_init 533 = .ok (.bipush 60, 2) := by decide +kernel
theorem dX10_init_535 : decode cX10_init 535 = .ok (.newarray .boolean, 2) := by decide +kernel
theorem dX10_init_537 : decode cX10_init 537 = .ok (.putfield 116, 3) := by decide +kernel
theorem dX10_init_540 : decode cX10_init 540 = .ok (.aload_n 0, 1) := by decide +kernel
theorem dX10_init_541 : decode cX10_init 541 = .ok (.bipush 12, 2) := by decide +kernel
theorem dX10_init_543 : decode cX10_init 543 = .ok (.newarray .int, 2) := by decide +kernel
theorem dX10_init_545 : decode cX10_init 545 = .ok (.putfield 119, 3) := by decide +kernel
theorem dX10_init_548 : decode cX10_init 548 = .ok (.aload_n 0, 1) := by decide +kernel
theorem dX10_init_549 : decode cX10_init 549 = .ok (.bipush 12, 2) := by decide +kernel
theorem dX10_init_551 : decode cX10_init 551 = .ok (.newarray .int, 2) := by decide +kernel
theorem dX10_init_553 : decode cX10_init 553 = .ok (.putfield 122, 3) := by decide +kernel
theorem dX10_init_556 : decode cX10_init 556 = .ok (.aload_n 0, 1) := by decide +kernel
theorem dX10_init_557 : decode cX10_init 557 = .ok (.bipush 60, 2) := by decide +kernel
theorem dX10_init_559 : decode cX10_init 559 = .ok (.newarray .boolean, 2) := by decide +kernel
theorem dX10_init_561 : decode cX10_init 561 = .ok (.putfield 125, 3) := by decide +kernel
theorem dX10_init_564 : decode cX10_init 564 = .ok (.aload_n 0, 1) := by decide +kernel
theorem dX10_init_565 : decode cX10_init 565 = .ok (.bipush 76, 2) := by decide +kernel
theorem dX10_init_567 : decode cX10_init 567 = .ok (.newarray .int, 2) := by decide +kernel
theorem dX10_init_569 : decode cX10_init 569 = .ok (.putfield 128, 3) := by decide +kernel
theorem dX10_init_572 : decode cX10_init 572 = .ok (.aload_n 0, 1) := by decide +kernel
theorem dX10_init_573 : decode cX10_init 573 = .ok (.bipush 12, 2) := by decide +kernel
theorem dX10_init_575 : decode cX10_init 575 = .ok (.newarray .int, 2) := by decide +kernel
theorem dX10_init_577 : decode cX10_init 577 = .ok (.putfield 131, 3) := by decide +kernel
theorem dX10_init_580 : decode cX10_init 580 = .ok (.aload_n 0, 1) := by decide +kernel
theorem dX10_init_581 : decode cX10_init 581 = .ok (.bipush 24, 2) := by decide +kernel
theorem dX10_init_583 : decode cX10_init 583 = .ok (.newarray .int, 2) := by decide +kernel
theorem dX10_init_585 : decode cX10_init 585 = .ok (.putfield 134, 3) := by decide +kernel
theorem dX10_init_588 : decode cX10_init 588 = .ok (.aload_n 0, 1) := by decide +kernel
theorem dX10_init_589 : decode cX10_init 589 = .ok (.sipush 400, 3) := by decide +kernel
theorem dX10_init_592 : decode cX10_init 592 = .ok (.newarray .int, 2) := by decide +kernel
theorem dX10_init_594 : decode cX10_init 594 = .ok (.putfield 137, 3) := by decide +kernel
theorem dX10_init_597 : decode cX10_init 597 = .ok (.return_, 1) := by decide +kernel
theorem dX10_isIn_0 : decode cX10_isIn 0 = .ok (.lload_n 0, 1) := by decide +kernel
theorem dX10_isIn_1 : decode cX10_isIn 1 = .ok (.lload_n 2, 1) := by decide +kernel
theorem dX10_isIn_2 : decode cX10_isIn 2 = .ok (.lcmp, 1) := by decide +kernel
theorem dX10_isIn_3 : decode cX10_isIn 3 = .ok (.ifCond .lt 14, 3) := by decide +kernel
theorem dX10_isIn_6 : decode cX10_isIn 6 = .ok (.lload_n 0, 1) := by decide +kernel
theorem dX10_isIn_7 : decode cX10_isIn 7 = .ok (.lload 4, 2) := by decide +kernel
theorem dX10_isIn_9 : decode cX10_isIn 9 = .ok (.lcmp, 1) := by decide +kernel
theorem dX10_isIn_10 : decode cX10_isIn 10 = .ok (.ifCond .gt 7, 3) := by decide +kernel
theorem dX10_isIn_13 : decode cX10_isIn 13 = .ok (.iconst 1, 1) := by decide +kernel
theorem dX10_isIn_14 : decode cX10_isIn 14 = .ok (.goto 4, 3) := by decide +kernel
theorem dX10_isIn_17 : decode cX10_isIn 17 = .ok (.iconst 0, 1) := by decide +kernel
theorem dX10_isIn_18 : decode cX10_isIn 18 = .ok (.ireturn, 1) := by decide +kernel
theorem dX10_feed_0 : decode cX10_feed 0 = .ok (.aload_n 0, 1) := by decide +kernel
theorem dX10_feed_1 : decode cX10_feed 1 = .ok (.getfield 140, 3) := by decide +kernel
theorem dX10_feed_4 : decode cX10_feed 4 = .ok (.bipush 20, 2) := by decide +kernel
theorem dX10_feed_6 : decode cX10_feed 6 = .ok (.iadd, 1) := by decide +kernel
theorem dX10_feed_7 : decode cX10_feed 7 = .ok (.sipush 1600, 3) := by decide +kernel
theorem dX10_feed_10 : decode cX10_feed 10 = .ok (.if_icmp .le 5, 3) := by decide +kernel
theorem dX10_feed_13 : decode cX10_feed 13 = .ok (.iconst (-1), 1) := by decide +kernel
theorem dX10_feed_14 : decode cX10_feed 14 = .ok (.ireturn, 1) := by decide +kernel
theorem dX10_feed_15 : decode cX10_feed 15 = .ok (.iconst 0, 1) := by decide +kernel
theorem dX10_feed_16 : decode cX10_feed 16 = .ok (.istore 6, 2) := by decide +kernel
theorem dX10_feed_18 : decode cX10_feed 18 = .ok (.iload 6, 2) := by decide +kernel
theorem dX10_feed_20 : decode cX10_feed 20 = .ok (.bipush 20, 2) := by decide +kernel
theorem dX10_feed_22 : decode cX10_feed 22 = .ok (.if_icmp .ge 92, 3) := by decide +kernel
theorem dX10_feed_25 : decode cX10_feed 25 = .ok (.iload 6, 2) := by decide +kernel
theorem dX10_feed_27 : decode cX10_feed 27 = .ok (.iconst 4, 1) := by decide +kernel
theorem dX10_feed_28 : decode cX10_feed 28 = .ok (.if_icmp .ge 7, 3) := by decide +kernel
theorem dX10_feed_31 : decode cX10_feed 31 = .ok (.iload_n 1, 1) := by decide +kernel
theorem dX10_feed_32 : decode cX10_feed 32 = .ok (.goto 39, 3) := by decide +kernel
theorem dX10_feed_35 : decode cX10_feed 35 = .ok (.iload 6, 2) := by decide +kernel
theorem dX10_feed_37 : decode cX10_feed 37 = .ok (.bipush 8, 2) := by decide +kernel
theorem dX10_feed_39 : decode cX10_feed 39 = .ok (.if_icmp .ge 7, 3) := by decide +kernel
theorem dX10_feed_42 : decode cX10_feed 42 = .ok (.iload_n 2, 1) := by decide +kernel
theorem dX10_feed_43 : decode cX10_feed 43 = .ok (.goto 28, 3) := by decide +kernel
theorem dX10_feed_46 : decode cX10_feed 46 = .ok (.iload 6, 2) := by decide +kernel
theorem dX10_feed_48 : decode cX10_feed 48 = .ok (.bipush 12, 2) := by decide +kernel
theorem dX10_feed_50 : decode cX10_feed 50 = .ok (.if_icmp .ge 7, 3) := by decide +kernel
theorem dX10_feed_53 : decode cX10_feed 53 = .ok (.iload_n 3, 1) := by decide +kernel
theorem dX10_feed_54 : decode cX10_feed 54 = .ok (.goto 17, 3) := by decide +kernel
theorem dX10_feed_57 : decode cX10_feed 57 = .ok (.iload 6, 2) := by decide +kernel
theorem dX10_feed_59 : decode cX10_feed 59 = .ok (.bipush 16, 2) := by decide +kernel
theorem dX10_feed_61 : decode cX10_feed 61 = .ok (.if_icmp .ge 8, 3) := by decide +kernel
theorem dX10_feed_64 : decode cX10_feed 64 = .ok (.iload 4, 2) := by decide +kernel
theorem dX10_feed_66 : decode cX10_feed 66 = .ok (.goto 5, 3) := by decide +kernel
theorem dX10_feed_69 : decode cX10_feed 69 = .ok (.iload 5, 2) := by decide +kernel
theorem dX10_feed_71 : decode cX10_feed 71 = .ok (.istore 7, 2) := by decide +kernel
theorem dX10_feed_73 : decode cX10_feed 73 = .ok (.aload_n 0, 1) := by decide +kernel
theorem dX10_feed_74 : decode cX10_feed 74 = .ok (.getfield 7, 3) := by decide +kernel
theorem dX10_feed_77 : decode cX10_feed 77 = .ok (.aload_n 0, 1) := by decide +kernel
theorem dX10_feed_78 : decode cX10_feed 78 = .ok (.getfield 140, 3) := by decide +kernel
theorem dX10_feed_81 : decode cX10_feed 81 = .ok (.iload 7, 2) := by decide +kernel
theorem dX10_feed_83 : decode cX10_feed 83 = .ok (.bipush 8, 2) := by decide +kernel
theorem dX10_feed_85 : decode cX10_feed 85 = .ok (.iconst 3, 1) := by decide +kernel
theorem dX10_feed_86 : decode cX10_feed 86 = .ok (.iload 6, 2) := by decide +kernel
theorem dX10_feed_88 : decode cX10_feed 88 = .ok (.iconst 4, 1) := by decide +kernel
theorem dX10_feed_89 : decode cX10_feed 89 = .ok (.irem, 1) := by decide +kernel
theorem dX10_feed_90 : decode cX10_feed 90 = .ok (.isub, 1) := by decide +kernel
theorem dX10_feed_91 : decode cX10_feed 91 = .ok (.imul, 1) := by decide +kernel
theorem dX10_feed_92 : decode cX10_feed 92 = .ok (.ishr, 1) := by decide +kernel
theorem dX10_feed_93 : decode cX10_feed 93 = .ok (.sipush 255, 3) := by decide +kernel
theorem dX10_feed_96 : decode cX10_feed 96 = .ok (.iand, 1) := by decide +kernel
theorem dX10_feed_97 : decode cX10_feed 97 = .ok (.iastore, 1) := by decide +kernel
theorem dX10_feed_98 : decode cX10_feed 98 = .ok (.aload_n 0, 1) := by decide +kernel
theorem dX10_feed_99 : decode cX10_feed 99 = .ok (.dup, 1) := by decide +kernel
theorem dX10_feed_100 : decode cX10_feed 100 = .ok (.getfield 140, 3) := by decide +kernel
theorem dX10_feed_103 : decode cX10_feed 103 = .ok (.iconst 1, 1) := by decide +kernel
theorem dX10_feed_104 : decode cX10_feed 104 = .ok (.iadd, 1) := by decide +kernel
theorem dX10_feed_105 : decode cX10_feed 105 = .ok (.putfield 140, 3) := by decide +kernel
theorem dX10_feed_108 : decode cX10_feed 108 = .ok (.iinc 6 1, 3) := by decide +kernel
theorem dX10_feed_111 : decode cX10_feed 111 = .ok (.goto (-93), 3) := by decide +kernel
theorem dX10_feed_114 : decode cX10_feed 114 = .ok (.aload_n 0, 1) := by decide +kernel
theorem dX10_feed_115 : decode cX10_feed 115 = .ok (.getfield 140, 3) := by decide +kernel
theorem dX10_feed_118 : decode cX10_feed 118 = .ok (.ireturn, 1) := by decide +kernel
theorem dX10_end_0 : decode cX10_end 0 = .ok (.iload_n 1, 1) := by decide +kernel
theorem dX10_end_1 : decode cX10_end 1 = .ok (.ifCond .lt 11, 3) := by decide +kernel
theorem dX10_end_4 : decode cX10_end 4 = .ok (.iload_n 1, 1) := by decide +kernel
theorem dX10_end_5 : decode cX10_end 5 = .ok (.aload_n 0, 1) := by decide +kernel
theorem dX10_end_6 : decode cX10_end 6 = .ok (.getfield 140, 3) := by decide +kernel
theorem dX10_end_9 : decode cX10_end 9 = .ok (.if_icmp .le 5, 3) := by decide +kernel
theorem dX10_end_12 : decode cX10_end 12 = .ok (.iconst 0, 1) := by decide +kernel
theorem dX10_end_13 : decode cX10_end 13 = .ok (.ireturn, 1) := by decide +kernel
theorem dX10_end_14 : decode cX10_end 14 = .ok (.aload_n 0, 1) := by decide +kernel
theorem dX10_end_15 : decode cX10_end 15 = .ok (.iload_n 1, 1) := by decide +kernel
theorem dX10_end_16 : decode cX10_end 16 = .ok (.putfield 140, 3) := by decide +kernel
theorem dX10_end_19 : decode cX10_end 19 = .ok (.iconst 1, 1) := by decide +kernel
theorem dX10_end_20 : decode cX10_end 20 = .ok (.ireturn, 1) := by decide +kernel
theorem dX10_fail_0 : decode cX10_fail 0 = .ok (.aload_n 0, 1) := by decide +kernel
theorem dX10_fail_1 : decode cX10_fail 1 = .ok (.getfield 143, 3) := by decide +kernel
theorem dX10_fail_4 : decode cX10_fail 4 = .ok (.ifCond .eq 4, 3) := by decide +kernel
theorem dX10_fail_7 : decode cX10_fail 7 = .ok (.return_, 1) := by decide +kernel
theorem dX10_fail_8 : decode cX10_fail 8 = .ok (.aload_n 0, 1) := by decide +kernel
theorem dX10_fail_9 : decode cX10_fail 9 = .ok (.iload_n 1, 1) := by decide +kernel
theorem dX10_fail_10 : decode cX10_fail 10 = .ok (.putfield 143, 3) := by decide +kernel
theorem dX10_fail_13 : decode cX10_fail 13 = .ok (.aload_n 0, 1) := by decide +kernel
theorem dX10_fail_14 : decode cX10_fail 14 = .ok (.iload_n 2, 1) := by decide +kernel
theorem dX10_fail_15 : decode cX10_fail 15 = .ok (.putfield 146, 3) := by decide +kernel
theorem dX10_fail_18 : decode cX10_fail 18 = .ok (.return_, 1) := by decide +kernel
theorem dX10_isLetter_0 : decode cX10_isLetter 0 = .ok (.iload_n 0, 1) := by decide +kernel
theorem dX10_isLetter_1 : decode cX10_isLetter 1 = .ok (.bipush 97, 2) := by decide +kernel
theorem dX10_isLetter_3 : decode cX10_isLetter 3 = .ok (.if_icmp .lt 13, 3) := by decide +kernel
theorem dX10_isLetter_6 : decode cX10_isLetter 6 = .ok (.iload_n 0, 1) := by decide +kernel
theorem dX10_isLetter_7 : decode cX10_isLetter 7 = .ok (.bipush 122, 2) := by decide +kernel
theorem dX10_isLetter_9 : decode cX10_isLetter 9 = .ok (.if_icmp .gt 7, 3) := by decide +kernel
theorem dX10_isLetter_12 : decode cX10_isLetter 12 = .ok (.iconst 1, 1) := by decide +kernel
theorem dX10_isLetter_13 : decode cX10_isLetter 13 = .ok (.goto 4, 3) := by decide +kernel
theorem dX10_isLetter_16 : decode cX10_isLetter 16 = .ok (.iconst 0, 1) := by decide +kernel
theorem dX10_isLetter_17 : decode cX10_isLetter 17 = .ok (.ireturn, 1) := by decide +kernel
theorem dX10_isDigit_0 : decode cX10_isDigit 0 = .ok (.iload_n 0, 1) := by decide +kernel
theorem dX10_isDigit_1 : decode cX10_isDigit 1 = .ok (.bipush 48, 2) := by decide +kernel
theorem dX10_isDigit_3 : decode cX10_isDigit 3 = .ok (.if_icmp .lt 13, 3) := by decide +kernel
theorem dX10_isDigit_6 : decode cX10_isDigit 6 = .ok (.iload_n 0, 1) := by decide +kernel
theorem dX10_isDigit_7 : decode cX10_isDigit 7 = .ok (.bipush 57, 2) := by decide +kernel
theorem dX10_isDigit_9 : decode cX10_isDigit 9 = .ok (.if_icmp .gt 7, 3) := by decide +kernel
theorem dX10_isDigit_12 : decode cX10_isDigit 12 = .ok (.iconst 1, 1) := by decide +kernel
theorem dX10_isDigit_13 : decode cX10_isDigit 13 = .ok (.goto 4, 3) := by decide +kernel
theorem dX10_isDigit_16 : decode cX10_isDigit 16 = .ok (.iconst 0, 1) := by decide +kernel
theorem dX10_isDigit_17 : decode cX10_isDigit 17 = .ok (.ireturn, 1) := by decide +kernel
theorem dX10_look_0 : decode cX10_look 0 = .ok (.aload_n 0, 1) := by decide +kernel
theorem dX10_look_1 : decode cX10_look 1 = .ok (.getfield 149, 3) := by decide +kernel
theorem dX10_look_4 : decode cX10_look 4 = .ok (.aload_n 0, 1) := by decide +kernel
theorem dX10_look_5 : decode cX10_look 5 = .ok (.getfield 152, 3) := by decide +kernel
theorem dX10_look_8 : decode cX10_look 8 = .ok (.if_icmp .ge 44, 3) := by decide +kernel
theorem dX10_look_11 : decode cX10_look 11 = .ok (.aload_n 0, 1) := by decide +kernel
theorem dX10_look_12 : decode cX10_look 12 = .ok (.getfield 7, 3) := by decide +kernel
theorem dX10_look_15 : decode cX10_look 15 = .ok (.aload_n 0, 1) := by decide +kernel
theorem dX10_look_16 : decode cX10_look 16 = .ok (.getfield 149, 3) := by decide +kernel
theorem dX10_look_19 : decode cX10_look 19 = .ok (.iaload, 1) := by decide +kernel
theorem dX10_look_20 : decode cX10_look 20 = .ok (.bipush 10, 2) := by decide +kernel
theorem dX10_look_22 : decode cX10_look 22 = .ok (.if_icmp .eq 17, 3) := by decide +kernel
theorem dX10_look_25 : decode cX10_look 25 = .ok (.aload_n 0, 1) := by decide +kernel
theorem dX10_look_26 : decode cX10_look 26 = .ok (.getfield 7, 3) := by decide +kernel
theorem dX10_look_29 : decode cX10_look 29 = .ok (.aload_n 0, 1) := by decide +kernel
theorem dX10_look_30 : decode cX10_look 30 = .ok (.getfield 149, 3) := by decide +kernel
theorem dX10_look_33 : decode cX10_look 33 = .ok (.iaload, 1) := by decide +kernel
theorem dX10_look_34 : decode cX10_look 34 = .ok (.bipush 32, 2) := by decide +kernel
theorem dX10_look_36 : decode cX10_look 36 = .ok (.if_icmp .ne 16, 3) := by decide +kernel
theorem dX10_look_39 : decode cX10_look 39 = .ok (.aload_n 0, 1) := by decide +kernel
theorem dX10_look_40 : decode cX10_look 40 = .ok (.dup, 1) := by decide +kernel
theorem dX10_look_41 : decode cX10_look 41 = .ok (.getfield 149, 3) := by decide +kernel
theorem dX10_look_44 : decode cX10_look 44 = .ok (.iconst 1, 1) := by decide +kernel
theorem dX10_look_45 : decode cX10_look 45 = .ok (.iadd, 1) := by decide +kernel
theorem dX10_look_46 : decode cX10_look 46 = .ok (.putfield 149, 3) := by decide +kernel
theorem dX10_look_49 : decode cX10_look 49 = .ok (.goto (-49), 3) := by decide +kernel
theorem dX10_look_52 : decode cX10_look 52 = .ok (.aload_n 0, 1) := by decide +kernel
theorem dX10_look_53 : decode cX10_look 53 = .ok (.getfield 149, 3) := by decide +kernel
theorem dX10_look_56 : decode cX10_look 56 = .ok (.aload_n 0, 1) := by decide +kernel
theorem dX10_look_57 : decode cX10_look 57 = .ok (.getfield 152, 3) := by decide +kernel
theorem dX10_look_60 : decode cX10_look 60 = .ok (.if_icmp .ge 15, 3) := by decide +kernel
theorem dX10_look_63 : decode cX10_look 63 = .ok (.aload_n 0, 1) := by decide +kernel
theorem dX10_look_64 : decode cX10_look 64 = .ok (.getfield 7, 3) := by decide +kernel
theorem dX10_look_67 : decode cX10_look 67 = .ok (.aload_n 0, 1) := by decide +kernel
theorem dX10_look_68 : decode cX10_look 68 = .ok (.getfield 149, 3) := by decide +kernel
theorem dX10_look_71 : decode cX10_look 71 = .ok (.iaload, 1) := by decide +kernel
theorem dX10_look_72 : decode cX10_look 72 = .ok (.goto 4, 3) := by decide +kernel
theorem dX10_look_75 : decode cX10_look 75 = .ok (.iconst (-1), 1) := by decide +kernel
theorem dX10_look_76 : decode cX10_look 76 = .ok (.ireturn, 1) := by decide +kernel
set_option maxRecDepth 20000 in
theorem ggX10_isHere_X10_look : GoodIn wsX10_isHere wsX10_look := goodIn_r _ [10, 2, 4, 5, 14, 15, 16, 17, 18, 19, 20, 21, 22, 23, 24, 25, 26, 27, 28, 29, 30, 31, 32, 33, 34, 35, 36, 37, 38, 39, 40, 41, 42, 43, 44, 45, 46, 47, 48, 49, 50, 51, 52, 53, 54, 55, 56, 57, 58, 59, 60, 61, 62, 63, 64, 65, 66, 67, 68, 69, 70] (by decide +kernel) (by decide +kernel)
set_option maxRecDepth 20000 in
theorem gX10_isHere_X10_look : GoodIn wsX10_isHere (wsV RX10 155 RX10 yX10_look wsX10_look) := goodIn_app (goodIn_of _ (by decide +kernel)) ggX10_isHere_X10_look
set_option maxRecDepth 20000 in
theorem ggX10_isHere_X10_isLetter : GoodIn wsX10_isHere wsX10_isLetter := goodIn_r _ [13] (by decide +kernel) (by decide +kernel)
set_option maxRecDepth 20000 in
theorem gX10_isHere_X10_isLetter : GoodIn wsX10_isHere (va_wsS RX10 159 yX10_isLetter wsX10_isLetter) := goodIn_app (goodIn_of _ (by decide +kernel)) ggX10_isHere_X10_isLetter
theorem dX10_isHere_0 : decode cX10_isHere 0 = .ok (.aload_n 0, 1) := by decide +kernel
theorem dX10_isHere_1 : decode cX10_isHere 1 = .ok (.getfield 143, 3) := by decide +kernel
theorem dX10_isHere_4 : decode cX10_isHere 4 = .ok (.ifCond .ne 24, 3) := by decide +kernel
theorem dX10_isHere_7 : decode cX10_isHere 7 = .ok (.aload_n 0, 1) := by decide +kernel
theorem dX10_isHere_8 : decode cX10_isHere 8 = .ok (.invokevirtual 155, 3) := by decide +kernel
theorem dX10_isHere_11 : decode cX10_isHere 11 = .ok (.invokestatic 159, 3) := by decide +kernel
theorem dX10_isHere_14 : decode cX10_isHere 14 = .ok (.ifCond .eq 14, 3) := by decide +kernel
theorem dX10_isHere_17 : decode cX10_isHere 17 = .ok (.aload_n 0, 1) := by decide +kernel
theorem dX10_isHere_18 : decode cX10_isHere 18 = .ok (.getfield 149, 3) := by decide +kernel
theorem dX10_isHere_21 : decode cX10_isHere 21 = .ok (.aload_n 0, 1) := by decide +kernel
theorem dX10_isHere_22 : decode cX10_isHere 22 = .ok (.getfield 163, 3) := by decide +kernel
theorem dX10_isHere_25 : decode cX10_isHere 25 = .ok (.if_icmp .ne 5, 3) := by decide +kernel
theorem dX10_isHere_28 : decode cX10_isHere 28 = .ok (.iconst 0, 1) := by decide +kernel
theorem dX10_isHere_29 : decode cX10_isHere 29 = .ok (.ireturn, 1) := by decide +kernel
theorem dX10_isHere_30 : decode cX10_isHere 30 = .ok (.aload_n 0, 1) := by decide +kernel
theorem dX10_isHere_31 : decode cX10_isHere 31 = .ok (.getfield 149, 3) := by decide +kernel
theorem dX10_isHere_34 : decode cX10_isHere 34 = .ok (.istore_n 2, 1) := by decide +kernel
theorem dX10_isHere_35 : decode cX10_isHere 35 = .ok (.iload_n 2, 1) := by decide +kernel
theorem dX10_isHere_36 : decode cX10_isHere 36 = .ok (.aload_n 0, 1) := by decide +kernel
theorem dX10_isHere_37 : decode cX10_isHere 37 = .ok (.getfield 152, 3) := by decide +kernel
theorem dX10_isHere_40 : decode cX10_isHere 40 = .ok (.if_icmp .ge 21, 3) := by decide +kernel
theorem dX10_isHere_43 : decode cX10_isHere 43 = .ok (.aload_n 0, 1) := by decide +kernel
theorem dX10_isHere_44 : decode cX10_isHere 44 = .ok (.getfield 7, 3) := by decide +kernel
theorem dX10_isHere_47 : decode cX10_isHere 47 = .ok (.iload_n 2, 1) := by decide +kernel
theorem dX10_isHere_48 : decode cX10_isHere 48 = .ok (.iaload, 1) := by decide +kernel
theorem dX10_isHere_49 : decode cX10_isHere 49 = .ok (.invokestatic 159, 3) := by decide +kernel
theorem dX10_isHere_52 : decode cX10_isHere 52 = .ok (.ifCond .eq 9, 3) := by decide +kernel
theorem dX10_isHere_55 : decode cX10_isHere 55 = .ok (.iinc 2 1, 3) := by decide +kernel
theorem dX10_isHere_58 : decode cX10_isHere 58 = .ok (.goto (-23), 3) := by decide +kernel
theorem dX10_isHere_61 : decode cX10_isHere 61 = .ok (.iload_n 2, 1) := by decide +kernel
theorem dX10_isHere_62 : decode cX10_isHere 62 = .ok (.aload_n 0, 1) := by decide +kernel
theorem dX10_isHere_63 : decode cX10_isHere 63 = .ok (.getfield 149, 3) := by decide +kernel
theorem dX10_isHere_66 : decode cX10_isHere 66 = .ok (.isub, 1) := by decide +kernel
theorem dX10_isHere_67 : decode cX10_isHere 67 = .ok (.aload_n 1, 1) := by decide +kernel
theorem dX10_isHere_68 : decode cX10_isHere 68 = .ok (.arraylength, 1) := by decide +kernel
theorem dX10_isHere_69 : decode cX10_isHere 69 = .ok (.if_icmp .eq 5, 3) := by decide +kernel
theorem dX10_isHere_72 : decode cX10_isHere 72 = .ok (.iconst 0, 1) := by decide +kernel
theorem dX10_isHere_73 : decode cX10_isHere 73 = .ok (.ireturn, 1) := by decide +kernel
theorem dX10_isHere_74 : decode cX10_isHere 74 = .ok (.iconst 0, 1) := by decide +kernel
theorem dX10_isHere_75 : decode cX10_isHere 75 = .ok (.istore_n 3, 1) := by decide +kernel
theorem dX10_isHere_76 : decode cX10_isHere 76 = .ok (.iload_n 3, 1) := by decide +kernel
theorem dX10_isHere_77 : decode cX10_isHere 77 = .ok (.aload_n 1, 1) := by decide +kernel
theorem dX10_isHere_78 : decode cX10_isHere 78 = .ok (.arraylength, 1) := by decide +kernel
theorem dX10_isHere_79 : decode cX10_isHere 79 = .ok (.if_icmp .ge 28, 3) := by decide +kernel
theorem dX10_isHere_82 : decode cX10_isHere 82 = .ok (.aload_n 0, 1) := by decide +kernel
theorem dX10_isHere_83 : decode cX10_isHere 83 = .ok (.getfield 7, 3) := by decide +kernel
theorem dX10_isHere_86 : decode cX10_isHere 86 = .ok (.aload_n 0, 1) := by decide +kernel
theorem dX10_isHere_87 : decode cX10_isHere 87 = .ok (.getfield 149, 3) := by decide +kernel
theorem dX10_isHere_90 : decode cX10_isHere 90 = .ok (.iload_n 3, 1) := by decide +kernel
theorem dX10_isHere_91 : decode cX10_isHere 91 = .ok (.iadd, 1) := by decide +kernel
theorem dX10_isHere_92 : decode cX10_isHere 92 = .ok (.iaload, 1) := by decide +kernel
theorem dX10_isHere_93 : decode cX10_isHere 93 = .ok (.aload_n 1, 1) := by decide +kernel
theorem dX10_isHere_94 : decode cX10_isHere 94 = .ok (.iload_n 3, 1) := by decide +kernel
theorem dX10_isHere_95 : decode cX10_isHere 95 = .ok (.caload, 1) := by decide +kernel
theorem dX10_isHere_96 : decode cX10_isHere 96 = .ok (.if_icmp .eq 5, 3) := by decide +kernel
theorem dX10_isHere_99 : decode cX10_isHere 99 = .ok (.iconst 0, 1) := by decide +kernel
theorem dX10_isHere_100 : decode cX10_isHere 100 = .ok (.ireturn, 1) := by decide +kernel
theorem dX10_isHere_101 : decode cX10_isHere 101 = .ok (.iinc 3 1, 3) := by decide +kernel
theorem dX10_isHere_104 : decode cX10_isHere 104 = .ok (.goto (-28), 3) := by decide +kernel
theorem dX10_isHere_107 : decode cX10_isHere 107 = .ok (.iconst 1, 1) := by decide +kernel
theorem dX10_isHere_108 : decode cX10_isHere 108 = .ok (.ireturn, 1) := by decide +kernel
set_option maxRecDepth 20000 in
theorem ggX10_takes_X10_isHere : GoodIn wsX10_takes wsX10_isHere := goodIn_r _ [7, 8, 1, 2, 9, 10, 11, 12, 13, 6, 14, 15, 16, 17, 18, 19, 20, 21, 22, 23, 24, 25, 26, 27, 28, 29, 30, 31, 32, 33, 34, 35, 36, 37, 38, 39, 40, 41, 42, 43, 44, 45, 46, 47, 48, 49, 50, 51, 52, 53, 54, 55, 56, 57, 58, 59, 60, 61, 62, 63, 64, 65, 66, 67, 68, 69, 70, 71, 72, 73, 74] (by decide +kernel) (by decide +kernel)
set_option maxRecDepth 20000 in
theorem gX10_takes_X10_isHere : GoodIn wsX10_takes (wsV RX10 166 RX10 yX10_isHere wsX10_isHere) := goodIn_app (goodIn_of _ (by decide +kernel)) ggX10_takes_X10_isHere
theorem dX10_takes_0 : decode cX10_takes 0 = .ok (.aload_n 0, 1) := by decide +kernel
theorem dX10_takes_1 : decode cX10_takes 1 = .ok (.aload_n 1, 1) := by decide +kernel
theorem dX10_takes_2 : decode cX10_takes 2 = .ok (.invokevirtual 166, 3) := by decide +kernel
theorem dX10_takes_5 : decode cX10_takes 5 = .ok (.ifCond .ne 5, 3) := by decide +kernel
theorem dX10_takes_8 : decode cX10_takes 8 = .ok (.iconst 0, 1) := by decide +kernel
theorem dX10_takes_9 : decode cX10_takes 9 = .ok (.ireturn, 1) := by decide +kernel
theorem dX10_takes_10 : decode cX10_takes 10 = .ok (.aload_n 0, 1) := by decide +kernel
theorem dX10_takes_11 : decode cX10_takes 11 = .ok (.dup, 1) := by decide +kernel
theorem dX10_takes_12 : decode cX10_takes 12 = .ok (.getfield 149, 3) := by decide +kernel
theorem dX10_takes_15 : decode cX10_takes 15 = .ok (.aload_n 1, 1) := by decide +kernel
theorem dX10_takes_16 : decode cX10_takes 16 = .ok (.arraylength, 1) := by decide +kernel
theorem dX10_takes_17 : decode cX10_takes 17 = .ok (.iadd, 1) := by decide +kernel
theorem dX10_takes_18 : decode cX10_takes 18 = .ok (.putfield 149, 3) := by decide +kernel
theorem dX10_takes_21 : decode cX10_takes 21 = .ok (.aload_n 0, 1) := by decide +kernel
theorem dX10_takes_22 : decode cX10_takes 22 = .ok (.aload_n 0, 1) := by decide +kernel
theorem dX10_takes_23 : decode cX10_takes 23 = .ok (.getfield 149, 3) := by decide +kernel
theorem dX10_takes_26 : decode cX10_takes 26 = .ok (.putfield 163, 3) := by decide +kernel
theorem dX10_takes_29 : decode cX10_takes 29 = .ok (.iconst 1, 1) := by decide +kernel
theorem dX10_takes_30 : decode cX10_takes 30 = .ok (.ireturn, 1) := by decide +kernel
set_option maxRecDepth 20000 in
theorem ggX10_asks_X10_takes : GoodIn wsX10_asks wsX10_takes := goodIn_r _ [7, 2, 8, 9, 10, 11, 6, 12, 1, 13, 14, 15, 16, 17, 18, 19, 20, 21, 27, 28, 29, 30, 31, 32, 33, 34, 35, 36, 37, 38, 39, 40, 41, 42, 43, 44, 45, 46, 47, 48, 49, 50, 51, 52, 53, 54, 55, 56, 57, 58, 59, 60, 61, 62, 63, 64, 65, 66, 67, 68, 69, 70, 71, 72, 73, 74, 75, 76, 77, 78, 79, 80, 81, 82, 83] (by decide +kernel) (by decide +kernel)
set_option maxRecDepth 20000 in
theorem gX10_asks_X10_takes : GoodIn wsX10_asks (wsV RX10 170 RX10 yX10_takes wsX10_takes) := goodIn_app (goodIn_of _ (by decide +kernel)) ggX10_asks_X10_takes
set_option maxRecDepth 20000 in
theorem ggX10_asks_X10_fail : GoodIn wsX10_asks wsX10_fail := goodIn_r _ [25, 1, 26, 27, 28, 29, 30, 31, 32, 33, 34, 35, 36, 37, 38, 39, 40, 41, 42, 43, 44, 45, 46, 47, 48, 49, 50, 51, 52, 53, 54, 55, 56, 57, 58, 59, 60, 61, 62, 63, 64, 65, 66, 67, 68, 69, 70, 71, 72, 73, 74, 75, 76, 77, 78, 79, 80, 81, 82, 83] (by decide +kernel) (by decide +kernel)
set_option maxRecDepth 20000 in
theorem gX10_asks_X10_fail : GoodIn wsX10_asks (wsV RX10 173 RX10 yX10_fail wsX10_fail) := goodIn_app (goodIn_of _ (by decide +kernel)) ggX10_asks_X10_fail
theorem dX10_asks_0 : decode cX10_asks 0 = .ok (.aload_n 0, 1) := by decide +kernel
theorem dX10_asks_1 : decode cX10_asks 1 = .ok (.getfield 143, 3) := by decide +kernel
theorem dX10_asks_4 : decode cX10_asks 4 = .ok (.ifCond .ne 20, 3) := by decide +kernel
theorem dX10_asks_7 : decode cX10_asks 7 = .ok (.aload_n 0, 1) := by decide +kernel
theorem dX10_asks_8 : decode cX10_asks 8 = .ok (.aload_n 1, 1) := by decide +kernel
theorem dX10_asks_9 : decode cX10_asks 9 = .ok (.invokevirtual 170, 3) := by decide +kernel
theorem dX10_asks_12 : decode cX10_asks 12 = .ok (.ifCond .ne 12, 3) := by decide +kernel
theorem dX10_asks_15 : decode cX10_asks 15 = .ok (.aload_n 0, 1) := by decide +kernel
theorem dX10_asks_16 : decode cX10_asks 16 = .ok (.iconst 1, 1) := by decide +kernel
theorem dX10_asks_17 : decode cX10_asks 17 = .ok (.aload_n 0, 1) := by decide +kernel
theorem dX10_asks_18 : decode cX10_asks 18 = .ok (.getfield 149, 3) := by decide +kernel
theorem dX10_asks_21 : decode cX10_asks 21 = .ok (.invokevirtual 173, 3) := by decide +kernel
theorem dX10_asks_24 : decode cX10_asks 24 = .ok (.return_, 1) := by decide +kernel
set_option maxRecDepth 20000 in
theorem ggX10_takesSign_X10_look : GoodIn wsX10_takesSign wsX10_look := goodIn_r _ [7, 2, 8, 9, 10, 11, 12, 13, 14, 15, 16, 17, 18, 19, 20, 21, 22, 23, 24, 25, 26, 27, 28, 29, 30, 31, 32, 33, 34, 35, 36, 37, 38, 39, 40, 41, 42, 43, 44, 45, 46, 47, 48, 49, 50, 51, 52, 53, 54, 55, 56, 57, 58, 59, 60, 61, 62, 63, 64, 65, 66] (by decide +kernel) (by decide +kernel)
set_option maxRecDepth 20000 in
theorem gX10_takesSign_X10_look : GoodIn wsX10_takesSign (wsV RX10 155 RX10 yX10_look wsX10_look) := goodIn_app (goodIn_of _ (by decide +kernel)) ggX10_takesSign_X10_look
theorem dX10_takesSign_0 : decode cX10_takesSign 0 = .ok (.aload_n 0, 1) := by decide +kernel
theorem dX10_takesSign_1 : decode cX10_takesSign 1 = .ok (.getfield 143, 3) := by decide +kernel
theorem dX10_takesSign_4 : decode cX10_takesSign 4 = .ok (.ifCond .ne 11, 3) := by decide +kernel
theorem dX10_takesSign_7 : decode cX10_takesSign 7 = .ok (.aload_n 0, 1) := by decide +kernel
theorem dX10_takesSign_8 : decode cX10_takesSign 8 = .ok (.invokevirtual 155, 3) := by decide +kernel
theorem dX10_takesSign_11 : decode cX10_takesSign 11 = .ok (.iload_n 1, 1) := by decide +kernel
theorem dX10_takesSign_12 : decode cX10_takesSign 12 = .ok (.if_icmp .eq 5, 3) := by decide +kernel
theorem dX10_takesSign_15 : decode cX10_takesSign 15 = .ok (.iconst 0, 1) := by decide +kernel
theorem dX10_takesSign_16 : decode cX10_takesSign 16 = .ok (.ireturn, 1) := by decide +kernel
theorem dX10_takesSign_17 : decode cX10_takesSign 17 = .ok (.aload_n 0, 1) := by decide +kernel
theorem dX10_takesSign_18 : decode cX10_takesSign 18 = .ok (.dup, 1) := by decide +kernel
theorem dX10_takesSign_19 : decode cX10_takesSign 19 = .ok (.getfield 149, 3) := by decide +kernel
theorem dX10_takesSign_22 : decode cX10_takesSign 22 = .ok (.iconst 1, 1) := by decide +kernel
theorem dX10_takesSign_23 : decode cX10_takesSign 23 = .ok (.iadd, 1) := by decide +kernel
theorem dX10_takesSign_24 : decode cX10_takesSign 24 = .ok (.putfield 149, 3) := by decide +kernel
theorem dX10_takesSign_27 : decode cX10_takesSign 27 = .ok (.iconst 1, 1) := by decide +kernel
theorem dX10_takesSign_28 : decode cX10_takesSign 28 = .ok (.ireturn, 1) := by decide +kernel
set_option maxRecDepth 20000 in
theorem ggX10_asksSign_X10_takesSign : GoodIn wsX10_asksSign wsX10_takesSign := goodIn_r _ [7, 1, 2, 8, 9, 10, 6, 11, 12, 13, 19, 20, 21, 22, 23, 24, 25, 26, 27, 28, 29, 30, 31, 32, 33, 34, 35, 36, 37, 38, 39, 40, 41, 42, 43, 44, 45, 46, 47, 48, 49, 50, 51, 52, 53, 54, 55, 56, 57, 58, 59, 60, 61, 62, 63, 64, 65, 66, 67, 68, 69, 70, 71, 72, 73, 74, 75] (by decide +kernel) (by decide +kernel)
set_option maxRecDepth 20000 in
theorem gX10_asksSign_X10_takesSign : GoodIn wsX10_asksSign (wsV RX10 177 RX10 yX10_takesSign wsX10_takesSign) := goodIn_app (goodIn_of _ (by decide +kernel)) ggX10_asksSign_X10_takesSign
set_option maxRecDepth 20000 in
theorem ggX10_asksSign_X10_fail : GoodIn wsX10_asksSign wsX10_fail := goodIn_r _ [17, 1, 18, 19, 20, 21, 22, 23, 24, 25, 26, 27, 28, 29, 30, 31, 32, 33, 34, 35, 36, 37, 38, 39, 40, 41, 42, 43, 44, 45, 46, 47, 48, 49, 50, 51, 52, 53, 54, 55, 56, 57, 58, 59, 60, 61, 62, 63, 64, 65, 66, 67, 68, 69, 70, 71, 72, 73, 74, 75] (by decide +kernel) (by decide +kernel)
set_option maxRecDepth 20000 in
theorem gX10_asksSign_X10_fail : GoodIn wsX10_asksSign (wsV RX10 173 RX10 yX10_fail wsX10_fail) := goodIn_app (goodIn_of _ (by decide +kernel)) ggX10_asksSign_X10_fail
theorem dX10_asksSign_0 : decode cX10_asksSign 0 = .ok (.aload_n 0, 1) := by decide +kernel
theorem dX10_asksSign_1 : decode cX10_asksSign 1 = .ok (.getfield 143, 3) := by decide +kernel
theorem dX10_asksSign_4 : decode cX10_asksSign 4 = .ok (.ifCond .ne 20, 3) := by decide +kernel
theorem dX10_asksSign_7 : decode cX10_asksSign 7 = .ok (.aload_n 0, 1) := by decide +kernel
theorem dX10_asksSign_8 : decode cX10_asksSign 8 = .ok (.iload_n 1, 1) := by decide +kernel
theorem dX10_asksSign_9 : decode cX10_asksSign 9 = .ok (.invokevirtual 177, 3) := by decide +kernel
theorem dX10_asksSign_12 : decode cX10_asksSign 12 = .ok (.ifCond .ne 12, 3) := by decide +kernel
theorem dX10_asksSign_15 : decode cX10_asksSign 15 = .ok (.aload_n 0, 1) := by decide +kernel
theorem dX10_asksSign_16 : decode cX10_asksSign 16 = .ok (.iconst 1, 1) := by decide +kernel
theorem dX10_asksSign_17 : decode cX10_asksSign 17 = .ok (.aload_n 0, 1) := by decide +kernel
theorem dX10_asksSign_18 : decode cX10_asksSign 18 = .ok (.getfield 149, 3) := by decide +kernel
theorem dX10_asksSign_21 : decode cX10_asksSign 21 = .ok (.invokevirtual 173, 3) := by decide +kernel
theorem dX10_asksSign_24 : decode cX10_asksSign 24 = .ok (.return_, 1) := by decide +kernel
set_option maxRecDepth 20000 in
theorem ggX10_number_X10_look : GoodIn wsX10_number wsX10_look := goodIn_r _ [10, 2, 4, 5, 22, 23, 24, 25, 26, 27, 28, 29, 30, 31, 32, 33, 34, 35, 36, 37, 38, 39, 40, 41, 42, 43, 44, 45, 46, 47, 48, 49, 50, 51, 52, 53, 54, 55, 56, 57, 58, 59, 60, 61, 62, 63, 64, 65, 66, 67, 68, 69, 70, 71, 72, 73, 74, 75, 76, 77, 78] (by decide +kernel) (by decide +kernel)
set_option maxRecDepth 20000 in
theorem gX10_number_X10_look : GoodIn wsX10_number (wsV RX10 155 RX10 yX10_look wsX10_look) := goodIn_app (goodIn_of _ (by decide +kernel)) ggX10_number_X10_look
set_option maxRecDepth 20000 in
theorem ggX10_number_X10_isDigit : GoodIn wsX10_number wsX10_isDigit := goodIn_r _ [13] (by decide +kernel) (by decide +kernel)
set_option maxRecDepth 20000 in
theorem gX10_number_X10_isDigit : GoodIn wsX10_number (va_wsS RX10 180 yX10_isDigit wsX10_isDigit) := goodIn_app (goodIn_of _ (by decide +kernel)) ggX10_number_X10_isDigit
set_option maxRecDepth 20000 in
theorem ggX10_number_X10_fail : GoodIn wsX10_number wsX10_fail := goodIn_r _ [17, 1, 18, 22, 23, 24, 25, 26, 27, 28, 29, 30, 31, 32, 33, 34, 35, 36, 37, 38, 39, 40, 41, 42, 43, 44, 45, 46, 47, 48, 49, 50, 51, 52, 53, 54, 55, 56, 57, 58, 59, 60, 61, 62, 63, 64, 65, 66, 67, 68, 69, 70, 71, 72, 73, 74, 75, 76, 77, 78] (by decide +kernel) (by decide +kernel)
set_option maxRecDepth 20000 in
theorem gX10_number_X10_fail : GoodIn wsX10_number (wsV RX10 173 RX10 yX10_fail wsX10_fail) := goodIn_app (goodIn_of _ (by decide +kernel)) ggX10_number_X10_fail
set_option maxRecDepth 20000 in
theorem ggX10_number_X10_isIn : GoodIn wsX10_number wsX10_isIn := goodIn_r _ [21] (by decide +kernel) (by decide +kernel)
set_option maxRecDepth 20000 in
theorem gX10_number_X10_isIn : GoodIn wsX10_number (va_wsS RX10 183 yX10_isIn wsX10_isIn) := goodIn_app (goodIn_of _ (by decide +kernel)) ggX10_number_X10_isIn
theorem dX10_number_0 : decode cX10_number 0 = .ok (.aload_n 0, 1) := by decide +kernel
theorem dX10_number_1 : decode cX10_number 1 = .ok (.getfield 143, 3) := by decide +kernel
theorem dX10_number_4 : decode cX10_number 4 = .ok (.ifCond .eq 5, 3) := by decide +kernel
theorem dX10_number_7 : decode cX10_number 7 = .ok (.iconst 0, 1) := by decide +kernel
theorem dX10_number_8 : decode cX10_number 8 = .ok (.ireturn, 1) := by decide +kernel
theorem dX10_number_9 : decode cX10_number 9 = .ok (.aload_n 0, 1) := by decide +kernel
theorem dX10_number_10 : decode cX10_number 10 = .ok (.invokevirtual 155, 3) := by decide +kernel
theorem dX10_number_13 : decode cX10_number 13 = .ok (.invokestatic 180, 3) := by decide +kernel
theorem dX10_number_16 : decode cX10_number 16 = .ok (.ifCond .eq 14, 3) := by decide +kernel
theorem dX10_number_19 : decode cX10_number 19 = .ok (.aload_n 0, 1) := by decide +kernel
theorem dX10_number_20 : decode cX10_number 20 = .ok (.getfield 149, 3) := by decide +kernel
theorem dX10_number_23 : decode cX10_number 23 = .ok (.aload_n 0, 1) := by decide +kernel
theorem dX10_number_24 : decode cX10_number 24 = .ok (.getfield 163, 3) := by decide +kernel
theorem dX10_number_27 : decode cX10_number 27 = .ok (.if_icmp .ne 14, 3) := by decide +kernel
theorem dX10_number_30 : decode cX10_number 30 = .ok (.aload_n 0, 1) := by decide +kernel
theorem dX10_number_31 : decode cX10_number 31 = .ok (.iconst 1, 1) := by decide +kernel
theorem dX10_number_32 : decode cX10_number 32 = .ok (.aload_n 0, 1) := by decide +kernel
theorem dX10_number_33 : decode cX10_number 33 = .ok (.getfield 149, 3) := by decide +kernel
theorem dX10_number_36 : decode cX10_number 36 = .ok (.invokevirtual 173, 3) := by decide +kernel
theorem dX10_number_39 : decode cX10_number 39 = .ok (.iconst 0, 1) := by decide +kernel
theorem dX10_number_40 : decode cX10_number 40 = .ok (.ireturn, 1) := by decide +kernel
theorem dX10_number_41 : decode cX10_number 41 = .ok (.aload_n 0, 1) := by decide +kernel
theorem dX10_number_42 : decode cX10_number 42 = .ok (.getfield 149, 3) := by decide +kernel
theorem dX10_number_45 : decode cX10_number 45 = .ok (.istore_n 3, 1) := by decide +kernel
theorem dX10_number_46 : decode cX10_number 46 = .ok (.iconst 0, 1) := by decide +kernel
theorem dX10_number_47 : decode cX10_number 47 = .ok (.istore 4, 2) := by decide +kernel
theorem dX10_number_49 : decode cX10_number 49 = .ok (.aload_n 0, 1) := by decide +kernel
theorem dX10_number_50 : decode cX10_number 50 = .ok (.getfield 149, 3) := by decide +kernel
theorem dX10_number_53 : decode cX10_number 53 = .ok (.aload_n 0, 1) := by decide +kernel
theorem dX10_number_54 : decode cX10_number 54 = .ok (.getfield 152, 3) := by decide +kernel
theorem dX10_number_57 : decode cX10_number 57 = .ok (.if_icmp .ge 72, 3) := by decide +kernel
theorem dX10_number_60 : decode cX10_number 60 = .ok (.aload_n 0, 1) := by decide +kernel
theorem dX10_number_61 : decode cX10_number 61 = .ok (.getfield 7, 3) := by decide +kernel
theorem dX10_number_64 : decode cX10_number 64 = .ok (.aload_n 0, 1) := by decide +kernel
theorem dX10_number_65 : decode cX10_number 65 = .ok (.getfield 149, 3) := by decide +kernel
theorem dX10_number_68 : decode cX10_number 68 = .ok (.iaload, 1) := by decide +kernel
theorem dX10_number_69 : decode cX10_number 69 = .ok (.invokestatic 180, 3) := by decide +kernel
theorem dX10_number_72 : decode cX10_number 72 = .ok (.ifCond .eq 57, 3) := by decide +kernel
theorem dX10_number_75 : decode cX10_number 75 = .ok (.aload_n 0, 1) := by decide +kernel
theorem dX10_number_76 : decode cX10_number 76 = .ok (.getfield 149, 3) := by decide +kernel
theorem dX10_number_79 : decode cX10_number 79 = .ok (.iload_n 3, 1) := by decide +kernel
theorem dX10_number_80 : decode cX10_number 80 = .ok (.isub, 1) := by decide +kernel
theorem dX10_number_81 : decode cX10_number 81 = .ok (.iconst 4, 1) := by decide +kernel
theorem dX10_number_82 : decode cX10_number 82 = .ok (.if_icmp .ne 14, 3) := by decide +kernel
theorem dX10_number_85 : decode cX10_number 85 = .ok (.aload_n 0, 1) := by decide +kernel
theorem dX10_number_86 : decode cX10_number 86 = .ok (.iconst 1, 1) := by decide +kernel
theorem dX10_number_87 : decode cX10_number 87 = .ok (.aload_n 0, 1) := by decide +kernel
theorem dX10_number_88 : decode cX10_number 88 = .ok (.getfield 149, 3) := by decide +kernel
theorem dX10_number_91 : decode cX10_number 91 = .ok (.invokevirtual 173, 3) := by decide +kernel
theorem dX10_number_94 : decode cX10_number 94 = .ok (.iconst 0, 1) := by decide +kernel
theorem dX10_number_95 : decode cX10_number 95 = .ok (.ireturn, 1) := by decide +kernel
theorem dX10_number_96 : decode cX10_number 96 = .ok (.bipush 10, 2) := by decide +kernel
theorem dX10_number_98 : decode cX10_number 98 = .ok (.iload 4, 2) := by decide +kernel
theorem dX10_number_100 : decode cX10_number 100 = .ok (.imul, 1) := by decide +kernel
theorem dX10_number_101 : decode cX10_number 101 = .ok (.aload_n 0, 1) := by decide +kernel
theorem dX10_number_102 : decode cX10_number 102 = .ok (.getfield 7, 3) := by decide +kernel
theorem dX10_number_105 : decode cX10_number 105 = .ok (.aload_n 0, 1) := by decide +kernel
theorem dX10_number_106 : decode cX10_number 106 = .ok (.getfield 149, 3) := by decide +kernel
theorem dX10_number_109 : decode cX10_number 109 = .ok (.iaload, 1) := by decide +kernel
theorem dX10_number_110 : decode cX10_number 110 = .ok (.iadd, 1) := by decide +kernel
theorem dX10_number_111 : decode cX10_number 111 = .ok (.bipush 48, 2) := by decide +kernel
theorem dX10_number_113 : decode cX10_number 113 = .ok (.isub, 1) := by decide +kernel
theorem dX10_number_114 : decode cX10_number 114 = .ok (.istore 4, 2) := by decide +kernel
theorem dX10_number_116 : decode cX10_number 116 = .ok (.aload_n 0, 1) := by decide +kernel
theorem dX10_number_117 : decode cX10_number 117 = .ok (.dup, 1) := by decide +kernel
theorem dX10_number_118 : decode cX10_number 118 = .ok (.getfield 149, 3) := by decide +kernel
theorem dX10_number_121 : decode cX10_number 121 = .ok (.iconst 1, 1) := by decide +kernel
theorem dX10_number_122 : decode cX10_number 122 = .ok (.iadd, 1) := by decide +kernel
theorem dX10_number_123 : decode cX10_number 123 = .ok (.putfield 149, 3) := by decide +kernel
theorem dX10_number_126 : decode cX10_number 126 = .ok (.goto (-77), 3) := by decide +kernel
theorem dX10_number_129 : decode cX10_number 129 = .ok (.aload_n 0, 1) := by decide +kernel
theorem dX10_number_130 : decode cX10_number 130 = .ok (.aload_n 0, 1) := by decide +kernel
theorem dX10_number_131 : decode cX10_number 131 = .ok (.getfield 149, 3) := by decide +kernel
theorem dX10_number_134 : decode cX10_number 134 = .ok (.putfield 163, 3) := by decide +kernel
theorem dX10_number_137 : decode cX10_number 137 = .ok (.iload 4, 2) := by decide +kernel
theorem dX10_number_139 : decode cX10_number 139 = .ok (.i2l, 1) := by decide +kernel
theorem dX10_number_140 : decode cX10_number 140 = .ok (.iload_n 1, 1) := by decide +kernel
theorem dX10_number_141 : decode cX10_number 141 = .ok (.i2l, 1) := by decide +kernel
theorem dX10_number_142 : decode cX10_number 142 = .ok (.iload_n 2, 1) := by decide +kernel
theorem dX10_number_143 : decode cX10_number 143 = .ok (.i2l, 1) := by decide +kernel
theorem dX10_number_144 : decode cX10_number 144 = .ok (.invokestatic 183, 3) := by decide +kernel
theorem dX10_number_147 : decode cX10_number 147 = .ok (.ifCond .ne 9, 3) := by decide +kernel
theorem dX10_number_150 : decode cX10_number 150 = .ok (.aload_n 0, 1) := by decide +kernel
theorem dX10_number_151 : decode cX10_number 151 = .ok (.iconst 2, 1) := by decide +kernel
theorem dX10_number_152 : decode cX10_number 152 = .ok (.iload_n 3, 1) := by decide +kernel
theorem dX10_number_153 : decode cX10_number 153 = .ok (.invokevirtual 173, 3) := by decide +kernel
theorem dX10_number_156 : decode cX10_number 156 = .ok (.iload 4, 2) := by decide +kernel
theorem dX10_number_158 : decode cX10_number 158 = .ok (.ireturn, 1) := by decide +kernel
set_option maxRecDepth 20000 in
theorem ggX10_isOwnHere_X10_isHere : GoodIn wsX10_isOwnHere wsX10_isHere := goodIn_r _ [17, 18, 19, 20, 21, 22, 23, 24, 25, 16, 26, 27, 28, 29, 30, 31, 32, 33, 34, 35, 36, 37, 38, 39, 40, 41, 42, 43, 44, 45, 46, 47, 48, 49, 50, 51, 52, 53, 54, 55, 56, 57, 58, 59, 60, 61, 62, 63, 64, 65, 66, 67, 68, 69, 70, 71, 72, 73, 74, 75, 76, 77, 78, 79, 80, 81, 82, 83, 84, 85, 86] (by decide +kernel) (by decide +kernel)
set_option maxRecDepth 20000 in
theorem gX10_isOwnHere_X10_isHere : GoodIn wsX10_isOwnHere (wsV RX10 166 RX10 yX10_isHere wsX10_isHere) := goodIn_app (goodIn_of _ (by decide +kernel)) ggX10_isOwnHere_X10_isHere
theorem dX10_isOwnHere_0 : decode cX10_isOwnHere 0 = .ok (.aload_n 0, 1) := by decide +kernel
theorem dX10_isOwnHere_1 : decode cX10_isOwnHere 1 = .ok (.aload_n 0, 1) := by decide +kernel
theorem dX10_isOwnHere_2 : decode cX10_isOwnHere 2 = .ok (.getfield 17, 3) := by decide +kernel
theorem dX10_isOwnHere_5 : decode cX10_isOwnHere 5 = .ok (.invokevirtual 166, 3) := by decide +kernel
theorem dX10_isOwnHere_8 : decode cX10_isOwnHere 8 = .ok (.ifCond .ne 58, 3) := by decide +kernel
theorem dX10_isOwnHere_11 : decode cX10_isOwnHere 11 = .ok (.aload_n 0, 1) := by decide +kernel
theorem dX10_isOwnHere_12 : decode cX10_isOwnHere 12 = .ok (.aload_n 0, 1) := by decide +kernel
theorem dX10_isOwnHere_13 : decode cX10_isOwnHere 13 = .ok (.getfield 21, 3) := by decide +kernel
theorem dX10_isOwnHere_16 : decode cX10_isOwnHere 16 = .ok (.invokevirtual 166, 3) := by decide +kernel
theorem dX10_isOwnHere_19 : decode cX10_isOwnHere 19 = .ok (.ifCond .ne 47, 3) := by decide +kernel
theorem dX10_isOwnHere_22 : decode cX10_isOwnHere 22 = .ok (.aload_n 0, 1) := by decide +kernel
theorem dX10_isOwnHere_23 : decode cX10_isOwnHere 23 = .ok (.aload_n 0, 1) := by decide +kernel
theorem dX10_isOwnHere_24 : decode cX10_isOwnHere 24 = .ok (.getfield 24, 3) := by decide +kernel
theorem dX10_isOwnHere_27 : decode cX10_isOwnHere 27 = .ok (.invokevirtual 166, 3) := by decide +kernel
theorem dX10_isOwnHere_30 : decode cX10_isOwnHere 30 = .ok (.ifCond .ne 36, 3) := by decide +kernel
theorem dX10_isOwnHere_33 : decode cX10_isOwnHere 33 = .ok (.aload_n 0, 1) := by decide +kernel
theorem dX10_isOwnHere_34 : decode cX10_isOwnHere 34 = .ok (.aload_n 0, 1) := by decide +kernel
theorem dX10_isOwnHere_35 : decode cX10_isOwnHere 35 = .ok (.getfield 27, 3) := by decide +kernel
theorem dX10_isOwnHere_38 : decode cX10_isOwnHere 38 = .ok (.invokevirtual 166, 3) := by decide +kernel
theorem dX10_isOwnHere_41 : decode cX10_isOwnHere 41 = .ok (.ifCond .ne 25, 3) := by decide +kernel
theorem dX10_isOwnHere_44 : decode cX10_isOwnHere 44 = .ok (.aload_n 0, 1) := by decide +kernel
theorem dX10_isOwnHere_45 : decode cX10_isOwnHere 45 = .ok (.aload_n 0, 1) := by decide +kernel
theorem dX10_isOwnHere_46 : decode cX10_isOwnHere 46 = .ok (.getfield 30, 3) := by decide +kernel
theorem dX10_isOwnHere_49 : decode cX10_isOwnHere 49 = .ok (.invokevirtual 166, 3) := by decide +kernel
theorem dX10_isOwnHere_52 : decode cX10_isOwnHere 52 = .ok (.ifCond .ne 14, 3) := by decide +kernel
theorem dX10_isOwnHere_55 : decode cX10_isOwnHere 55 = .ok (.aload_n 0, 1) := by decide +kernel
theorem dX10_isOwnHere_56 : decode cX10_isOwnHere 56 = .ok (.aload_n 0, 1) := by decide +kernel
theorem dX10_isOwnHere_57 : decode cX10_isOwnHere 57 = .ok (.getfield 33, 3) := by decide +kernel
theorem dX10_isOwnHere_60 : decode cX10_isOwnHere 60 = .ok (.invokevirtual 166, 3) := by decide +kernel
theorem dX10_isOwnHere_63 : decode cX10_isOwnHere 63 = .ok (.ifCond .eq 7, 3) := by decide +kernel
theorem dX10_isOwnHere_66 : decode cX10_isOwnHere 66 = .ok (.iconst 1, 1) := by decide +kernel
theorem dX10_isOwnHere_67 : decode cX10_isOwnHere 67 = .ok (.goto 4, 3) := by decide +kernel
theorem dX10_isOwnHere_70 : decode cX10_isOwnHere 70 = .ok (.iconst 0, 1) := by decide +kernel
theorem dX10_isOwnHere_71 : decode cX10_isOwnHere 71 = .ok (.istore_n 1, 1) := by decide +kernel
theorem dX10_isOwnHere_72 : decode cX10_isOwnHere 72 = .ok (.iload_n 1, 1) := by decide +kernel
theorem dX10_isOwnHere_73 : decode cX10_isOwnHere 73 = .ok (.ifCond .ne 69, 3) := by decide +kernel
theorem dX10_isOwnHere_76 : decode cX10_isOwnHere 76 = .ok (.aload_n 0, 1) := by decide +kernel
theorem dX10_isOwnHere_77 : decode cX10_isOwnHere 77 = .ok (.aload_n 0, 1) := by decide +kernel
theorem dX10_isOwnHere_78 : decode cX10_isOwnHere 78 = .ok (.getfield 36, 3) := by decide +kernel
theorem dX10_isOwnHere_81 : decode cX10_isOwnHere 81 = .ok (.invokevirtual 166, 3) := by decide +kernel
theorem dX10_isOwnHere_84 : decode cX10_isOwnHere 84 = .ok (.ifCond .ne 58, 3) := by decide +kernel
theorem dX10_isOwnHere_87 : decode cX10_isOwnHere 87 = .ok (.aload_n 0, 1) := by decide +kernel
theorem dX10_isOwnHere_88 : decode cX10_isOwnHere 88 = .ok (.aload_n 0, 1) := by decide +kernel
theorem dX10_isOwnHere_89 : decode cX10_isOwnHere 89 = .ok (.getfield 39, 3) := by decide +kernel
theorem dX10_isOwnHere_92 : decode cX10_isOwnHere 92 = .ok (.invokevirtual 166, 3) := by decide +kernel
theorem dX10_isOwnHere_95 : decode cX10_isOwnHere 95 = .ok (.ifCond .ne 47, 3) := by decide +kernel
theorem dX10_isOwnHere_98 : decode cX10_isOwnHere 98 = .ok (.aload_n 0, 1) := by decide +kernel
theorem dX10_isOwnHere_99 : decode cX10_isOwnHere 99 = .ok (.aload_n 0, 1) := by decide +kernel
theorem dX10_isOwnHere_100 : decode cX10_isOwnHere 100 = .ok (.getfield 42, 3) := by decide +kernel
theorem dX10_isOwnHere_103 : decode cX10_isOwnHere 103 = .ok (.invokevirtual 166, 3) := by decide +kernel
theorem dX10_isOwnHere_106 : decode cX10_isOwnHere 106 = .ok (.ifCond .ne 36, 3) := by decide +kernel
theorem dX10_isOwnHere_109 : decode cX10_isOwnHere 109 = .ok (.aload_n 0, 1) := by decide +kernel
theorem dX10_isOwnHere_110 : decode cX10_isOwnHere 110 = .ok (.aload_n 0, 1) := by decide +kernel
theorem dX10_isOwnHere_111 : decode cX10_isOwnHere 111 = .ok (.getfield 45, 3) := by decide +kernel
theorem dX10_isOwnHere_114 : decode cX10_isOwnHere 114 = .ok (.invokevirtual 166, 3) := by decide +kernel
theorem dX10_isOwnHere_117 : decode cX10_isOwnHere 117 = .ok (.ifCond .ne 25, 3) := by decide +kernel
theorem dX10_isOwnHere_120 : decode cX10_isOwnHere 120 = .ok (.aload_n 0, 1) := by decide +kernel
theorem dX10_isOwnHere_121 : decode cX10_isOwnHere 121 = .ok (.aload_n 0, 1) := by decide +kernel
theorem dX10_isOwnHere_122 : decode cX10_isOwnHere 122 = .ok (.getfield 48, 3) := by decide +kernel
theorem dX10_isOwnHere_125 : decode cX10_isOwnHere 125 = .ok (.invokevirtual 166, 3) := by decide +kernel
theorem dX10_isOwnHere_128 : decode cX10_isOwnHere 128 = .ok (.ifCond .ne 14, 3) := by decide +kernel
theorem dX10_isOwnHere_131 : decode cX10_isOwnHere 131 = .ok (.aload_n 0, 1) := by decide +kernel
theorem dX10_isOwnHere_132 : decode cX10_isOwnHere 132 = .ok (.aload_n 0, 1) := by decide +kernel
theorem dX10_isOwnHere_133 : decode cX10_isOwnHere 133 = .ok (.getfield 51, 3) := by decide +kernel
theorem dX10_isOwnHere_136 : decode cX10_isOwnHere 136 = .ok (.invokevirtual 166, 3) := by decide +kernel
theorem dX10_isOwnHere_139 : decode cX10_isOwnHere 139 = .ok (.ifCond .eq 7, 3) := by decide +kernel
theorem dX10_isOwnHere_142 : decode cX10_isOwnHere 142 = .ok (.iconst 1, 1) := by decide +kernel
theorem dX10_isOwnHere_143 : decode cX10_isOwnHere 143 = .ok (.goto 4, 3) := by decide +kernel
theorem dX10_isOwnHere_146 : decode cX10_isOwnHere 146 = .ok (.iconst 0, 1) := by decide +kernel
theorem dX10_isOwnHere_147 : decode cX10_isOwnHere 147 = .ok (.istore_n 1, 1) := by decide +kernel
theorem dX10_isOwnHere_148 : decode cX10_isOwnHere 148 = .ok (.iload_n 1, 1) := by decide +kernel
theorem dX10_isOwnHere_149 : decode cX10_isOwnHere 149 = .ok (.ireturn, 1) := by decide +kernel
set_option maxRecDepth 20000 in
theorem ggX10_name_X10_look : GoodIn wsX10_name wsX10_look := goodIn_r _ [13, 2, 5, 6, 42, 43, 44, 45, 46, 47, 48, 49, 50, 51, 52, 53, 54, 55, 56, 57, 58, 59, 60, 61, 62, 63, 64, 65, 66, 67, 68, 69, 70, 71, 72, 73, 74, 75, 76, 77, 78, 79, 80, 81, 82, 83, 84, 85, 86, 87, 88, 89, 90, 91, 92, 93, 94, 95, 96, 97, 98] (by decide +kernel) (by decide +kernel)
set_option maxRecDepth 20000 in
theorem gX10_name_X10_look : GoodIn wsX10_name (wsV RX10 155 RX10 yX10_look wsX10_look) := goodIn_app (goodIn_of _ (by decide +kernel)) ggX10_name_X10_look
set_option maxRecDepth 20000 in
theorem ggX10_name_X10_isLetter : GoodIn wsX10_name wsX10_isLetter := goodIn_r _ [16] (by decide +kernel) (by decide +kernel)
set_option maxRecDepth 20000 in
theorem gX10_name_X10_isLetter : GoodIn wsX10_name (va_wsS RX10 159 yX10_isLetter wsX10_isLetter) := goodIn_app (goodIn_of _ (by decide +kernel)) ggX10_name_X10_isLetter
set_option maxRecDepth 20000 in
theorem ggX10_name_X10_isOwnHere : GoodIn wsX10_name wsX10_isOwnHere := goodIn_r _ [20, 21, 22, 23, 24, 25, 26, 27, 28, 29, 30, 31, 32, 33, 34, 35, 12, 36, 1, 2, 3, 5, 6, 9, 10, 11, 13, 14, 15, 16, 42, 43, 44, 45, 46, 47, 48, 49, 50, 51, 52, 53, 54, 55, 56, 57, 58, 59, 60, 61, 62, 63, 64, 65, 66, 67, 68, 69, 70, 71, 72, 73, 74, 75, 76, 77, 78, 79, 80, 81, 82, 83, 84, 85, 86, 87, 88, 89, 90, 91, 92, 93, 94, 95, 96, 97, 98] (by decide +kernel) (by decide +kernel)
set_option maxRecDepth 20000 in
theorem gX10_name_X10_isOwnHere : GoodIn wsX10_name (wsV RX10 187 RX10 yX10_isOwnHere wsX10_isOwnHere) := goodIn_app (goodIn_of _ (by decide +kernel)) ggX10_name_X10_isOwnHere
set_option maxRecDepth 20000 in
theorem ggX10_name_X10_fail : GoodIn wsX10_name wsX10_fail := goodIn_r _ [40, 1, 41, 42, 43, 44, 45, 46, 47, 48, 49, 50, 51, 52, 53, 54, 55, 56, 57, 58, 59, 60, 61, 62, 63, 64, 65, 66, 67, 68, 69, 70, 71, 72, 73, 74, 75, 76, 77, 78, 79, 80, 81, 82, 83, 84, 85, 86, 87, 88, 89, 90, 91, 92, 93, 94, 95, 96, 97, 98] (by decide +kernel) (by decide +kernel)
set_option maxRecDepth 20000 in
theorem gX10_name_X10_fail : GoodIn wsX10_name (wsV RX10 173 RX10 yX10_fail wsX10_fail) := goodIn_app (goodIn_of _ (by decide +kernel)) ggX10_name_X10_fail
theorem dX10_name_0 : decode cX10_name 0 = .ok (.aload_n 0, 1) := by decide +kernel
theorem dX10_name_1 : decode cX10_name 1 = .ok (.getfield 143, 3) := by decide +kernel
theorem dX10_name_4 : decode cX10_name 4 = .ok (.ifCond .eq 5, 3) := by decide +kernel
theorem dX10_name_7 : decode cX10_name 7 = .ok (.lconst 0, 1) := by decide +kernel
theorem dX10_name_8 : decode cX10_name 8 = .ok (.lreturn, 1) := by decide +kernel
theorem dX10_name_9 : decode cX10_name 9 = .ok (.aload_n 0, 1) := by decide +kernel
theorem dX10_name_10 : decode cX10_name 10 = .ok (.invokevirtual 155, 3) := by decide +kernel
theorem dX10_name_13 : decode cX10_name 13 = .ok (.invokestatic 159, 3) := by decide +kernel
theorem dX10_name_16 : decode cX10_name 16 = .ok (.ifCond .eq 21, 3) := by decide +kernel
theorem dX10_name_19 : decode cX10_name 19 = .ok (.aload_n 0, 1) := by decide +kernel
theorem dX10_name_20 : decode cX10_name 20 = .ok (.getfield 149, 3) := by decide +kernel
theorem dX10_name_23 : decode cX10_name 23 = .ok (.aload_n 0, 1) := by decide +kernel
theorem dX10_name_24 : decode cX10_name 24 = .ok (.getfield 163, 3) := by decide +kernel
theorem dX10_name_27 : decode cX10_name 27 = .ok (.if_icmp .eq 10, 3) := by decide +kernel
theorem dX10_name_30 : decode cX10_name 30 = .ok (.aload_n 0, 1) := by decide +kernel
theorem dX10_name_31 : decode cX10_name 31 = .ok (.invokevirtual 187, 3) := by decide +kernel
theorem dX10_name_34 : decode cX10_name 34 = .ok (.ifCond .eq 14, 3) := by decide +kernel
theorem dX10_name_37 : decode cX10_name 37 = .ok (.aload_n 0, 1) := by decide +kernel
theorem dX10_name_38 : decode cX10_name 38 = .ok (.iconst 1, 1) := by decide +kernel
theorem dX10_name_39 : decode cX10_name 39 = .ok (.aload_n 0, 1) := by decide +kernel
theorem dX10_name_40 : decode cX10_name 40 = .ok (.getfield 149, 3) := by decide +kernel
theorem dX10_name_43 : decode cX10_name 43 = .ok (.invokevirtual 173, 3) := by decide +kernel
theorem dX10_name_46 : decode cX10_name 46 = .ok (.lconst 0, 1) := by decide +kernel
theorem dX10_name_47 : decode cX10_name 47 = .ok (.lreturn, 1) := by decide +kernel
theorem dX10_name_48 : decode cX10_name 48 = .ok (.aload_n 0, 1) := by decide +kernel
theorem dX10_name_49 : decode cX10_name 49 = .ok (.aload_n 0, 1) := by decide +kernel
theorem dX10_name_50 : decode cX10_name 50 = .ok (.getfield 149, 3) := by decide +kernel
theorem dX10_name_53 : decode cX10_name 53 = .ok (.putfield 191, 3) := by decide +kernel
theorem dX10_name_56 : decode cX10_name 56 = .ok (.lconst 0, 1) := by decide +kernel
theorem dX10_name_57 : decode cX10_name 57 = .ok (.lstore_n 1, 1) := by decide +kernel
theorem dX10_name_58 : decode cX10_name 58 = .ok (.aload_n 0, 1) := by decide +kernel
theorem dX10_name_59 : decode cX10_name 59 = .ok (.getfield 149, 3) := by decide +kernel
theorem dX10_name_62 : decode cX10_name 62 = .ok (.aload_n 0, 1) := by decide +kernel
theorem dX10_name_63 : decode cX10_name 63 = .ok (.getfield 152, 3) := by decide +kernel
theorem dX10_name_66 : decode cX10_name 66 = .ok (.if_icmp .ge 79, 3) := by decide +kernel
theorem dX10_name_69 : decode cX10_name 69 = .ok (.aload_n 0, 1) := by decide +kernel
theorem dX10_name_70 : decode cX10_name 70 = .ok (.getfield 7, 3) := by decide +kernel
theorem dX10_name_73 : decode cX10_name 73 = .ok (.aload_n 0, 1) := by decide +kernel
theorem dX10_name_74 : decode cX10_name 74 = .ok (.getfield 149, 3) := by decide +kernel
theorem dX10_name_77 : decode cX10_name 77 = .ok (.iaload, 1) := by decide +kernel
theorem dX10_name_78 : decode cX10_name 78 = .ok (.invokestatic 159, 3) := by decide +kernel
theorem dX10_name_81 : decode cX10_name 81 = .ok (.ifCond .eq 64, 3) := by decide +kernel
theorem dX10_name_84 : decode cX10_name 84 = .ok (.aload_n 0, 1) := by decide +kernel
theorem dX10_name_85 : decode cX10_name 85 = .ok (.getfield 149, 3) := by decide +kernel
theorem dX10_name_88 : decode cX10_name 88 = .ok (.aload_n 0, 1) := by decide +kernel
theorem dX10_name_89 : decode cX10_name 89 = .ok (.getfield 191, 3) := by decide +kernel
theorem dX10_name_92 : decode cX10_name 92 = .ok (.isub, 1) := by decide +kernel
theorem dX10_name_93 : decode cX10_name 93 = .ok (.bipush 6, 2) := by decide +kernel
theorem dX10_name_95 : decode cX10_name 95 = .ok (.if_icmp .ne 14, 3) := by decide +kernel
theorem dX10_name_98 : decode cX10_name 98 = .ok (.aload_n 0, 1) := by decide +kernel
theorem dX10_name_99 : decode cX10_name 99 = .ok (.iconst 1, 1) := by decide +kernel
theorem dX10_name_100 : decode cX10_name 100 = .ok (.aload_n 0, 1) := by decide +kernel
theorem dX10_name_101 : decode cX10_name 101 = .ok (.getfield 149, 3) := by decide +kernel
theorem dX10_name_104 : decode cX10_name 104 = .ok (.invokevirtual 173, 3) := by decide +kernel
theorem dX10_name_107 : decode cX10_name 107 = .ok (.lconst 0, 1) := by decide +kernel
theorem dX10_name_108 : decode cX10_name 108 = .ok (.lreturn, 1) := by decide +kernel
theorem dX10_name_109 : decode cX10_name 109 = .ok (.ldc2_w 194, 3) := by decide +kernel
theorem dX10_name_112 : decode cX10_name 112 = .ok (.lload_n 1, 1) := by decide +kernel
theorem dX10_name_113 : decode cX10_name 113 = .ok (.lmul, 1) := by decide +kernel
theorem dX10_name_114 : decode cX10_name 114 = .ok (.aload_n 0, 1) := by decide +kernel
theorem dX10_name_115 : decode cX10_name 115 = .ok (.getfield 7, 3) := by decide +kernel
theorem dX10_name_118 : decode cX10_name 118 = .ok (.aload_n 0, 1) := by decide +kernel
theorem dX10_name_119 : decode cX10_name 119 = .ok (.getfield 149, 3) := by decide +kernel
theorem dX10_name_122 : decode cX10_name 122 = .ok (.iaload, 1) := by decide +kernel
theorem dX10_name_123 : decode cX10_name 123 = .ok (.i2l, 1) := by decide +kernel
theorem dX10_name_124 : decode cX10_name 124 = .ok (.ladd, 1) := by decide +kernel
theorem dX10_name_125 : decode cX10_name 125 = .ok (.ldc2_w 196, 3) := by decide +kernel
theorem dX10_name_128 : decode cX10_name 128 = .ok (.lsub, 1) := by decide +kernel
theorem dX10_name_129 : decode cX10_name 129 = .ok (.lconst 1, 1) := by decide +kernel
theorem dX10_name_130 : decode cX10_name 130 = .ok (.ladd, 1) := by decide +kernel
theorem dX10_name_131 : decode cX10_name 131 = .ok (.lstore_n 1, 1) := by decide +kernel
theorem dX10_name_132 : decode cX10_name 132 = .ok (.aload_n 0, 1) := by decide +kernel
theorem dX10_name_133 : decode cX10_name 133 = .ok (.dup, 1) := by decide +kernel
theorem dX10_name_134 : decode cX10_name 134 = .ok (.getfield 149, 3) := by decide +kernel
theorem dX10_name_137 : decode cX10_name 137 = .ok (.iconst 1, 1) := by decide +kernel
theorem dX10_name_138 : decode cX10_name 138 = .ok (.iadd, 1) := by decide +kernel
theorem dX10_name_139 : decode cX10_name 139 = .ok (.putfield 149, 3) := by decide +kernel
theorem dX10_name_142 : decode cX10_name 142 = .ok (.goto (-84), 3) := by decide +kernel
theorem dX10_name_145 : decode cX10_name 145 = .ok (.aload_n 0, 1) := by decide +kernel
theorem dX10_name_146 : decode cX10_name 146 = .ok (.aload_n 0, 1) := by decide +kernel
theorem dX10_name_147 : decode cX10_name 147 = .ok (.getfield 149, 3) := by decide +kernel
theorem dX10_name_150 : decode cX10_name 150 = .ok (.putfield 163, 3) := by decide +kernel
theorem dX10_name_153 : decode cX10_name 153 = .ok (.lload_n 1, 1) := by decide +kernel
theorem dX10_name_154 : decode cX10_name 154 = .ok (.lreturn, 1) := by decide +kernel
set_option maxRecDepth 20000 in
theorem ggX10_isFull_X10_fail : GoodIn wsX10_isFull wsX10_fail := goodIn_r _ [7, 1, 8, 9, 10, 11, 12, 13, 14, 15, 16, 17, 18, 19, 20, 21, 22, 23, 24, 25, 26, 27, 28, 29, 30, 31, 32, 33, 34, 35, 36, 37, 38, 39, 40, 41, 42, 43, 44, 45, 46, 47, 48, 49, 50, 51, 52, 53, 54, 55, 56, 57, 58, 59, 60, 61, 62, 63, 64, 65] (by decide +kernel) (by decide +kernel)
set_option maxRecDepth 20000 in
theorem gX10_isFull_X10_fail : GoodIn wsX10_isFull (wsV RX10 173 RX10 yX10_fail wsX10_fail) := goodIn_app (goodIn_of _ (by decide +kernel)) ggX10_isFull_X10_fail
theorem dX10_isFull_0 : decode cX10_isFull 0 = .ok (.aload_n 0, 1) := by decide +kernel
theorem dX10_isFull_1 : decode cX10_isFull 1 = .ok (.getfield 143, 3) := by decide +kernel
theorem dX10_isFull_4 : decode cX10_isFull 4 = .ok (.ifCond .ne 19, 3) := by decide +kernel
theorem dX10_isFull_7 : decode cX10_isFull 7 = .ok (.aload_n 0, 1) := by decide +kernel
theorem dX10_isFull_8 : decode cX10_isFull 8 = .ok (.getfield 58, 3) := by decide +kernel
theorem dX10_isFull_11 : decode cX10_isFull 11 = .ok (.iload_n 1, 1) := by decide +kernel
theorem dX10_isFull_12 : decode cX10_isFull 12 = .ok (.iaload, 1) := by decide +kernel
theorem dX10_isFull_13 : decode cX10_isFull 13 = .ok (.iload_n 2, 1) := by decide +kernel
theorem dX10_isFull_14 : decode cX10_isFull 14 = .ok (.if_icmp .ne 9, 3) := by decide +kernel
theorem dX10_isFull_17 : decode cX10_isFull 17 = .ok (.aload_n 0, 1) := by decide +kernel
theorem dX10_isFull_18 : decode cX10_isFull 18 = .ok (.iconst 4, 1) := by decide +kernel
theorem dX10_isFull_19 : decode cX10_isFull 19 = .ok (.iload_n 3, 1) := by decide +kernel
theorem dX10_isFull_20 : decode cX10_isFull 20 = .ok (.invokevirtual 173, 3) := by decide +kernel
theorem dX10_isFull_23 : decode cX10_isFull 23 = .ok (.aload_n 0, 1) := by decide +kernel
theorem dX10_isFull_24 : decode cX10_isFull 24 = .ok (.getfield 143, 3) := by decide +kernel
theorem dX10_isFull_27 : decode cX10_isFull 27 = .ok (.ifCond .eq 7, 3) := by decide +kernel
theorem dX10_isFull_30 : decode cX10_isFull 30 = .ok (.iconst 1, 1) := by decide +kernel
theorem dX10_isFull_31 : decode cX10_isFull 31 = .ok (.goto 4, 3) := by decide +kernel
theorem dX10_isFull_34 : decode cX10_isFull 34 = .ok (.iconst 0, 1) := by decide +kernel
theorem dX10_isFull_35 : decode cX10_isFull 35 = .ok (.ireturn, 1) := by decide +kernel
theorem dX10_nameOf_0 : decode cX10_nameOf 0 = .ok (.iconst 0, 1) := by decide +kernel
theorem dX10_nameOf_1 : decode cX10_nameOf 1 = .ok (.istore 4, 2) := by decide +kernel
theorem dX10_nameOf_3 : decode cX10_nameOf 3 = .ok (.iload 4, 2) := by decide +kernel
theorem dX10_nameOf_5 : decode cX10_nameOf 5 = .ok (.aload_n 0, 1) := by decide +kernel
theorem dX10_nameOf_6 : decode cX10_nameOf 6 = .ok (.getfield 58, 3) := by decide +kernel
theorem dX10_nameOf_9 : decode cX10_nameOf 9 = .ok (.iload_n 1, 1) := by decide +kernel
theorem dX10_nameOf_10 : decode cX10_nameOf 10 = .ok (.iaload, 1) := by decide +kernel
theorem dX10_nameOf_11 : decode cX10_nameOf 11 = .ok (.if_icmp .ge 29, 3) := by decide +kernel
theorem dX10_nameOf_14 : decode cX10_nameOf 14 = .ok (.aload_n 0, 1) := by decide +kernel
theorem dX10_nameOf_15 : decode cX10_nameOf 15 = .ok (.getfield 54, 3) := by decide +kernel
theorem dX10_nameOf_18 : decode cX10_nameOf 18 = .ok (.bipush 20, 2) := by decide +kernel
theorem dX10_nameOf_20 : decode cX10_nameOf 20 = .ok (.iload_n 1, 1) := by decide +kernel
theorem dX10_nameOf_21 : decode cX10_nameOf 21 = .ok (.imul, 1) := by decide +kernel
theorem dX10_nameOf_22 : decode cX10_nameOf 22 = .ok (.iload 4, 2) := by decide +kernel
theorem dX10_nameOf_24 : decode cX10_nameOf 24 = .ok (.iadd, 1) := by decide +kernel
theorem dX10_nameOf_25 : decode cX10_nameOf 25 = .ok (.laload, 1) := by decide +kernel
theorem dX10_nameOf_26 : decode cX10_nameOf 26 = .ok (.lload_n 2, 1) := by decide +kernel
theorem dX10_nameOf_27 : decode cX10_nameOf 27 = .ok (.lcmp, 1) := by decide +kernel
theorem dX10_nameOf_28 : decode cX10_nameOf 28 = .ok (.ifCond .ne 6, 3) := by decide +kernel
theorem dX10_nameOf_31 : decode cX10_nameOf 31 = .ok (.iload 4, 2) := by decide +kernel
theorem dX10_nameOf_33 : decode cX10_nameOf 33 = .ok (.ireturn, 1) := by decide +kernel
theorem dX10_nameOf_34 : decode cX10_nameOf 34 = .ok (.iinc 4 1, 3) := by decide +kernel
theorem dX10_nameOf_37 : decode cX10_nameOf 37 = .ok (.goto (-34), 3) := by decide +kernel
theorem dX10_nameOf_40 : decode cX10_nameOf 40 = .ok (.iconst (-1), 1) := by decide +kernel
theorem dX10_nameOf_41 : decode cX10_nameOf 41 = .ok (.ireturn, 1) := by decide +kernel
set_option maxRecDepth 20000 in
theorem ggX10_newName_X10_name : GoodIn wsX10_newName wsX10_name := goodIn_r _ [9, 1, 10, 11, 2, 12, 13, 14, 15, 16, 17, 18, 8, 19, 20, 21, 22, 23, 24, 25, 26, 27, 28, 29, 30, 31, 32, 33, 34, 35, 36, 37, 38, 39, 40, 41, 42, 43, 44, 45, 46, 47, 52, 53, 54, 55, 56, 57, 58, 59, 60, 61, 62, 63, 64, 65, 66, 67, 68, 69, 70, 71, 72, 73, 74, 75, 76, 77, 78, 79, 80, 81, 82, 83, 84, 85, 86, 87, 88, 89, 90, 91, 92, 93, 94, 95, 96, 97, 98, 99, 100, 101, 102, 103, 104, 105, 106, 107, 108] (by decide +kernel) (by decide +kernel)
set_option maxRecDepth 20000 in
theorem gX10_newName_X10_name : GoodIn wsX10_newName (wsV RX10 198 RX10 yX10_name wsX10_name) := goodIn_app (goodIn_of _ (by decide +kernel)) ggX10_newName_X10_name
set_option maxRecDepth 20000 in
theorem ggX10_newName_X10_nameOf : GoodIn wsX10_newName wsX10_nameOf := goodIn_r _ [51, 3, 4, 52, 53, 54, 55, 56, 57, 58, 59, 60, 61, 62, 63, 64, 65, 66, 67, 68, 69, 70, 71, 72, 73, 74, 75, 76, 77, 78, 79, 80, 81, 82, 83, 84, 85, 86, 87, 88, 89, 90, 91, 92, 93, 94, 95, 96, 97, 98, 99, 100, 101, 102, 103, 104, 105, 106, 107, 108] (by decide +kernel) (by decide +kernel)
set_option maxRecDepth 20000 in
theorem gX10_newName_X10_nameOf : GoodIn wsX10_newName (wsV RX10 202 RX10 yX10_nameOf wsX10_nameOf) := goodIn_app (goodIn_of _ (by decide +kernel)) ggX10_newName_X10_nameOf
set_option maxRecDepth 20000 in
theorem ggX10_newName_X10_fail : GoodIn wsX10_newName wsX10_fail := goodIn_r _ [46, 1, 47, 52, 53, 54, 55, 56, 57, 58, 59, 60, 61, 62, 63, 64, 65, 66, 67, 68, 69, 70, 71, 72, 73, 74, 75, 76, 77, 78, 79, 80, 81, 82, 83, 84, 85, 86, 87, 88, 89, 90, 91, 92, 93, 94, 95, 96, 97, 98, 99, 100, 101, 102, 103, 104, 105, 106, 107, 108] (by decide +kernel) (by decide +kernel)
set_option maxRecDepth 20000 in
theorem gX10_newName_X10_fail : GoodIn wsX10_newName (wsV RX10 173 RX10 yX10_fail wsX10_fail) := goodIn_app (goodIn_of _ (by decide +kernel)) ggX10_newName_X10_fail
theorem dX10_newName_0 : decode cX10_newName 0 = .ok (.aload_n 0, 1) := by decide +kernel
theorem dX10_newName_1 : decode cX10_newName 1 = .ok (.invokevirtual 198, 3) := by decide +kernel
theorem dX10_newName_4 : decode cX10_newName 4 = .ok (.lstore_n 2, 1) := by decide +kernel
theorem dX10_newName_5 : decode cX10_newName 5 = .ok (.iconst 0, 1) := by decide +kernel
theorem dX10_newName_6 : decode cX10_newName 6 = .ok (.istore 4, 2) := by decide +kernel
theorem dX10_newName_8 : decode cX10_newName 8 = .ok (.iload 4, 2) := by decide +kernel
theorem dX10_newName_10 : decode cX10_newName 10 = .ok (.iconst 3, 1) := by decide +kernel
theorem dX10_newName_11 : decode cX10_newName 11 = .ok (.if_icmp .ge 36, 3) := by decide +kernel
theorem dX10_newName_14 : decode cX10_newName 14 = .ok (.aload_n 0, 1) := by decide +kernel
theorem dX10_newName_15 : decode cX10_newName 15 = .ok (.getfield 143, 3) := by decide +kernel
theorem dX10_newName_18 : decode cX10_newName 18 = .ok (.ifCond .ne 29, 3) := by decide +kernel
theorem dX10_newName_21 : decode cX10_newName 21 = .ok (.aload_n 0, 1) := by decide +kernel
theorem dX10_newName_22 : decode cX10_newName 22 = .ok (.iload 4, 2) := by decide +kernel
theorem dX10_newName_24 : decode cX10_newName 24 = .ok (.lload_n 2, 1) := by decide +kernel
theorem dX10_newName_25 : decode cX10_newName 25 = .ok (.invokevirtual 202, 3) := by decide +kernel
theorem dX10_newName_28 : decode cX10_newName 28 = .ok (.iconst (-1), 1) := by decide +kernel
theorem dX10_newName_29 : decode cX10_newName 29 = .ok (.if_icmp .eq 12, 3) := by decide +kernel
theorem dX10_newName_32 : decode cX10_newName 32 = .ok (.aload_n 0, 1) := by decide +kernel
theorem dX10_newName_33 : decode cX10_newName 33 = .ok (.iconst 3, 1) := by decide +kernel
theorem dX10_newName_34 : decode cX10_newName 34 = .ok (.aload_n 0, 1) := by decide +kernel
theorem dX10_newName_35 : decode cX10_newName 35 = .ok (.getfield 191, 3) := by decide +kernel
theorem dX10_newName_38 : decode cX10_newName 38 = .ok (.invokevirtual 173, 3) := by decide +kernel
theorem dX10_newName_41 : decode cX10_newName 41 = .ok (.iinc 4 1, 3) := by decide +kernel
theorem dX10_newName_44 : decode cX10_newName 44 = .ok (.goto (-36), 3) := by decide +kernel
theorem dX10_newName_47 : decode cX10_newName 47 = .ok (.aload_n 0, 1) := by decide +kernel
theorem dX10_newName_48 : decode cX10_newName 48 = .ok (.getfield 58, 3) := by decide +kernel
theorem dX10_newName_51 : decode cX10_newName 51 = .ok (.iload_n 1, 1) := by decide +kernel
theorem dX10_newName_52 : decode cX10_newName 52 = .ok (.iaload, 1) := by decide +kernel
theorem dX10_newName_53 : decode cX10_newName 53 = .ok (.istore 4, 2) := by decide +kernel
theorem dX10_newName_55 : decode cX10_newName 55 = .ok (.aload_n 0, 1) := by decide +kernel
theorem dX10_newName_56 : decode cX10_newName 56 = .ok (.getfield 143, 3) := by decide +kernel
theorem dX10_newName_59 : decode cX10_newName 59 = .ok (.ifCond .eq 6, 3) := by decide +kernel
theorem dX10_newName_62 : decode cX10_newName 62 = .ok (.iload 4, 2) := by decide +kernel
theorem dX10_newName_64 : decode cX10_newName 64 = .ok (.ireturn, 1) := by decide +kernel
theorem dX10_newName_65 : decode cX10_newName 65 = .ok (.aload_n 0, 1) := by decide +kernel
theorem dX10_newName_66 : decode cX10_newName 66 = .ok (.getfield 54, 3) := by decide +kernel
theorem dX10_newName_69 : decode cX10_newName 69 = .ok (.bipush 20, 2) := by decide +kernel
theorem dX10_newName_71 : decode cX10_newName 71 = .ok (.iload_n 1, 1) := by decide +kernel
theorem dX10_newName_72 : decode cX10_newName 72 = .ok (.imul, 1) := by decide +kernel
theorem dX10_newName_73 : decode cX10_newName 73 = .ok (.iload 4, 2) := by decide +kernel
theorem dX10_newName_75 : decode cX10_newName 75 = .ok (.iadd, 1) := by decide +kernel
theorem dX10_newName_76 : decode cX10_newName 76 = .ok (.lload_n 2, 1) := by decide +kernel
theorem dX10_newName_77 : decode cX10_newName 77 = .ok (.lastore, 1) := by decide +kernel
theorem dX10_newName_78 : decode cX10_newName 78 = .ok (.aload_n 0, 1) := by decide +kernel
theorem dX10_newName_79 : decode cX10_newName 79 = .ok (.getfield 58, 3) := by decide +kernel
theorem dX10_newName_82 : decode cX10_newName 82 = .ok (.iload_n 1, 1) := by decide +kernel
theorem dX10_newName_83 : decode cX10_newName 83 = .ok (.dup2, 1) := by decide +kernel
theorem dX10_newName_84 : decode cX10_newName 84 = .ok (.iaload, 1) := by decide +kernel
theorem dX10_newName_85 : decode cX10_newName 85 = .ok (.iconst 1, 1) := by decide +kernel
theorem dX10_newName_86 : decode cX10_newName 86 = .ok (.iadd, 1) := by decide +kernel
theorem dX10_newName_87 : decode cX10_newName 87 = .ok (.iastore, 1) := by decide +kernel
theorem dX10_newName_88 : decode cX10_newName 88 = .ok (.iload 4, 2) := by decide +kernel
theorem dX10_newName_90 : decode cX10_newName 90 = .ok (.ireturn, 1) := by decide +kernel
set_option maxRecDepth 20000 in
theorem ggX10_oneOf_X10_name : GoodIn wsX10_oneOf wsX10_name := goodIn_r _ [7, 1, 8, 9, 2, 10, 11, 12, 13, 14, 15, 16, 6, 17, 18, 19, 20, 21, 22, 23, 24, 25, 26, 27, 28, 29, 30, 31, 32, 33, 34, 35, 36, 37, 38, 39, 40, 41, 42, 43, 44, 45, 52, 53, 54, 55, 56, 57, 58, 59, 60, 61, 62, 63, 64, 65, 66, 67, 68, 69, 70, 71, 72, 73, 74, 75, 76, 77, 78, 79, 80, 81, 82, 83, 84, 85, 86, 87, 88, 89, 90, 91, 92, 93, 94, 95, 96, 97, 98, 99, 100, 101, 102, 103, 104, 105, 106, 107, 108] (by decide +kernel) (by decide +kernel)
set_option maxRecDepth 20000 in
theorem gX10_oneOf_X10_name : GoodIn wsX10_oneOf (wsV RX10 198 RX10 yX10_name wsX10_name) := goodIn_app (goodIn_of _ (by decide +kernel)) ggX10_oneOf_X10_name
set_option maxRecDepth 20000 in
theorem ggX10_oneOf_X10_nameOf : GoodIn wsX10_oneOf wsX10_nameOf := goodIn_r _ [49, 50, 51, 52, 53, 54, 55, 56, 57, 58, 59, 60, 61, 62, 63, 64, 65, 66, 67, 68, 69, 70, 71, 72, 73, 74, 75, 76, 77, 78, 79, 80, 81, 82, 83, 84, 85, 86, 87, 88, 89, 90, 91, 92, 93, 94, 95, 96, 97, 98, 99, 100, 101, 102, 103, 104, 105, 106, 107, 108] (by decide +kernel) (by decide +kernel)
set_option maxRecDepth 20000 in
theorem gX10_oneOf_X10_nameOf : GoodIn wsX10_oneOf (wsV RX10 202 RX10 yX10_nameOf wsX10_nameOf) := goodIn_app (goodIn_of _ (by decide +kernel)) ggX10_oneOf_X10_nameOf
set_option maxRecDepth 20000 in
theorem ggX10_oneOf_X10_fail : GoodIn wsX10_oneOf wsX10_fail := goodIn_r _ [44, 1, 45, 52, 53, 54, 55, 56, 57, 58, 59, 60, 61, 62, 63, 64, 65, 66, 67, 68, 69, 70, 71, 72, 73, 74, 75, 76, 77, 78, 79, 80, 81, 82, 83, 84, 85, 86, 87, 88, 89, 90, 91, 92, 93, 94, 95, 96, 97, 98, 99, 100, 101, 102, 103, 104, 105, 106, 107, 108] (by decide +kernel) (by decide +kernel)
set_option maxRecDepth 20000 in
theorem gX10_oneOf_X10_fail : GoodIn wsX10_oneOf (wsV RX10 173 RX10 yX10_fail wsX10_fail) := goodIn_app (goodIn_of _ (by decide +kernel)) ggX10_oneOf_X10_fail
theorem dX10_oneOf_0 : decode cX10_oneOf 0 = .ok (.aload_n 0, 1) := by decide +kernel
theorem dX10_oneOf_1 : decode cX10_oneOf 1 = .ok (.invokevirtual 198, 3) := by decide +kernel
theorem dX10_oneOf_4 : decode cX10_oneOf 4 = .ok (.lstore_n 2, 1) := by decide +kernel
theorem dX10_oneOf_5 : decode cX10_oneOf 5 = .ok (.aload_n 0, 1) := by decide +kernel
theorem dX10_oneOf_6 : decode cX10_oneOf 6 = .ok (.iload_n 1, 1) := by decide +kernel
theorem dX10_oneOf_7 : decode cX10_oneOf 7 = .ok (.lload_n 2, 1) := by decide +kernel
theorem dX10_oneOf_8 : decode cX10_oneOf 8 = .ok (.invokevirtual 202, 3) := by decide +kernel
theorem dX10_oneOf_11 : decode cX10_oneOf 11 = .ok (.istore 4, 2) := by decide +kernel
theorem dX10_oneOf_13 : decode cX10_oneOf 13 = .ok (.aload_n 0, 1) := by decide +kernel
theorem dX10_oneOf_14 : decode cX10_oneOf 14 = .ok (.getfield 143, 3) := by decide +kernel
theorem dX10_oneOf_17 : decode cX10_oneOf 17 = .ok (.ifCond .ne 18, 3) := by decide +kernel
theorem dX10_oneOf_20 : decode cX10_oneOf 20 = .ok (.iload 4, 2) := by decide +kernel
theorem dX10_oneOf_22 : decode cX10_oneOf 22 = .ok (.iconst (-1), 1) := by decide +kernel
theorem dX10_oneOf_23 : decode cX10_oneOf 23 = .ok (.if_icmp .ne 12, 3) := by decide +kernel
theorem dX10_oneOf_26 : decode cX10_oneOf 26 = .ok (.aload_n 0, 1) := by decide +kernel
theorem dX10_oneOf_27 : decode cX10_oneOf 27 = .ok (.iconst 3, 1) := by decide +kernel
theorem dX10_oneOf_28 : decode cX10_oneOf 28 = .ok (.aload_n 0, 1) := by decide +kernel
theorem dX10_oneOf_29 : decode cX10_oneOf 29 = .ok (.getfield 191, 3) := by decide +kernel
theorem dX10_oneOf_32 : decode cX10_oneOf 32 = .ok (.invokevirtual 173, 3) := by decide +kernel
theorem dX10_oneOf_35 : decode cX10_oneOf 35 = .ok (.iload 4, 2) := by decide +kernel
theorem dX10_oneOf_37 : decode cX10_oneOf 37 = .ok (.iconst (-1), 1) := by decide +kernel
theorem dX10_oneOf_38 : decode cX10_oneOf 38 = .ok (.if_icmp .ne 7, 3) := by decide +kernel
theorem dX10_oneOf_41 : decode cX10_oneOf 41 = .ok (.iconst 0, 1) := by decide +kernel
theorem dX10_oneOf_42 : decode cX10_oneOf 42 = .ok (.goto 5, 3) := by decide +kernel
theorem dX10_oneOf_45 : decode cX10_oneOf 45 = .ok (.iload 4, 2) := by decide +kernel
theorem dX10_oneOf_47 : decode cX10_oneOf 47 = .ok (.ireturn, 1) := by decide +kernel
set_option maxRecDepth 20000 in
theorem ggX10_pictureTold_X10_isFull : GoodIn wsX10_pictureTold wsX10_isFull := goodIn_r _ [12, 4, 13, 14, 15, 16, 11, 17, 18, 85, 86, 87, 88, 89, 90, 91, 92, 93, 94, 95, 96, 97, 98, 99, 100, 101, 102, 103, 104, 105, 106, 107, 108, 109, 110, 111, 112, 113, 114, 115, 116, 117, 118, 119, 120, 121, 122, 123, 124, 125, 126, 127, 128, 129, 130, 131, 132, 133, 134, 135, 136, 137, 138, 139, 140, 141] (by decide +kernel) (by decide +kernel)
set_option maxRecDepth 20000 in
theorem gX10_pictureTold_X10_isFull : GoodIn wsX10_pictureTold (wsV RX10 206 RX10 yX10_isFull wsX10_isFull) := goodIn_app (goodIn_of _ (by decide +kernel)) ggX10_pictureTold_X10_isFull
set_option maxRecDepth 20000 in
theorem ggX10_pictureTold_X10_newName : GoodIn wsX10_pictureTold wsX10_newName := goodIn_r _ [22, 4, 23, 13, 24, 25, 26, 27, 11, 28, 29, 30, 31, 32, 33, 34, 35, 36, 37, 38, 39, 40, 41, 42, 43, 44, 45, 46, 47, 1, 2, 3, 48, 49, 50, 51, 52, 53, 54, 55, 56, 57, 58, 14, 15, 16, 17, 18, 59, 60, 61, 62, 85, 86, 87, 88, 89, 90, 91, 92, 93, 94, 95, 96, 97, 98, 99, 100, 101, 102, 103, 104, 105, 106, 107, 108, 109, 110, 111, 112, 113, 114, 115, 116, 117, 118, 119, 120, 121, 122, 123, 124, 125, 126, 127, 128, 129, 130, 131, 132, 133, 134, 135, 136, 137, 138, 139, 140, 141] (by decide +kernel) (by decide +kernel)
set_option maxRecDepth 20000 in
theorem gX10_pictureTold_X10_newName : GoodIn wsX10_pictureTold (wsV RX10 210 RX10 yX10_newName wsX10_newName) := goodIn_app (goodIn_of _ (by decide +kernel)) ggX10_pictureTold_X10_newName
set_option maxRecDepth 20000 in
theorem ggX10_pictureTold_X10_asks : GoodIn wsX10_pictureTold wsX10_asks := goodIn_r _ [66, 4, 29, 67, 68, 69, 11, 70, 30, 55, 56, 57, 58, 31, 32, 35, 36, 37, 38, 39, 40, 41, 14, 15, 16, 17, 18, 85, 86, 87, 88, 89, 90, 91, 92, 93, 94, 95, 96, 97, 98, 99, 100, 101, 102, 103, 104, 105, 106, 107, 108, 109, 110, 111, 112, 113, 114, 115, 116, 117, 118, 119, 120, 121, 122, 123, 124, 125, 126, 127, 128, 129, 130, 131, 132, 133, 134, 135, 136, 137, 138, 139, 140, 141] (by decide +kernel) (by decide +kernel)
set_option maxRecDepth 20000 in
theorem gX10_pictureTold_X10_asks : GoodIn wsX10_pictureTold (wsV RX10 214 RX10 yX10_asks wsX10_asks) := goodIn_app (goodIn_of _ (by decide +kernel)) ggX10_pictureTold_X10_asks
set_option maxRecDepth 20000 in
theorem ggX10_pictureTold_X10_oneOf : GoodIn wsX10_pictureTold wsX10_oneOf := goodIn_r _ [74, 4, 23, 25, 26, 27, 11, 28, 29, 30, 31, 32, 33, 34, 35, 36, 37, 38, 39, 40, 41, 42, 43, 44, 45, 46, 47, 1, 2, 3, 48, 49, 50, 51, 52, 53, 54, 55, 56, 57, 58, 14, 15, 16, 17, 18, 59, 60, 61, 62, 13, 24, 85, 86, 87, 88, 89, 90, 91, 92, 93, 94, 95, 96, 97, 98, 99, 100, 101, 102, 103, 104, 105, 106, 107, 108, 109, 110, 111, 112, 113, 114, 115, 116, 117, 118, 119, 120, 121, 122, 123, 124, 125, 126, 127, 128, 129, 130, 131, 132, 133, 134, 135, 136, 137, 138, 139, 140, 141] (by decide +kernel) (by decide +kernel)
set_option maxRecDepth 20000 in
theorem gX10_pictureTold_X10_oneOf : GoodIn wsX10_pictureTold (wsV RX10 218 RX10 yX10_oneOf wsX10_oneOf) := goodIn_app (goodIn_of _ (by decide +kernel)) ggX10_pictureTold_X10_oneOf
set_option maxRecDepth 20000 in
theorem ggX10_pictureTold_X10_takes : GoodIn wsX10_pictureTold wsX10_takes := goodIn_r _ [70, 29, 30, 55, 56, 57, 11, 58, 4, 31, 32, 35, 36, 37, 38, 39, 40, 41, 85, 86, 87, 88, 89, 90, 91, 92, 93, 94, 95, 96, 97, 98, 99, 100, 101, 102, 103, 104, 105, 106, 107, 108, 109, 110, 111, 112, 113, 114, 115, 116, 117, 118, 119, 120, 121, 122, 123, 124, 125, 126, 127, 128, 129, 130, 131, 132, 133, 134, 135, 136, 137, 138, 139, 140, 141] (by decide +kernel) (by decide +kernel)
set_option maxRecDepth 20000 in
theorem gX10_pictureTold_X10_takes : GoodIn wsX10_pictureTold (wsV RX10 170 RX10 yX10_takes wsX10_takes) := goodIn_app (goodIn_of _ (by decide +kernel)) ggX10_pictureTold_X10_takes
set_option maxRecDepth 20000 in
theorem ggX10_pictureTold_X10_number : GoodIn wsX10_pictureTold wsX10_number := goodIn_r _ [78, 4, 29, 30, 31, 32, 35, 36, 37, 11, 38, 79, 80, 81, 14, 15, 16, 17, 18, 82, 83, 84, 85, 86, 87, 88, 89, 90, 91, 92, 93, 94, 95, 96, 97, 98, 99, 100, 101, 102, 103, 104, 105, 106, 107, 108, 109, 110, 111, 112, 113, 114, 115, 116, 117, 118, 119, 120, 121, 122, 123, 124, 125, 126, 127, 128, 129, 130, 131, 132, 133, 134, 135, 136, 137, 138, 139, 140, 141] (by decide +kernel) (by decide +kernel)
set_option maxRecDepth 20000 in
theorem gX10_pictureTold_X10_number : GoodIn wsX10_pictureTold (wsV RX10 221 RX10 yX10_number wsX10_number) := goodIn_app (goodIn_of _ (by decide +kernel)) ggX10_pictureTold_X10_number
theorem dX10_pictureTold_0 : decode cX10_pictureTold 0 = .ok (.aload_n 0, 1) := by decide +kernel
theorem dX10_pictureTold_1 : decode cX10_pictureTold 1 = .ok (.iconst 1, 1) := by decide +kernel
theorem dX10_pictureTold_2 : decode cX10_pictureTold 2 = .ok (.bipush 12, 2) := by decide +kernel
theorem dX10_pictureTold_4 : decode cX10_pictureTold 4 = .ok (.iload_n 1, 1) := by decide +kernel
theorem dX10_pictureTold_5 : decode cX10_pictureTold 5 = .ok (.invokevirtual 206, 3) := by decide +kernel
theorem dX10_pictureTold_8 : decode cX10_pictureTold 8 = .ok (.ifCond .eq 4, 3) := by decide +kernel
theorem dX10_pictureTold_11 : decode cX10_pictureTold 11 = .ok (.return_, 1) := by decide +kernel
theorem dX10_pictureTold_12 : decode cX10_pictureTold 12 = .ok (.aload_n 0, 1) := by decide +kernel
theorem dX10_pictureTold_13 : decode cX10_pictureTold 13 = .ok (.iconst 1, 1) := by decide +kernel
theorem dX10_pictureTold_14 : decode cX10_pictureTold 14 = .ok (.invokevirtual 210, 3) := by decide +kernel
theorem dX10_pictureTold_17 : decode cX10_pictureTold 17 = .ok (.istore_n 2, 1) := by decide +kernel
theorem dX10_pictureTold_18 : decode cX10_pictureTold 18 = .ok (.aload_n 0, 1) := by decide +kernel
theorem dX10_pictureTold_19 : decode cX10_pictureTold 19 = .ok (.aload_n 0, 1) := by decide +kernel
theorem dX10_pictureTold_20 : decode cX10_pictureTold 20 = .ok (.getfield 24, 3) := by decide +kernel
theorem dX10_pictureTold_23 : decode cX10_pictureTold 23 = .ok (.invokevirtual 214, 3) := by decide +kernel
theorem dX10_pictureTold_26 : decode cX10_pictureTold 26 = .ok (.aload_n 0, 1) := by decide +kernel
theorem dX10_pictureTold_27 : decode cX10_pictureTold 27 = .ok (.iconst 0, 1) := by decide +kernel
theorem dX10_pictureTold_28 : decode cX10_pictureTold 28 = .ok (.invokevirtual 218, 3) := by decide +kernel
theorem dX10_pictureTold_31 : decode cX10_pictureTold 31 = .ok (.istore_n 3, 1) := by decide +kernel
theorem dX10_pictureTold_32 : decode cX10_pictureTold 32 = .ok (.aload_n 0, 1) := by decide +kernel
theorem dX10_pictureTold_33 : decode cX10_pictureTold 33 = .ok (.aload_n 0, 1) := by decide +kernel
theorem dX10_pictureTold_34 : decode cX10_pictureTold 34 = .ok (.getfield 27, 3) := by decide +kernel
theorem dX10_pictureTold_37 : decode cX10_pictureTold 37 = .ok (.invokevirtual 214, 3) := by decide +kernel
theorem dX10_pictureTold_40 : decode cX10_pictureTold 40 = .ok (.aload_n 0, 1) := by decide +kernel
theorem dX10_pictureTold_41 : decode cX10_pictureTold 41 = .ok (.aload_n 0, 1) := by decide +kernel
theorem dX10_pictureTold_42 : decode cX10_pictureTold 42 = .ok (.getfield 30, 3) := by decide +kernel
theorem dX10_pictureTold_45 : decode cX10_pictureTold 45 = .ok (.invokevirtual 170, 3) := by decide +kernel
theorem dX10_pictureTold_48 : decode cX10_pictureTold 48 = .ok (.ifCond .eq 7, 3) := by decide +kernel
theorem dX10_pictureTold_51 : decode cX10_pictureTold 51 = .ok (.iconst 4, 1) := by decide +kernel
theorem dX10_pictureTold_52 : decode cX10_pictureTold 52 = .ok (.goto 9, 3) := by decide +kernel
theorem dX10_pictureTold_55 : decode cX10_pictureTold 55 = .ok (.aload_n 0, 1) := by decide +kernel
theorem dX10_pictureTold_56 : decode cX10_pictureTold 56 = .ok (.iconst 0, 1) := by decide +kernel
theorem dX10_pictureTold_57 : decode cX10_pictureTold 57 = .ok (.iconst 3, 1) := by decide +kernel
theorem dX10_pictureTold_58 : decode cX10_pictureTold 58 = .ok (.invokevirtual 221, 3) := by decide +kernel
theorem dX10_pictureTold_61 : decode cX10_pictureTold 61 = .ok (.istore 4, 2) := by decide +kernel
theorem dX10_pictureTold_63 : decode cX10_pictureTold 63 = .ok (.aload_n 0, 1) := by decide +kernel
theorem dX10_pictureTold_64 : decode cX10_pictureTold 64 = .ok (.getfield 143, 3) := by decide +kernel
theorem dX10_pictureTold_67 : decode cX10_pictureTold 67 = .ok (.ifCond .eq 4, 3) := by decide +kernel
theorem dX10_pictureTold_70 : decode cX10_pictureTold 70 = .ok (.return_, 1) := by decide +kernel
theorem dX10_pictureTold_71 : decode cX10_pictureTold 71 = .ok (.aload_n 0, 1) := by decide +kernel
theorem dX10_pictureTold_72 : decode cX10_pictureTold 72 = .ok (.getfield 61, 3) := by decide +kernel
theorem dX10_pictureTold_75 : decode cX10_pictureTold 75 = .ok (.iload_n 2, 1) := by decide +kernel
theorem dX10_pictureTold_76 : decode cX10_pictureTold 76 = .ok (.iload_n 3, 1) := by decide +kernel
theorem dX10_pictureTold_77 : decode cX10_pictureTold 77 = .ok (.iastore, 1) := by decide +kernel
theorem dX10_pictureTold_78 : decode cX10_pictureTold 78 = .ok (.aload_n 0, 1) := by decide +kernel
theorem dX10_pictureTold_79 : decode cX10_pictureTold 79 = .ok (.getfield 64, 3) := by decide +kernel
theorem dX10_pictureTold_82 : decode cX10_pictureTold 82 = .ok (.iload_n 2, 1) := by decide +kernel
theorem dX10_pictureTold_83 : decode cX10_pictureTold 83 = .ok (.iload 4, 2) := by decide +kernel
theorem dX10_pictureTold_85 : decode cX10_pictureTold 85 = .ok (.iastore, 1) := by decide +kernel
theorem dX10_pictureTold_86 : decode cX10_pictureTold 86 = .ok (.aload_n 0, 1) := by decide +kernel
theorem dX10_pictureTold_87 : decode cX10_pictureTold 87 = .ok (.getfield 67, 3) := by decide +kernel
theorem dX10_pictureTold_90 : decode cX10_pictureTold 90 = .ok (.iload_n 2, 1) := by decide +kernel
theorem dX10_pictureTold_91 : decode cX10_pictureTold 91 = .ok (.iconst 0, 1) := by decide +kernel
theorem dX10_pictureTold_92 : decode cX10_pictureTold 92 = .ok (.iastore, 1) := by decide +kernel
theorem dX10_pictureTold_93 : decode cX10_pictureTold 93 = .ok (.return_, 1) := by decide +kernel
set_option maxRecDepth 20000 in
theorem ggX10_rowTold_X10_isFull : GoodIn wsX10_rowTold wsX10_isFull := goodIn_r _ [14, 4, 1, 15, 16, 17, 13, 18, 19, 82, 83, 84, 85, 86, 87, 88, 89, 90, 91, 92, 93, 94, 95, 96, 97, 98, 99, 100, 101, 102, 103, 104, 105, 106, 107, 108, 109, 110, 111, 112, 113, 114, 115, 116, 117, 118, 119, 120, 121, 122, 123, 124, 125, 126, 127, 128, 129, 130, 131, 132, 133, 134, 135, 136, 137, 138] (by decide +kernel) (by decide +kernel)
set_option maxRecDepth 20000 in
theorem gX10_rowTold_X10_isFull : GoodIn wsX10_rowTold (wsV RX10 206 RX10 yX10_isFull wsX10_isFull) := goodIn_app (goodIn_of _ (by decide +kernel)) ggX10_rowTold_X10_isFull
set_option maxRecDepth 20000 in
theorem ggX10_rowTold_X10_oneOf : GoodIn wsX10_rowTold wsX10_oneOf := goodIn_r _ [23, 4, 5, 24, 25, 26, 13, 27, 28, 29, 30, 31, 32, 33, 34, 35, 36, 37, 38, 39, 40, 41, 42, 43, 44, 45, 46, 47, 48, 49, 50, 51, 6, 8, 52, 53, 54, 55, 56, 57, 58, 15, 16, 17, 18, 19, 59, 60, 61, 62, 1, 63, 82, 83, 84, 85, 86, 87, 88, 89, 90, 91, 92, 93, 94, 95, 96, 97, 98, 99, 100, 101, 102, 103, 104, 105, 106, 107, 108, 109, 110, 111, 112, 113, 114, 115, 116, 117, 118, 119, 120, 121, 122, 123, 124, 125, 126, 127, 128, 129, 130, 131, 132, 133, 134, 135, 136, 137, 138] (by decide +kernel) (by decide +kernel)
set_option maxRecDepth 20000 in
theorem gX10_rowTold_X10_oneOf : GoodIn wsX10_rowTold (wsV RX10 218 RX10 yX10_oneOf wsX10_oneOf) := goodIn_app (goodIn_of _ (by decide +kernel)) ggX10_rowTold_X10_oneOf
set_option maxRecDepth 20000 in
theorem ggX10_rowTold_X10_fail : GoodIn wsX10_rowTold wsX10_fail := goodIn_r _ [18, 4, 19, 82, 83, 84, 85, 86, 87, 88, 89, 90, 91, 92, 93, 94, 95, 96, 97, 98, 99, 100, 101, 102, 103, 104, 105, 106, 107, 108, 109, 110, 111, 112, 113, 114, 115, 116, 117, 118, 119, 120, 121, 122, 123, 124, 125, 126, 127, 128, 129, 130, 131, 132, 133, 134, 135, 136, 137, 138] (by decide +kernel) (by decide +kernel)
set_option maxRecDepth 20000 in
theorem gX10_rowTold_X10_fail : GoodIn wsX10_rowTold (wsV RX10 173 RX10 yX10_fail wsX10_fail) := goodIn_app (goodIn_of _ (by decide +kernel)) ggX10_rowTold_X10_fail
set_option maxRecDepth 20000 in
theorem ggX10_rowTold_X10_asks : GoodIn wsX10_rowTold wsX10_asks := goodIn_r _ [67, 4, 28, 68, 69, 70, 13, 71, 29, 55, 56, 57, 58, 30, 31, 34, 35, 36, 37, 38, 39, 40, 15, 16, 17, 18, 19, 82, 83, 84, 85, 86, 87, 88, 89, 90, 91, 92, 93, 94, 95, 96, 97, 98, 99, 100, 101, 102, 103, 104, 105, 106, 107, 108, 109, 110, 111, 112, 113, 114, 115, 116, 117, 118, 119, 120, 121, 122, 123, 124, 125, 126, 127, 128, 129, 130, 131, 132, 133, 134, 135, 136, 137, 138] (by decide +kernel) (by decide +kernel)
set_option maxRecDepth 20000 in
theorem gX10_rowTold_X10_asks : GoodIn wsX10_rowTold (wsV RX10 214 RX10 yX10_asks wsX10_asks) := goodIn_app (goodIn_of _ (by decide +kernel)) ggX10_rowTold_X10_asks
set_option maxRecDepth 20000 in
theorem ggX10_rowTold_X10_number : GoodIn wsX10_rowTold wsX10_number := goodIn_r _ [75, 4, 28, 29, 30, 31, 34, 35, 36, 13, 37, 76, 77, 78, 15, 16, 17, 18, 19, 79, 80, 81, 82, 83, 84, 85, 86, 87, 88, 89, 90, 91, 92, 93, 94, 95, 96, 97, 98, 99, 100, 101, 102, 103, 104, 105, 106, 107, 108, 109, 110, 111, 112, 113, 114, 115, 116, 117, 118, 119, 120, 121, 122, 123, 124, 125, 126, 127, 128, 129, 130, 131, 132, 133, 134, 135, 136, 137, 138] (by decide +kernel) (by decide +kernel)
set_option maxRecDepth 20000 in
theorem gX10_rowTold_X10_number : GoodIn wsX10_rowTold (wsV RX10 221 RX10 yX10_number wsX10_number) := goodIn_app (goodIn_of _ (by decide +kernel)) ggX10_rowTold_X10_number
theorem dX10_rowTold_0 : decode cX10_rowTold 0 = .ok (.aload_n 0, 1) := by decide +kernel
theorem dX10_rowTold_1 : decode cX10_rowTold 1 = .ok (.iconst 3, 1) := by decide +kernel
theorem dX10_rowTold_2 : decode cX10_rowTold 2 = .ok (.bipush 60, 2) := by decide +kernel
theorem dX10_rowTold_4 : decode cX10_rowTold 4 = .ok (.iload_n 1, 1) := by decide +kernel
theorem dX10_rowTold_5 : decode cX10_rowTold 5 = .ok (.invokevirtual 206, 3) := by decide +kernel
theorem dX10_rowTold_8 : decode cX10_rowTold 8 = .ok (.ifCond .eq 4, 3) := by decide +kernel
theorem dX10_rowTold_11 : decode cX10_rowTold 11 = .ok (.return_, 1) := by decide +kernel
theorem dX10_rowTold_12 : decode cX10_rowTold 12 = .ok (.aload_n 0, 1) := by decide +kernel
theorem dX10_rowTold_13 : decode cX10_rowTold 13 = .ok (.getfield 58, 3) := by decide +kernel
theorem dX10_rowTold_16 : decode cX10_rowTold 16 = .ok (.iconst 3, 1) := by decide +kernel
theorem dX10_rowTold_17 : decode cX10_rowTold 17 = .ok (.iaload, 1) := by decide +kernel
theorem dX10_rowTold_18 : decode cX10_rowTold 18 = .ok (.istore_n 2, 1) := by decide +kernel
theorem dX10_rowTold_19 : decode cX10_rowTold 19 = .ok (.aload_n 0, 1) := by decide +kernel
theorem dX10_rowTold_20 : decode cX10_rowTold 20 = .ok (.getfield 79, 3) := by decide +kernel
theorem dX10_rowTold_23 : decode cX10_rowTold 23 = .ok (.iload_n 2, 1) := by decide +kernel
theorem dX10_rowTold_24 : decode cX10_rowTold 24 = .ok (.aload_n 0, 1) := by decide +kernel
theorem dX10_rowTold_25 : decode cX10_rowTold 25 = .ok (.iconst 1, 1) := by decide +kernel
theorem dX10_rowTold_26 : decode cX10_rowTold 26 = .ok (.invokevirtual 218, 3) := by decide +kernel
theorem dX10_rowTold_29 : decode cX10_rowTold 29 = .ok (.iastore, 1) := by decide +kernel
theorem dX10_rowTold_30 : decode cX10_rowTold 30 = .ok (.aload_n 0, 1) := by decide +kernel
theorem dX10_rowTold_31 : decode cX10_rowTold 31 = .ok (.getfield 82, 3) := by decide +kernel
theorem dX10_rowTold_34 : decode cX10_rowTold 34 = .ok (.iload_n 2, 1) := by decide +kernel
theorem dX10_rowTold_35 : decode cX10_rowTold 35 = .ok (.aload_n 0, 1) := by decide +kernel
theorem dX10_rowTold_36 : decode cX10_rowTold 36 = .ok (.iconst 2, 1) := by decide +kernel
theorem dX10_rowTold_37 : decode cX10_rowTold 37 = .ok (.invokevirtual 218, 3) := by decide +kernel
theorem dX10_rowTold_40 : decode cX10_rowTold 40 = .ok (.iastore, 1) := by decide +kernel
theorem dX10_rowTold_41 : decode cX10_rowTold 41 = .ok (.iconst 0, 1) := by decide +kernel
theorem dX10_rowTold_42 : decode cX10_rowTold 42 = .ok (.istore_n 3, 1) := by decide +kernel
theorem dX10_rowTold_43 : decode cX10_rowTold 43 = .ok (.iload_n 3, 1) := by decide +kernel
theorem dX10_rowTold_44 : decode cX10_rowTold 44 = .ok (.iload_n 2, 1) := by decide +kernel
theorem dX10_rowTold_45 : decode cX10_rowTold 45 = .ok (.if_icmp .ge 55, 3) := by decide +kernel
theorem dX10_rowTold_48 : decode cX10_rowTold 48 = .ok (.aload_n 0, 1) := by decide +kernel
theorem dX10_rowTold_49 : decode cX10_rowTold 49 = .ok (.getfield 143, 3) := by decide +kernel
theorem dX10_rowTold_52 : decode cX10_rowTold 52 = .ok (.ifCond .ne 42, 3) := by decide +kernel
theorem dX10_rowTold_55 : decode cX10_rowTold 55 = .ok (.aload_n 0, 1) := by decide +kernel
theorem dX10_rowTold_56 : decode cX10_rowTold 56 = .ok (.getfield 79, 3) := by decide +kernel
theorem dX10_rowTold_59 : decode cX10_rowTold 59 = .ok (.iload_n 3, 1) := by decide +kernel
theorem dX10_rowTold_60 : decode cX10_rowTold 60 = .ok (.iaload, 1) := by decide +kernel
theorem dX10_rowTold_61 : decode cX10_rowTold 61 = .ok (.aload_n 0, 1) := by decide +kernel
theorem dX10_rowTold_62 : decode cX10_rowTold 62 = .ok (.getfield 79, 3) := by decide +kernel
theorem dX10_rowTold_65 : decode cX10_rowTold 65 = .ok (.iload_n 2, 1) := by decide +kernel
theorem dX10_rowTold_66 : decode cX10_rowTold 66 = .ok (.iaload, 1) := by decide +kernel
theorem dX10_rowTold_67 : decode cX10_rowTold 67 = .ok (.if_icmp .ne 27, 3) := by decide +kernel
theorem dX10_rowTold_70 : decode cX10_rowTold 70 = .ok (.aload_n 0, 1) := by decide +kernel
theorem dX10_rowTold_71 : decode cX10_rowTold 71 = .ok (.getfield 82, 3) := by decide +kernel
theorem dX10_rowTold_74 : decode cX10_rowTold 74 = .ok (.iload_n 3, 1) := by decide +kernel
theorem dX10_rowTold_75 : decode cX10_rowTold 75 = .ok (.iaload, 1) := by decide +kernel
theorem dX10_rowTold_76 : decode cX10_rowTold 76 = .ok (.aload_n 0, 1) := by decide +kernel
theorem dX10_rowTold_77 : decode cX10_rowTold 77 = .ok (.getfield 82, 3) := by decide +kernel
theorem dX10_rowTold_80 : decode cX10_rowTold 80 = .ok (.iload_n 2, 1) := by decide +kernel
theorem dX10_rowTold_81 : decode cX10_rowTold 81 = .ok (.iaload, 1) := by decide +kernel
theorem dX10_rowTold_82 : decode cX10_rowTold 82 = .ok (.if_icmp .ne 12, 3) := by decide +kernel
theorem dX10_rowTold_85 : decode cX10_rowTold 85 = .ok (.aload_n 0, 1) := by decide +kernel
theorem dX10_rowTold_86 : decode cX10_rowTold 86 = .ok (.iconst 3, 1) := by decide +kernel
theorem dX10_rowTold_87 : decode cX10_rowTold 87 = .ok (.aload_n 0, 1) := by decide +kernel
theorem dX10_rowTold_88 : decode cX10_rowTold 88 = .ok (.getfield 191, 3) := by decide +kernel
theorem dX10_rowTold_91 : decode cX10_rowTold 91 = .ok (.invokevirtual 173, 3) := by decide +kernel
theorem dX10_rowTold_94 : decode cX10_rowTold 94 = .ok (.iinc 3 1, 3) := by decide +kernel
theorem dX10_rowTold_97 : decode cX10_rowTold 97 = .ok (.goto (-54), 3) := by decide +kernel
theorem dX10_rowTold_100 : decode cX10_rowTold 100 = .ok (.aload_n 0, 1) := by decide +kernel
theorem dX10_rowTold_101 : decode cX10_rowTold 101 = .ok (.aload_n 0, 1) := by decide +kernel
theorem dX10_rowTold_102 : decode cX10_rowTold 102 = .ok (.getfield 39, 3) := by decide +kernel
theorem dX10_rowTold_105 : decode cX10_rowTold 105 = .ok (.invokevirtual 214, 3) := by decide +kernel
theorem dX10_rowTold_108 : decode cX10_rowTold 108 = .ok (.aload_n 0, 1) := by decide +kernel
theorem dX10_rowTold_109 : decode cX10_rowTold 109 = .ok (.getfield 85, 3) := by decide +kernel
theorem dX10_rowTold_112 : decode cX10_rowTold 112 = .ok (.iconst 2, 1) := by decide +kernel
theorem dX10_rowTold_113 : decode cX10_rowTold 113 = .ok (.iload_n 2, 1) := by decide +kernel
theorem dX10_rowTold_114 : decode cX10_rowTold 114 = .ok (.imul, 1) := by decide +kernel
theorem dX10_rowTold_115 : decode cX10_rowTold 115 = .ok (.aload_n 0, 1) := by decide +kernel
theorem dX10_rowTold_116 : decode cX10_rowTold 116 = .ok (.iconst 0, 1) := by decide +kernel
theorem dX10_rowTold_117 : decode cX10_rowTold 117 = .ok (.sipush 9999, 3) := by decide +kernel
theorem dX10_rowTold_120 : decode cX10_rowTold 120 = .ok (.invokevirtual 221, 3) := by decide +kernel
theorem dX10_rowTold_123 : decode cX10_rowTold 123 = .ok (.iastore, 1) := by decide +kernel
theorem dX10_rowTold_124 : decode cX10_rowTold 124 = .ok (.aload_n 0, 1) := by decide +kernel
theorem dX10_rowTold_125 : decode cX10_rowTold 125 = .ok (.getfield 85, 3) := by decide +kernel
theorem dX10_rowTold_128 : decode cX10_rowTold 128 = .ok (.iconst 2, 1) := by decide +kernel
theorem dX10_rowTold_129 : decode cX10_rowTold 129 = .ok (.iload_n 2, 1) := by decide +kernel
theorem dX10_rowTold_130 : decode cX10_rowTold 130 = .ok (.imul, 1) := by decide +kernel
theorem dX10_rowTold_131 : decode cX10_rowTold 131 = .ok (.iconst 1, 1) := by decide +kernel
theorem dX10_rowTold_132 : decode cX10_rowTold 132 = .ok (.iadd, 1) := by decide +kernel
theorem dX10_rowTold_133 : decode cX10_rowTold 133 = .ok (.aload_n 0, 1) := by decide +kernel
theorem dX10_rowTold_134 : decode cX10_rowTold 134 = .ok (.iconst 0, 1) := by decide +kernel
theorem dX10_rowTold_135 : decode cX10_rowTold 135 = .ok (.sipush 9999, 3) := by decide +kernel
theorem dX10_rowTold_138 : decode cX10_rowTold 138 = .ok (.invokevirtual 221, 3) := by decide +kernel
theorem dX10_rowTold_141 : decode cX10_rowTold 141 = .ok (.iastore, 1) := by decide +kernel
theorem dX10_rowTold_142 : decode cX10_rowTold 142 = .ok (.aload_n 0, 1) := by decide +kernel
theorem dX10_rowTold_143 : decode cX10_rowTold 143 = .ok (.aload_n 0, 1) := by decide +kernel
theorem dX10_rowTold_144 : decode cX10_rowTold 144 = .ok (.getfield 42, 3) := by decide +kernel
theorem dX10_rowTold_147 : decode cX10_rowTold 147 = .ok (.invokevirtual 214, 3) := by decide +kernel
theorem dX10_rowTold_150 : decode cX10_rowTold 150 = .ok (.aload_n 0, 1) := by decide +kernel
theorem dX10_rowTold_151 : decode cX10_rowTold 151 = .ok (.getfield 88, 3) := by decide +kernel
theorem dX10_rowTold_154 : decode cX10_rowTold 154 = .ok (.iload_n 2, 1) := by decide +kernel
theorem dX10_rowTold_155 : decode cX10_rowTold 155 = .ok (.aload_n 0, 1) := by decide +kernel
theorem dX10_rowTold_156 : decode cX10_rowTold 156 = .ok (.iconst 1, 1) := by decide +kernel
theorem dX10_rowTold_157 : decode cX10_rowTold 157 = .ok (.bipush 9, 2) := by decide +kernel
theorem dX10_rowTold_159 : decode cX10_rowTold 159 = .ok (.invokevirtual 221, 3) := by decide +kernel
theorem dX10_rowTold_162 : decode cX10_rowTold 162 = .ok (.iastore, 1) := by decide +kernel
theorem dX10_rowTold_163 : decode cX10_rowTold 163 = .ok (.aload_n 0, 1) := by decide +kernel
theorem dX10_rowTold_164 : decode cX10_rowTold 164 = .ok (.getfield 58, 3) := by decide +kernel
theorem dX10_rowTold_167 : decode cX10_rowTold 167 = .ok (.iconst 3, 1) := by decide +kernel
theorem dX10_rowTold_168 : decode cX10_rowTold 168 = .ok (.dup2, 1) := by decide +kernel
theorem dX10_rowTold_169 : decode cX10_rowTold 169 = .ok (.iaload, 1) := by decide +kernel
theorem dX10_rowTold_170 : decode cX10_rowTold 170 = .ok (.iconst 1, 1) := by decide +kernel
theorem dX10_rowTold_171 : decode cX10_rowTold 171 = .ok (.iadd, 1) := by decide +kernel
theorem dX10_rowTold_172 : decode cX10_rowTold 172 = .ok (.iastore, 1) := by decide +kernel
theorem dX10_rowTold_173 : decode cX10_rowTold 173 = .ok (.return_, 1) := by decide +kernel
set_option maxRecDepth 20000 in
theorem ggX10_controlTold_X10_isFull : GoodIn wsX10_controlTold wsX10_isFull := goodIn_r _ [12, 1, 7, 13, 14, 15, 11, 16, 17, 80, 81, 82, 83, 84, 85, 86, 87, 88, 89, 90, 91, 92, 93, 94, 95, 96, 97, 98, 99, 100, 101, 102, 103, 104, 105, 106, 107, 108, 109, 110, 111, 112, 113, 114, 115, 116, 117, 118, 119, 120, 121, 122, 123, 124, 125, 126, 127, 128, 129, 130, 131, 132, 133, 134, 135, 136] (by decide +kernel) (by decide +kernel)
set_option maxRecDepth 20000 in
theorem gX10_controlTold_X10_isFull : GoodIn wsX10_controlTold (wsV RX10 206 RX10 yX10_isFull wsX10_isFull) := goodIn_app (goodIn_of _ (by decide +kernel)) ggX10_controlTold_X10_isFull
set_option maxRecDepth 20000 in
theorem ggX10_controlTold_X10_oneOf : GoodIn wsX10_controlTold wsX10_oneOf := goodIn_r _ [21, 1, 3, 22, 23, 24, 11, 25, 26, 27, 28, 29, 30, 31, 32, 33, 34, 35, 36, 37, 38, 39, 40, 41, 42, 43, 44, 45, 46, 47, 48, 49, 4, 50, 51, 5, 52, 53, 54, 55, 56, 13, 14, 15, 16, 17, 57, 58, 59, 60, 7, 61, 80, 81, 82, 83, 84, 85, 86, 87, 88, 89, 90, 91, 92, 93, 94, 95, 96, 97, 98, 99, 100, 101, 102, 103, 104, 105, 106, 107, 108, 109, 110, 111, 112, 113, 114, 115, 116, 117, 118, 119, 120, 121, 122, 123, 124, 125, 126, 127, 128, 129, 130, 131, 132, 133, 134, 135, 136] (by decide +kernel) (by decide +kernel)
set_option maxRecDepth 20000 in
theorem gX10_controlTold_X10_oneOf : GoodIn wsX10_controlTold (wsV RX10 218 RX10 yX10_oneOf wsX10_oneOf) := goodIn_app (goodIn_of _ (by decide +kernel)) ggX10_controlTold_X10_oneOf
set_option maxRecDepth 20000 in
theorem ggX10_controlTold_X10_fail : GoodIn wsX10_controlTold wsX10_fail := goodIn_r _ [16, 1, 17, 80, 81, 82, 83, 84, 85, 86, 87, 88, 89, 90, 91, 92, 93, 94, 95, 96, 97, 98, 99, 100, 101, 102, 103, 104, 105, 106, 107, 108, 109, 110, 111, 112, 113, 114, 115, 116, 117, 118, 119, 120, 121, 122, 123, 124, 125, 126, 127, 128, 129, 130, 131, 132, 133, 134, 135, 136] (by decide +kernel) (by decide +kernel)
set_option maxRecDepth 20000 in
theorem gX10_controlTold_X10_fail : GoodIn wsX10_controlTold (wsV RX10 173 RX10 yX10_fail wsX10_fail) := goodIn_app (goodIn_of _ (by decide +kernel)) ggX10_controlTold_X10_fail
set_option maxRecDepth 20000 in
theorem ggX10_controlTold_X10_asks : GoodIn wsX10_controlTold wsX10_asks := goodIn_r _ [65, 1, 26, 66, 67, 68, 11, 69, 27, 53, 54, 55, 56, 28, 29, 32, 33, 34, 35, 36, 37, 38, 13, 14, 15, 16, 17, 80, 81, 82, 83, 84, 85, 86, 87, 88, 89, 90, 91, 92, 93, 94, 95, 96, 97, 98, 99, 100, 101, 102, 103, 104, 105, 106, 107, 108, 109, 110, 111, 112, 113, 114, 115, 116, 117, 118, 119, 120, 121, 122, 123, 124, 125, 126, 127, 128, 129, 130, 131, 132, 133, 134, 135, 136] (by decide +kernel) (by decide +kernel)
set_option maxRecDepth 20000 in
theorem gX10_controlTold_X10_asks : GoodIn wsX10_controlTold (wsV RX10 214 RX10 yX10_asks wsX10_asks) := goodIn_app (goodIn_of _ (by decide +kernel)) ggX10_controlTold_X10_asks
set_option maxRecDepth 20000 in
theorem ggX10_controlTold_X10_number : GoodIn wsX10_controlTold wsX10_number := goodIn_r _ [73, 1, 26, 27, 28, 29, 32, 33, 34, 11, 35, 74, 75, 76, 13, 14, 15, 16, 17, 77, 78, 79, 80, 81, 82, 83, 84, 85, 86, 87, 88, 89, 90, 91, 92, 93, 94, 95, 96, 97, 98, 99, 100, 101, 102, 103, 104, 105, 106, 107, 108, 109, 110, 111, 112, 113, 114, 115, 116, 117, 118, 119, 120, 121, 122, 123, 124, 125, 126, 127, 128, 129, 130, 131, 132, 133, 134, 135, 136] (by decide +kernel) (by decide +kernel)
set_option maxRecDepth 20000 in
theorem gX10_controlTold_X10_number : GoodIn wsX10_controlTold (wsV RX10 221 RX10 yX10_number wsX10_number) := goodIn_app (goodIn_of _ (by decide +kernel)) ggX10_controlTold_X10_number
theorem dX10_controlTold_0 : decode cX10_controlTold 0 = .ok (.aload_n 0, 1) := by decide +kernel
theorem dX10_controlTold_1 : decode cX10_controlTold 1 = .ok (.iconst 4, 1) := by decide +kernel
theorem dX10_controlTold_2 : decode cX10_controlTold 2 = .ok (.bipush 10, 2) := by decide +kernel
theorem dX10_controlTold_4 : decode cX10_controlTold 4 = .ok (.iload_n 1, 1) := by decide +kernel
theorem dX10_controlTold_5 : decode cX10_controlTold 5 = .ok (.invokevirtual 206, 3) := by decide +kernel
theorem dX10_controlTold_8 : decode cX10_controlTold 8 = .ok (.ifCond .eq 4, 3) := by decide +kernel
theorem dX10_controlTold_11 : decode cX10_controlTold 11 = .ok (.return_, 1) := by decide +kernel
theorem dX10_controlTold_12 : decode cX10_controlTold 12 = .ok (.aload_n 0, 1) := by decide +kernel
theorem dX10_controlTold_13 : decode cX10_controlTold 13 = .ok (.iconst 2, 1) := by decide +kernel
theorem dX10_controlTold_14 : decode cX10_controlTold 14 = .ok (.invokevirtual 218, 3) := by decide +kernel
theorem dX10_controlTold_17 : decode cX10_controlTold 17 = .ok (.istore_n 2, 1) := by decide +kernel
theorem dX10_controlTold_18 : decode cX10_controlTold 18 = .ok (.aload_n 0, 1) := by decide +kernel
theorem dX10_controlTold_19 : decode cX10_controlTold 19 = .ok (.getfield 143, 3) := by decide +kernel
theorem dX10_controlTold_22 : decode cX10_controlTold 22 = .ok (.ifCond .ne 21, 3) := by decide +kernel
theorem dX10_controlTold_25 : decode cX10_controlTold 25 = .ok (.aload_n 0, 1) := by decide +kernel
theorem dX10_controlTold_26 : decode cX10_controlTold 26 = .ok (.getfield 73, 3) := by decide +kernel
theorem dX10_controlTold_29 : decode cX10_controlTold 29 = .ok (.iload_n 2, 1) := by decide +kernel
theorem dX10_controlTold_30 : decode cX10_controlTold 30 = .ok (.iaload, 1) := by decide +kernel
theorem dX10_controlTold_31 : decode cX10_controlTold 31 = .ok (.ifCond .eq 12, 3) := by decide +kernel
theorem dX10_controlTold_34 : decode cX10_controlTold 34 = .ok (.aload_n 0, 1) := by decide +kernel
theorem dX10_controlTold_35 : decode cX10_controlTold 35 = .ok (.iconst 3, 1) := by decide +kernel
theorem dX10_controlTold_36 : decode cX10_controlTold 36 = .ok (.aload_n 0, 1) := by decide +kernel
theorem dX10_controlTold_37 : decode cX10_controlTold 37 = .ok (.getfield 191, 3) := by decide +kernel
theorem dX10_controlTold_40 : decode cX10_controlTold 40 = .ok (.invokevirtual 173, 3) := by decide +kernel
theorem dX10_controlTold_43 : decode cX10_controlTold 43 = .ok (.aload_n 0, 1) := by decide +kernel
theorem dX10_controlTold_44 : decode cX10_controlTold 44 = .ok (.aload_n 0, 1) := by decide +kernel
theorem dX10_controlTold_45 : decode cX10_controlTold 45 = .ok (.getfield 39, 3) := by decide +kernel
theorem dX10_controlTold_48 : decode cX10_controlTold 48 = .ok (.invokevirtual 214, 3) := by decide +kernel
theorem dX10_controlTold_51 : decode cX10_controlTold 51 = .ok (.aload_n 0, 1) := by decide +kernel
theorem dX10_controlTold_52 : decode cX10_controlTold 52 = .ok (.iconst 0, 1) := by decide +kernel
theorem dX10_controlTold_53 : decode cX10_controlTold 53 = .ok (.sipush 9999, 3) := by decide +kernel
theorem dX10_controlTold_56 : decode cX10_controlTold 56 = .ok (.invokevirtual 221, 3) := by decide +kernel
theorem dX10_controlTold_59 : decode cX10_controlTold 59 = .ok (.istore_n 3, 1) := by decide +kernel
theorem dX10_controlTold_60 : decode cX10_controlTold 60 = .ok (.aload_n 0, 1) := by decide +kernel
theorem dX10_controlTold_61 : decode cX10_controlTold 61 = .ok (.iconst 0, 1) := by decide +kernel
theorem dX10_controlTold_62 : decode cX10_controlTold 62 = .ok (.sipush 9999, 3) := by decide +kernel
theorem dX10_controlTold_65 : decode cX10_controlTold 65 = .ok (.invokevirtual 221, 3) := by decide +kernel
theorem dX10_controlTold_68 : decode cX10_controlTold 68 = .ok (.istore 4, 2) := by decide +kernel
theorem dX10_controlTold_70 : decode cX10_controlTold 70 = .ok (.aload_n 0, 1) := by decide +kernel
theorem dX10_controlTold_71 : decode cX10_controlTold 71 = .ok (.aload_n 0, 1) := by decide +kernel
theorem dX10_controlTold_72 : decode cX10_controlTold 72 = .ok (.getfield 48, 3) := by decide +kernel
theorem dX10_controlTold_75 : decode cX10_controlTold 75 = .ok (.invokevirtual 214, 3) := by decide +kernel
theorem dX10_controlTold_78 : decode cX10_controlTold 78 = .ok (.aload_n 0, 1) := by decide +kernel
theorem dX10_controlTold_79 : decode cX10_controlTold 79 = .ok (.iconst 1, 1) := by decide +kernel
theorem dX10_controlTold_80 : decode cX10_controlTold 80 = .ok (.iconst 2, 1) := by decide +kernel
theorem dX10_controlTold_81 : decode cX10_controlTold 81 = .ok (.invokevirtual 221, 3) := by decide +kernel
theorem dX10_controlTold_84 : decode cX10_controlTold 84 = .ok (.istore 5, 2) := by decide +kernel
theorem dX10_controlTold_86 : decode cX10_controlTold 86 = .ok (.aload_n 0, 1) := by decide +kernel
theorem dX10_controlTold_87 : decode cX10_controlTold 87 = .ok (.getfield 143, 3) := by decide +kernel
theorem dX10_controlTold_90 : decode cX10_controlTold 90 = .ok (.ifCond .eq 4, 3) := by decide +kernel
theorem dX10_controlTold_93 : decode cX10_controlTold 93 = .ok (.return_, 1) := by decide +kernel
theorem dX10_controlTold_94 : decode cX10_controlTold 94 = .ok (.aload_n 0, 1) := by decide +kernel
theorem dX10_controlTold_95 : decode cX10_controlTold 95 = .ok (.getfield 76, 3) := by decide +kernel
theorem dX10_controlTold_98 : decode cX10_controlTold 98 = .ok (.iconst 2, 1) := by decide +kernel
theorem dX10_controlTold_99 : decode cX10_controlTold 99 = .ok (.iload_n 2, 1) := by decide +kernel
theorem dX10_controlTold_100 : decode cX10_controlTold 100 = .ok (.imul, 1) := by decide +kernel
theorem dX10_controlTold_101 : decode cX10_controlTold 101 = .ok (.iload_n 3, 1) := by decide +kernel
theorem dX10_controlTold_102 : decode cX10_controlTold 102 = .ok (.iastore, 1) := by decide +kernel
theorem dX10_controlTold_103 : decode cX10_controlTold 103 = .ok (.aload_n 0, 1) := by decide +kernel
theorem dX10_controlTold_104 : decode cX10_controlTold 104 = .ok (.getfield 76, 3) := by decide +kernel
theorem dX10_controlTold_107 : decode cX10_controlTold 107 = .ok (.iconst 2, 1) := by decide +kernel
theorem dX10_controlTold_108 : decode cX10_controlTold 108 = .ok (.iload_n 2, 1) := by decide +kernel
theorem dX10_controlTold_109 : decode cX10_controlTold 109 = .ok (.imul, 1) := by decide +kernel
theorem dX10_controlTold_110 : decode cX10_controlTold 110 = .ok (.iconst 1, 1) := by decide +kernel
theorem dX10_controlTold_111 : decode cX10_controlTold 111 = .ok (.iadd, 1) := by decide +kernel
theorem dX10_controlTold_112 : decode cX10_controlTold 112 = .ok (.iload 4, 2) := by decide +kernel
theorem dX10_controlTold_114 : decode cX10_controlTold 114 = .ok (.iastore, 1) := by decide +kernel
theorem dX10_controlTold_115 : decode cX10_controlTold 115 = .ok (.aload_n 0, 1) := by decide +kernel
theorem dX10_controlTold_116 : decode cX10_controlTold 116 = .ok (.getfield 73, 3) := by decide +kernel
theorem dX10_controlTold_119 : decode cX10_controlTold 119 = .ok (.iload_n 2, 1) := by decide +kernel
theorem dX10_controlTold_120 : decode cX10_controlTold 120 = .ok (.iload 5, 2) := by decide +kernel
theorem dX10_controlTold_122 : decode cX10_controlTold 122 = .ok (.iastore, 1) := by decide +kernel
theorem dX10_controlTold_123 : decode cX10_controlTold 123 = .ok (.aload_n 0, 1) := by decide +kernel
theorem dX10_controlTold_124 : decode cX10_controlTold 124 = .ok (.getfield 58, 3) := by decide +kernel
theorem dX10_controlTold_127 : decode cX10_controlTold 127 = .ok (.iconst 4, 1) := by decide +kernel
theorem dX10_controlTold_128 : decode cX10_controlTold 128 = .ok (.dup2, 1) := by decide +kernel
theorem dX10_controlTold_129 : decode cX10_controlTold 129 = .ok (.iaload, 1) := by decide +kernel
theorem dX10_controlTold_130 : decode cX10_controlTold 130 = .ok (.iconst 1, 1) := by decide +kernel
theorem dX10_controlTold_131 : decode cX10_controlTold 131 = .ok (.iadd, 1) := by decide +kernel
theorem dX10_controlTold_132 : decode cX10_controlTold 132 = .ok (.iastore, 1) := by decide +kernel
theorem dX10_controlTold_133 : decode cX10_controlTold 133 = .ok (.return_, 1) := by decide +kernel
set_option maxRecDepth 20000 in
theorem ggX10_centreTold_X10_oneOf : GoodIn wsX10_centreTold wsX10_oneOf := goodIn_r _ [12, 1, 3, 13, 14, 15, 11, 16, 17, 18, 19, 20, 21, 22, 23, 24, 25, 26, 27, 28, 29, 30, 31, 32, 33, 34, 35, 36, 37, 38, 39, 40, 4, 5, 41, 42, 43, 44, 45, 46, 47, 48, 49, 50, 51, 52, 53, 54, 55, 56, 7, 57, 76, 77, 78, 79, 80, 81, 82, 83, 84, 85, 86, 87, 88, 89, 90, 91, 92, 93, 94, 95, 96, 97, 98, 99, 100, 101, 102, 103, 104, 105, 106, 107, 108, 109, 110, 111, 112, 113, 114, 115, 116, 117, 118, 119, 120, 121, 122, 123, 124, 125, 126, 127, 128, 129, 130, 131, 132] (by decide +kernel) (by decide +kernel)
set_option maxRecDepth 20000 in
theorem gX10_centreTold_X10_oneOf : GoodIn wsX10_centreTold (wsV RX10 218 RX10 yX10_oneOf wsX10_oneOf) := goodIn_app (goodIn_of _ (by decide +kernel)) ggX10_centreTold_X10_oneOf
set_option maxRecDepth 20000 in
theorem ggX10_centreTold_X10_fail : GoodIn wsX10_centreTold wsX10_fail := goodIn_r _ [51, 1, 52, 76, 77, 78, 79, 80, 81, 82, 83, 84, 85, 86, 87, 88, 89, 90, 91, 92, 93, 94, 95, 96, 97, 98, 99, 100, 101, 102, 103, 104, 105, 106, 107, 108, 109, 110, 111, 112, 113, 114, 115, 116, 117, 118, 119, 120, 121, 122, 123, 124, 125, 126, 127, 128, 129, 130, 131, 132] (by decide +kernel) (by decide +kernel)
set_option maxRecDepth 20000 in
theorem gX10_centreTold_X10_fail : GoodIn wsX10_centreTold (wsV RX10 173 RX10 yX10_fail wsX10_fail) := goodIn_app (goodIn_of _ (by decide +kernel)) ggX10_centreTold_X10_fail
set_option maxRecDepth 20000 in
theorem ggX10_centreTold_X10_asks : GoodIn wsX10_centreTold wsX10_asks := goodIn_r _ [61, 1, 17, 62, 63, 64, 11, 65, 18, 44, 45, 46, 47, 19, 20, 23, 24, 25, 26, 27, 28, 29, 48, 49, 50, 51, 52, 76, 77, 78, 79, 80, 81, 82, 83, 84, 85, 86, 87, 88, 89, 90, 91, 92, 93, 94, 95, 96, 97, 98, 99, 100, 101, 102, 103, 104, 105, 106, 107, 108, 109, 110, 111, 112, 113, 114, 115, 116, 117, 118, 119, 120, 121, 122, 123, 124, 125, 126, 127, 128, 129, 130, 131, 132] (by decide +kernel) (by decide +kernel)
set_option maxRecDepth 20000 in
theorem gX10_centreTold_X10_asks : GoodIn wsX10_centreTold (wsV RX10 214 RX10 yX10_asks wsX10_asks) := goodIn_app (goodIn_of _ (by decide +kernel)) ggX10_centreTold_X10_asks
set_option maxRecDepth 20000 in
theorem ggX10_centreTold_X10_number : GoodIn wsX10_centreTold wsX10_number := goodIn_r _ [69, 1, 17, 18, 19, 20, 23, 24, 25, 11, 26, 70, 71, 72, 48, 49, 50, 51, 52, 73, 74, 75, 76, 77, 78, 79, 80, 81, 82, 83, 84, 85, 86, 87, 88, 89, 90, 91, 92, 93, 94, 95, 96, 97, 98, 99, 100, 101, 102, 103, 104, 105, 106, 107, 108, 109, 110, 111, 112, 113, 114, 115, 116, 117, 118, 119, 120, 121, 122, 123, 124, 125, 126, 127, 128, 129, 130, 131, 132] (by decide +kernel) (by decide +kernel)
set_option maxRecDepth 20000 in
theorem gX10_centreTold_X10_number : GoodIn wsX10_centreTold (wsV RX10 221 RX10 yX10_number wsX10_number) := goodIn_app (goodIn_of _ (by decide +kernel)) ggX10_centreTold_X10_number
theorem dX10_centreTold_0 : decode cX10_centreTold 0 = .ok (.aload_n 0, 1) := by decide +kernel
theorem dX10_centreTold_1 : decode cX10_centreTold 1 = .ok (.iconst 1, 1) := by decide +kernel
theorem dX10_centreTold_2 : decode cX10_centreTold 2 = .ok (.invokevirtual 218, 3) := by decide +kernel
theorem dX10_centreTold_5 : decode cX10_centreTold 5 = .ok (.istore_n 1, 1) := by decide +kernel
theorem dX10_centreTold_6 : decode cX10_centreTold 6 = .ok (.aload_n 0, 1) := by decide +kernel
theorem dX10_centreTold_7 : decode cX10_centreTold 7 = .ok (.getfield 143, 3) := by decide +kernel
theorem dX10_centreTold_10 : decode cX10_centreTold 10 = .ok (.ifCond .ne 21, 3) := by decide +kernel
theorem dX10_centreTold_13 : decode cX10_centreTold 13 = .ok (.aload_n 0, 1) := by decide +kernel
theorem dX10_centreTold_14 : decode cX10_centreTold 14 = .ok (.getfield 67, 3) := by decide +kernel
theorem dX10_centreTold_17 : decode cX10_centreTold 17 = .ok (.iload_n 1, 1) := by decide +kernel
theorem dX10_centreTold_18 : decode cX10_centreTold 18 = .ok (.iaload, 1) := by decide +kernel
theorem dX10_centreTold_19 : decode cX10_centreTold 19 = .ok (.ifCond .eq 12, 3) := by decide +kernel
theorem dX10_centreTold_22 : decode cX10_centreTold 22 = .ok (.aload_n 0, 1) := by decide +kernel
theorem dX10_centreTold_23 : decode cX10_centreTold 23 = .ok (.iconst 3, 1) := by decide +kernel
theorem dX10_centreTold_24 : decode cX10_centreTold 24 = .ok (.aload_n 0, 1) := by decide +kernel
theorem dX10_centreTold_25 : decode cX10_centreTold 25 = .ok (.getfield 191, 3) := by decide +kernel
theorem dX10_centreTold_28 : decode cX10_centreTold 28 = .ok (.invokevirtual 173, 3) := by decide +kernel
theorem dX10_centreTold_31 : decode cX10_centreTold 31 = .ok (.aload_n 0, 1) := by decide +kernel
theorem dX10_centreTold_32 : decode cX10_centreTold 32 = .ok (.aload_n 0, 1) := by decide +kernel
theorem dX10_centreTold_33 : decode cX10_centreTold 33 = .ok (.getfield 39, 3) := by decide +kernel
theorem dX10_centreTold_36 : decode cX10_centreTold 36 = .ok (.invokevirtual 214, 3) := by decide +kernel
theorem dX10_centreTold_39 : decode cX10_centreTold 39 = .ok (.aload_n 0, 1) := by decide +kernel
theorem dX10_centreTold_40 : decode cX10_centreTold 40 = .ok (.iconst 0, 1) := by decide +kernel
theorem dX10_centreTold_41 : decode cX10_centreTold 41 = .ok (.sipush 9999, 3) := by decide +kernel
theorem dX10_centreTold_44 : decode cX10_centreTold 44 = .ok (.invokevirtual 221, 3) := by decide +kernel
theorem dX10_centreTold_47 : decode cX10_centreTold 47 = .ok (.istore_n 2, 1) := by decide +kernel
theorem dX10_centreTold_48 : decode cX10_centreTold 48 = .ok (.aload_n 0, 1) := by decide +kernel
theorem dX10_centreTold_49 : decode cX10_centreTold 49 = .ok (.iconst 0, 1) := by decide +kernel
theorem dX10_centreTold_50 : decode cX10_centreTold 50 = .ok (.sipush 9999, 3) := by decide +kernel
theorem dX10_centreTold_53 : decode cX10_centreTold 53 = .ok (.invokevirtual 221, 3) := by decide +kernel
theorem dX10_centreTold_56 : decode cX10_centreTold 56 = .ok (.istore_n 3, 1) := by decide +kernel
theorem dX10_centreTold_57 : decode cX10_centreTold 57 = .ok (.aload_n 0, 1) := by decide +kernel
theorem dX10_centreTold_58 : decode cX10_centreTold 58 = .ok (.aload_n 0, 1) := by decide +kernel
theorem dX10_centreTold_59 : decode cX10_centreTold 59 = .ok (.getfield 42, 3) := by decide +kernel
theorem dX10_centreTold_62 : decode cX10_centreTold 62 = .ok (.invokevirtual 214, 3) := by decide +kernel
theorem dX10_centreTold_65 : decode cX10_centreTold 65 = .ok (.aload_n 0, 1) := by decide +kernel
theorem dX10_centreTold_66 : decode cX10_centreTold 66 = .ok (.iconst 1, 1) := by decide +kernel
theorem dX10_centreTold_67 : decode cX10_centreTold 67 = .ok (.bipush 9, 2) := by decide +kernel
theorem dX10_centreTold_69 : decode cX10_centreTold 69 = .ok (.invokevirtual 221, 3) := by decide +kernel
theorem dX10_centreTold_72 : decode cX10_centreTold 72 = .ok (.istore 4, 2) := by decide +kernel
theorem dX10_centreTold_74 : decode cX10_centreTold 74 = .ok (.aload_n 0, 1) := by decide +kernel
theorem dX10_centreTold_75 : decode cX10_centreTold 75 = .ok (.getfield 143, 3) := by decide +kernel
theorem dX10_centreTold_78 : decode cX10_centreTold 78 = .ok (.ifCond .eq 4, 3) := by decide +kernel
theorem dX10_centreTold_81 : decode cX10_centreTold 81 = .ok (.return_, 1) := by decide +kernel
theorem dX10_centreTold_82 : decode cX10_centreTold 82 = .ok (.aload_n 0, 1) := by decide +kernel
theorem dX10_centreTold_83 : decode cX10_centreTold 83 = .ok (.getfield 70, 3) := by decide +kernel
theorem dX10_centreTold_86 : decode cX10_centreTold 86 = .ok (.iconst 2, 1) := by decide +kernel
theorem dX10_centreTold_87 : decode cX10_centreTold 87 = .ok (.iload_n 1, 1) := by decide +kernel
theorem dX10_centreTold_88 : decode cX10_centreTold 88 = .ok (.imul, 1) := by decide +kernel
theorem dX10_centreTold_89 : decode cX10_centreTold 89 = .ok (.iload_n 2, 1) := by decide +kernel
theorem dX10_centreTold_90 : decode cX10_centreTold 90 = .ok (.iastore, 1) := by decide +kernel
theorem dX10_centreTold_91 : decode cX10_centreTold 91 = .ok (.aload_n 0, 1) := by decide +kernel
theorem dX10_centreTold_92 : decode cX10_centreTold 92 = .ok (.getfield 70, 3) := by decide +kernel
theorem dX10_centreTold_95 : decode cX10_centreTold 95 = .ok (.iconst 2, 1) := by decide +kernel
theorem dX10_centreTold_96 : decode cX10_centreTold 96 = .ok (.iload_n 1, 1) := by decide +kernel
theorem dX10_centreTold_97 : decode cX10_centreTold 97 = .ok (.imul, 1) := by decide +kernel
theorem dX10_centreTold_98 : decode cX10_centreTold 98 = .ok (.iconst 1, 1) := by decide +kernel
theorem dX10_centreTold_99 : decode cX10_centreTold 99 = .ok (.iadd, 1) := by decide +kernel
theorem dX10_centreTold_100 : decode cX10_centreTold 100 = .ok (.iload_n 3, 1) := by decide +kernel
theorem dX10_centreTold_101 : decode cX10_centreTold 101 = .ok (.iastore, 1) := by decide +kernel
theorem dX10_centreTold_102 : decode cX10_centreTold 102 = .ok (.aload_n 0, 1) := by decide +kernel
theorem dX10_centreTold_103 : decode cX10_centreTold 103 = .ok (.getfield 67, 3) := by decide +kernel
theorem dX10_centreTold_106 : decode cX10_centreTold 106 = .ok (.iload_n 1, 1) := by decide +kernel
theorem dX10_centreTold_107 : decode cX10_centreTold 107 = .ok (.iload 4, 2) := by decide +kernel
theorem dX10_centreTold_109 : decode cX10_centreTold 109 = .ok (.iastore, 1) := by decide +kernel
theorem dX10_centreTold_110 : decode cX10_centreTold 110 = .ok (.aload_n 0, 1) := by decide +kernel
theorem dX10_centreTold_111 : decode cX10_centreTold 111 = .ok (.getfield 58, 3) := by decide +kernel
theorem dX10_centreTold_114 : decode cX10_centreTold 114 = .ok (.iconst 5, 1) := by decide +kernel
theorem dX10_centreTold_115 : decode cX10_centreTold 115 = .ok (.dup2, 1) := by decide +kernel
theorem dX10_centreTold_116 : decode cX10_centreTold 116 = .ok (.iaload, 1) := by decide +kernel
theorem dX10_centreTold_117 : decode cX10_centreTold 117 = .ok (.iconst 1, 1) := by decide +kernel
theorem dX10_centreTold_118 : decode cX10_centreTold 118 = .ok (.iadd, 1) := by decide +kernel
theorem dX10_centreTold_119 : decode cX10_centreTold 119 = .ok (.iastore, 1) := by decide +kernel
theorem dX10_centreTold_120 : decode cX10_centreTold 120 = .ok (.return_, 1) := by decide +kernel
set_option maxRecDepth 20000 in
theorem ggX10_blockTold_X10_fail : GoodIn wsX10_blockTold wsX10_fail := goodIn_r _ [14, 9, 15, 121, 122, 123, 124, 125, 126, 127, 128, 129, 130, 131, 132, 133, 134, 135, 136, 137, 138, 139, 140, 141, 142, 143, 144, 145, 146, 147, 148, 149, 150, 151, 152, 153, 154, 155, 156, 157, 158, 159, 160, 161, 162, 163, 164, 165, 166, 167, 168, 169, 170, 171, 172, 173, 174, 175, 176, 177] (by decide +kernel) (by decide +kernel)
set_option maxRecDepth 20000 in
theorem gX10_blockTold_X10_fail : GoodIn wsX10_blockTold (wsV RX10 173 RX10 yX10_fail wsX10_fail) := goodIn_app (goodIn_of _ (by decide +kernel)) ggX10_blockTold_X10_fail
set_option maxRecDepth 20000 in
theorem ggX10_blockTold_X10_takes : GoodIn wsX10_blockTold wsX10_takes := goodIn_r _ [19, 1, 20, 21, 22, 23, 13, 24, 9, 25, 26, 27, 28, 29, 30, 31, 32, 33, 121, 122, 123, 124, 125, 126, 127, 128, 129, 130, 131, 132, 133, 134, 135, 136, 137, 138, 139, 140, 141, 142, 143, 144, 145, 146, 147, 148, 149, 150, 151, 152, 153, 154, 155, 156, 157, 158, 159, 160, 161, 162, 163, 164, 165, 166, 167, 168, 169, 170, 171, 172, 173, 174, 175, 176, 177] (by decide +kernel) (by decide +kernel)
set_option maxRecDepth 20000 in
theorem gX10_blockTold_X10_takes : GoodIn wsX10_blockTold (wsV RX10 170 RX10 yX10_takes wsX10_takes) := goodIn_app (goodIn_of _ (by decide +kernel)) ggX10_blockTold_X10_takes
set_option maxRecDepth 20000 in
theorem ggX10_blockTold_X10_isFull : GoodIn wsX10_blockTold wsX10_isFull := goodIn_r _ [37, 9, 38, 10, 11, 12, 13, 14, 15, 121, 122, 123, 124, 125, 126, 127, 128, 129, 130, 131, 132, 133, 134, 135, 136, 137, 138, 139, 140, 141, 142, 143, 144, 145, 146, 147, 148, 149, 150, 151, 152, 153, 154, 155, 156, 157, 158, 159, 160, 161, 162, 163, 164, 165, 166, 167, 168, 169, 170, 171, 172, 173, 174, 175, 176, 177] (by decide +kernel) (by decide +kernel)
set_option maxRecDepth 20000 in
theorem gX10_blockTold_X10_isFull : GoodIn wsX10_blockTold (wsV RX10 206 RX10 yX10_isFull wsX10_isFull) := goodIn_app (goodIn_of _ (by decide +kernel)) ggX10_blockTold_X10_isFull
set_option maxRecDepth 20000 in
theorem ggX10_blockTold_X10_newName : GoodIn wsX10_blockTold wsX10_newName := goodIn_r _ [42, 9, 43, 38, 44, 45, 46, 47, 13, 48, 1, 20, 25, 26, 49, 50, 27, 28, 29, 30, 31, 32, 33, 51, 52, 53, 54, 3, 4, 55, 56, 57, 5, 6, 58, 59, 7, 60, 8, 21, 22, 23, 24, 10, 11, 12, 14, 15, 61, 62, 63, 64, 121, 122, 123, 124, 125, 126, 127, 128, 129, 130, 131, 132, 133, 134, 135, 136, 137, 138, 139, 140, 141, 142, 143, 144, 145, 146, 147, 148, 149, 150, 151, 152, 153, 154, 155, 156, 157, 158, 159, 160, 161, 162, 163, 164, 165, 166, 167, 168, 169, 170, 171, 172, 173, 174, 175, 176, 177] (by decide +kernel) (by decide +kernel)
set_option maxRecDepth 20000 in
theorem gX10_blockTold_X10_newName : GoodIn wsX10_blockTold (wsV RX10 210 RX10 yX10_newName wsX10_newName) := goodIn_app (goodIn_of _ (by decide +kernel)) ggX10_blockTold_X10_newName
set_option maxRecDepth 20000 in
theorem ggX10_blockTold_X10_pictureTold : GoodIn wsX10_blockTold wsX10_pictureTold := goodIn_r _ [68, 55, 56, 57, 9, 69, 70, 71, 34, 35, 36, 13, 37, 38, 10, 11, 12, 14, 15, 39, 40, 41, 42, 43, 44, 45, 46, 47, 48, 1, 20, 25, 26, 49, 50, 27, 28, 29, 30, 31, 32, 33, 51, 52, 53, 54, 3, 4, 5, 6, 58, 59, 7, 60, 8, 21, 22, 23, 24, 61, 62, 63, 64, 72, 73, 74, 75, 16, 17, 18, 19, 76, 77, 78, 79, 80, 81, 82, 83, 84, 85, 86, 87, 88, 89, 121, 122, 123, 124, 125, 126, 127, 128, 129, 130, 131, 132, 133, 134, 135, 136, 137, 138, 139, 140, 141, 142, 143, 144, 145, 146, 147, 148, 149, 150, 151, 152, 153, 154, 155, 156, 157, 158, 159, 160, 161, 162, 163, 164, 165, 166, 167, 168, 169, 170, 171, 172, 173, 174, 175, 176, 177] (by decide +kernel) (by decide +kernel)
set_option maxRecDepth 20000 in
theorem gX10_blockTold_X10_pictureTold : GoodIn wsX10_blockTold (wsV RX10 228 RX10 yX10_pictureTold wsX10_pictureTold) := goodIn_app (goodIn_of _ (by decide +kernel)) ggX10_blockTold_X10_pictureTold
set_option maxRecDepth 20000 in
theorem ggX10_blockTold_X10_pointTold : GoodIn wsX10_blockTold wsX10_pointTold := goodIn_r _ [93, 9, 94, 34, 35, 36, 13, 37, 38, 10, 11, 12, 14, 15, 39, 40, 41, 42, 43, 44, 45, 46, 47, 48, 1, 20, 25, 26, 49, 50, 27, 28, 29, 30, 31, 32, 33, 51, 52, 53, 54, 3, 4, 55, 56, 57, 5, 6, 58, 59, 7, 60, 8, 21, 22, 23, 24, 61, 62, 63, 64, 121, 122, 123, 124, 125, 126, 127, 128, 129, 130, 131, 132, 133, 134, 135, 136, 137, 138, 139, 140, 141, 142, 143, 144, 145, 146, 147, 148, 149, 150, 151, 152, 153, 154, 155, 156, 157, 158, 159, 160, 161, 162, 163, 164, 165, 166, 167, 168, 169, 170, 171, 172, 173, 174, 175, 176, 177] (by decide +kernel) (by decide +kernel)
set_option maxRecDepth 20000 in
theorem gX10_blockTold_X10_pointTold : GoodIn wsX10_blockTold (wsV RX10 232 RX10 yX10_pointTold wsX10_pointTold) := goodIn_app (goodIn_of _ (by decide +kernel)) ggX10_blockTold_X10_pointTold
set_option maxRecDepth 20000 in
theorem ggX10_blockTold_X10_rowTold : GoodIn wsX10_blockTold wsX10_rowTold := goodIn_r _ [98, 38, 99, 100, 9, 43, 58, 101, 59, 102, 34, 35, 36, 13, 37, 10, 11, 12, 14, 15, 76, 77, 78, 79, 45, 46, 47, 48, 1, 20, 25, 26, 49, 50, 27, 28, 29, 30, 31, 32, 33, 51, 52, 53, 54, 3, 4, 55, 56, 57, 5, 6, 7, 60, 8, 21, 22, 23, 24, 61, 62, 63, 64, 44, 72, 73, 74, 75, 16, 17, 18, 19, 80, 81, 82, 83, 84, 85, 86, 87, 88, 89, 121, 122, 123, 124, 125, 126, 127, 128, 129, 130, 131, 132, 133, 134, 135, 136, 137, 138, 139, 140, 141, 142, 143, 144, 145, 146, 147, 148, 149, 150, 151, 152, 153, 154, 155, 156, 157, 158, 159, 160, 161, 162, 163, 164, 165, 166, 167, 168, 169, 170, 171, 172, 173, 174, 175, 176, 177] (by decide +kernel) (by decide +kernel)
set_option maxRecDepth 20000 in
theorem gX10_blockTold_X10_rowTold : GoodIn wsX10_blockTold (wsV RX10 235 RX10 yX10_rowTold wsX10_rowTold) := goodIn_app (goodIn_of _ (by decide +kernel)) ggX10_blockTold_X10_rowTold
set_option maxRecDepth 20000 in
theorem ggX10_blockTold_X10_controlTold : GoodIn wsX10_blockTold wsX10_controlTold := goodIn_r _ [106, 9, 94, 43, 58, 60, 107, 38, 34, 35, 36, 13, 37, 10, 11, 12, 14, 15, 76, 77, 78, 79, 45, 46, 47, 48, 1, 20, 25, 26, 49, 50, 27, 28, 29, 30, 31, 32, 33, 51, 52, 53, 54, 3, 4, 55, 56, 57, 5, 6, 59, 7, 8, 21, 22, 23, 24, 61, 62, 63, 64, 44, 72, 73, 74, 75, 16, 17, 18, 19, 80, 81, 82, 83, 84, 85, 86, 87, 88, 89, 121, 122, 123, 124, 125, 126, 127, 128, 129, 130, 131, 132, 133, 134, 135, 136, 137, 138, 139, 140, 141, 142, 143, 144, 145, 146, 147, 148, 149, 150, 151, 152, 153, 154, 155, 156, 157, 158, 159, 160, 161, 162, 163, 164, 165, 166, 167, 168, 169, 170, 171, 172, 173, 174, 175, 176, 177] (by decide +kernel) (by decide +kernel)
set_option maxRecDepth 20000 in
theorem gX10_blockTold_X10_controlTold : GoodIn wsX10_blockTold (wsV RX10 238 RX10 yX10_controlTold wsX10_controlTold) := goodIn_app (goodIn_of _ (by decide +kernel)) ggX10_blockTold_X10_controlTold
set_option maxRecDepth 20000 in
theorem ggX10_blockTold_X10_asks : GoodIn wsX10_blockTold wsX10_asks := goodIn_r _ [75, 9, 1, 16, 17, 18, 13, 19, 20, 21, 22, 23, 24, 25, 26, 27, 28, 29, 30, 31, 32, 33, 10, 11, 12, 14, 15, 121, 122, 123, 124, 125, 126, 127, 128, 129, 130, 131, 132, 133, 134, 135, 136, 137, 138, 139, 140, 141, 142, 143, 144, 145, 146, 147, 148, 149, 150, 151, 152, 153, 154, 155, 156, 157, 158, 159, 160, 161, 162, 163, 164, 165, 166, 167, 168, 169, 170, 171, 172, 173, 174, 175, 176, 177] (by decide +kernel) (by decide +kernel)
set_option maxRecDepth 20000 in
theorem gX10_blockTold_X10_asks : GoodIn wsX10_blockTold (wsV RX10 214 RX10 yX10_asks wsX10_asks) := goodIn_app (goodIn_of _ (by decide +kernel)) ggX10_blockTold_X10_asks
set_option maxRecDepth 20000 in
theorem ggX10_blockTold_X10_centreTold : GoodIn wsX10_blockTold wsX10_centreTold := goodIn_r _ [111, 9, 71, 43, 58, 59, 112, 38, 76, 77, 78, 13, 79, 45, 46, 47, 48, 1, 20, 25, 26, 49, 50, 27, 28, 29, 30, 31, 32, 33, 51, 52, 53, 54, 3, 4, 55, 56, 57, 5, 6, 7, 60, 8, 21, 22, 23, 24, 10, 11, 12, 14, 15, 61, 62, 63, 64, 44, 72, 73, 74, 75, 16, 17, 18, 19, 80, 81, 82, 83, 84, 85, 86, 87, 88, 89, 121, 122, 123, 124, 125, 126, 127, 128, 129, 130, 131, 132, 133, 134, 135, 136, 137, 138, 139, 140, 141, 142, 143, 144, 145, 146, 147, 148, 149, 150, 151, 152, 153, 154, 155, 156, 157, 158, 159, 160, 161, 162, 163, 164, 165, 166, 167, 168, 169, 170, 171, 172, 173, 174, 175, 176, 177] (by decide +kernel) (by decide +kernel)
set_option maxRecDepth 20000 in
theorem gX10_blockTold_X10_centreTold : GoodIn wsX10_blockTold (wsV RX10 241 RX10 yX10_centreTold wsX10_centreTold) := goodIn_app (goodIn_of _ (by decide +kernel)) ggX10_blockTold_X10_centreTold
set_option maxRecDepth 20000 in
theorem ggX10_blockTold_X10_asksSign : GoodIn wsX10_blockTold wsX10_asksSign := goodIn_r _ [116, 9, 1, 117, 118, 119, 13, 120, 27, 28, 29, 30, 25, 26, 10, 11, 12, 14, 15, 121, 122, 123, 124, 125, 126, 127, 128, 129, 130, 131, 132, 133, 134, 135, 136, 137, 138, 139, 140, 141, 142, 143, 144, 145, 146, 147, 148, 149, 150, 151, 152, 153, 154, 155, 156, 157, 158, 159, 160, 161, 162, 163, 164, 165, 166, 167, 168, 169, 170, 171, 172, 173, 174, 175, 176, 177] (by decide +kernel) (by decide +kernel)
set_option maxRecDepth 20000 in
theorem gX10_blockTold_X10_asksSign : GoodIn wsX10_blockTold (wsV RX10 244 RX10 yX10_asksSign wsX10_asksSign) := goodIn_app (goodIn_of _ (by decide +kernel)) ggX10_blockTold_X10_asksSign
theorem dX10_blockTold_0 : decode cX10_blockTold 0 = .ok (.aload_n 0, 1) := by decide +kernel
theorem dX10_blockTold_1 : decode cX10_blockTold 1 = .ok (.getfield 149, 3) := by decide +kernel
theorem dX10_blockTold_4 : decode cX10_blockTold 4 = .ok (.istore_n 1, 1) := by decide +kernel
theorem dX10_blockTold_5 : decode cX10_blockTold 5 = .ok (.aload_n 0, 1) := by decide +kernel
theorem dX10_blockTold_6 : decode cX10_blockTold 6 = .ok (.getfield 225, 3) := by decide +kernel
theorem dX10_blockTold_9 : decode cX10_blockTold 9 = .ok (.bipush 120, 2) := by decide +kernel
theorem dX10_blockTold_11 : decode cX10_blockTold 11 = .ok (.if_icmp .ne 10, 3) := by decide +kernel
theorem dX10_blockTold_14 : decode cX10_blockTold 14 = .ok (.aload_n 0, 1) := by decide +kernel
theorem dX10_blockTold_15 : decode cX10_blockTold 15 = .ok (.iconst 4, 1) := by decide +kernel
theorem dX10_blockTold_16 : decode cX10_blockTold 16 = .ok (.iload_n 1, 1) := by decide +kernel
theorem dX10_blockTold_17 : decode cX10_blockTold 17 = .ok (.invokevirtual 173, 3) := by decide +kernel
theorem dX10_blockTold_20 : decode cX10_blockTold 20 = .ok (.return_, 1) := by decide +kernel
theorem dX10_blockTold_21 : decode cX10_blockTold 21 = .ok (.aload_n 0, 1) := by decide +kernel
theorem dX10_blockTold_22 : decode cX10_blockTold 22 = .ok (.aload_n 0, 1) := by decide +kernel
theorem dX10_blockTold_23 : decode cX10_blockTold 23 = .ok (.getfield 17, 3) := by decide +kernel
theorem dX10_blockTold_26 : decode cX10_blockTold 26 = .ok (.invokevirtual 170, 3) := by decide +kernel
theorem dX10_blockTold_29 : decode cX10_blockTold 29 = .ok (.ifCond .eq 23, 3) := by decide +kernel
theorem dX10_blockTold_32 : decode cX10_blockTold 32 = .ok (.aload_n 0, 1) := by decide +kernel
theorem dX10_blockTold_33 : decode cX10_blockTold 33 = .ok (.iconst 0, 1) := by decide +kernel
theorem dX10_blockTold_34 : decode cX10_blockTold 34 = .ok (.bipush 6, 2) := by decide +kernel
theorem dX10_blockTold_36 : decode cX10_blockTold 36 = .ok (.iload_n 1, 1) := by decide +kernel
theorem dX10_blockTold_37 : decode cX10_blockTold 37 = .ok (.invokevirtual 206, 3) := by decide +kernel
theorem dX10_blockTold_40 : decode cX10_blockTold 40 = .ok (.ifCond .ne 107, 3) := by decide +kernel
theorem dX10_blockTold_43 : decode cX10_blockTold 43 = .ok (.aload_n 0, 1) := by decide +kernel
theorem dX10_blockTold_44 : decode cX10_blockTold 44 = .ok (.iconst 0, 1) := by decide +kernel
theorem dX10_blockTold_45 : decode cX10_blockTold 45 = .ok (.invokevirtual 210, 3) := by decide +kernel
theorem dX10_blockTold_48 : decode cX10_blockTold 48 = .ok (.pop, 1) := by decide +kernel
theorem dX10_blockTold_49 : decode cX10_blockTold 49 = .ok (.goto 98, 3) := by decide +kernel
theorem dX10_blockTold_52 : decode cX10_blockTold 52 = .ok (.aload_n 0, 1) := by decide +kernel
theorem dX10_blockTold_53 : decode cX10_blockTold 53 = .ok (.aload_n 0, 1) := by decide +kernel
theorem dX10_blockTold_54 : decode cX10_blockTold 54 = .ok (.getfield 21, 3) := by decide +kernel
theorem dX10_blockTold_57 : decode cX10_blockTold 57 = .ok (.invokevirtual 170, 3) := by decide +kernel
theorem dX10_blockTold_60 : decode cX10_blockTold 60 = .ok (.ifCond .eq 11, 3) := by decide +kernel
theorem dX10_blockTold_63 : decode cX10_blockTold 63 = .ok (.aload_n 0, 1) := by decide +kernel
theorem dX10_blockTold_64 : decode cX10_blockTold 64 = .ok (.iload_n 1, 1) := by decide +kernel
theorem dX10_blockTold_65 : decode cX10_blockTold 65 = .ok (.invokevirtual 228, 3) := by decide +kernel
theorem dX10_blockTold_68 : decode cX10_blockTold 68 = .ok (.goto 79, 3) := by decide +kernel
theorem dX10_blockTold_71 : decode cX10_blockTold 71 = .ok (.aload_n 0, 1) := by decide +kernel
theorem dX10_blockTold_72 : decode cX10_blockTold 72 = .ok (.aload_n 0, 1) := by decide +kernel
theorem dX10_blockTold_73 : decode cX10_blockTold 73 = .ok (.getfield 33, 3) := by decide +kernel
theorem dX10_blockTold_76 : decode cX10_blockTold 76 = .ok (.invokevirtual 170, 3) := by decide +kernel
theorem dX10_blockTold_79 : decode cX10_blockTold 79 = .ok (.ifCond .eq 11, 3) := by decide +kernel
theorem dX10_blockTold_82 : decode cX10_blockTold 82 = .ok (.aload_n 0, 1) := by decide +kernel
theorem dX10_blockTold_83 : decode cX10_blockTold 83 = .ok (.iload_n 1, 1) := by decide +kernel
theorem dX10_blockTold_84 : decode cX10_blockTold 84 = .ok (.invokevirtual 232, 3) := by decide +kernel
theorem dX10_blockTold_87 : decode cX10_blockTold 87 = .ok (.goto 60, 3) := by decide +kernel
theorem dX10_blockTold_90 : decode cX10_blockTold 90 = .ok (.aload_n 0, 1) := by decide +kernel
theorem dX10_blockTold_91 : decode cX10_blockTold 91 = .ok (.aload_n 0, 1) := by decide +kernel
theorem dX10_blockTold_92 : decode cX10_blockTold 92 = .ok (.getfield 36, 3) := by decide +kernel
theorem dX10_blockTold_95 : decode cX10_blockTold 95 = .ok (.invokevirtual 170, 3) := by decide +kernel
theorem dX10_blockTold_98 : decode cX10_blockTold 98 = .ok (.ifCond .eq 11, 3) := by decide +kernel
theorem dX10_blockTold_101 : decode cX10_blockTold 101 = .ok (.aload_n 0, 1) := by decide +kernel
theorem dX10_blockTold_102 : decode cX10_blockTold 102 = .ok (.iload_n 1, 1) := by decide +kernel
theorem dX10_blockTold_103 : decode cX10_blockTold 103 = .ok (.invokevirtual 235, 3) := by decide +kernel
theorem dX10_blockTold_106 : decode cX10_blockTold 106 = .ok (.goto 41, 3) := by decide +kernel
theorem dX10_blockTold_109 : decode cX10_blockTold 109 = .ok (.aload_n 0, 1) := by decide +kernel
theorem dX10_blockTold_110 : decode cX10_blockTold 110 = .ok (.aload_n 0, 1) := by decide +kernel
theorem dX10_blockTold_111 : decode cX10_blockTold 111 = .ok (.getfield 45, 3) := by decide +kernel
theorem dX10_blockTold_114 : decode cX10_blockTold 114 = .ok (.invokevirtual 170, 3) := by decide +kernel
theorem dX10_blockTold_117 : decode cX10_blockTold 117 = .ok (.ifCond .eq 11, 3) := by decide +kernel
theorem dX10_blockTold_120 : decode cX10_blockTold 120 = .ok (.aload_n 0, 1) := by decide +kernel
theorem dX10_blockTold_121 : decode cX10_blockTold 121 = .ok (.iload_n 1, 1) := by decide +kernel
theorem dX10_blockTold_122 : decode cX10_blockTold 122 = .ok (.invokevirtual 238, 3) := by decide +kernel
theorem dX10_blockTold_125 : decode cX10_blockTold 125 = .ok (.goto 22, 3) := by decide +kernel
theorem dX10_blockTold_128 : decode cX10_blockTold 128 = .ok (.aload_n 0, 1) := by decide +kernel
theorem dX10_blockTold_129 : decode cX10_blockTold 129 = .ok (.aload_n 0, 1) := by decide +kernel
theorem dX10_blockTold_130 : decode cX10_blockTold 130 = .ok (.getfield 51, 3) := by decide +kernel
theorem dX10_blockTold_133 : decode cX10_blockTold 133 = .ok (.invokevirtual 214, 3) := by decide +kernel
theorem dX10_blockTold_136 : decode cX10_blockTold 136 = .ok (.aload_n 0, 1) := by decide +kernel
theorem dX10_blockTold_137 : decode cX10_blockTold 137 = .ok (.getfield 143, 3) := by decide +kernel
theorem dX10_blockTold_140 : decode cX10_blockTold 140 = .ok (.ifCond .ne 7, 3) := by decide +kernel
theorem dX10_blockTold_143 : decode cX10_blockTold 143 = .ok (.aload_n 0, 1) := by decide +kernel
theorem dX10_blockTold_144 : decode cX10_blockTold 144 = .ok (.invokevirtual 241, 3) := by decide +kernel
theorem dX10_blockTold_147 : decode cX10_blockTold 147 = .ok (.aload_n 0, 1) := by decide +kernel
theorem dX10_blockTold_148 : decode cX10_blockTold 148 = .ok (.bipush 59, 2) := by decide +kernel
theorem dX10_blockTold_150 : decode cX10_blockTold 150 = .ok (.invokevirtual 244, 3) := by decide +kernel
theorem dX10_blockTold_153 : decode cX10_blockTold 153 = .ok (.aload_n 0, 1) := by decide +kernel
theorem dX10_blockTold_154 : decode cX10_blockTold 154 = .ok (.dup, 1) := by decide +kernel
theorem dX10_blockTold_155 : decode cX10_blockTold 155 = .ok (.getfield 225, 3) := by decide +kernel
theorem dX10_blockTold_158 : decode cX10_blockTold 158 = .ok (.iconst 1, 1) := by decide +kernel
theorem dX10_blockTold_159 : decode cX10_blockTold 159 = .ok (.iadd, 1) := by decide +kernel
theorem dX10_blockTold_160 : decode cX10_blockTold 160 = .ok (.putfield 225, 3) := by decide +kernel
theorem dX10_blockTold_163 : decode cX10_blockTold 163 = .ok (.return_, 1) := by decide +kernel
set_option maxRecDepth 20000 in
theorem ggX10_pointTold_X10_isFull : GoodIn wsX10_pointTold wsX10_isFull := goodIn_r _ [7, 1, 8, 9, 10, 11, 6, 12, 13, 61, 62, 63, 64, 65, 66, 67, 68, 69, 70, 71, 72, 73, 74, 75, 76, 77, 78, 79, 80, 81, 82, 83, 84, 85, 86, 87, 88, 89, 90, 91, 92, 93, 94, 95, 96, 97, 98, 99, 100, 101, 102, 103, 104, 105, 106, 107, 108, 109, 110, 111, 112, 113, 114, 115, 116, 117] (by decide +kernel) (by decide +kernel)
set_option maxRecDepth 20000 in
theorem gX10_pointTold_X10_isFull : GoodIn wsX10_pointTold (wsV RX10 206 RX10 yX10_isFull wsX10_isFull) := goodIn_app (goodIn_of _ (by decide +kernel)) ggX10_pointTold_X10_isFull
set_option maxRecDepth 20000 in
theorem ggX10_pointTold_X10_newName : GoodIn wsX10_pointTold wsX10_newName := goodIn_r _ [17, 1, 18, 8, 19, 20, 21, 22, 6, 23, 24, 25, 26, 27, 28, 29, 30, 31, 32, 33, 34, 35, 36, 37, 38, 39, 40, 41, 42, 43, 44, 45, 46, 47, 48, 49, 50, 51, 52, 53, 54, 55, 56, 9, 10, 11, 12, 13, 57, 58, 59, 60, 61, 62, 63, 64, 65, 66, 67, 68, 69, 70, 71, 72, 73, 74, 75, 76, 77, 78, 79, 80, 81, 82, 83, 84, 85, 86, 87, 88, 89, 90, 91, 92, 93, 94, 95, 96, 97, 98, 99, 100, 101, 102, 103, 104, 105, 106, 107, 108, 109, 110, 111, 112, 113, 114, 115, 116, 117] (by decide +kernel) (by decide +kernel)
set_option maxRecDepth 20000 in
theorem gX10_pointTold_X10_newName : GoodIn wsX10_pointTold (wsV RX10 210 RX10 yX10_newName wsX10_newName) := goodIn_app (goodIn_of _ (by decide +kernel)) ggX10_pointTold_X10_newName
theorem dX10_pointTold_0 : decode cX10_pointTold 0 = .ok (.aload_n 0, 1) := by decide +kernel
theorem dX10_pointTold_1 : decode cX10_pointTold 1 = .ok (.iconst 2, 1) := by decide +kernel
theorem dX10_pointTold_2 : decode cX10_pointTold 2 = .ok (.bipush 20, 2) := by decide +kernel
theorem dX10_pointTold_4 : decode cX10_pointTold 4 = .ok (.iload_n 1, 1) := by decide +kernel
theorem dX10_pointTold_5 : decode cX10_pointTold 5 = .ok (.invokevirtual 206, 3) := by decide +kernel
theorem dX10_pointTold_8 : decode cX10_pointTold 8 = .ok (.ifCond .eq 4, 3) := by decide +kernel
theorem dX10_pointTold_11 : decode cX10_pointTold 11 = .ok (.return_, 1) := by decide +kernel
theorem dX10_pointTold_12 : decode cX10_pointTold 12 = .ok (.aload_n 0, 1) := by decide +kernel
theorem dX10_pointTold_13 : decode cX10_pointTold 13 = .ok (.iconst 2, 1) := by decide +kernel
theorem dX10_pointTold_14 : decode cX10_pointTold 14 = .ok (.invokevirtual 210, 3) := by decide +kernel
theorem dX10_pointTold_17 : decode cX10_pointTold 17 = .ok (.istore_n 2, 1) := by decide +kernel
theorem dX10_pointTold_18 : decode cX10_pointTold 18 = .ok (.aload_n 0, 1) := by decide +kernel
theorem dX10_pointTold_19 : decode cX10_pointTold 19 = .ok (.getfield 143, 3) := by decide +kernel
theorem dX10_pointTold_22 : decode cX10_pointTold 22 = .ok (.ifCond .ne 10, 3) := by decide +kernel
theorem dX10_pointTold_25 : decode cX10_pointTold 25 = .ok (.aload_n 0, 1) := by decide +kernel
theorem dX10_pointTold_26 : decode cX10_pointTold 26 = .ok (.getfield 73, 3) := by decide +kernel
theorem dX10_pointTold_29 : decode cX10_pointTold 29 = .ok (.iload_n 2, 1) := by decide +kernel
theorem dX10_pointTold_30 : decode cX10_pointTold 30 = .ok (.iconst 0, 1) := by decide +kernel
theorem dX10_pointTold_31 : decode cX10_pointTold 31 = .ok (.iastore, 1) := by decide +kernel
theorem dX10_pointTold_32 : decode cX10_pointTold 32 = .ok (.return_, 1) := by decide +kernel
set_option maxRecDepth 20000 in
theorem ggX10_block_X10_look : GoodIn wsX10_block wsX10_look := goodIn_r _ [15, 3, 2, 16, 212, 213, 214, 215, 216, 217, 218, 219, 220, 221, 222, 223, 224, 225, 226, 227, 228, 229, 230, 231, 232, 233, 234, 235, 236, 237, 238, 239, 240, 241, 242, 243, 244, 245, 246, 247, 248, 249, 250, 251, 252, 253, 254, 255, 256, 257, 258, 259, 260, 261, 262, 263, 264, 265, 266, 267, 268] (by decide +kernel) (by decide +kernel)
set_option maxRecDepth 20000 in
theorem gX10_block_X10_look : GoodIn wsX10_block (wsV RX10 155 RX10 yX10_look wsX10_look) := goodIn_app (goodIn_of _ (by decide +kernel)) ggX10_block_X10_look
set_option maxRecDepth 20000 in
theorem ggX10_block_X10_blockTold : GoodIn wsX10_block wsX10_blockTold := goodIn_r _ [20, 3, 7, 21, 22, 23, 24, 25, 26, 5, 27, 28, 29, 14, 30, 6, 31, 32, 33, 34, 4, 35, 36, 37, 38, 2, 16, 11, 12, 13, 15, 39, 40, 41, 42, 43, 44, 45, 8, 46, 47, 48, 49, 50, 51, 52, 53, 54, 55, 56, 57, 58, 59, 60, 61, 62, 63, 64, 65, 66, 67, 68, 69, 70, 71, 72, 73, 74, 75, 76, 77, 78, 79, 80, 81, 82, 83, 84, 85, 86, 87, 88, 89, 90, 91, 92, 93, 94, 95, 96, 97, 98, 99, 100, 101, 102, 103, 104, 105, 106, 107, 108, 109, 110, 111, 112, 113, 114, 115, 116, 117, 118, 119, 120, 121, 122, 123, 124, 125, 126, 127, 212, 213, 214, 215, 216, 217, 218, 219, 220, 221, 222, 223, 224, 225, 226, 227, 228, 229, 230, 231, 232, 233, 234, 235, 236, 237, 238, 239, 240, 241, 242, 243, 244, 245, 246, 247, 248, 249, 250, 251, 252, 253, 254, 255, 256, 257, 258, 259, 260, 261, 262, 263, 264, 265, 266, 267, 268] (by decide +kernel) (by decide +kernel)
set_option maxRecDepth 20000 in
theorem gX10_block_X10_blockTold : GoodIn wsX10_block (wsV RX10 247 RX10 yX10_blockTold wsX10_blockTold) := goodIn_app (goodIn_of _ (by decide +kernel)) ggX10_block_X10_blockTold
set_option maxRecDepth 20000 in
theorem ggX10_block_X10_stands : GoodIn wsX10_block wsX10_stands := goodIn_r _ [131, 8, 51, 76, 77, 78, 119, 101, 114, 106, 107, 109, 132, 108, 133, 134, 135, 136, 14, 137, 138, 139, 140, 141, 142, 143, 144, 145, 146, 147, 148, 149, 150, 151, 152, 153, 154, 155, 156, 157, 158, 159, 160, 161, 162, 163, 164, 165, 166, 167, 168, 169, 170, 171, 172, 173, 174, 175, 176, 177, 178, 179, 180, 181, 182, 183, 184, 185, 186, 187, 188, 189, 190, 191, 192, 193, 194, 195, 196, 197, 198, 199, 200, 201, 202, 203, 204, 205, 206, 207, 208, 209, 210, 211, 212, 213, 214, 215, 216, 217, 218, 219, 220, 221, 222, 223, 224, 225, 226, 227, 228, 229, 230, 231, 232, 233, 234, 235, 236, 237, 238, 239, 240, 241, 242, 243, 244, 245, 246, 247, 248, 249, 250, 251, 252, 253, 254, 255, 256, 257, 258, 259, 260, 261, 262, 263, 264, 265, 266, 267, 268] (by decide +kernel) (by decide +kernel)
set_option maxRecDepth 20000 in
theorem gX10_block_X10_stands : GoodIn wsX10_block (wsV RX10 253 RX10 yX10_stands wsX10_stands) := goodIn_app (goodIn_of _ (by decide +kernel)) ggX10_block_X10_stands
theorem dX10_block_0 : decode cX10_block 0 = .ok (.aload_n 0, 1) := by decide +kernel
theorem dX10_block_1 : decode cX10_block 1 = .ok (.aload_n 0, 1) := by decide +kernel
theorem dX10_block_2 : decode cX10_block 2 = .ok (.getfield 140, 3) := by decide +kernel
theorem dX10_block_5 : decode cX10_block 5 = .ok (.putfield 152, 3) := by decide +kernel
theorem dX10_block_8 : decode cX10_block 8 = .ok (.aload_n 0, 1) := by decide +kernel
theorem dX10_block_9 : decode cX10_block 9 = .ok (.iconst 0, 1) := by decide +kernel
theorem dX10_block_10 : decode cX10_block 10 = .ok (.putfield 140, 3) := by decide +kernel
theorem dX10_block_13 : decode cX10_block 13 = .ok (.aload_n 0, 1) := by decide +kernel
theorem dX10_block_14 : decode cX10_block 14 = .ok (.iconst 0, 1) := by decide +kernel
theorem dX10_block_15 : decode cX10_block 15 = .ok (.putfield 149, 3) := by decide +kernel
theorem dX10_block_18 : decode cX10_block 18 = .ok (.aload_n 0, 1) := by decide +kernel
theorem dX10_block_19 : decode cX10_block 19 = .ok (.iconst (-1), 1) := by decide +kernel
theorem dX10_block_20 : decode cX10_block 20 = .ok (.putfield 163, 3) := by decide +kernel
theorem dX10_block_23 : decode cX10_block 23 = .ok (.aload_n 0, 1) := by decide +kernel
theorem dX10_block_24 : decode cX10_block 24 = .ok (.iconst 0, 1) := by decide +kernel
theorem dX10_block_25 : decode cX10_block 25 = .ok (.putfield 143, 3) := by decide +kernel
theorem dX10_block_28 : decode cX10_block 28 = .ok (.aload_n 0, 1) := by decide +kernel
theorem dX10_block_29 : decode cX10_block 29 = .ok (.iconst (-1), 1) := by decide +kernel
theorem dX10_block_30 : decode cX10_block 30 = .ok (.putfield 146, 3) := by decide +kernel
theorem dX10_block_33 : decode cX10_block 33 = .ok (.aload_n 0, 1) := by decide +kernel
theorem dX10_block_34 : decode cX10_block 34 = .ok (.iconst 0, 1) := by decide +kernel
theorem dX10_block_35 : decode cX10_block 35 = .ok (.putfield 225, 3) := by decide +kernel
theorem dX10_block_38 : decode cX10_block 38 = .ok (.iconst 0, 1) := by decide +kernel
theorem dX10_block_39 : decode cX10_block 39 = .ok (.istore_n 1, 1) := by decide +kernel
theorem dX10_block_40 : decode cX10_block 40 = .ok (.iload_n 1, 1) := by decide +kernel
theorem dX10_block_41 : decode cX10_block 41 = .ok (.bipush 6, 2) := by decide +kernel
theorem dX10_block_43 : decode cX10_block 43 = .ok (.if_icmp .ge 16, 3) := by decide +kernel
theorem dX10_block_46 : decode cX10_block 46 = .ok (.aload_n 0, 1) := by decide +kernel
theorem dX10_block_47 : decode cX10_block 47 = .ok (.getfield 58, 3) := by decide +kernel
theorem dX10_block_50 : decode cX10_block 50 = .ok (.iload_n 1, 1) := by decide +kernel
theorem dX10_block_51 : decode cX10_block 51 = .ok (.iconst 0, 1) := by decide +kernel
theorem dX10_block_52 : decode cX10_block 52 = .ok (.iastore, 1) := by decide +kernel
theorem dX10_block_53 : decode cX10_block 53 = .ok (.iinc 1 1, 3) := by decide +kernel
theorem dX10_block_56 : decode cX10_block 56 = .ok (.goto (-16), 3) := by decide +kernel
theorem dX10_block_59 : decode cX10_block 59 = .ok (.aload_n 0, 1) := by decide +kernel
theorem dX10_block_60 : decode cX10_block 60 = .ok (.getfield 143, 3) := by decide +kernel
theorem dX10_block_63 : decode cX10_block 63 = .ok (.ifCond .ne 18, 3) := by decide +kernel
theorem dX10_block_66 : decode cX10_block 66 = .ok (.aload_n 0, 1) := by decide +kernel
theorem dX10_block_67 : decode cX10_block 67 = .ok (.invokevirtual 155, 3) := by decide +kernel
theorem dX10_block_70 : decode cX10_block 70 = .ok (.iconst (-1), 1) := by decide +kernel
theorem dX10_block_71 : decode cX10_block 71 = .ok (.if_icmp .eq 10, 3) := by decide +kernel
theorem dX10_block_74 : decode cX10_block 74 = .ok (.aload_n 0, 1) := by decide +kernel
theorem dX10_block_75 : decode cX10_block 75 = .ok (.invokevirtual 247, 3) := by decide +kernel
theorem dX10_block_78 : decode cX10_block 78 = .ok (.goto (-19), 3) := by decide +kernel
theorem dX10_block_81 : decode cX10_block 81 = .ok (.aload_n 0, 1) := by decide +kernel
theorem dX10_block_82 : decode cX10_block 82 = .ok (.aload_n 0, 1) := by decide +kernel
theorem dX10_block_83 : decode cX10_block 83 = .ok (.getfield 143, 3) := by decide +kernel
theorem dX10_block_86 : decode cX10_block 86 = .ok (.putfield 250, 3) := by decide +kernel
theorem dX10_block_89 : decode cX10_block 89 = .ok (.aload_n 0, 1) := by decide +kernel
theorem dX10_block_90 : decode cX10_block 90 = .ok (.aload_n 0, 1) := by decide +kernel
theorem dX10_block_91 : decode cX10_block 91 = .ok (.getfield 146, 3) := by decide +kernel
theorem dX10_block_94 : decode cX10_block 94 = .ok (.putfield 13, 3) := by decide +kernel
theorem dX10_block_97 : decode cX10_block 97 = .ok (.aload_n 0, 1) := by decide +kernel
theorem dX10_block_98 : decode cX10_block 98 = .ok (.getfield 143, 3) := by decide +kernel
theorem dX10_block_101 : decode cX10_block 101 = .ok (.ifCond .eq 5, 3) := by decide +kernel
theorem dX10_block_104 : decode cX10_block 104 = .ok (.iconst (-1), 1) := by decide +kernel
theorem dX10_block_105 : decode cX10_block 105 = .ok (.ireturn, 1) := by decide +kernel
theorem dX10_block_106 : decode cX10_block 106 = .ok (.aload_n 0, 1) := by decide +kernel
theorem dX10_block_107 : decode cX10_block 107 = .ok (.invokevirtual 253, 3) := by decide +kernel
theorem dX10_block_110 : decode cX10_block 110 = .ok (.aload_n 0, 1) := by decide +kernel
theorem dX10_block_111 : decode cX10_block 111 = .ok (.getfield 225, 3) := by decide +kernel
theorem dX10_block_114 : decode cX10_block 114 = .ok (.ireturn, 1) := by decide +kernel
set_option maxRecDepth 20000 in
theorem ggX10_stands_X10_starts : GoodIn wsX10_stands wsX10_starts := goodIn_r _ [19, 20, 4, 21, 22, 23, 24, 25, 18, 26, 1, 27, 28, 29, 30, 31, 32, 33, 34, 35, 36, 37, 38, 39, 40, 41, 42, 43, 44, 45, 46, 12, 47, 48, 49, 50, 51, 52, 53, 54, 9, 55, 56, 57, 58, 10, 59, 60, 61, 62, 63, 64, 65, 66, 67, 68, 69, 70, 71, 72, 73, 74, 13, 75, 76, 77, 78, 79, 80, 81, 82, 83, 84, 85, 86, 87, 88, 89, 8, 90, 91, 92, 93, 7, 14, 94, 95, 96, 97, 98, 99, 100, 101, 102, 103, 104, 105, 106, 107, 108, 109, 110, 111, 112, 113, 114, 115, 116, 117, 118, 119, 120, 121, 122, 123, 124, 125, 126, 127, 128, 129, 130, 131, 132, 133, 134, 135, 136, 137, 138, 139, 140, 141, 142, 143, 144, 145, 146, 147, 148, 149, 150] (by decide +kernel) (by decide +kernel)
set_option maxRecDepth 20000 in
theorem gX10_stands_X10_starts : GoodIn wsX10_stands (wsV RX10 256 RX10 yX10_starts wsX10_starts) := goodIn_app (goodIn_of _ (by decide +kernel)) ggX10_stands_X10_starts
theorem dX10_stands_0 : decode cX10_stands 0 = .ok (.iconst 0, 1) := by decide +kernel
theorem dX10_stands_1 : decode cX10_stands 1 = .ok (.istore_n 1, 1) := by decide +kernel
theorem dX10_stands_2 : decode cX10_stands 2 = .ok (.iload_n 1, 1) := by decide +kernel
theorem dX10_stands_3 : decode cX10_stands 3 = .ok (.bipush 6, 2) := by decide +kernel
theorem dX10_stands_5 : decode cX10_stands 5 = .ok (.if_icmp .ge 24, 3) := by decide +kernel
theorem dX10_stands_8 : decode cX10_stands 8 = .ok (.aload_n 0, 1) := by decide +kernel
theorem dX10_stands_9 : decode cX10_stands 9 = .ok (.getfield 58, 3) := by decide +kernel
theorem dX10_stands_12 : decode cX10_stands 12 = .ok (.bipush 6, 2) := by decide +kernel
theorem dX10_stands_14 : decode cX10_stands 14 = .ok (.iload_n 1, 1) := by decide +kernel
theorem dX10_stands_15 : decode cX10_stands 15 = .ok (.iadd, 1) := by decide +kernel
theorem dX10_stands_16 : decode cX10_stands 16 = .ok (.aload_n 0, 1) := by decide +kernel
theorem dX10_stands_17 : decode cX10_stands 17 = .ok (.getfield 58, 3) := by decide +kernel
theorem dX10_stands_20 : decode cX10_stands 20 = .ok (.iload_n 1, 1) := by decide +kernel
theorem dX10_stands_21 : decode cX10_stands 21 = .ok (.iaload, 1) := by decide +kernel
theorem dX10_stands_22 : decode cX10_stands 22 = .ok (.iastore, 1) := by decide +kernel
theorem dX10_stands_23 : decode cX10_stands 23 = .ok (.iinc 1 1, 3) := by decide +kernel
theorem dX10_stands_26 : decode cX10_stands 26 = .ok (.goto (-24), 3) := by decide +kernel
theorem dX10_stands_29 : decode cX10_stands 29 = .ok (.iconst 0, 1) := by decide +kernel
theorem dX10_stands_30 : decode cX10_stands 30 = .ok (.istore_n 1, 1) := by decide +kernel
theorem dX10_stands_31 : decode cX10_stands 31 = .ok (.iload_n 1, 1) := by decide +kernel
theorem dX10_stands_32 : decode cX10_stands 32 = .ok (.bipush 60, 2) := by decide +kernel
theorem dX10_stands_34 : decode cX10_stands 34 = .ok (.if_icmp .ge 24, 3) := by decide +kernel
theorem dX10_stands_37 : decode cX10_stands 37 = .ok (.aload_n 0, 1) := by decide +kernel
theorem dX10_stands_38 : decode cX10_stands 38 = .ok (.getfield 54, 3) := by decide +kernel
theorem dX10_stands_41 : decode cX10_stands 41 = .ok (.bipush 60, 2) := by decide +kernel
theorem dX10_stands_43 : decode cX10_stands 43 = .ok (.iload_n 1, 1) := by decide +kernel
theorem dX10_stands_44 : decode cX10_stands 44 = .ok (.iadd, 1) := by decide +kernel
theorem dX10_stands_45 : decode cX10_stands 45 = .ok (.aload_n 0, 1) := by decide +kernel
theorem dX10_stands_46 : decode cX10_stands 46 = .ok (.getfield 54, 3) := by decide +kernel
theorem dX10_stands_49 : decode cX10_stands 49 = .ok (.iload_n 1, 1) := by decide +kernel
theorem dX10_stands_50 : decode cX10_stands 50 = .ok (.laload, 1) := by decide +kernel
theorem dX10_stands_51 : decode cX10_stands 51 = .ok (.lastore, 1) := by decide +kernel
theorem dX10_stands_52 : decode cX10_stands 52 = .ok (.iinc 1 1, 3) := by decide +kernel
theorem dX10_stands_55 : decode cX10_stands 55 = .ok (.goto (-24), 3) := by decide +kernel
theorem dX10_stands_58 : decode cX10_stands 58 = .ok (.iconst 0, 1) := by decide +kernel
theorem dX10_stands_59 : decode cX10_stands 59 = .ok (.istore_n 1, 1) := by decide +kernel
theorem dX10_stands_60 : decode cX10_stands 60 = .ok (.iload_n 1, 1) := by decide +kernel
theorem dX10_stands_61 : decode cX10_stands 61 = .ok (.bipush 12, 2) := by decide +kernel
theorem dX10_stands_63 : decode cX10_stands 63 = .ok (.if_icmp .ge 68, 3) := by decide +kernel
theorem dX10_stands_66 : decode cX10_stands 66 = .ok (.aload_n 0, 1) := by decide +kernel
theorem dX10_stands_67 : decode cX10_stands 67 = .ok (.getfield 61, 3) := by decide +kernel
theorem dX10_stands_70 : decode cX10_stands 70 = .ok (.bipush 12, 2) := by decide +kernel
theorem dX10_stands_72 : decode cX10_stands 72 = .ok (.iload_n 1, 1) := by decide +kernel
theorem dX10_stands_73 : decode cX10_stands 73 = .ok (.iadd, 1) := by decide +kernel
theorem dX10_stands_74 : decode cX10_stands 74 = .ok (.aload_n 0, 1) := by decide +kernel
theorem dX10_stands_75 : decode cX10_stands 75 = .ok (.getfield 61, 3) := by decide +kernel
theorem dX10_stands_78 : decode cX10_stands 78 = .ok (.iload_n 1, 1) := by decide +kernel
theorem dX10_stands_79 : decode cX10_stands 79 = .ok (.iaload, 1) := by decide +kernel
theorem dX10_stands_80 : decode cX10_stands 80 = .ok (.iastore, 1) := by decide +kernel
theorem dX10_stands_81 : decode cX10_stands 81 = .ok (.aload_n 0, 1) := by decide +kernel
theorem dX10_stands_82 : decode cX10_stands 82 = .ok (.getfield 64, 3) := by decide +kernel
theorem dX10_stands_85 : decode cX10_stands 85 = .ok (.bipush 12, 2) := by decide +kernel
theorem dX10_stands_87 : decode cX10_stands 87 = .ok (.iload_n 1, 1) := by decide +kernel
theorem dX10_stands_88 : decode cX10_stands 88 = .ok (.iadd, 1) := by decide +kernel
theorem dX10_stands_89 : decode cX10_stands 89 = .ok (.aload_n 0, 1) := by decide +kernel
theorem dX10_stands_90 : decode cX10_stands 90 = .ok (.getfield 64, 3) := by decide +kernel
theorem dX10_stands_93 : decode cX10_stands 93 = .ok (.iload_n 1, 1) := by decide +kernel
theorem dX10_stands_94 : decode cX10_stands 94 = .ok (.iaload, 1) := by decide +kernel
theorem dX10_stands_95 : decode cX10_stands 95 = .ok (.iastore, 1) := by decide +kernel
theorem dX10_stands_96 : decode cX10_stands 96 = .ok (.aload_n 0, 1) := by decide +kernel
theorem dX10_stands_97 : decode cX10_stands 97 = .ok (.getfield 67, 3) := by decide +kernel
theorem dX10_stands_100 : decode cX10_stands 100 = .ok (.bipush 12, 2) := by decide +kernel
theorem dX10_stands_102 : decode cX10_stands 102 = .ok (.iload_n 1, 1) := by decide +kernel
theorem dX10_stands_103 : decode cX10_stands 103 = .ok (.iadd, 1) := by decide +kernel
theorem dX10_stands_104 : decode cX10_stands 104 = .ok (.iload_n 1, 1) := by decide +kernel
theorem dX10_stands_105 : decode cX10_stands 105 = .ok (.aload_n 0, 1) := by decide +kernel
theorem dX10_stands_106 : decode cX10_stands 106 = .ok (.getfield 58, 3) := by decide +kernel
theorem dX10_stands_109 : decode cX10_stands 109 = .ok (.iconst 1, 1) := by decide +kernel
theorem dX10_stands_110 : decode cX10_stands 110 = .ok (.iaload, 1) := by decide +kernel
theorem dX10_stands_111 : decode cX10_stands 111 = .ok (.if_icmp .ge 12, 3) := by decide +kernel
theorem dX10_stands_114 : decode cX10_stands 114 = .ok (.aload_n 0, 1) := by decide +kernel
theorem dX10_stands_115 : decode cX10_stands 115 = .ok (.getfield 67, 3) := by decide +kernel
theorem dX10_stands_118 : decode cX10_stands 118 = .ok (.iload_n 1, 1) := by decide +kernel
theorem dX10_stands_119 : decode cX10_stands 119 = .ok (.iaload, 1) := by decide +kernel
theorem dX10_stands_120 : decode cX10_stands 120 = .ok (.goto 4, 3) := by decide +kernel
theorem dX10_stands_123 : decode cX10_stands 123 = .ok (.iconst 0, 1) := by decide +kernel
theorem dX10_stands_124 : decode cX10_stands 124 = .ok (.iastore, 1) := by decide +kernel
theorem dX10_stands_125 : decode cX10_stands 125 = .ok (.iinc 1 1, 3) := by decide +kernel
theorem dX10_stands_128 : decode cX10_stands 128 = .ok (.goto (-68), 3) := by decide +kernel
theorem dX10_stands_131 : decode cX10_stands 131 = .ok (.iconst 0, 1) := by decide +kernel
theorem dX10_stands_132 : decode cX10_stands 132 = .ok (.istore_n 1, 1) := by decide +kernel
theorem dX10_stands_133 : decode cX10_stands 133 = .ok (.iload_n 1, 1) := by decide +kernel
theorem dX10_stands_134 : decode cX10_stands 134 = .ok (.bipush 24, 2) := by decide +kernel
theorem dX10_stands_136 : decode cX10_stands 136 = .ok (.if_icmp .ge 24, 3) := by decide +kernel
theorem dX10_stands_139 : decode cX10_stands 139 = .ok (.aload_n 0, 1) := by decide +kernel
theorem dX10_stands_140 : decode cX10_stands 140 = .ok (.getfield 70, 3) := by decide +kernel
theorem dX10_stands_143 : decode cX10_stands 143 = .ok (.bipush 24, 2) := by decide +kernel
theorem dX10_stands_145 : decode cX10_stands 145 = .ok (.iload_n 1, 1) := by decide +kernel
theorem dX10_stands_146 : decode cX10_stands 146 = .ok (.iadd, 1) := by decide +kernel
theorem dX10_stands_147 : decode cX10_stands 147 = .ok (.aload_n 0, 1) := by decide +kernel
theorem dX10_stands_148 : decode cX10_stands 148 = .ok (.getfield 70, 3) := by decide +kernel
theorem dX10_stands_151 : decode cX10_stands 151 = .ok (.iload_n 1, 1) := by decide +kernel
theorem dX10_stands_152 : decode cX10_stands 152 = .ok (.iaload, 1) := by decide +kernel
theorem dX10_stands_153 : decode cX10_stands 153 = .ok (.iastore, 1) := by decide +kernel
theorem dX10_stands_154 : decode cX10_stands 154 = .ok (.iinc 1 1, 3) := by decide +kernel
theorem dX10_stands_157 : decode cX10_stands 157 = .ok (.goto (-24), 3) := by decide +kernel
theorem dX10_stands_160 : decode cX10_stands 160 = .ok (.iconst 0, 1) := by decide +kernel
theorem dX10_stands_161 : decode cX10_stands 161 = .ok (.istore_n 1, 1) := by decide +kernel
theorem dX10_stands_162 : decode cX10_stands 162 = .ok (.iload_n 1, 1) := by decide +kernel
theorem dX10_stands_163 : decode cX10_stands 163 = .ok (.bipush 20, 2) := by decide +kernel
theorem dX10_stands_165 : decode cX10_stands 165 = .ok (.if_icmp .ge 38, 3) := by decide +kernel
theorem dX10_stands_168 : decode cX10_stands 168 = .ok (.aload_n 0, 1) := by decide +kernel
theorem dX10_stands_169 : decode cX10_stands 169 = .ok (.getfield 73, 3) := by decide +kernel
theorem dX10_stands_172 : decode cX10_stands 172 = .ok (.bipush 20, 2) := by decide +kernel
theorem dX10_stands_174 : decode cX10_stands 174 = .ok (.iload_n 1, 1) := by decide +kernel
theorem dX10_stands_175 : decode cX10_stands 175 = .ok (.iadd, 1) := by decide +kernel
theorem dX10_stands_176 : decode cX10_stands 176 = .ok (.iload_n 1, 1) := by decide +kernel
theorem dX10_stands_177 : decode cX10_stands 177 = .ok (.aload_n 0, 1) := by decide +kernel
theorem dX10_stands_178 : decode cX10_stands 178 = .ok (.getfield 58, 3) := by decide +kernel
theorem dX10_stands_181 : decode cX10_stands 181 = .ok (.iconst 2, 1) := by decide +kernel
theorem dX10_stands_182 : decode cX10_stands 182 = .ok (.iaload, 1) := by decide +kernel
theorem dX10_stands_183 : decode cX10_stands 183 = .ok (.if_icmp .ge 12, 3) := by decide +kernel
theorem dX10_stands_186 : decode cX10_stands 186 = .ok (.aload_n 0, 1) := by decide +kernel
theorem dX10_stands_187 : decode cX10_stands 187 = .ok (.getfield 73, 3) := by decide +kernel
theorem dX10_stands_190 : decode cX10_stands 190 = .ok (.iload_n 1, 1) := by decide +kernel
theorem dX10_stands_191 : decode cX10_stands 191 = .ok (.iaload, 1) := by decide +kernel
theorem dX10_stands_192 : decode cX10_stands 192 = .ok (.goto 4, 3) := by decide +kernel
theorem dX10_stands_195 : decode cX10_stands 195 = .ok (.iconst 0, 1) := by decide +kernel
theorem dX10_stands_196 : decode cX10_stands 196 = .ok (.iastore, 1) := by decide +kernel
theorem dX10_stands_197 : decode cX10_stands 197 = .ok (.iinc 1 1, 3) := by decide +kernel
theorem dX10_stands_200 : decode cX10_stands 200 = .ok (.goto (-38), 3) := by decide +kernel
theorem dX10_stands_203 : decode cX10_stands 203 = .ok (.iconst 0, 1) := by decide +kernel
theorem dX10_stands_204 : decode cX10_stands 204 = .ok (.istore_n 1, 1) := by decide +kernel
theorem dX10_stands_205 : decode cX10_stands 205 = .ok (.iload_n 1, 1) := by decide +kernel
theorem dX10_stands_206 : decode cX10_stands 206 = .ok (.bipush 40, 2) := by decide +kernel
theorem dX10_stands_208 : decode cX10_stands 208 = .ok (.if_icmp .ge 24, 3) := by decide +kernel
theorem dX10_stands_211 : decode cX10_stands 211 = .ok (.aload_n 0, 1) := by decide +kernel
theorem dX10_stands_212 : decode cX10_stands 212 = .ok (.getfield 76, 3) := by decide +kernel
theorem dX10_stands_215 : decode cX10_stands 215 = .ok (.bipush 40, 2) := by decide +kernel
theorem dX10_stands_217 : decode cX10_stands 217 = .ok (.iload_n 1, 1) := by decide +kernel
theorem dX10_stands_218 : decode cX10_stands 218 = .ok (.iadd, 1) := by decide +kernel
theorem dX10_stands_219 : decode cX10_stands 219 = .ok (.aload_n 0, 1) := by decide +kernel
theorem dX10_stands_220 : decode cX10_stands 220 = .ok (.getfield 76, 3) := by decide +kernel
theorem dX10_stands_223 : decode cX10_stands 223 = .ok (.iload_n 1, 1) := by decide +kernel
theorem dX10_stands_224 : decode cX10_stands 224 = .ok (.iaload, 1) := by decide +kernel
theorem dX10_stands_225 : decode cX10_stands 225 = .ok (.iastore, 1) := by decide +kernel
theorem dX10_stands_226 : decode cX10_stands 226 = .ok (.iinc 1 1, 3) := by decide +kernel
theorem dX10_stands_229 : decode cX10_stands 229 = .ok (.goto (-24), 3) := by decide +kernel
theorem dX10_stands_232 : decode cX10_stands 232 = .ok (.iconst 0, 1) := by decide +kernel
theorem dX10_stands_233 : decode cX10_stands 233 = .ok (.istore_n 1, 1) := by decide +kernel
theorem dX10_stands_234 : decode cX10_stands 234 = .ok (.iload_n 1, 1) := by decide +kernel
theorem dX10_stands_235 : decode cX10_stands 235 = .ok (.bipush 60, 2) := by decide +kernel
theorem dX10_stands_237 : decode cX10_stands 237 = .ok (.if_icmp .ge 61, 3) := by decide +kernel
theorem dX10_stands_240 : decode cX10_stands 240 = .ok (.aload_n 0, 1) := by decide +kernel
theorem dX10_stands_241 : decode cX10_stands 241 = .ok (.getfield 79, 3) := by decide +kernel
theorem dX10_stands_244 : decode cX10_stands 244 = .ok (.bipush 60, 2) := by decide +kernel
theorem dX10_stands_246 : decode cX10_stands 246 = .ok (.iload_n 1, 1) := by decide +kernel
theorem dX10_stands_247 : decode cX10_stands 247 = .ok (.iadd, 1) := by decide +kernel
theorem dX10_stands_248 : decode cX10_stands 248 = .ok (.aload_n 0, 1) := by decide +kernel
theorem dX10_stands_249 : decode cX10_stands 249 = .ok (.getfield 79, 3) := by decide +kernel
theorem dX10_stands_252 : decode cX10_stands 252 = .ok (.iload_n 1, 1) := by decide +kernel
theorem dX10_stands_253 : decode cX10_stands 253 = .ok (.iaload, 1) := by decide +kernel
theorem dX10_stands_254 : decode cX10_stands 254 = .ok (.iastore, 1) := by decide +kernel
theorem dX10_stands_255 : decode cX10_stands 255 = .ok (.aload_n 0, 1) := by decide +kernel
theorem dX10_stands_256 : decode cX10_stands 256 = .ok (.getfield 82, 3) := by decide +kernel
theorem dX10_stands_259 : decode cX10_stands 259 = .ok (.bipush 60, 2) := by decide +kernel
theorem dX10_stands_261 : decode cX10_stands 261 = .ok (.iload_n 1, 1) := by decide +kernel
theorem dX10_stands_262 : decode cX10_stands 262 = .ok (.iadd, 1) := by decide +kernel
theorem dX10_stands_263 : decode cX10_stands 263 = .ok (.aload_n 0, 1) := by decide +kernel
theorem dX10_stands_264 : decode cX10_stands 264 = .ok (.getfield 82, 3) := by decide +kernel
theorem dX10_stands_267 : decode cX10_stands 267 = .ok (.iload_n 1, 1) := by decide +kernel
theorem dX10_stands_268 : decode cX10_stands 268 = .ok (.iaload, 1) := by decide +kernel
theorem dX10_stands_269 : decode cX10_stands 269 = .ok (.iastore, 1) := by decide +kernel
theorem dX10_stands_270 : decode cX10_stands 270 = .ok (.aload_n 0, 1) := by decide +kernel
theorem dX10_stands_271 : decode cX10_stands 271 = .ok (.getfield 88, 3) := by decide +kernel
theorem dX10_stands_274 : decode cX10_stands 274 = .ok (.bipush 60, 2) := by decide +kernel
theorem dX10_stands_276 : decode cX10_stands 276 = .ok (.iload_n 1, 1) := by decide +kernel
theorem dX10_stands_277 : decode cX10_stands 277 = .ok (.iadd, 1) := by decide +kernel
theorem dX10_stands_278 : decode cX10_stands 278 = .ok (.aload_n 0, 1) := by decide +kernel
theorem dX10_stands_279 : decode cX10_stands 279 = .ok (.getfield 88, 3) := by decide +kernel
theorem dX10_stands_282 : decode cX10_stands 282 = .ok (.iload_n 1, 1) := by decide +kernel
theorem dX10_stands_283 : decode cX10_stands 283 = .ok (.iaload, 1) := by decide +kernel
theorem dX10_stands_284 : decode cX10_stands 284 = .ok (.iastore, 1) := by decide +kernel
theorem dX10_stands_285 : decode cX10_stands 285 = .ok (.aload_n 0, 1) := by decide +kernel
theorem dX10_stands_286 : decode cX10_stands 286 = .ok (.getfield 91, 3) := by decide +kernel
theorem dX10_stands_289 : decode cX10_stands 289 = .ok (.iload_n 1, 1) := by decide +kernel
theorem dX10_stands_290 : decode cX10_stands 290 = .ok (.iconst 0, 1) := by decide +kernel
theorem dX10_stands_291 : decode cX10_stands 291 = .ok (.bastore, 1) := by decide +kernel
theorem dX10_stands_292 : decode cX10_stands 292 = .ok (.iinc 1 1, 3) := by decide +kernel
theorem dX10_stands_295 : decode cX10_stands 295 = .ok (.goto (-61), 3) := by decide +kernel
theorem dX10_stands_298 : decode cX10_stands 298 = .ok (.iconst 0, 1) := by decide +kernel
theorem dX10_stands_299 : decode cX10_stands 299 = .ok (.istore_n 1, 1) := by decide +kernel
theorem dX10_stands_300 : decode cX10_stands 300 = .ok (.iload_n 1, 1) := by decide +kernel
theorem dX10_stands_301 : decode cX10_stands 301 = .ok (.bipush 120, 2) := by decide +kernel
theorem dX10_stands_303 : decode cX10_stands 303 = .ok (.if_icmp .ge 24, 3) := by decide +kernel
theorem dX10_stands_306 : decode cX10_stands 306 = .ok (.aload_n 0, 1) := by decide +kernel
theorem dX10_stands_307 : decode cX10_stands 307 = .ok (.getfield 85, 3) := by decide +kernel
theorem dX10_stands_310 : decode cX10_stands 310 = .ok (.bipush 120, 2) := by decide +kernel
theorem dX10_stands_312 : decode cX10_stands 312 = .ok (.iload_n 1, 1) := by decide +kernel
theorem dX10_stands_313 : decode cX10_stands 313 = .ok (.iadd, 1) := by decide +kernel
theorem dX10_stands_314 : decode cX10_stands 314 = .ok (.aload_n 0, 1) := by decide +kernel
theorem dX10_stands_315 : decode cX10_stands 315 = .ok (.getfield 85, 3) := by decide +kernel
theorem dX10_stands_318 : decode cX10_stands 318 = .ok (.iload_n 1, 1) := by decide +kernel
theorem dX10_stands_319 : decode cX10_stands 319 = .ok (.iaload, 1) := by decide +kernel
theorem dX10_stands_320 : decode cX10_stands 320 = .ok (.iastore, 1) := by decide +kernel
theorem dX10_stands_321 : decode cX10_stands 321 = .ok (.iinc 1 1, 3) := by decide +kernel
theorem dX10_stands_324 : decode cX10_stands 324 = .ok (.goto (-24), 3) := by decide +kernel
theorem dX10_stands_327 : decode cX10_stands 327 = .ok (.aload_n 0, 1) := by decide +kernel
theorem dX10_stands_328 : decode cX10_stands 328 = .ok (.iconst 3, 1) := by decide +kernel
theorem dX10_stands_329 : decode cX10_stands 329 = .ok (.putfield 95, 3) := by decide +kernel
theorem dX10_stands_332 : decode cX10_stands 332 = .ok (.aload_n 0, 1) := by decide +kernel
theorem dX10_stands_333 : decode cX10_stands 333 = .ok (.invokevirtual 256, 3) := by decide +kernel
theorem dX10_stands_336 : decode cX10_stands 336 = .ok (.pop, 1) := by decide +kernel
theorem dX10_stands_337 : decode cX10_stands 337 = .ok (.return_, 1) := by decide +kernel
theorem dX10_fault_0 : decode cX10_fault 0 = .ok (.iload_n 1, 1) := by decide +kernel
theorem dX10_fault_1 : decode cX10_fault 1 = .ok (.ifCond .ne 10, 3) := by decide +kernel
theorem dX10_fault_4 : decode cX10_fault 4 = .ok (.aload_n 0, 1) := by decide +kernel
theorem dX10_fault_5 : decode cX10_fault 5 = .ok (.getfield 250, 3) := by decide +kernel
theorem dX10_fault_8 : decode cX10_fault 8 = .ok (.goto 16, 3) := by decide +kernel
theorem dX10_fault_11 : decode cX10_fault 11 = .ok (.iload_n 1, 1) := by decide +kernel
theorem dX10_fault_12 : decode cX10_fault 12 = .ok (.iconst 1, 1) := by decide +kernel
theorem dX10_fault_13 : decode cX10_fault 13 = .ok (.if_icmp .ne 10, 3) := by decide +kernel
theorem dX10_fault_16 : decode cX10_fault 16 = .ok (.aload_n 0, 1) := by decide +kernel
theorem dX10_fault_17 : decode cX10_fault 17 = .ok (.getfield 13, 3) := by decide +kernel
theorem dX10_fault_20 : decode cX10_fault 20 = .ok (.goto 4, 3) := by decide +kernel
theorem dX10_fault_23 : decode cX10_fault 23 = .ok (.iconst (-1), 1) := by decide +kernel
theorem dX10_fault_24 : decode cX10_fault 24 = .ok (.ireturn, 1) := by decide +kernel
theorem dX10_pictures_0 : decode cX10_pictures 0 = .ok (.aload_n 0, 1) := by decide +kernel
theorem dX10_pictures_1 : decode cX10_pictures 1 = .ok (.getfield 58, 3) := by decide +kernel
theorem dX10_pictures_4 : decode cX10_pictures 4 = .ok (.bipush 7, 2) := by decide +kernel
theorem dX10_pictures_6 : decode cX10_pictures 6 = .ok (.iaload, 1) := by decide +kernel
theorem dX10_pictures_7 : decode cX10_pictures 7 = .ok (.ireturn, 1) := by decide +kernel
theorem dX10_points_0 : decode cX10_points 0 = .ok (.aload_n 0, 1) := by decide +kernel
theorem dX10_points_1 : decode cX10_points 1 = .ok (.getfield 58, 3) := by decide +kernel
theorem dX10_points_4 : decode cX10_points 4 = .ok (.bipush 8, 2) := by decide +kernel
theorem dX10_points_6 : decode cX10_points 6 = .ok (.iaload, 1) := by decide +kernel
theorem dX10_points_7 : decode cX10_points 7 = .ok (.ireturn, 1) := by decide +kernel
theorem dX10_rows_0 : decode cX10_rows 0 = .ok (.aload_n 0, 1) := by decide +kernel
theorem dX10_rows_1 : decode cX10_rows 1 = .ok (.getfield 58, 3) := by decide +kernel
theorem dX10_rows_4 : decode cX10_rows 4 = .ok (.bipush 9, 2) := by decide +kernel
theorem dX10_rows_6 : decode cX10_rows 6 = .ok (.iaload, 1) := by decide +kernel
theorem dX10_rows_7 : decode cX10_rows 7 = .ok (.ireturn, 1) := by decide +kernel
set_option maxRecDepth 20000 in
theorem ggX10_isPicture_X10_pictures : GoodIn wsX10_isPicture wsX10_pictures := goodIn_r _ [5, 6, 10, 11, 12, 13, 14, 15, 16, 17, 18, 19, 20, 21, 22, 23, 24, 25, 26, 27, 28, 29, 30, 31, 32, 33, 34, 35, 36, 37, 38, 39, 40, 41, 42, 43, 44, 45, 46, 47, 48, 49, 50, 51, 52, 53, 54, 55, 56, 57, 58, 59, 60, 61, 62, 63, 64, 65, 66] (by decide +kernel) (by decide +kernel)
set_option maxRecDepth 20000 in
theorem gX10_isPicture_X10_pictures : GoodIn wsX10_isPicture (wsV RX10 259 RX10 yX10_pictures wsX10_pictures) := goodIn_app (goodIn_of _ (by decide +kernel)) ggX10_isPicture_X10_pictures
set_option maxRecDepth 20000 in
theorem ggX10_isPicture_X10_isIn : GoodIn wsX10_isPicture wsX10_isIn := goodIn_r _ [9] (by decide +kernel) (by decide +kernel)
set_option maxRecDepth 20000 in
theorem gX10_isPicture_X10_isIn : GoodIn wsX10_isPicture (va_wsS RX10 183 yX10_isIn wsX10_isIn) := goodIn_app (goodIn_of _ (by decide +kernel)) ggX10_isPicture_X10_isIn
