theorem dX10_differ_11 : decode cX10_differ 11 = .ok (.lconst 1, 1) := by decide +kernel
theorem dX10_differ_12 : decode cX10_differ 12 = .ok (.invokestatic 183, 3) := by decide +kernel
theorem dX10_differ_15 : decode cX10_differ 15 = .ok (.ifCond .eq 21, 3) := by decide +kernel
theorem dX10_differ_18 : decode cX10_differ 18 = .ok (.aload_n 0, 1) := by decide +kernel
theorem dX10_differ_19 : decode cX10_differ 19 = .ok (.iconst 1, 1) := by decide +kernel
theorem dX10_differ_20 : decode cX10_differ 20 = .ok (.iload_n 1, 1) := by decide +kernel
theorem dX10_differ_21 : decode cX10_differ 21 = .ok (.iload_n 2, 1) := by decide +kernel
theorem dX10_differ_22 : decode cX10_differ 22 = .ok (.invokevirtual 481, 3) := by decide +kernel
theorem dX10_differ_25 : decode cX10_differ 25 = .ok (.aload_n 0, 1) := by decide +kernel
theorem dX10_differ_26 : decode cX10_differ 26 = .ok (.iconst 2, 1) := by decide +kernel
theorem dX10_differ_27 : decode cX10_differ 27 = .ok (.iload_n 1, 1) := by decide +kernel
theorem dX10_differ_28 : decode cX10_differ 28 = .ok (.iload_n 2, 1) := by decide +kernel
theorem dX10_differ_29 : decode cX10_differ 29 = .ok (.invokevirtual 481, 3) := by decide +kernel
theorem dX10_differ_32 : decode cX10_differ 32 = .ok (.isub, 1) := by decide +kernel
theorem dX10_differ_33 : decode cX10_differ 33 = .ok (.goto 6, 3) := by decide +kernel
theorem dX10_differ_36 : decode cX10_differ 36 = .ok (.ldc_w 439, 3) := by decide +kernel
theorem dX10_differ_39 : decode cX10_differ 39 = .ok (.ireturn, 1) := by decide +kernel
theorem dX10_measures_0 : decode cX10_measures 0 = .ok (.aload_n 0, 1) := by decide +kernel
theorem dX10_measures_1 : decode cX10_measures 1 = .ok (.getfield 85, 3) := by decide +kernel
theorem dX10_measures_4 : decode cX10_measures 4 = .ok (.bipush 120, 2) := by decide +kernel
theorem dX10_measures_6 : decode cX10_measures 6 = .ok (.iconst 2, 1) := by decide +kernel
theorem dX10_measures_7 : decode cX10_measures 7 = .ok (.iload_n 1, 1) := by decide +kernel
theorem dX10_measures_8 : decode cX10_measures 8 = .ok (.imul, 1) := by decide +kernel
theorem dX10_measures_9 : decode cX10_measures 9 = .ok (.iadd, 1) := by decide +kernel
theorem dX10_measures_10 : decode cX10_measures 10 = .ok (.iload_n 2, 1) := by decide +kernel
theorem dX10_measures_11 : decode cX10_measures 11 = .ok (.iastore, 1) := by decide +kernel
theorem dX10_measures_12 : decode cX10_measures 12 = .ok (.aload_n 0, 1) := by decide +kernel
theorem dX10_measures_13 : decode cX10_measures 13 = .ok (.getfield 85, 3) := by decide +kernel
theorem dX10_measures_16 : decode cX10_measures 16 = .ok (.bipush 120, 2) := by decide +kernel
theorem dX10_measures_18 : decode cX10_measures 18 = .ok (.iconst 2, 1) := by decide +kernel
theorem dX10_measures_19 : decode cX10_measures 19 = .ok (.iload_n 1, 1) := by decide +kernel
theorem dX10_measures_20 : decode cX10_measures 20 = .ok (.imul, 1) := by decide +kernel
theorem dX10_measures_21 : decode cX10_measures 21 = .ok (.iadd, 1) := by decide +kernel
theorem dX10_measures_22 : decode cX10_measures 22 = .ok (.iconst 1, 1) := by decide +kernel
theorem dX10_measures_23 : decode cX10_measures 23 = .ok (.iadd, 1) := by decide +kernel
theorem dX10_measures_24 : decode cX10_measures 24 = .ok (.iload_n 3, 1) := by decide +kernel
theorem dX10_measures_25 : decode cX10_measures 25 = .ok (.iastore, 1) := by decide +kernel
theorem dX10_measures_26 : decode cX10_measures 26 = .ok (.return_, 1) := by decide +kernel
set_option maxRecDepth 20000 in
theorem ggX10_canMeasure_X10_isRow : GoodIn wsX10_canMeasure wsX10_isRow := goodIn_r _ [6, 7, 8, 9, 5, 10, 11, 12, 13, 14, 15, 16, 17, 18, 19, 20, 21, 22, 23, 24, 25, 26, 27, 28, 29, 30, 31, 32, 33, 34, 35, 36, 37, 38, 39, 40, 41, 42, 43, 44, 45, 46, 47, 48, 49, 50, 51, 52, 53, 54, 55, 56, 57, 58, 59, 60, 61, 62, 63, 64, 65, 66, 67, 68, 69, 70, 71] (by decide +kernel) (by decide +kernel)
set_option maxRecDepth 20000 in
theorem gX10_canMeasure_X10_isRow : GoodIn wsX10_canMeasure (wsV RX10 433 RX10 yX10_isRow wsX10_isRow) := goodIn_app (goodIn_of _ (by decide +kernel)) ggX10_canMeasure_X10_isRow
set_option maxRecDepth 20000 in
theorem ggX10_canMeasure_X10_isIn : GoodIn wsX10_canMeasure wsX10_isIn := goodIn_r _ [14] (by decide +kernel) (by decide +kernel)
set_option maxRecDepth 20000 in
theorem gX10_canMeasure_X10_isIn : GoodIn wsX10_canMeasure (va_wsS RX10 183 yX10_isIn wsX10_isIn) := goodIn_app (goodIn_of _ (by decide +kernel)) ggX10_canMeasure_X10_isIn
theorem dX10_canMeasure_0 : decode cX10_canMeasure 0 = .ok (.aload_n 0, 1) := by decide +kernel
theorem dX10_canMeasure_1 : decode cX10_canMeasure 1 = .ok (.iload_n 1, 1) := by decide +kernel
theorem dX10_canMeasure_2 : decode cX10_canMeasure 2 = .ok (.invokevirtual 433, 3) := by decide +kernel
theorem dX10_canMeasure_5 : decode cX10_canMeasure 5 = .ok (.ifCond .eq 31, 3) := by decide +kernel
theorem dX10_canMeasure_8 : decode cX10_canMeasure 8 = .ok (.iload_n 2, 1) := by decide +kernel
theorem dX10_canMeasure_9 : decode cX10_canMeasure 9 = .ok (.i2l, 1) := by decide +kernel
theorem dX10_canMeasure_10 : decode cX10_canMeasure 10 = .ok (.lconst 0, 1) := by decide +kernel
theorem dX10_canMeasure_11 : decode cX10_canMeasure 11 = .ok (.ldc2_w 484, 3) := by decide +kernel
theorem dX10_canMeasure_14 : decode cX10_canMeasure 14 = .ok (.invokestatic 183, 3) := by decide +kernel
theorem dX10_canMeasure_17 : decode cX10_canMeasure 17 = .ok (.ifCond .eq 19, 3) := by decide +kernel
theorem dX10_canMeasure_20 : decode cX10_canMeasure 20 = .ok (.iload_n 3, 1) := by decide +kernel
theorem dX10_canMeasure_21 : decode cX10_canMeasure 21 = .ok (.i2l, 1) := by decide +kernel
theorem dX10_canMeasure_22 : decode cX10_canMeasure 22 = .ok (.lconst 0, 1) := by decide +kernel
theorem dX10_canMeasure_23 : decode cX10_canMeasure 23 = .ok (.ldc2_w 484, 3) := by decide +kernel
theorem dX10_canMeasure_26 : decode cX10_canMeasure 26 = .ok (.invokestatic 183, 3) := by decide +kernel
theorem dX10_canMeasure_29 : decode cX10_canMeasure 29 = .ok (.ifCond .eq 7, 3) := by decide +kernel
theorem dX10_canMeasure_32 : decode cX10_canMeasure 32 = .ok (.iconst 1, 1) := by decide +kernel
theorem dX10_canMeasure_33 : decode cX10_canMeasure 33 = .ok (.goto 4, 3) := by decide +kernel
theorem dX10_canMeasure_36 : decode cX10_canMeasure 36 = .ok (.iconst 0, 1) := by decide +kernel
theorem dX10_canMeasure_37 : decode cX10_canMeasure 37 = .ok (.ireturn, 1) := by decide +kernel
set_option maxRecDepth 20000 in
theorem ggX10_alters_X10_canMeasure : GoodIn wsX10_alters wsX10_canMeasure := goodIn_r _ [8, 9, 10, 11, 12, 7, 13, 14, 15, 16, 17, 18, 19, 20, 21, 129, 130, 131, 132, 133, 134, 135, 136, 137, 138, 139, 140, 141, 142, 143, 144, 145, 146, 147, 148, 149, 150, 151, 152, 153, 154, 155, 156, 157, 158, 159, 160, 161, 162, 163, 164, 165, 166, 167, 168, 169, 170, 171, 172, 173, 174, 175, 176, 177, 178, 179, 180, 181, 182, 183, 184, 185] (by decide +kernel) (by decide +kernel)
set_option maxRecDepth 20000 in
theorem gX10_alters_X10_canMeasure : GoodIn wsX10_alters (wsV RX10 486 RX10 yX10_canMeasure wsX10_canMeasure) := goodIn_app (goodIn_of _ (by decide +kernel)) ggX10_alters_X10_canMeasure
set_option maxRecDepth 20000 in
theorem ggX10_alters_X10_putsAside : GoodIn wsX10_alters wsX10_putsAside := goodIn_r _ [25, 26, 3, 27, 28, 29, 30, 129, 130, 131, 132, 133, 134, 135, 136, 137, 138, 139, 140, 141, 142, 143, 144, 145, 146, 147, 148, 149, 150, 151, 152, 153, 154, 155, 156, 157, 158, 159, 160, 161, 162, 163, 164, 165, 166, 167, 168, 169, 170, 171, 172, 173, 174, 175, 176, 177, 178, 179, 180, 181, 182, 183, 184, 185] (by decide +kernel) (by decide +kernel)
set_option maxRecDepth 20000 in
theorem gX10_alters_X10_putsAside : GoodIn wsX10_alters (wsV RX10 475 RX10 yX10_putsAside wsX10_putsAside) := goodIn_app (goodIn_of _ (by decide +kernel)) ggX10_alters_X10_putsAside
set_option maxRecDepth 20000 in
theorem ggX10_alters_X10_rests : GoodIn wsX10_alters wsX10_rests := goodIn_r _ [34, 35, 36, 37, 7, 38, 18, 39, 40, 41, 42, 43, 44, 45, 46, 47, 29, 48, 49, 50, 51, 52, 53, 54, 55, 56, 57, 58, 14, 15, 16, 17, 59, 60, 61, 62, 63, 64, 65, 66, 67, 68, 69, 70, 71, 72, 3, 73, 74, 75, 76, 77, 78, 79, 80, 81, 28, 82, 83, 84, 85, 1, 86, 87, 88, 89, 90, 91, 92, 93, 94, 95, 96, 97, 98, 99, 100, 101, 102, 103, 104, 105, 106, 107, 108, 109, 110, 111, 112, 113, 114, 115, 116, 117, 129, 130, 131, 132, 133, 134, 135, 136, 137, 138, 139, 140, 141, 142, 143, 144, 145, 146, 147, 148, 149, 150, 151, 152, 153, 154, 155, 156, 157, 158, 159, 160, 161, 162, 163, 164, 165, 166, 167, 168, 169, 170, 171, 172, 173, 174, 175, 176, 177, 178, 179, 180, 181, 182, 183, 184, 185] (by decide +kernel) (by decide +kernel)
set_option maxRecDepth 20000 in
theorem gX10_alters_X10_rests : GoodIn wsX10_alters (wsV RX10 365 RX10 yX10_rests wsX10_rests) := goodIn_app (goodIn_of _ (by decide +kernel)) ggX10_alters_X10_rests
set_option maxRecDepth 20000 in
theorem ggX10_alters_X10_pictures : GoodIn wsX10_alters wsX10_pictures := goodIn_r _ [98, 18, 129, 130, 131, 132, 133, 134, 135, 136, 137, 138, 139, 140, 141, 142, 143, 144, 145, 146, 147, 148, 149, 150, 151, 152, 153, 154, 155, 156, 157, 158, 159, 160, 161, 162, 163, 164, 165, 166, 167, 168, 169, 170, 171, 172, 173, 174, 175, 176, 177, 178, 179, 180, 181, 182, 183, 184, 185] (by decide +kernel) (by decide +kernel)
set_option maxRecDepth 20000 in
theorem gX10_alters_X10_pictures : GoodIn wsX10_alters (wsV RX10 259 RX10 yX10_pictures wsX10_pictures) := goodIn_app (goodIn_of _ (by decide +kernel)) ggX10_alters_X10_pictures
set_option maxRecDepth 20000 in
theorem ggX10_alters_X10_takesBack : GoodIn wsX10_alters wsX10_takesBack := goodIn_r _ [121, 3, 26, 28, 27, 30, 29, 129, 130, 131, 132, 133, 134, 135, 136, 137, 138, 139, 140, 141, 142, 143, 144, 145, 146, 147, 148, 149, 150, 151, 152, 153, 154, 155, 156, 157, 158, 159, 160, 161, 162, 163, 164, 165, 166, 167, 168, 169, 170, 171, 172, 173, 174, 175, 176, 177, 178, 179, 180, 181, 182, 183, 184, 185] (by decide +kernel) (by decide +kernel)
set_option maxRecDepth 20000 in
theorem gX10_alters_X10_takesBack : GoodIn wsX10_alters (wsV RX10 478 RX10 yX10_takesBack wsX10_takesBack) := goodIn_app (goodIn_of _ (by decide +kernel)) ggX10_alters_X10_takesBack
set_option maxRecDepth 20000 in
theorem ggX10_alters_X10_measures : GoodIn wsX10_alters wsX10_measures := goodIn_r _ [125, 1, 129, 130, 131, 132, 133, 134, 135, 136, 137, 138, 139, 140, 141, 142, 143, 144, 145, 146, 147, 148, 149, 150, 151, 152, 153, 154, 155, 156, 157, 158, 159, 160, 161, 162, 163, 164, 165, 166, 167, 168, 169, 170, 171, 172, 173, 174, 175, 176, 177, 178, 179, 180, 181, 182, 183, 184, 185] (by decide +kernel) (by decide +kernel)
set_option maxRecDepth 20000 in
theorem gX10_alters_X10_measures : GoodIn wsX10_alters (wsV RX10 489 RX10 yX10_measures wsX10_measures) := goodIn_app (goodIn_of _ (by decide +kernel)) ggX10_alters_X10_measures
set_option maxRecDepth 20000 in
theorem ggX10_alters_X10_apart : GoodIn wsX10_alters wsX10_apart := goodIn_r _ [128] (by decide +kernel) (by decide +kernel)
set_option maxRecDepth 20000 in
theorem gX10_alters_X10_apart : GoodIn wsX10_alters (va_wsS RX10 299 yX10_apart wsX10_apart) := goodIn_app (goodIn_of _ (by decide +kernel)) ggX10_alters_X10_apart
theorem dX10_alters_0 : decode cX10_alters 0 = .ok (.aload_n 0, 1) := by decide +kernel
theorem dX10_alters_1 : decode cX10_alters 1 = .ok (.iload_n 1, 1) := by decide +kernel
theorem dX10_alters_2 : decode cX10_alters 2 = .ok (.iload_n 2, 1) := by decide +kernel
theorem dX10_alters_3 : decode cX10_alters 3 = .ok (.iload_n 3, 1) := by decide +kernel
theorem dX10_alters_4 : decode cX10_alters 4 = .ok (.invokevirtual 486, 3) := by decide +kernel
theorem dX10_alters_7 : decode cX10_alters 7 = .ok (.ifCond .eq 8, 3) := by decide +kernel
theorem dX10_alters_10 : decode cX10_alters 10 = .ok (.iload 4, 2) := by decide +kernel
theorem dX10_alters_12 : decode cX10_alters 12 = .ok (.ifCond .ge 5, 3) := by decide +kernel
theorem dX10_alters_15 : decode cX10_alters 15 = .ok (.iconst (-1), 1) := by decide +kernel
theorem dX10_alters_16 : decode cX10_alters 16 = .ok (.ireturn, 1) := by decide +kernel
theorem dX10_alters_17 : decode cX10_alters 17 = .ok (.aload_n 0, 1) := by decide +kernel
theorem dX10_alters_18 : decode cX10_alters 18 = .ok (.getfield 85, 3) := by decide +kernel
theorem dX10_alters_21 : decode cX10_alters 21 = .ok (.bipush 120, 2) := by decide +kernel
theorem dX10_alters_23 : decode cX10_alters 23 = .ok (.iconst 2, 1) := by decide +kernel
theorem dX10_alters_24 : decode cX10_alters 24 = .ok (.iload_n 1, 1) := by decide +kernel
theorem dX10_alters_25 : decode cX10_alters 25 = .ok (.imul, 1) := by decide +kernel
theorem dX10_alters_26 : decode cX10_alters 26 = .ok (.iadd, 1) := by decide +kernel
theorem dX10_alters_27 : decode cX10_alters 27 = .ok (.iaload, 1) := by decide +kernel
theorem dX10_alters_28 : decode cX10_alters 28 = .ok (.istore 5, 2) := by decide +kernel
theorem dX10_alters_30 : decode cX10_alters 30 = .ok (.aload_n 0, 1) := by decide +kernel
theorem dX10_alters_31 : decode cX10_alters 31 = .ok (.getfield 85, 3) := by decide +kernel
theorem dX10_alters_34 : decode cX10_alters 34 = .ok (.bipush 120, 2) := by decide +kernel
theorem dX10_alters_36 : decode cX10_alters 36 = .ok (.iconst 2, 1) := by decide +kernel
theorem dX10_alters_37 : decode cX10_alters 37 = .ok (.iload_n 1, 1) := by decide +kernel
theorem dX10_alters_38 : decode cX10_alters 38 = .ok (.imul, 1) := by decide +kernel
theorem dX10_alters_39 : decode cX10_alters 39 = .ok (.iadd, 1) := by decide +kernel
theorem dX10_alters_40 : decode cX10_alters 40 = .ok (.iconst 1, 1) := by decide +kernel
theorem dX10_alters_41 : decode cX10_alters 41 = .ok (.iadd, 1) := by decide +kernel
theorem dX10_alters_42 : decode cX10_alters 42 = .ok (.iaload, 1) := by decide +kernel
theorem dX10_alters_43 : decode cX10_alters 43 = .ok (.istore 6, 2) := by decide +kernel
theorem dX10_alters_45 : decode cX10_alters 45 = .ok (.aload_n 0, 1) := by decide +kernel
theorem dX10_alters_46 : decode cX10_alters 46 = .ok (.invokevirtual 475, 3) := by decide +kernel
theorem dX10_alters_49 : decode cX10_alters 49 = .ok (.aload_n 0, 1) := by decide +kernel
theorem dX10_alters_50 : decode cX10_alters 50 = .ok (.sipush 200, 3) := by decide +kernel
theorem dX10_alters_53 : decode cX10_alters 53 = .ok (.invokevirtual 365, 3) := by decide +kernel
theorem dX10_alters_56 : decode cX10_alters 56 = .ok (.istore 7, 2) := by decide +kernel
theorem dX10_alters_58 : decode cX10_alters 58 = .ok (.iconst 0, 1) := by decide +kernel
theorem dX10_alters_59 : decode cX10_alters 59 = .ok (.istore 8, 2) := by decide +kernel
theorem dX10_alters_61 : decode cX10_alters 61 = .ok (.iload 8, 2) := by decide +kernel
theorem dX10_alters_63 : decode cX10_alters 63 = .ok (.aload_n 0, 1) := by decide +kernel
theorem dX10_alters_64 : decode cX10_alters 64 = .ok (.invokevirtual 259, 3) := by decide +kernel
theorem dX10_alters_67 : decode cX10_alters 67 = .ok (.if_icmp .ge 50, 3) := by decide +kernel
theorem dX10_alters_70 : decode cX10_alters 70 = .ok (.iconst 0, 1) := by decide +kernel
theorem dX10_alters_71 : decode cX10_alters 71 = .ok (.istore 9, 2) := by decide +kernel
theorem dX10_alters_73 : decode cX10_alters 73 = .ok (.iload 9, 2) := by decide +kernel
theorem dX10_alters_75 : decode cX10_alters 75 = .ok (.iconst 2, 1) := by decide +kernel
theorem dX10_alters_76 : decode cX10_alters 76 = .ok (.if_icmp .ge 35, 3) := by decide +kernel
theorem dX10_alters_79 : decode cX10_alters 79 = .ok (.aload_n 0, 1) := by decide +kernel
theorem dX10_alters_80 : decode cX10_alters 80 = .ok (.getfield 134, 3) := by decide +kernel
theorem dX10_alters_83 : decode cX10_alters 83 = .ok (.bipush 12, 2) := by decide +kernel
theorem dX10_alters_85 : decode cX10_alters 85 = .ok (.iload 9, 2) := by decide +kernel
theorem dX10_alters_87 : decode cX10_alters 87 = .ok (.imul, 1) := by decide +kernel
theorem dX10_alters_88 : decode cX10_alters 88 = .ok (.iload 8, 2) := by decide +kernel
theorem dX10_alters_90 : decode cX10_alters 90 = .ok (.iadd, 1) := by decide +kernel
theorem dX10_alters_91 : decode cX10_alters 91 = .ok (.aload_n 0, 1) := by decide +kernel
theorem dX10_alters_92 : decode cX10_alters 92 = .ok (.getfield 101, 3) := by decide +kernel
theorem dX10_alters_95 : decode cX10_alters 95 = .ok (.bipush 38, 2) := by decide +kernel
theorem dX10_alters_97 : decode cX10_alters 97 = .ok (.iload 9, 2) := by decide +kernel
theorem dX10_alters_99 : decode cX10_alters 99 = .ok (.imul, 1) := by decide +kernel
theorem dX10_alters_100 : decode cX10_alters 100 = .ok (.iload 8, 2) := by decide +kernel
theorem dX10_alters_102 : decode cX10_alters 102 = .ok (.iadd, 1) := by decide +kernel
theorem dX10_alters_103 : decode cX10_alters 103 = .ok (.iaload, 1) := by decide +kernel
theorem dX10_alters_104 : decode cX10_alters 104 = .ok (.iastore, 1) := by decide +kernel
theorem dX10_alters_105 : decode cX10_alters 105 = .ok (.iinc 9 1, 3) := by decide +kernel
theorem dX10_alters_108 : decode cX10_alters 108 = .ok (.goto (-35), 3) := by decide +kernel
theorem dX10_alters_111 : decode cX10_alters 111 = .ok (.iinc 8 1, 3) := by decide +kernel
theorem dX10_alters_114 : decode cX10_alters 114 = .ok (.goto (-53), 3) := by decide +kernel
theorem dX10_alters_117 : decode cX10_alters 117 = .ok (.aload_n 0, 1) := by decide +kernel
theorem dX10_alters_118 : decode cX10_alters 118 = .ok (.invokevirtual 478, 3) := by decide +kernel
theorem dX10_alters_121 : decode cX10_alters 121 = .ok (.aload_n 0, 1) := by decide +kernel
theorem dX10_alters_122 : decode cX10_alters 122 = .ok (.iload_n 1, 1) := by decide +kernel
theorem dX10_alters_123 : decode cX10_alters 123 = .ok (.iload_n 2, 1) := by decide +kernel
theorem dX10_alters_124 : decode cX10_alters 124 = .ok (.iload_n 3, 1) := by decide +kernel
theorem dX10_alters_125 : decode cX10_alters 125 = .ok (.invokevirtual 489, 3) := by decide +kernel
theorem dX10_alters_128 : decode cX10_alters 128 = .ok (.aload_n 0, 1) := by decide +kernel
theorem dX10_alters_129 : decode cX10_alters 129 = .ok (.sipush 200, 3) := by decide +kernel
theorem dX10_alters_132 : decode cX10_alters 132 = .ok (.invokevirtual 365, 3) := by decide +kernel
theorem dX10_alters_135 : decode cX10_alters 135 = .ok (.istore 7, 2) := by decide +kernel
theorem dX10_alters_137 : decode cX10_alters 137 = .ok (.iconst 0, 1) := by decide +kernel
theorem dX10_alters_138 : decode cX10_alters 138 = .ok (.istore 8, 2) := by decide +kernel
theorem dX10_alters_140 : decode cX10_alters 140 = .ok (.iconst 0, 1) := by decide +kernel
theorem dX10_alters_141 : decode cX10_alters 141 = .ok (.istore 9, 2) := by decide +kernel
theorem dX10_alters_143 : decode cX10_alters 143 = .ok (.iload 9, 2) := by decide +kernel
theorem dX10_alters_145 : decode cX10_alters 145 = .ok (.aload_n 0, 1) := by decide +kernel
theorem dX10_alters_146 : decode cX10_alters 146 = .ok (.invokevirtual 259, 3) := by decide +kernel
theorem dX10_alters_149 : decode cX10_alters 149 = .ok (.if_icmp .ge 70, 3) := by decide +kernel
theorem dX10_alters_152 : decode cX10_alters 152 = .ok (.aload_n 0, 1) := by decide +kernel
theorem dX10_alters_153 : decode cX10_alters 153 = .ok (.getfield 101, 3) := by decide +kernel
theorem dX10_alters_156 : decode cX10_alters 156 = .ok (.iload 9, 2) := by decide +kernel
theorem dX10_alters_158 : decode cX10_alters 158 = .ok (.iaload, 1) := by decide +kernel
theorem dX10_alters_159 : decode cX10_alters 159 = .ok (.i2l, 1) := by decide +kernel
theorem dX10_alters_160 : decode cX10_alters 160 = .ok (.aload_n 0, 1) := by decide +kernel
theorem dX10_alters_161 : decode cX10_alters 161 = .ok (.getfield 134, 3) := by decide +kernel
theorem dX10_alters_164 : decode cX10_alters 164 = .ok (.iload 9, 2) := by decide +kernel
theorem dX10_alters_166 : decode cX10_alters 166 = .ok (.iaload, 1) := by decide +kernel
theorem dX10_alters_167 : decode cX10_alters 167 = .ok (.i2l, 1) := by decide +kernel
theorem dX10_alters_168 : decode cX10_alters 168 = .ok (.invokestatic 299, 3) := by decide +kernel
theorem dX10_alters_171 : decode cX10_alters 171 = .ok (.iload 4, 2) := by decide +kernel
theorem dX10_alters_173 : decode cX10_alters 173 = .ok (.i2l, 1) := by decide +kernel
theorem dX10_alters_174 : decode cX10_alters 174 = .ok (.lcmp, 1) := by decide +kernel
theorem dX10_alters_175 : decode cX10_alters 175 = .ok (.ifCond .gt 35, 3) := by decide +kernel
theorem dX10_alters_178 : decode cX10_alters 178 = .ok (.aload_n 0, 1) := by decide +kernel
theorem dX10_alters_179 : decode cX10_alters 179 = .ok (.getfield 101, 3) := by decide +kernel
theorem dX10_alters_182 : decode cX10_alters 182 = .ok (.bipush 38, 2) := by decide +kernel
theorem dX10_alters_184 : decode cX10_alters 184 = .ok (.iload 9, 2) := by decide +kernel
theorem dX10_alters_186 : decode cX10_alters 186 = .ok (.iadd, 1) := by decide +kernel
theorem dX10_alters_187 : decode cX10_alters 187 = .ok (.iaload, 1) := by decide +kernel
theorem dX10_alters_188 : decode cX10_alters 188 = .ok (.i2l, 1) := by decide +kernel
theorem dX10_alters_189 : decode cX10_alters 189 = .ok (.aload_n 0, 1) := by decide +kernel
theorem dX10_alters_190 : decode cX10_alters 190 = .ok (.getfield 134, 3) := by decide +kernel
theorem dX10_alters_193 : decode cX10_alters 193 = .ok (.bipush 12, 2) := by decide +kernel
theorem dX10_alters_195 : decode cX10_alters 195 = .ok (.iload 9, 2) := by decide +kernel
theorem dX10_alters_197 : decode cX10_alters 197 = .ok (.iadd, 1) := by decide +kernel
theorem dX10_alters_198 : decode cX10_alters 198 = .ok (.iaload, 1) := by decide +kernel
theorem dX10_alters_199 : decode cX10_alters 199 = .ok (.i2l, 1) := by decide +kernel
theorem dX10_alters_200 : decode cX10_alters 200 = .ok (.invokestatic 299, 3) := by decide +kernel
theorem dX10_alters_203 : decode cX10_alters 203 = .ok (.iload 4, 2) := by decide +kernel
theorem dX10_alters_205 : decode cX10_alters 205 = .ok (.i2l, 1) := by decide +kernel
theorem dX10_alters_206 : decode cX10_alters 206 = .ok (.lcmp, 1) := by decide +kernel
theorem dX10_alters_207 : decode cX10_alters 207 = .ok (.ifCond .le 6, 3) := by decide +kernel
theorem dX10_alters_210 : decode cX10_alters 210 = .ok (.iinc 8 1, 3) := by decide +kernel
theorem dX10_alters_213 : decode cX10_alters 213 = .ok (.iinc 9 1, 3) := by decide +kernel
theorem dX10_alters_216 : decode cX10_alters 216 = .ok (.goto (-73), 3) := by decide +kernel
theorem dX10_alters_219 : decode cX10_alters 219 = .ok (.aload_n 0, 1) := by decide +kernel
theorem dX10_alters_220 : decode cX10_alters 220 = .ok (.iload_n 1, 1) := by decide +kernel
theorem dX10_alters_221 : decode cX10_alters 221 = .ok (.iload 5, 2) := by decide +kernel
theorem dX10_alters_223 : decode cX10_alters 223 = .ok (.iload 6, 2) := by decide +kernel
theorem dX10_alters_225 : decode cX10_alters 225 = .ok (.invokevirtual 489, 3) := by decide +kernel
theorem dX10_alters_228 : decode cX10_alters 228 = .ok (.aload_n 0, 1) := by decide +kernel
theorem dX10_alters_229 : decode cX10_alters 229 = .ok (.invokevirtual 478, 3) := by decide +kernel
theorem dX10_alters_232 : decode cX10_alters 232 = .ok (.iload 8, 2) := by decide +kernel
theorem dX10_alters_234 : decode cX10_alters 234 = .ok (.ireturn, 1) := by decide +kernel
set_option maxRecDepth 20000 in
theorem ggX10_measure_X10_canMeasure : GoodIn wsX10_measure wsX10_canMeasure := goodIn_r _ [5, 6, 7, 8, 9, 4, 10, 11, 12, 13, 14, 15, 16, 17, 18, 24, 25, 26, 27, 28, 29, 30, 31, 32, 33, 34, 35, 36, 37, 38, 39, 40, 41, 42, 43, 44, 45, 46, 47, 48, 49, 50, 51, 52, 53, 54, 55, 56, 57, 58, 59, 60, 61, 62, 63, 64, 65, 66, 67, 68, 69, 70, 71, 72, 73, 74, 75, 76, 77, 78, 79, 80] (by decide +kernel) (by decide +kernel)
set_option maxRecDepth 20000 in
theorem gX10_measure_X10_canMeasure : GoodIn wsX10_measure (wsV RX10 486 RX10 yX10_canMeasure wsX10_canMeasure) := goodIn_app (goodIn_of _ (by decide +kernel)) ggX10_measure_X10_canMeasure
set_option maxRecDepth 20000 in
theorem ggX10_measure_X10_measures : GoodIn wsX10_measure wsX10_measures := goodIn_r _ [22, 23, 24, 25, 26, 27, 28, 29, 30, 31, 32, 33, 34, 35, 36, 37, 38, 39, 40, 41, 42, 43, 44, 45, 46, 47, 48, 49, 50, 51, 52, 53, 54, 55, 56, 57, 58, 59, 60, 61, 62, 63, 64, 65, 66, 67, 68, 69, 70, 71, 72, 73, 74, 75, 76, 77, 78, 79, 80] (by decide +kernel) (by decide +kernel)
set_option maxRecDepth 20000 in
theorem gX10_measure_X10_measures : GoodIn wsX10_measure (wsV RX10 489 RX10 yX10_measures wsX10_measures) := goodIn_app (goodIn_of _ (by decide +kernel)) ggX10_measure_X10_measures
theorem dX10_measure_0 : decode cX10_measure 0 = .ok (.aload_n 0, 1) := by decide +kernel
theorem dX10_measure_1 : decode cX10_measure 1 = .ok (.iload_n 1, 1) := by decide +kernel
theorem dX10_measure_2 : decode cX10_measure 2 = .ok (.iload_n 2, 1) := by decide +kernel
theorem dX10_measure_3 : decode cX10_measure 3 = .ok (.iload_n 3, 1) := by decide +kernel
theorem dX10_measure_4 : decode cX10_measure 4 = .ok (.invokevirtual 486, 3) := by decide +kernel
theorem dX10_measure_7 : decode cX10_measure 7 = .ok (.ifCond .ne 5, 3) := by decide +kernel
theorem dX10_measure_10 : decode cX10_measure 10 = .ok (.iconst 0, 1) := by decide +kernel
theorem dX10_measure_11 : decode cX10_measure 11 = .ok (.ireturn, 1) := by decide +kernel
theorem dX10_measure_12 : decode cX10_measure 12 = .ok (.aload_n 0, 1) := by decide +kernel
theorem dX10_measure_13 : decode cX10_measure 13 = .ok (.iload_n 1, 1) := by decide +kernel
theorem dX10_measure_14 : decode cX10_measure 14 = .ok (.iload_n 2, 1) := by decide +kernel
theorem dX10_measure_15 : decode cX10_measure 15 = .ok (.iload_n 3, 1) := by decide +kernel
theorem dX10_measure_16 : decode cX10_measure 16 = .ok (.invokevirtual 489, 3) := by decide +kernel
theorem dX10_measure_19 : decode cX10_measure 19 = .ok (.iconst 1, 1) := by decide +kernel
theorem dX10_measure_20 : decode cX10_measure 20 = .ok (.ireturn, 1) := by decide +kernel
theorem dX10_drawOf_0 : decode cX10_drawOf 0 = .ok (.aload_n 0, 1) := by decide +kernel
theorem dX10_drawOf_1 : decode cX10_drawOf 1 = .ok (.ldc2_w 493, 3) := by decide +kernel
theorem dX10_drawOf_4 : decode cX10_drawOf 4 = .ok (.aload_n 0, 1) := by decide +kernel
theorem dX10_drawOf_5 : decode cX10_drawOf 5 = .ok (.getfield 495, 3) := by decide +kernel
theorem dX10_drawOf_8 : decode cX10_drawOf 8 = .ok (.lmul, 1) := by decide +kernel
theorem dX10_drawOf_9 : decode cX10_drawOf 9 = .ok (.ldc2_w 498, 3) := by decide +kernel
theorem dX10_drawOf_12 : decode cX10_drawOf 12 = .ok (.ladd, 1) := by decide +kernel
theorem dX10_drawOf_13 : decode cX10_drawOf 13 = .ok (.ldc2_w 500, 3) := by decide +kernel
theorem dX10_drawOf_16 : decode cX10_drawOf 16 = .ok (.lrem, 1) := by decide +kernel
theorem dX10_drawOf_17 : decode cX10_drawOf 17 = .ok (.putfield 495, 3) := by decide +kernel
theorem dX10_drawOf_20 : decode cX10_drawOf 20 = .ok (.aload_n 0, 1) := by decide +kernel
theorem dX10_drawOf_21 : decode cX10_drawOf 21 = .ok (.getfield 495, 3) := by decide +kernel
theorem dX10_drawOf_24 : decode cX10_drawOf 24 = .ok (.ldc2_w 502, 3) := by decide +kernel
theorem dX10_drawOf_27 : decode cX10_drawOf 27 = .ok (.ldiv, 1) := by decide +kernel
theorem dX10_drawOf_28 : decode cX10_drawOf 28 = .ok (.iload_n 1, 1) := by decide +kernel
theorem dX10_drawOf_29 : decode cX10_drawOf 29 = .ok (.i2l, 1) := by decide +kernel
theorem dX10_drawOf_30 : decode cX10_drawOf 30 = .ok (.lrem, 1) := by decide +kernel
theorem dX10_drawOf_31 : decode cX10_drawOf 31 = .ok (.l2i, 1) := by decide +kernel
theorem dX10_drawOf_32 : decode cX10_drawOf 32 = .ok (.ireturn, 1) := by decide +kernel
theorem dX10_within_0 : decode cX10_within 0 = .ok (.iload_n 0, 1) := by decide +kernel
theorem dX10_within_1 : decode cX10_within 1 = .ok (.ifCond .ge 7, 3) := by decide +kernel
theorem dX10_within_4 : decode cX10_within 4 = .ok (.iconst 0, 1) := by decide +kernel
theorem dX10_within_5 : decode cX10_within 5 = .ok (.goto 17, 3) := by decide +kernel
theorem dX10_within_8 : decode cX10_within 8 = .ok (.iload_n 0, 1) := by decide +kernel
theorem dX10_within_9 : decode cX10_within 9 = .ok (.sipush 9999, 3) := by decide +kernel
theorem dX10_within_12 : decode cX10_within 12 = .ok (.if_icmp .le 9, 3) := by decide +kernel
theorem dX10_within_15 : decode cX10_within 15 = .ok (.sipush 9999, 3) := by decide +kernel
theorem dX10_within_18 : decode cX10_within 18 = .ok (.goto 4, 3) := by decide +kernel
theorem dX10_within_21 : decode cX10_within 21 = .ok (.iload_n 0, 1) := by decide +kernel
theorem dX10_within_22 : decode cX10_within 22 = .ok (.ireturn, 1) := by decide +kernel
set_option maxRecDepth 20000 in
theorem ggX10_slips_X10_isIn : GoodIn wsX10_slips wsX10_isIn := goodIn_r _ [8] (by decide +kernel) (by decide +kernel)
set_option maxRecDepth 20000 in
theorem gX10_slips_X10_isIn : GoodIn wsX10_slips (va_wsS RX10 183 yX10_isIn wsX10_isIn) := goodIn_app (goodIn_of _ (by decide +kernel)) ggX10_slips_X10_isIn
set_option maxRecDepth 20000 in
theorem ggX10_slips_X10_rows : GoodIn wsX10_slips wsX10_rows := goodIn_r _ [12, 13, 29, 30, 31, 32, 33, 34, 35, 36, 37, 38, 39, 40, 41, 42, 43, 44, 45, 46, 47, 48, 49, 50, 51, 52, 53, 54, 55, 56, 57, 58, 59, 60, 61, 62, 63, 64, 65, 66, 67, 68, 69, 70, 71, 72, 73, 74, 75, 76, 77, 78, 79, 80, 81, 82, 83, 84, 85] (by decide +kernel) (by decide +kernel)
set_option maxRecDepth 20000 in
theorem gX10_slips_X10_rows : GoodIn wsX10_slips (wsV RX10 265 RX10 yX10_rows wsX10_rows) := goodIn_app (goodIn_of _ (by decide +kernel)) ggX10_slips_X10_rows
set_option maxRecDepth 20000 in
theorem ggX10_slips_X10_drawOf : GoodIn wsX10_slips wsX10_drawOf := goodIn_r _ [17, 18, 3, 19, 20, 21, 29, 30, 31, 32, 33, 34, 35, 36, 37, 38, 39, 40, 41, 42, 43, 44, 45, 46, 47, 48, 49, 50, 51, 52, 53, 54, 55, 56, 57, 58, 59, 60, 61, 62, 63, 64, 65, 66, 67, 68, 69, 70, 71, 72, 73, 74, 75, 76, 77, 78, 79, 80, 81, 82, 83, 84, 85] (by decide +kernel) (by decide +kernel)
set_option maxRecDepth 20000 in
theorem gX10_slips_X10_drawOf : GoodIn wsX10_slips (wsV RX10 508 RX10 yX10_drawOf wsX10_drawOf) := goodIn_app (goodIn_of _ (by decide +kernel)) ggX10_slips_X10_drawOf
set_option maxRecDepth 20000 in
theorem ggX10_slips_X10_within : GoodIn wsX10_slips wsX10_within := goodIn_r _ [24] (by decide +kernel) (by decide +kernel)
set_option maxRecDepth 20000 in
theorem gX10_slips_X10_within : GoodIn wsX10_slips (va_wsS RX10 511 yX10_within wsX10_within) := goodIn_app (goodIn_of _ (by decide +kernel)) ggX10_slips_X10_within
set_option maxRecDepth 20000 in
theorem ggX10_slips_X10_measures : GoodIn wsX10_slips wsX10_measures := goodIn_r _ [28, 4, 29, 30, 31, 32, 33, 34, 35, 36, 37, 38, 39, 40, 41, 42, 43, 44, 45, 46, 47, 48, 49, 50, 51, 52, 53, 54, 55, 56, 57, 58, 59, 60, 61, 62, 63, 64, 65, 66, 67, 68, 69, 70, 71, 72, 73, 74, 75, 76, 77, 78, 79, 80, 81, 82, 83, 84, 85] (by decide +kernel) (by decide +kernel)
set_option maxRecDepth 20000 in
theorem gX10_slips_X10_measures : GoodIn wsX10_slips (wsV RX10 489 RX10 yX10_measures wsX10_measures) := goodIn_app (goodIn_of _ (by decide +kernel)) ggX10_slips_X10_measures
theorem dX10_slips_0 : decode cX10_slips 0 = .ok (.iload_n 1, 1) := by decide +kernel
theorem dX10_slips_1 : decode cX10_slips 1 = .ok (.i2l, 1) := by decide +kernel
theorem dX10_slips_2 : decode cX10_slips 2 = .ok (.lconst 1, 1) := by decide +kernel
theorem dX10_slips_3 : decode cX10_slips 3 = .ok (.ldc2_w 504, 3) := by decide +kernel
theorem dX10_slips_6 : decode cX10_slips 6 = .ok (.invokestatic 183, 3) := by decide +kernel
theorem dX10_slips_9 : decode cX10_slips 9 = .ok (.ifCond .eq 26, 3) := by decide +kernel
theorem dX10_slips_12 : decode cX10_slips 12 = .ok (.iload_n 2, 1) := by decide +kernel
theorem dX10_slips_13 : decode cX10_slips 13 = .ok (.i2l, 1) := by decide +kernel
theorem dX10_slips_14 : decode cX10_slips 14 = .ok (.lconst 0, 1) := by decide +kernel
theorem dX10_slips_15 : decode cX10_slips 15 = .ok (.ldc2_w 506, 3) := by decide +kernel
theorem dX10_slips_18 : decode cX10_slips 18 = .ok (.invokestatic 183, 3) := by decide +kernel
theorem dX10_slips_21 : decode cX10_slips 21 = .ok (.ifCond .eq 14, 3) := by decide +kernel
theorem dX10_slips_24 : decode cX10_slips 24 = .ok (.iload_n 3, 1) := by decide +kernel
theorem dX10_slips_25 : decode cX10_slips 25 = .ok (.ifCond .lt 10, 3) := by decide +kernel
theorem dX10_slips_28 : decode cX10_slips 28 = .ok (.aload_n 0, 1) := by decide +kernel
theorem dX10_slips_29 : decode cX10_slips 29 = .ok (.invokevirtual 265, 3) := by decide +kernel
theorem dX10_slips_32 : decode cX10_slips 32 = .ok (.ifCond .ne 5, 3) := by decide +kernel
theorem dX10_slips_35 : decode cX10_slips 35 = .ok (.iconst (-1), 1) := by decide +kernel
theorem dX10_slips_36 : decode cX10_slips 36 = .ok (.ireturn, 1) := by decide +kernel
theorem dX10_slips_37 : decode cX10_slips 37 = .ok (.aload_n 0, 1) := by decide +kernel
theorem dX10_slips_38 : decode cX10_slips 38 = .ok (.iload_n 3, 1) := by decide +kernel
theorem dX10_slips_39 : decode cX10_slips 39 = .ok (.i2l, 1) := by decide +kernel
theorem dX10_slips_40 : decode cX10_slips 40 = .ok (.putfield 495, 3) := by decide +kernel
theorem dX10_slips_43 : decode cX10_slips 43 = .ok (.iconst 0, 1) := by decide +kernel
theorem dX10_slips_44 : decode cX10_slips 44 = .ok (.istore 4, 2) := by decide +kernel
theorem dX10_slips_46 : decode cX10_slips 46 = .ok (.iload 4, 2) := by decide +kernel
theorem dX10_slips_48 : decode cX10_slips 48 = .ok (.iload_n 1, 1) := by decide +kernel
theorem dX10_slips_49 : decode cX10_slips 49 = .ok (.if_icmp .ge 89, 3) := by decide +kernel
theorem dX10_slips_52 : decode cX10_slips 52 = .ok (.aload_n 0, 1) := by decide +kernel
theorem dX10_slips_53 : decode cX10_slips 53 = .ok (.aload_n 0, 1) := by decide +kernel
theorem dX10_slips_54 : decode cX10_slips 54 = .ok (.invokevirtual 265, 3) := by decide +kernel
theorem dX10_slips_57 : decode cX10_slips 57 = .ok (.invokevirtual 508, 3) := by decide +kernel
theorem dX10_slips_60 : decode cX10_slips 60 = .ok (.istore 5, 2) := by decide +kernel
theorem dX10_slips_62 : decode cX10_slips 62 = .ok (.aload_n 0, 1) := by decide +kernel
theorem dX10_slips_63 : decode cX10_slips 63 = .ok (.getfield 85, 3) := by decide +kernel
theorem dX10_slips_66 : decode cX10_slips 66 = .ok (.bipush 120, 2) := by decide +kernel
theorem dX10_slips_68 : decode cX10_slips 68 = .ok (.iconst 2, 1) := by decide +kernel
theorem dX10_slips_69 : decode cX10_slips 69 = .ok (.iload 5, 2) := by decide +kernel
theorem dX10_slips_71 : decode cX10_slips 71 = .ok (.imul, 1) := by decide +kernel
theorem dX10_slips_72 : decode cX10_slips 72 = .ok (.iadd, 1) := by decide +kernel
theorem dX10_slips_73 : decode cX10_slips 73 = .ok (.iaload, 1) := by decide +kernel
theorem dX10_slips_74 : decode cX10_slips 74 = .ok (.aload_n 0, 1) := by decide +kernel
theorem dX10_slips_75 : decode cX10_slips 75 = .ok (.iconst 2, 1) := by decide +kernel
theorem dX10_slips_76 : decode cX10_slips 76 = .ok (.iload_n 2, 1) := by decide +kernel
theorem dX10_slips_77 : decode cX10_slips 77 = .ok (.imul, 1) := by decide +kernel
theorem dX10_slips_78 : decode cX10_slips 78 = .ok (.iconst 1, 1) := by decide +kernel
theorem dX10_slips_79 : decode cX10_slips 79 = .ok (.iadd, 1) := by decide +kernel
theorem dX10_slips_80 : decode cX10_slips 80 = .ok (.invokevirtual 508, 3) := by decide +kernel
theorem dX10_slips_83 : decode cX10_slips 83 = .ok (.iadd, 1) := by decide +kernel
theorem dX10_slips_84 : decode cX10_slips 84 = .ok (.iload_n 2, 1) := by decide +kernel
theorem dX10_slips_85 : decode cX10_slips 85 = .ok (.isub, 1) := by decide +kernel
theorem dX10_slips_86 : decode cX10_slips 86 = .ok (.istore 6, 2) := by decide +kernel
theorem dX10_slips_88 : decode cX10_slips 88 = .ok (.aload_n 0, 1) := by decide +kernel
theorem dX10_slips_89 : decode cX10_slips 89 = .ok (.getfield 85, 3) := by decide +kernel
theorem dX10_slips_92 : decode cX10_slips 92 = .ok (.bipush 120, 2) := by decide +kernel
theorem dX10_slips_94 : decode cX10_slips 94 = .ok (.iconst 2, 1) := by decide +kernel
theorem dX10_slips_95 : decode cX10_slips 95 = .ok (.iload 5, 2) := by decide +kernel
theorem dX10_slips_97 : decode cX10_slips 97 = .ok (.imul, 1) := by decide +kernel
theorem dX10_slips_98 : decode cX10_slips 98 = .ok (.iadd, 1) := by decide +kernel
theorem dX10_slips_99 : decode cX10_slips 99 = .ok (.iconst 1, 1) := by decide +kernel
theorem dX10_slips_100 : decode cX10_slips 100 = .ok (.iadd, 1) := by decide +kernel
theorem dX10_slips_101 : decode cX10_slips 101 = .ok (.iaload, 1) := by decide +kernel
theorem dX10_slips_102 : decode cX10_slips 102 = .ok (.aload_n 0, 1) := by decide +kernel
theorem dX10_slips_103 : decode cX10_slips 103 = .ok (.iconst 2, 1) := by decide +kernel
theorem dX10_slips_104 : decode cX10_slips 104 = .ok (.iload_n 2, 1) := by decide +kernel
theorem dX10_slips_105 : decode cX10_slips 105 = .ok (.imul, 1) := by decide +kernel
theorem dX10_slips_106 : decode cX10_slips 106 = .ok (.iconst 1, 1) := by decide +kernel
theorem dX10_slips_107 : decode cX10_slips 107 = .ok (.iadd, 1) := by decide +kernel
theorem dX10_slips_108 : decode cX10_slips 108 = .ok (.invokevirtual 508, 3) := by decide +kernel
theorem dX10_slips_111 : decode cX10_slips 111 = .ok (.iadd, 1) := by decide +kernel
theorem dX10_slips_112 : decode cX10_slips 112 = .ok (.iload_n 2, 1) := by decide +kernel
theorem dX10_slips_113 : decode cX10_slips 113 = .ok (.isub, 1) := by decide +kernel
theorem dX10_slips_114 : decode cX10_slips 114 = .ok (.istore 7, 2) := by decide +kernel
theorem dX10_slips_116 : decode cX10_slips 116 = .ok (.aload_n 0, 1) := by decide +kernel
theorem dX10_slips_117 : decode cX10_slips 117 = .ok (.iload 5, 2) := by decide +kernel
theorem dX10_slips_119 : decode cX10_slips 119 = .ok (.iload 6, 2) := by decide +kernel
theorem dX10_slips_121 : decode cX10_slips 121 = .ok (.invokestatic 511, 3) := by decide +kernel
theorem dX10_slips_124 : decode cX10_slips 124 = .ok (.iload 7, 2) := by decide +kernel
theorem dX10_slips_126 : decode cX10_slips 126 = .ok (.invokestatic 511, 3) := by decide +kernel
theorem dX10_slips_129 : decode cX10_slips 129 = .ok (.invokevirtual 489, 3) := by decide +kernel
theorem dX10_slips_132 : decode cX10_slips 132 = .ok (.iinc 4 1, 3) := by decide +kernel
theorem dX10_slips_135 : decode cX10_slips 135 = .ok (.goto (-89), 3) := by decide +kernel
theorem dX10_slips_138 : decode cX10_slips 138 = .ok (.iconst 3, 1) := by decide +kernel
theorem dX10_slips_139 : decode cX10_slips 139 = .ok (.iload_n 1, 1) := by decide +kernel
theorem dX10_slips_140 : decode cX10_slips 140 = .ok (.imul, 1) := by decide +kernel
theorem dX10_slips_141 : decode cX10_slips 141 = .ok (.ireturn, 1) := by decide +kernel
theorem dX10_writes_0 : decode cX10_writes 0 = .ok (.aload_n 0, 1) := by decide +kernel
theorem dX10_writes_1 : decode cX10_writes 1 = .ok (.getfield 137, 3) := by decide +kernel
theorem dX10_writes_4 : decode cX10_writes 4 = .ok (.aload_n 0, 1) := by decide +kernel
theorem dX10_writes_5 : decode cX10_writes 5 = .ok (.getfield 514, 3) := by decide +kernel
theorem dX10_writes_8 : decode cX10_writes 8 = .ok (.iload_n 1, 1) := by decide +kernel
theorem dX10_writes_9 : decode cX10_writes 9 = .ok (.iastore, 1) := by decide +kernel
theorem dX10_writes_10 : decode cX10_writes 10 = .ok (.aload_n 0, 1) := by decide +kernel
theorem dX10_writes_11 : decode cX10_writes 11 = .ok (.dup, 1) := by decide +kernel
theorem dX10_writes_12 : decode cX10_writes 12 = .ok (.getfield 514, 3) := by decide +kernel
theorem dX10_writes_15 : decode cX10_writes 15 = .ok (.iconst 1, 1) := by decide +kernel
theorem dX10_writes_16 : decode cX10_writes 16 = .ok (.iadd, 1) := by decide +kernel
theorem dX10_writes_17 : decode cX10_writes 17 = .ok (.putfield 514, 3) := by decide +kernel
theorem dX10_writes_20 : decode cX10_writes 20 = .ok (.return_, 1) := by decide +kernel
set_option maxRecDepth 20000 in
theorem ggX10_writesFour_X10_writes : GoodIn wsX10_writesFour wsX10_writes := goodIn_r _ [5, 6, 7, 8, 9, 10, 11, 12, 13, 14, 15, 16, 17, 18, 19, 20, 21, 22, 23, 24, 25, 26, 27, 28, 29, 30, 31, 32, 33, 34, 35, 36, 37, 38, 39, 40, 41, 42, 43, 44, 45, 46, 47, 48, 49, 50, 51, 52, 53, 54, 55, 56, 57, 58, 59, 60, 61, 62, 63, 64] (by decide +kernel) (by decide +kernel)
set_option maxRecDepth 20000 in
theorem gX10_writesFour_X10_writes : GoodIn wsX10_writesFour (wsV RX10 517 RX10 yX10_writes wsX10_writes) := goodIn_app (goodIn_of _ (by decide +kernel)) ggX10_writesFour_X10_writes
theorem dX10_writesFour_0 : decode cX10_writesFour 0 = .ok (.bipush 24, 2) := by decide +kernel
theorem dX10_writesFour_2 : decode cX10_writesFour 2 = .ok (.istore_n 2, 1) := by decide +kernel
theorem dX10_writesFour_3 : decode cX10_writesFour 3 = .ok (.iload_n 2, 1) := by decide +kernel
theorem dX10_writesFour_4 : decode cX10_writesFour 4 = .ok (.ifCond .lt 20, 3) := by decide +kernel
theorem dX10_writesFour_7 : decode cX10_writesFour 7 = .ok (.aload_n 0, 1) := by decide +kernel
theorem dX10_writesFour_8 : decode cX10_writesFour 8 = .ok (.iload_n 1, 1) := by decide +kernel
theorem dX10_writesFour_9 : decode cX10_writesFour 9 = .ok (.iload_n 2, 1) := by decide +kernel
theorem dX10_writesFour_10 : decode cX10_writesFour 10 = .ok (.ishr, 1) := by decide +kernel
theorem dX10_writesFour_11 : decode cX10_writesFour 11 = .ok (.sipush 255, 3) := by decide +kernel
theorem dX10_writesFour_14 : decode cX10_writesFour 14 = .ok (.iand, 1) := by decide +kernel
theorem dX10_writesFour_15 : decode cX10_writesFour 15 = .ok (.invokevirtual 517, 3) := by decide +kernel
theorem dX10_writesFour_18 : decode cX10_writesFour 18 = .ok (.iinc 2 (-8), 3) := by decide +kernel
theorem dX10_writesFour_21 : decode cX10_writesFour 21 = .ok (.goto (-18), 3) := by decide +kernel
theorem dX10_writesFour_24 : decode cX10_writesFour 24 = .ok (.return_, 1) := by decide +kernel
theorem dX10_checked_0 : decode cX10_checked 0 = .ok (.bipush 45, 2) := by decide +kernel
theorem dX10_checked_2 : decode cX10_checked 2 = .ok (.istore_n 2, 1) := by decide +kernel
theorem dX10_checked_3 : decode cX10_checked 3 = .ok (.iconst 0, 1) := by decide +kernel
theorem dX10_checked_4 : decode cX10_checked 4 = .ok (.istore_n 3, 1) := by decide +kernel
theorem dX10_checked_5 : decode cX10_checked 5 = .ok (.iload_n 3, 1) := by decide +kernel
theorem dX10_checked_6 : decode cX10_checked 6 = .ok (.iload_n 1, 1) := by decide +kernel
theorem dX10_checked_7 : decode cX10_checked 7 = .ok (.if_icmp .ge 21, 3) := by decide +kernel
theorem dX10_checked_10 : decode cX10_checked 10 = .ok (.iconst 5, 1) := by decide +kernel
theorem dX10_checked_11 : decode cX10_checked 11 = .ok (.iload_n 2, 1) := by decide +kernel
theorem dX10_checked_12 : decode cX10_checked 12 = .ok (.imul, 1) := by decide +kernel
theorem dX10_checked_13 : decode cX10_checked 13 = .ok (.aload_n 0, 1) := by decide +kernel
theorem dX10_checked_14 : decode cX10_checked 14 = .ok (.iload_n 3, 1) := by decide +kernel
theorem dX10_checked_15 : decode cX10_checked 15 = .ok (.iaload, 1) := by decide +kernel
theorem dX10_checked_16 : decode cX10_checked 16 = .ok (.iadd, 1) := by decide +kernel
theorem dX10_checked_17 : decode cX10_checked 17 = .ok (.sipush 241, 3) := by decide +kernel
theorem dX10_checked_20 : decode cX10_checked 20 = .ok (.irem, 1) := by decide +kernel
theorem dX10_checked_21 : decode cX10_checked 21 = .ok (.istore_n 2, 1) := by decide +kernel
theorem dX10_checked_22 : decode cX10_checked 22 = .ok (.iinc 3 1, 3) := by decide +kernel
theorem dX10_checked_25 : decode cX10_checked 25 = .ok (.goto (-20), 3) := by decide +kernel
theorem dX10_checked_28 : decode cX10_checked 28 = .ok (.iload_n 2, 1) := by decide +kernel
theorem dX10_checked_29 : decode cX10_checked 29 = .ok (.ireturn, 1) := by decide +kernel
set_option maxRecDepth 20000 in
theorem ggX10_writesPlace_X10_writesFour : GoodIn wsX10_writesPlace wsX10_writesFour := goodIn_r _ [6, 7, 8, 9, 5, 10, 11, 12, 13, 14, 15, 16, 17, 18, 19, 20, 21, 22, 23, 24, 25, 26, 27, 28, 29, 30, 31, 32, 33, 34, 35, 36, 37, 38, 39, 40, 41, 42, 43, 44, 45, 46, 47, 48, 49, 50, 51, 52, 53, 54, 55, 56, 57, 58, 59, 60, 61, 62, 63, 64, 65, 66, 67, 68, 69] (by decide +kernel) (by decide +kernel)
set_option maxRecDepth 20000 in
theorem gX10_writesPlace_X10_writesFour : GoodIn wsX10_writesPlace (wsV RX10 520 RX10 yX10_writesFour wsX10_writesFour) := goodIn_app (goodIn_of _ (by decide +kernel)) ggX10_writesPlace_X10_writesFour
theorem dX10_writesPlace_0 : decode cX10_writesPlace 0 = .ok (.aload_n 0, 1) := by decide +kernel
theorem dX10_writesPlace_1 : decode cX10_writesPlace 1 = .ok (.aload_n 0, 1) := by decide +kernel
theorem dX10_writesPlace_2 : decode cX10_writesPlace 2 = .ok (.getfield 101, 3) := by decide +kernel
theorem dX10_writesPlace_5 : decode cX10_writesPlace 5 = .ok (.iload_n 1, 1) := by decide +kernel
theorem dX10_writesPlace_6 : decode cX10_writesPlace 6 = .ok (.iaload, 1) := by decide +kernel
theorem dX10_writesPlace_7 : decode cX10_writesPlace 7 = .ok (.invokevirtual 520, 3) := by decide +kernel
theorem dX10_writesPlace_10 : decode cX10_writesPlace 10 = .ok (.aload_n 0, 1) := by decide +kernel
theorem dX10_writesPlace_11 : decode cX10_writesPlace 11 = .ok (.aload_n 0, 1) := by decide +kernel
theorem dX10_writesPlace_12 : decode cX10_writesPlace 12 = .ok (.getfield 101, 3) := by decide +kernel
theorem dX10_writesPlace_15 : decode cX10_writesPlace 15 = .ok (.bipush 38, 2) := by decide +kernel
theorem dX10_writesPlace_17 : decode cX10_writesPlace 17 = .ok (.iload_n 1, 1) := by decide +kernel
theorem dX10_writesPlace_18 : decode cX10_writesPlace 18 = .ok (.iadd, 1) := by decide +kernel
theorem dX10_writesPlace_19 : decode cX10_writesPlace 19 = .ok (.iaload, 1) := by decide +kernel
theorem dX10_writesPlace_20 : decode cX10_writesPlace 20 = .ok (.invokevirtual 520, 3) := by decide +kernel
theorem dX10_writesPlace_23 : decode cX10_writesPlace 23 = .ok (.return_, 1) := by decide +kernel
set_option maxRecDepth 20000 in
theorem ggX10_image_X10_writes : GoodIn wsX10_image wsX10_writes := goodIn_r _ [11, 6, 1, 36, 37, 38, 39, 40, 41, 42, 43, 44, 45, 46, 47, 48, 49, 50, 51, 52, 53, 54, 55, 56, 57, 58, 59, 60, 61, 62, 63, 64, 65, 66, 67, 68, 69, 70, 71, 72, 73, 74, 75, 76, 77, 78, 79, 80, 81, 82, 83, 84, 85, 86, 87, 88, 89, 90, 91, 92] (by decide +kernel) (by decide +kernel)
set_option maxRecDepth 20000 in
theorem gX10_image_X10_writes : GoodIn wsX10_image (wsV RX10 517 RX10 yX10_writes wsX10_writes) := goodIn_app (goodIn_of _ (by decide +kernel)) ggX10_image_X10_writes
set_option maxRecDepth 20000 in
theorem ggX10_image_X10_pictures : GoodIn wsX10_image wsX10_pictures := goodIn_r _ [15, 4, 36, 37, 38, 39, 40, 41, 42, 43, 44, 45, 46, 47, 48, 49, 50, 51, 52, 53, 54, 55, 56, 57, 58, 59, 60, 61, 62, 63, 64, 65, 66, 67, 68, 69, 70, 71, 72, 73, 74, 75, 76, 77, 78, 79, 80, 81, 82, 83, 84, 85, 86, 87, 88, 89, 90, 91, 92] (by decide +kernel) (by decide +kernel)
set_option maxRecDepth 20000 in
theorem gX10_image_X10_pictures : GoodIn wsX10_image (wsV RX10 259 RX10 yX10_pictures wsX10_pictures) := goodIn_app (goodIn_of _ (by decide +kernel)) ggX10_image_X10_pictures
set_option maxRecDepth 20000 in
theorem ggX10_image_X10_writesPlace : GoodIn wsX10_image wsX10_writesPlace := goodIn_r _ [19, 20, 21, 22, 23, 10, 24, 7, 8, 9, 11, 6, 1, 36, 37, 38, 39, 40, 41, 42, 43, 44, 45, 46, 47, 48, 49, 50, 51, 52, 53, 54, 55, 56, 57, 58, 59, 60, 61, 62, 63, 64, 65, 66, 67, 68, 69, 70, 71, 72, 73, 74, 75, 76, 77, 78, 79, 80, 81, 82, 83, 84, 85, 86, 87, 88, 89, 90, 91, 92] (by decide +kernel) (by decide +kernel)
set_option maxRecDepth 20000 in
theorem gX10_image_X10_writesPlace : GoodIn wsX10_image (wsV RX10 523 RX10 yX10_writesPlace wsX10_writesPlace) := goodIn_app (goodIn_of _ (by decide +kernel)) ggX10_image_X10_writesPlace
set_option maxRecDepth 20000 in
theorem ggX10_image_X10_points : GoodIn wsX10_image wsX10_points := goodIn_r _ [28, 4, 36, 37, 38, 39, 40, 41, 42, 43, 44, 45, 46, 47, 48, 49, 50, 51, 52, 53, 54, 55, 56, 57, 58, 59, 60, 61, 62, 63, 64, 65, 66, 67, 68, 69, 70, 71, 72, 73, 74, 75, 76, 77, 78, 79, 80, 81, 82, 83, 84, 85, 86, 87, 88, 89, 90, 91, 92] (by decide +kernel) (by decide +kernel)
set_option maxRecDepth 20000 in
theorem gX10_image_X10_points : GoodIn wsX10_image (wsV RX10 262 RX10 yX10_points wsX10_points) := goodIn_app (goodIn_of _ (by decide +kernel)) ggX10_image_X10_points
set_option maxRecDepth 20000 in
theorem ggX10_image_X10_rows : GoodIn wsX10_image wsX10_rows := goodIn_r _ [32, 4, 36, 37, 38, 39, 40, 41, 42, 43, 44, 45, 46, 47, 48, 49, 50, 51, 52, 53, 54, 55, 56, 57, 58, 59, 60, 61, 62, 63, 64, 65, 66, 67, 68, 69, 70, 71, 72, 73, 74, 75, 76, 77, 78, 79, 80, 81, 82, 83, 84, 85, 86, 87, 88, 89, 90, 91, 92] (by decide +kernel) (by decide +kernel)
set_option maxRecDepth 20000 in
theorem gX10_image_X10_rows : GoodIn wsX10_image (wsV RX10 265 RX10 yX10_rows wsX10_rows) := goodIn_app (goodIn_of _ (by decide +kernel)) ggX10_image_X10_rows
set_option maxRecDepth 20000 in
theorem ggX10_image_X10_checked : GoodIn wsX10_image wsX10_checked := goodIn_r _ [35] (by decide +kernel) (by decide +kernel)
set_option maxRecDepth 20000 in
theorem gX10_image_X10_checked : GoodIn wsX10_image (va_wsS RX10 526 yX10_checked wsX10_checked) := goodIn_app (goodIn_of _ (by decide +kernel)) ggX10_image_X10_checked
theorem dX10_image_0 : decode cX10_image 0 = .ok (.aload_n 0, 1) := by decide +kernel
theorem dX10_image_1 : decode cX10_image 1 = .ok (.iconst 0, 1) := by decide +kernel
theorem dX10_image_2 : decode cX10_image 2 = .ok (.putfield 514, 3) := by decide +kernel
theorem dX10_image_5 : decode cX10_image 5 = .ok (.aload_n 0, 1) := by decide +kernel
theorem dX10_image_6 : decode cX10_image 6 = .ok (.aload_n 0, 1) := by decide +kernel
theorem dX10_image_7 : decode cX10_image 7 = .ok (.getfield 95, 3) := by decide +kernel
theorem dX10_image_10 : decode cX10_image 10 = .ok (.invokevirtual 517, 3) := by decide +kernel
theorem dX10_image_13 : decode cX10_image 13 = .ok (.iconst 0, 1) := by decide +kernel
theorem dX10_image_14 : decode cX10_image 14 = .ok (.istore_n 1, 1) := by decide +kernel
theorem dX10_image_15 : decode cX10_image 15 = .ok (.iload_n 1, 1) := by decide +kernel
theorem dX10_image_16 : decode cX10_image 16 = .ok (.aload_n 0, 1) := by decide +kernel
theorem dX10_image_17 : decode cX10_image 17 = .ok (.invokevirtual 259, 3) := by decide +kernel
theorem dX10_image_20 : decode cX10_image 20 = .ok (.if_icmp .ge 24, 3) := by decide +kernel
theorem dX10_image_23 : decode cX10_image 23 = .ok (.aload_n 0, 1) := by decide +kernel
theorem dX10_image_24 : decode cX10_image 24 = .ok (.aload_n 0, 1) := by decide +kernel
theorem dX10_image_25 : decode cX10_image 25 = .ok (.getfield 98, 3) := by decide +kernel
theorem dX10_image_28 : decode cX10_image 28 = .ok (.iload_n 1, 1) := by decide +kernel
theorem dX10_image_29 : decode cX10_image 29 = .ok (.iaload, 1) := by decide +kernel
theorem dX10_image_30 : decode cX10_image 30 = .ok (.invokevirtual 517, 3) := by decide +kernel
theorem dX10_image_33 : decode cX10_image 33 = .ok (.aload_n 0, 1) := by decide +kernel
theorem dX10_image_34 : decode cX10_image 34 = .ok (.iload_n 1, 1) := by decide +kernel
theorem dX10_image_35 : decode cX10_image 35 = .ok (.invokevirtual 523, 3) := by decide +kernel
theorem dX10_image_38 : decode cX10_image 38 = .ok (.iinc 1 1, 3) := by decide +kernel
theorem dX10_image_41 : decode cX10_image 41 = .ok (.goto (-26), 3) := by decide +kernel
theorem dX10_image_44 : decode cX10_image 44 = .ok (.iconst 0, 1) := by decide +kernel
theorem dX10_image_45 : decode cX10_image 45 = .ok (.istore_n 1, 1) := by decide +kernel
theorem dX10_image_46 : decode cX10_image 46 = .ok (.iload_n 1, 1) := by decide +kernel
theorem dX10_image_47 : decode cX10_image 47 = .ok (.aload_n 0, 1) := by decide +kernel
theorem dX10_image_48 : decode cX10_image 48 = .ok (.invokevirtual 262, 3) := by decide +kernel
theorem dX10_image_51 : decode cX10_image 51 = .ok (.if_icmp .ge 17, 3) := by decide +kernel
theorem dX10_image_54 : decode cX10_image 54 = .ok (.aload_n 0, 1) := by decide +kernel
theorem dX10_image_55 : decode cX10_image 55 = .ok (.bipush 12, 2) := by decide +kernel
theorem dX10_image_57 : decode cX10_image 57 = .ok (.iload_n 1, 1) := by decide +kernel
theorem dX10_image_58 : decode cX10_image 58 = .ok (.iadd, 1) := by decide +kernel
theorem dX10_image_59 : decode cX10_image 59 = .ok (.invokevirtual 523, 3) := by decide +kernel
theorem dX10_image_62 : decode cX10_image 62 = .ok (.iinc 1 1, 3) := by decide +kernel
theorem dX10_image_65 : decode cX10_image 65 = .ok (.goto (-19), 3) := by decide +kernel
theorem dX10_image_68 : decode cX10_image 68 = .ok (.iconst 0, 1) := by decide +kernel
theorem dX10_image_69 : decode cX10_image 69 = .ok (.istore_n 1, 1) := by decide +kernel
theorem dX10_image_70 : decode cX10_image 70 = .ok (.iload_n 1, 1) := by decide +kernel
theorem dX10_image_71 : decode cX10_image 71 = .ok (.aload_n 0, 1) := by decide +kernel
theorem dX10_image_72 : decode cX10_image 72 = .ok (.getfield 58, 3) := by decide +kernel
theorem dX10_image_75 : decode cX10_image 75 = .ok (.bipush 6, 2) := by decide +kernel
theorem dX10_image_77 : decode cX10_image 77 = .ok (.iaload, 1) := by decide +kernel
theorem dX10_image_78 : decode cX10_image 78 = .ok (.if_icmp .ge 17, 3) := by decide +kernel
theorem dX10_image_81 : decode cX10_image 81 = .ok (.aload_n 0, 1) := by decide +kernel
theorem dX10_image_82 : decode cX10_image 82 = .ok (.bipush 32, 2) := by decide +kernel
theorem dX10_image_84 : decode cX10_image 84 = .ok (.iload_n 1, 1) := by decide +kernel
theorem dX10_image_85 : decode cX10_image 85 = .ok (.iadd, 1) := by decide +kernel
theorem dX10_image_86 : decode cX10_image 86 = .ok (.invokevirtual 523, 3) := by decide +kernel
theorem dX10_image_89 : decode cX10_image 89 = .ok (.iinc 1 1, 3) := by decide +kernel
theorem dX10_image_92 : decode cX10_image 92 = .ok (.goto (-22), 3) := by decide +kernel
theorem dX10_image_95 : decode cX10_image 95 = .ok (.iconst 0, 1) := by decide +kernel
theorem dX10_image_96 : decode cX10_image 96 = .ok (.istore_n 1, 1) := by decide +kernel
theorem dX10_image_97 : decode cX10_image 97 = .ok (.iload_n 1, 1) := by decide +kernel
theorem dX10_image_98 : decode cX10_image 98 = .ok (.aload_n 0, 1) := by decide +kernel
theorem dX10_image_99 : decode cX10_image 99 = .ok (.invokevirtual 265, 3) := by decide +kernel
theorem dX10_image_102 : decode cX10_image 102 = .ok (.if_icmp .ge 27, 3) := by decide +kernel
theorem dX10_image_105 : decode cX10_image 105 = .ok (.aload_n 0, 1) := by decide +kernel
theorem dX10_image_106 : decode cX10_image 106 = .ok (.aload_n 0, 1) := by decide +kernel
theorem dX10_image_107 : decode cX10_image 107 = .ok (.getfield 91, 3) := by decide +kernel
theorem dX10_image_110 : decode cX10_image 110 = .ok (.iload_n 1, 1) := by decide +kernel
theorem dX10_image_111 : decode cX10_image 111 = .ok (.baload, 1) := by decide +kernel
theorem dX10_image_112 : decode cX10_image 112 = .ok (.ifCond .eq 7, 3) := by decide +kernel
theorem dX10_image_115 : decode cX10_image 115 = .ok (.iconst 1, 1) := by decide +kernel
theorem dX10_image_116 : decode cX10_image 116 = .ok (.goto 4, 3) := by decide +kernel
theorem dX10_image_119 : decode cX10_image 119 = .ok (.iconst 0, 1) := by decide +kernel
theorem dX10_image_120 : decode cX10_image 120 = .ok (.invokevirtual 517, 3) := by decide +kernel
theorem dX10_image_123 : decode cX10_image 123 = .ok (.iinc 1 1, 3) := by decide +kernel
theorem dX10_image_126 : decode cX10_image 126 = .ok (.goto (-29), 3) := by decide +kernel
theorem dX10_image_129 : decode cX10_image 129 = .ok (.aload_n 0, 1) := by decide +kernel
theorem dX10_image_130 : decode cX10_image 130 = .ok (.aload_n 0, 1) := by decide +kernel
theorem dX10_image_131 : decode cX10_image 131 = .ok (.getfield 137, 3) := by decide +kernel
theorem dX10_image_134 : decode cX10_image 134 = .ok (.aload_n 0, 1) := by decide +kernel
theorem dX10_image_135 : decode cX10_image 135 = .ok (.getfield 514, 3) := by decide +kernel
theorem dX10_image_138 : decode cX10_image 138 = .ok (.invokestatic 526, 3) := by decide +kernel
theorem dX10_image_141 : decode cX10_image 141 = .ok (.invokevirtual 517, 3) := by decide +kernel
theorem dX10_image_144 : decode cX10_image 144 = .ok (.aload_n 0, 1) := by decide +kernel
theorem dX10_image_145 : decode cX10_image 145 = .ok (.getfield 514, 3) := by decide +kernel
theorem dX10_image_148 : decode cX10_image 148 = .ok (.ireturn, 1) := by decide +kernel
theorem dX10_octet_0 : decode cX10_octet 0 = .ok (.iload_n 1, 1) := by decide +kernel
theorem dX10_octet_1 : decode cX10_octet 1 = .ok (.ifCond .lt 20, 3) := by decide +kernel
theorem dX10_octet_4 : decode cX10_octet 4 = .ok (.iload_n 1, 1) := by decide +kernel
theorem dX10_octet_5 : decode cX10_octet 5 = .ok (.aload_n 0, 1) := by decide +kernel
theorem dX10_octet_6 : decode cX10_octet 6 = .ok (.getfield 514, 3) := by decide +kernel
theorem dX10_octet_9 : decode cX10_octet 9 = .ok (.if_icmp .ge 12, 3) := by decide +kernel
theorem dX10_octet_12 : decode cX10_octet 12 = .ok (.aload_n 0, 1) := by decide +kernel
theorem dX10_octet_13 : decode cX10_octet 13 = .ok (.getfield 137, 3) := by decide +kernel
theorem dX10_octet_16 : decode cX10_octet 16 = .ok (.iload_n 1, 1) := by decide +kernel
theorem dX10_octet_17 : decode cX10_octet 17 = .ok (.iaload, 1) := by decide +kernel
theorem dX10_octet_18 : decode cX10_octet 18 = .ok (.goto 4, 3) := by decide +kernel
theorem dX10_octet_21 : decode cX10_octet 21 = .ok (.iconst (-1), 1) := by decide +kernel
theorem dX10_octet_22 : decode cX10_octet 22 = .ok (.ireturn, 1) := by decide +kernel
theorem dX10_fourAt_0 : decode cX10_fourAt 0 = .ok (.aload_n 0, 1) := by decide +kernel
theorem dX10_fourAt_1 : decode cX10_fourAt 1 = .ok (.getfield 7, 3) := by decide +kernel
theorem dX10_fourAt_4 : decode cX10_fourAt 4 = .ok (.iload_n 1, 1) := by decide +kernel
theorem dX10_fourAt_5 : decode cX10_fourAt 5 = .ok (.iaload, 1) := by decide +kernel
theorem dX10_fourAt_6 : decode cX10_fourAt 6 = .ok (.bipush 24, 2) := by decide +kernel
theorem dX10_fourAt_8 : decode cX10_fourAt 8 = .ok (.ishl, 1) := by decide +kernel
theorem dX10_fourAt_9 : decode cX10_fourAt 9 = .ok (.aload_n 0, 1) := by decide +kernel
theorem dX10_fourAt_10 : decode cX10_fourAt 10 = .ok (.getfield 7, 3) := by decide +kernel
theorem dX10_fourAt_13 : decode cX10_fourAt 13 = .ok (.iload_n 1, 1) := by decide +kernel
theorem dX10_fourAt_14 : decode cX10_fourAt 14 = .ok (.iconst 1, 1) := by decide +kernel
theorem dX10_fourAt_15 : decode cX10_fourAt 15 = .ok (.iadd, 1) := by decide +kernel
theorem dX10_fourAt_16 : decode cX10_fourAt 16 = .ok (.iaload, 1) := by decide +kernel
theorem dX10_fourAt_17 : decode cX10_fourAt 17 = .ok (.bipush 16, 2) := by decide +kernel
theorem dX10_fourAt_19 : decode cX10_fourAt 19 = .ok (.ishl, 1) := by decide +kernel
theorem dX10_fourAt_20 : decode cX10_fourAt 20 = .ok (.iadd, 1) := by decide +kernel
theorem dX10_fourAt_21 : decode cX10_fourAt 21 = .ok (.aload_n 0, 1) := by decide +kernel
theorem dX10_fourAt_22 : decode cX10_fourAt 22 = .ok (.getfield 7, 3) := by decide +kernel
theorem dX10_fourAt_25 : decode cX10_fourAt 25 = .ok (.iload_n 1, 1) := by decide +kernel
theorem dX10_fourAt_26 : decode cX10_fourAt 26 = .ok (.iconst 2, 1) := by decide +kernel
theorem dX10_fourAt_27 : decode cX10_fourAt 27 = .ok (.iadd, 1) := by decide +kernel
theorem dX10_fourAt_28 : decode cX10_fourAt 28 = .ok (.iaload, 1) := by decide +kernel
theorem dX10_fourAt_29 : decode cX10_fourAt 29 = .ok (.bipush 8, 2) := by decide +kernel
theorem dX10_fourAt_31 : decode cX10_fourAt 31 = .ok (.ishl, 1) := by decide +kernel
theorem dX10_fourAt_32 : decode cX10_fourAt 32 = .ok (.iadd, 1) := by decide +kernel
theorem dX10_fourAt_33 : decode cX10_fourAt 33 = .ok (.aload_n 0, 1) := by decide +kernel
theorem dX10_fourAt_34 : decode cX10_fourAt 34 = .ok (.getfield 7, 3) := by decide +kernel
theorem dX10_fourAt_37 : decode cX10_fourAt 37 = .ok (.iload_n 1, 1) := by decide +kernel
theorem dX10_fourAt_38 : decode cX10_fourAt 38 = .ok (.iconst 3, 1) := by decide +kernel
theorem dX10_fourAt_39 : decode cX10_fourAt 39 = .ok (.iadd, 1) := by decide +kernel
theorem dX10_fourAt_40 : decode cX10_fourAt 40 = .ok (.iaload, 1) := by decide +kernel
theorem dX10_fourAt_41 : decode cX10_fourAt 41 = .ok (.iadd, 1) := by decide +kernel
theorem dX10_fourAt_42 : decode cX10_fourAt 42 = .ok (.ireturn, 1) := by decide +kernel
set_option maxRecDepth 20000 in
theorem ggX10_canBe_X10_fourAt : GoodIn wsX10_canBe wsX10_fourAt := goodIn_r _ [7, 8, 12, 13, 14, 15, 16, 17, 18, 19, 20, 21, 22, 23, 24, 25, 26, 27, 28, 29, 30, 31, 32, 33, 34, 35, 36, 37, 38, 39, 40, 41, 42, 43, 44, 45, 46, 47, 48, 49, 50, 51, 52, 53, 54, 55, 56, 57, 58, 59, 60, 61, 62, 63, 64, 65, 66, 67, 68] (by decide +kernel) (by decide +kernel)
set_option maxRecDepth 20000 in
theorem gX10_canBe_X10_fourAt : GoodIn wsX10_canBe (wsV RX10 530 RX10 yX10_fourAt wsX10_fourAt) := goodIn_app (goodIn_of _ (by decide +kernel)) ggX10_canBe_X10_fourAt
set_option maxRecDepth 20000 in
theorem ggX10_canBe_X10_isIn : GoodIn wsX10_canBe wsX10_isIn := goodIn_r _ [11] (by decide +kernel) (by decide +kernel)
set_option maxRecDepth 20000 in
theorem gX10_canBe_X10_isIn : GoodIn wsX10_canBe (va_wsS RX10 183 yX10_isIn wsX10_isIn) := goodIn_app (goodIn_of _ (by decide +kernel)) ggX10_canBe_X10_isIn
theorem dX10_canBe_0 : decode cX10_canBe 0 = .ok (.aload_n 0, 1) := by decide +kernel
theorem dX10_canBe_1 : decode cX10_canBe 1 = .ok (.iload_n 1, 1) := by decide +kernel
theorem dX10_canBe_2 : decode cX10_canBe 2 = .ok (.invokevirtual 530, 3) := by decide +kernel
theorem dX10_canBe_5 : decode cX10_canBe 5 = .ok (.istore 5, 2) := by decide +kernel
theorem dX10_canBe_7 : decode cX10_canBe 7 = .ok (.aload_n 0, 1) := by decide +kernel
theorem dX10_canBe_8 : decode cX10_canBe 8 = .ok (.iload_n 1, 1) := by decide +kernel
theorem dX10_canBe_9 : decode cX10_canBe 9 = .ok (.iconst 4, 1) := by decide +kernel
theorem dX10_canBe_10 : decode cX10_canBe 10 = .ok (.iadd, 1) := by decide +kernel
theorem dX10_canBe_11 : decode cX10_canBe 11 = .ok (.invokevirtual 530, 3) := by decide +kernel
theorem dX10_canBe_14 : decode cX10_canBe 14 = .ok (.istore 6, 2) := by decide +kernel
theorem dX10_canBe_16 : decode cX10_canBe 16 = .ok (.iload_n 2, 1) := by decide +kernel
theorem dX10_canBe_17 : decode cX10_canBe 17 = .ok (.ifCond .eq 22, 3) := by decide +kernel
theorem dX10_canBe_20 : decode cX10_canBe 20 = .ok (.iload 5, 2) := by decide +kernel
theorem dX10_canBe_22 : decode cX10_canBe 22 = .ok (.iload_n 3, 1) := by decide +kernel
theorem dX10_canBe_23 : decode cX10_canBe 23 = .ok (.if_icmp .ne 14, 3) := by decide +kernel
theorem dX10_canBe_26 : decode cX10_canBe 26 = .ok (.iload 6, 2) := by decide +kernel
theorem dX10_canBe_28 : decode cX10_canBe 28 = .ok (.iload 4, 2) := by decide +kernel
theorem dX10_canBe_30 : decode cX10_canBe 30 = .ok (.if_icmp .ne 7, 3) := by decide +kernel
theorem dX10_canBe_33 : decode cX10_canBe 33 = .ok (.iconst 1, 1) := by decide +kernel
theorem dX10_canBe_34 : decode cX10_canBe 34 = .ok (.goto 4, 3) := by decide +kernel
theorem dX10_canBe_37 : decode cX10_canBe 37 = .ok (.iconst 0, 1) := by decide +kernel
theorem dX10_canBe_38 : decode cX10_canBe 38 = .ok (.ireturn, 1) := by decide +kernel
theorem dX10_canBe_39 : decode cX10_canBe 39 = .ok (.iload 5, 2) := by decide +kernel
theorem dX10_canBe_41 : decode cX10_canBe 41 = .ok (.i2l, 1) := by decide +kernel
theorem dX10_canBe_42 : decode cX10_canBe 42 = .ok (.ldc2_w 533, 3) := by decide +kernel
theorem dX10_canBe_45 : decode cX10_canBe 45 = .ok (.ldc2_w 535, 3) := by decide +kernel
theorem dX10_canBe_48 : decode cX10_canBe 48 = .ok (.invokestatic 183, 3) := by decide +kernel
theorem dX10_canBe_51 : decode cX10_canBe 51 = .ok (.ifCond .eq 22, 3) := by decide +kernel
theorem dX10_canBe_54 : decode cX10_canBe 54 = .ok (.iload 6, 2) := by decide +kernel
theorem dX10_canBe_56 : decode cX10_canBe 56 = .ok (.i2l, 1) := by decide +kernel
theorem dX10_canBe_57 : decode cX10_canBe 57 = .ok (.ldc2_w 533, 3) := by decide +kernel
theorem dX10_canBe_60 : decode cX10_canBe 60 = .ok (.ldc2_w 535, 3) := by decide +kernel
theorem dX10_canBe_63 : decode cX10_canBe 63 = .ok (.invokestatic 183, 3) := by decide +kernel
theorem dX10_canBe_66 : decode cX10_canBe 66 = .ok (.ifCond .eq 7, 3) := by decide +kernel
theorem dX10_canBe_69 : decode cX10_canBe 69 = .ok (.iconst 1, 1) := by decide +kernel
theorem dX10_canBe_70 : decode cX10_canBe 70 = .ok (.goto 4, 3) := by decide +kernel
theorem dX10_canBe_73 : decode cX10_canBe 73 = .ok (.iconst 0, 1) := by decide +kernel
theorem dX10_canBe_74 : decode cX10_canBe 74 = .ok (.ireturn, 1) := by decide +kernel
set_option maxRecDepth 20000 in
theorem ggX10_isTold_X10_pictures : GoodIn wsX10_isTold wsX10_pictures := goodIn_r _ [10, 1, 49, 50, 51, 52, 53, 54, 55, 56, 57, 58, 59, 60, 61, 62, 63, 64, 65, 66, 67, 68, 69, 70, 71, 72, 73, 74, 75, 76, 77, 78, 79, 80, 81, 82, 83, 84, 85, 86, 87, 88, 89, 90, 91, 92, 93, 94, 95, 96, 97, 98, 99, 100, 101, 102, 103, 104, 105] (by decide +kernel) (by decide +kernel)
set_option maxRecDepth 20000 in
theorem gX10_isTold_X10_pictures : GoodIn wsX10_isTold (wsV RX10 259 RX10 yX10_pictures wsX10_pictures) := goodIn_app (goodIn_of _ (by decide +kernel)) ggX10_isTold_X10_pictures
set_option maxRecDepth 20000 in
theorem ggX10_isTold_X10_points : GoodIn wsX10_isTold wsX10_points := goodIn_r _ [14, 1, 49, 50, 51, 52, 53, 54, 55, 56, 57, 58, 59, 60, 61, 62, 63, 64, 65, 66, 67, 68, 69, 70, 71, 72, 73, 74, 75, 76, 77, 78, 79, 80, 81, 82, 83, 84, 85, 86, 87, 88, 89, 90, 91, 92, 93, 94, 95, 96, 97, 98, 99, 100, 101, 102, 103, 104, 105] (by decide +kernel) (by decide +kernel)
set_option maxRecDepth 20000 in
theorem gX10_isTold_X10_points : GoodIn wsX10_isTold (wsV RX10 262 RX10 yX10_points wsX10_points) := goodIn_app (goodIn_of _ (by decide +kernel)) ggX10_isTold_X10_points
set_option maxRecDepth 20000 in
theorem ggX10_isTold_X10_rows : GoodIn wsX10_isTold wsX10_rows := goodIn_r _ [18, 1, 49, 50, 51, 52, 53, 54, 55, 56, 57, 58, 59, 60, 61, 62, 63, 64, 65, 66, 67, 68, 69, 70, 71, 72, 73, 74, 75, 76, 77, 78, 79, 80, 81, 82, 83, 84, 85, 86, 87, 88, 89, 90, 91, 92, 93, 94, 95, 96, 97, 98, 99, 100, 101, 102, 103, 104, 105] (by decide +kernel) (by decide +kernel)
set_option maxRecDepth 20000 in
theorem gX10_isTold_X10_rows : GoodIn wsX10_isTold (wsV RX10 265 RX10 yX10_rows wsX10_rows) := goodIn_app (goodIn_of _ (by decide +kernel)) ggX10_isTold_X10_rows
set_option maxRecDepth 20000 in
theorem ggX10_isTold_X10_checked : GoodIn wsX10_isTold wsX10_checked := goodIn_r _ [21] (by decide +kernel) (by decide +kernel)
set_option maxRecDepth 20000 in
theorem gX10_isTold_X10_checked : GoodIn wsX10_isTold (va_wsS RX10 526 yX10_checked wsX10_checked) := goodIn_app (goodIn_of _ (by decide +kernel)) ggX10_isTold_X10_checked
set_option maxRecDepth 20000 in
theorem ggX10_isTold_X10_canBe : GoodIn wsX10_isTold wsX10_canBe := goodIn_r _ [25, 26, 27, 28, 29, 30, 9, 31, 2, 32, 33, 34, 49, 50, 51, 52, 53, 54, 55, 56, 57, 58, 59, 60, 61, 62, 63, 64, 65, 66, 67, 68, 69, 70, 71, 72, 73, 74, 75, 76, 77, 78, 79, 80, 81, 82, 83, 84, 85, 86, 87, 88, 89, 90, 91, 92, 93, 94, 95, 96, 97, 98, 99, 100, 101, 102, 103, 104, 105] (by decide +kernel) (by decide +kernel)
set_option maxRecDepth 20000 in
theorem gX10_isTold_X10_canBe : GoodIn wsX10_isTold (wsV RX10 537 RX10 yX10_canBe wsX10_canBe) := goodIn_app (goodIn_of _ (by decide +kernel)) ggX10_isTold_X10_canBe
set_option maxRecDepth 20000 in
theorem ggX10_isTold_X10_hasDrift : GoodIn wsX10_isTold wsX10_hasDrift := goodIn_r _ [38, 6, 7, 8, 9, 10, 1, 39, 40, 41, 42, 43, 44, 45, 46, 47, 48, 49, 50, 51, 52, 53, 54, 55, 56, 57, 58, 59, 60, 61, 62, 63, 64, 65, 66, 67, 68, 69, 70, 71, 72, 73, 74, 75, 76, 77, 78, 79, 80, 81, 82, 83, 84, 85, 86, 87, 88, 89, 90, 91, 92, 93, 94, 95, 96, 97, 98, 99, 100, 101, 102, 103, 104, 105] (by decide +kernel) (by decide +kernel)
set_option maxRecDepth 20000 in
theorem gX10_isTold_X10_hasDrift : GoodIn wsX10_isTold (wsV RX10 368 RX10 yX10_hasDrift wsX10_hasDrift) := goodIn_app (goodIn_of _ (by decide +kernel)) ggX10_isTold_X10_hasDrift
theorem dX10_isTold_0 : decode cX10_isTold 0 = .ok (.aload_n 0, 1) := by decide +kernel
theorem dX10_isTold_1 : decode cX10_isTold 1 = .ok (.getfield 58, 3) := by decide +kernel
theorem dX10_isTold_4 : decode cX10_isTold 4 = .ok (.bipush 6, 2) := by decide +kernel
theorem dX10_isTold_6 : decode cX10_isTold 6 = .ok (.iaload, 1) := by decide +kernel
theorem dX10_isTold_7 : decode cX10_isTold 7 = .ok (.istore_n 2, 1) := by decide +kernel
theorem dX10_isTold_8 : decode cX10_isTold 8 = .ok (.iload_n 1, 1) := by decide +kernel
theorem dX10_isTold_9 : decode cX10_isTold 9 = .ok (.iconst 2, 1) := by decide +kernel
theorem dX10_isTold_10 : decode cX10_isTold 10 = .ok (.bipush 9, 2) := by decide +kernel
theorem dX10_isTold_12 : decode cX10_isTold 12 = .ok (.aload_n 0, 1) := by decide +kernel
theorem dX10_isTold_13 : decode cX10_isTold 13 = .ok (.invokevirtual 259, 3) := by decide +kernel
theorem dX10_isTold_16 : decode cX10_isTold 16 = .ok (.imul, 1) := by decide +kernel
theorem dX10_isTold_17 : decode cX10_isTold 17 = .ok (.iadd, 1) := by decide +kernel
theorem dX10_isTold_18 : decode cX10_isTold 18 = .ok (.bipush 8, 2) := by decide +kernel
theorem dX10_isTold_20 : decode cX10_isTold 20 = .ok (.aload_n 0, 1) := by decide +kernel
theorem dX10_isTold_21 : decode cX10_isTold 21 = .ok (.invokevirtual 262, 3) := by decide +kernel
theorem dX10_isTold_24 : decode cX10_isTold 24 = .ok (.imul, 1) := by decide +kernel
theorem dX10_isTold_25 : decode cX10_isTold 25 = .ok (.iadd, 1) := by decide +kernel
theorem dX10_isTold_26 : decode cX10_isTold 26 = .ok (.bipush 8, 2) := by decide +kernel
theorem dX10_isTold_28 : decode cX10_isTold 28 = .ok (.iload_n 2, 1) := by decide +kernel
theorem dX10_isTold_29 : decode cX10_isTold 29 = .ok (.imul, 1) := by decide +kernel
theorem dX10_isTold_30 : decode cX10_isTold 30 = .ok (.iadd, 1) := by decide +kernel
theorem dX10_isTold_31 : decode cX10_isTold 31 = .ok (.aload_n 0, 1) := by decide +kernel
theorem dX10_isTold_32 : decode cX10_isTold 32 = .ok (.invokevirtual 265, 3) := by decide +kernel
theorem dX10_isTold_35 : decode cX10_isTold 35 = .ok (.iadd, 1) := by decide +kernel
theorem dX10_isTold_36 : decode cX10_isTold 36 = .ok (.if_icmp .ne 34, 3) := by decide +kernel
theorem dX10_isTold_39 : decode cX10_isTold 39 = .ok (.aload_n 0, 1) := by decide +kernel
theorem dX10_isTold_40 : decode cX10_isTold 40 = .ok (.getfield 7, 3) := by decide +kernel
theorem dX10_isTold_43 : decode cX10_isTold 43 = .ok (.iload_n 1, 1) := by decide +kernel
theorem dX10_isTold_44 : decode cX10_isTold 44 = .ok (.iconst 1, 1) := by decide +kernel
theorem dX10_isTold_45 : decode cX10_isTold 45 = .ok (.isub, 1) := by decide +kernel
theorem dX10_isTold_46 : decode cX10_isTold 46 = .ok (.iaload, 1) := by decide +kernel
theorem dX10_isTold_47 : decode cX10_isTold 47 = .ok (.aload_n 0, 1) := by decide +kernel
theorem dX10_isTold_48 : decode cX10_isTold 48 = .ok (.getfield 7, 3) := by decide +kernel
theorem dX10_isTold_51 : decode cX10_isTold 51 = .ok (.iload_n 1, 1) := by decide +kernel
theorem dX10_isTold_52 : decode cX10_isTold 52 = .ok (.iconst 1, 1) := by decide +kernel
theorem dX10_isTold_53 : decode cX10_isTold 53 = .ok (.isub, 1) := by decide +kernel
theorem dX10_isTold_54 : decode cX10_isTold 54 = .ok (.invokestatic 526, 3) := by decide +kernel
theorem dX10_isTold_57 : decode cX10_isTold 57 = .ok (.if_icmp .ne 13, 3) := by decide +kernel
theorem dX10_isTold_60 : decode cX10_isTold 60 = .ok (.aload_n 0, 1) := by decide +kernel
theorem dX10_isTold_61 : decode cX10_isTold 61 = .ok (.getfield 7, 3) := by decide +kernel
theorem dX10_isTold_64 : decode cX10_isTold 64 = .ok (.iconst 0, 1) := by decide +kernel
theorem dX10_isTold_65 : decode cX10_isTold 65 = .ok (.iaload, 1) := by decide +kernel
theorem dX10_isTold_66 : decode cX10_isTold 66 = .ok (.iconst 3, 1) := by decide +kernel
theorem dX10_isTold_67 : decode cX10_isTold 67 = .ok (.if_icmp .le 5, 3) := by decide +kernel
theorem dX10_isTold_70 : decode cX10_isTold 70 = .ok (.iconst 0, 1) := by decide +kernel
theorem dX10_isTold_71 : decode cX10_isTold 71 = .ok (.ireturn, 1) := by decide +kernel
theorem dX10_isTold_72 : decode cX10_isTold 72 = .ok (.iconst 1, 1) := by decide +kernel
theorem dX10_isTold_73 : decode cX10_isTold 73 = .ok (.istore_n 3, 1) := by decide +kernel
theorem dX10_isTold_74 : decode cX10_isTold 74 = .ok (.iconst 0, 1) := by decide +kernel
theorem dX10_isTold_75 : decode cX10_isTold 75 = .ok (.istore 4, 2) := by decide +kernel
theorem dX10_isTold_77 : decode cX10_isTold 77 = .ok (.iload 4, 2) := by decide +kernel
theorem dX10_isTold_79 : decode cX10_isTold 79 = .ok (.aload_n 0, 1) := by decide +kernel
theorem dX10_isTold_80 : decode cX10_isTold 80 = .ok (.invokevirtual 259, 3) := by decide +kernel
theorem dX10_isTold_83 : decode cX10_isTold 83 = .ok (.if_icmp .ge 66, 3) := by decide +kernel
theorem dX10_isTold_86 : decode cX10_isTold 86 = .ok (.aload_n 0, 1) := by decide +kernel
theorem dX10_isTold_87 : decode cX10_isTold 87 = .ok (.getfield 64, 3) := by decide +kernel
theorem dX10_isTold_90 : decode cX10_isTold 90 = .ok (.bipush 12, 2) := by decide +kernel
theorem dX10_isTold_92 : decode cX10_isTold 92 = .ok (.iload 4, 2) := by decide +kernel
theorem dX10_isTold_94 : decode cX10_isTold 94 = .ok (.iadd, 1) := by decide +kernel
theorem dX10_isTold_95 : decode cX10_isTold 95 = .ok (.iaload, 1) := by decide +kernel
theorem dX10_isTold_96 : decode cX10_isTold 96 = .ok (.istore 5, 2) := by decide +kernel
theorem dX10_isTold_98 : decode cX10_isTold 98 = .ok (.aload_n 0, 1) := by decide +kernel
theorem dX10_isTold_99 : decode cX10_isTold 99 = .ok (.getfield 7, 3) := by decide +kernel
theorem dX10_isTold_102 : decode cX10_isTold 102 = .ok (.iload_n 3, 1) := by decide +kernel
theorem dX10_isTold_103 : decode cX10_isTold 103 = .ok (.iaload, 1) := by decide +kernel
theorem dX10_isTold_104 : decode cX10_isTold 104 = .ok (.iconst 3, 1) := by decide +kernel
theorem dX10_isTold_105 : decode cX10_isTold 105 = .ok (.if_icmp .gt 33, 3) := by decide +kernel
theorem dX10_isTold_108 : decode cX10_isTold 108 = .ok (.iload 5, 2) := by decide +kernel
theorem dX10_isTold_110 : decode cX10_isTold 110 = .ok (.iconst 4, 1) := by decide +kernel
theorem dX10_isTold_111 : decode cX10_isTold 111 = .ok (.if_icmp .eq 14, 3) := by decide +kernel
theorem dX10_isTold_114 : decode cX10_isTold 114 = .ok (.aload_n 0, 1) := by decide +kernel
theorem dX10_isTold_115 : decode cX10_isTold 115 = .ok (.getfield 7, 3) := by decide +kernel
theorem dX10_isTold_118 : decode cX10_isTold 118 = .ok (.iload_n 3, 1) := by decide +kernel
theorem dX10_isTold_119 : decode cX10_isTold 119 = .ok (.iaload, 1) := by decide +kernel
theorem dX10_isTold_120 : decode cX10_isTold 120 = .ok (.iload 5, 2) := by decide +kernel
theorem dX10_isTold_122 : decode cX10_isTold 122 = .ok (.if_icmp .ne 16, 3) := by decide +kernel
theorem dX10_isTold_125 : decode cX10_isTold 125 = .ok (.aload_n 0, 1) := by decide +kernel
theorem dX10_isTold_126 : decode cX10_isTold 126 = .ok (.iload_n 3, 1) := by decide +kernel
theorem dX10_isTold_127 : decode cX10_isTold 127 = .ok (.iconst 1, 1) := by decide +kernel
theorem dX10_isTold_128 : decode cX10_isTold 128 = .ok (.iadd, 1) := by decide +kernel
theorem dX10_isTold_129 : decode cX10_isTold 129 = .ok (.iconst 0, 1) := by decide +kernel
theorem dX10_isTold_130 : decode cX10_isTold 130 = .ok (.iconst 0, 1) := by decide +kernel
theorem dX10_isTold_131 : decode cX10_isTold 131 = .ok (.iconst 0, 1) := by decide +kernel
theorem dX10_isTold_132 : decode cX10_isTold 132 = .ok (.invokevirtual 537, 3) := by decide +kernel
theorem dX10_isTold_135 : decode cX10_isTold 135 = .ok (.ifCond .ne 5, 3) := by decide +kernel
theorem dX10_isTold_138 : decode cX10_isTold 138 = .ok (.iconst 0, 1) := by decide +kernel
theorem dX10_isTold_139 : decode cX10_isTold 139 = .ok (.ireturn, 1) := by decide +kernel
theorem dX10_isTold_140 : decode cX10_isTold 140 = .ok (.iinc 3 9, 3) := by decide +kernel
theorem dX10_isTold_143 : decode cX10_isTold 143 = .ok (.iinc 4 1, 3) := by decide +kernel
theorem dX10_isTold_146 : decode cX10_isTold 146 = .ok (.goto (-69), 3) := by decide +kernel
theorem dX10_isTold_149 : decode cX10_isTold 149 = .ok (.iconst 0, 1) := by decide +kernel
theorem dX10_isTold_150 : decode cX10_isTold 150 = .ok (.istore 4, 2) := by decide +kernel
theorem dX10_isTold_152 : decode cX10_isTold 152 = .ok (.iload 4, 2) := by decide +kernel
theorem dX10_isTold_154 : decode cX10_isTold 154 = .ok (.aload_n 0, 1) := by decide +kernel
theorem dX10_isTold_155 : decode cX10_isTold 155 = .ok (.invokevirtual 262, 3) := by decide +kernel
theorem dX10_isTold_158 : decode cX10_isTold 158 = .ok (.if_icmp .ge 95, 3) := by decide +kernel
theorem dX10_isTold_161 : decode cX10_isTold 161 = .ok (.aload_n 0, 1) := by decide +kernel
theorem dX10_isTold_162 : decode cX10_isTold 162 = .ok (.getfield 73, 3) := by decide +kernel
theorem dX10_isTold_165 : decode cX10_isTold 165 = .ok (.bipush 20, 2) := by decide +kernel
theorem dX10_isTold_167 : decode cX10_isTold 167 = .ok (.iload 4, 2) := by decide +kernel
theorem dX10_isTold_169 : decode cX10_isTold 169 = .ok (.iadd, 1) := by decide +kernel
theorem dX10_isTold_170 : decode cX10_isTold 170 = .ok (.iaload, 1) := by decide +kernel
theorem dX10_isTold_171 : decode cX10_isTold 171 = .ok (.istore 5, 2) := by decide +kernel
theorem dX10_isTold_173 : decode cX10_isTold 173 = .ok (.iload 5, 2) := by decide +kernel
theorem dX10_isTold_175 : decode cX10_isTold 175 = .ok (.ifCond .eq 24, 3) := by decide +kernel
theorem dX10_isTold_178 : decode cX10_isTold 178 = .ok (.aload_n 0, 1) := by decide +kernel
theorem dX10_isTold_179 : decode cX10_isTold 179 = .ok (.getfield 7, 3) := by decide +kernel
theorem dX10_isTold_182 : decode cX10_isTold 182 = .ok (.iconst 0, 1) := by decide +kernel
theorem dX10_isTold_183 : decode cX10_isTold 183 = .ok (.iaload, 1) := by decide +kernel
theorem dX10_isTold_184 : decode cX10_isTold 184 = .ok (.iload 5, 2) := by decide +kernel
theorem dX10_isTold_186 : decode cX10_isTold 186 = .ok (.iconst 1, 1) := by decide +kernel
theorem dX10_isTold_187 : decode cX10_isTold 187 = .ok (.isub, 1) := by decide +kernel
theorem dX10_isTold_188 : decode cX10_isTold 188 = .ok (.ishr, 1) := by decide +kernel
theorem dX10_isTold_189 : decode cX10_isTold 189 = .ok (.iconst 1, 1) := by decide +kernel
theorem dX10_isTold_190 : decode cX10_isTold 190 = .ok (.iand, 1) := by decide +kernel
theorem dX10_isTold_191 : decode cX10_isTold 191 = .ok (.iconst 1, 1) := by decide +kernel
theorem dX10_isTold_192 : decode cX10_isTold 192 = .ok (.if_icmp .ne 7, 3) := by decide +kernel
theorem dX10_isTold_195 : decode cX10_isTold 195 = .ok (.iconst 1, 1) := by decide +kernel
theorem dX10_isTold_196 : decode cX10_isTold 196 = .ok (.goto 4, 3) := by decide +kernel
theorem dX10_isTold_199 : decode cX10_isTold 199 = .ok (.iconst 0, 1) := by decide +kernel
theorem dX10_isTold_200 : decode cX10_isTold 200 = .ok (.istore 6, 2) := by decide +kernel
theorem dX10_isTold_202 : decode cX10_isTold 202 = .ok (.aload_n 0, 1) := by decide +kernel
theorem dX10_isTold_203 : decode cX10_isTold 203 = .ok (.iload_n 3, 1) := by decide +kernel
theorem dX10_isTold_204 : decode cX10_isTold 204 = .ok (.iload 6, 2) := by decide +kernel
theorem dX10_isTold_206 : decode cX10_isTold 206 = .ok (.bipush 100, 2) := by decide +kernel
theorem dX10_isTold_208 : decode cX10_isTold 208 = .ok (.aload_n 0, 1) := by decide +kernel
theorem dX10_isTold_209 : decode cX10_isTold 209 = .ok (.getfield 76, 3) := by decide +kernel
theorem dX10_isTold_212 : decode cX10_isTold 212 = .ok (.bipush 40, 2) := by decide +kernel
theorem dX10_isTold_214 : decode cX10_isTold 214 = .ok (.iconst 2, 1) := by decide +kernel
theorem dX10_isTold_215 : decode cX10_isTold 215 = .ok (.iload 4, 2) := by decide +kernel
theorem dX10_isTold_217 : decode cX10_isTold 217 = .ok (.imul, 1) := by decide +kernel
theorem dX10_isTold_218 : decode cX10_isTold 218 = .ok (.iadd, 1) := by decide +kernel
theorem dX10_isTold_219 : decode cX10_isTold 219 = .ok (.iaload, 1) := by decide +kernel
theorem dX10_isTold_220 : decode cX10_isTold 220 = .ok (.imul, 1) := by decide +kernel
theorem dX10_isTold_221 : decode cX10_isTold 221 = .ok (.bipush 100, 2) := by decide +kernel
theorem dX10_isTold_223 : decode cX10_isTold 223 = .ok (.aload_n 0, 1) := by decide +kernel
theorem dX10_isTold_224 : decode cX10_isTold 224 = .ok (.getfield 76, 3) := by decide +kernel
theorem dX10_isTold_227 : decode cX10_isTold 227 = .ok (.bipush 41, 2) := by decide +kernel
theorem dX10_isTold_229 : decode cX10_isTold 229 = .ok (.iconst 2, 1) := by decide +kernel
theorem dX10_isTold_230 : decode cX10_isTold 230 = .ok (.iload 4, 2) := by decide +kernel
theorem dX10_isTold_232 : decode cX10_isTold 232 = .ok (.imul, 1) := by decide +kernel
theorem dX10_isTold_233 : decode cX10_isTold 233 = .ok (.iadd, 1) := by decide +kernel
theorem dX10_isTold_234 : decode cX10_isTold 234 = .ok (.iaload, 1) := by decide +kernel
theorem dX10_isTold_235 : decode cX10_isTold 235 = .ok (.imul, 1) := by decide +kernel
theorem dX10_isTold_236 : decode cX10_isTold 236 = .ok (.invokevirtual 537, 3) := by decide +kernel
theorem dX10_isTold_239 : decode cX10_isTold 239 = .ok (.ifCond .ne 5, 3) := by decide +kernel
theorem dX10_isTold_242 : decode cX10_isTold 242 = .ok (.iconst 0, 1) := by decide +kernel
theorem dX10_isTold_243 : decode cX10_isTold 243 = .ok (.ireturn, 1) := by decide +kernel
theorem dX10_isTold_244 : decode cX10_isTold 244 = .ok (.iinc 3 8, 3) := by decide +kernel
theorem dX10_isTold_247 : decode cX10_isTold 247 = .ok (.iinc 4 1, 3) := by decide +kernel
theorem dX10_isTold_250 : decode cX10_isTold 250 = .ok (.goto (-98), 3) := by decide +kernel
theorem dX10_isTold_253 : decode cX10_isTold 253 = .ok (.iconst 0, 1) := by decide +kernel
theorem dX10_isTold_254 : decode cX10_isTold 254 = .ok (.istore 4, 2) := by decide +kernel
theorem dX10_isTold_256 : decode cX10_isTold 256 = .ok (.iload 4, 2) := by decide +kernel
theorem dX10_isTold_258 : decode cX10_isTold 258 = .ok (.iload_n 2, 1) := by decide +kernel
theorem dX10_isTold_259 : decode cX10_isTold 259 = .ok (.if_icmp .ge 38, 3) := by decide +kernel
theorem dX10_isTold_262 : decode cX10_isTold 262 = .ok (.aload_n 0, 1) := by decide +kernel
theorem dX10_isTold_263 : decode cX10_isTold 263 = .ok (.iload_n 3, 1) := by decide +kernel
theorem dX10_isTold_264 : decode cX10_isTold 264 = .ok (.aload_n 0, 1) := by decide +kernel
theorem dX10_isTold_265 : decode cX10_isTold 265 = .ok (.iload 4, 2) := by decide +kernel
theorem dX10_isTold_267 : decode cX10_isTold 267 = .ok (.invokevirtual 368, 3) := by decide +kernel
theorem dX10_isTold_270 : decode cX10_isTold 270 = .ok (.ifCond .ne 7, 3) := by decide +kernel
theorem dX10_isTold_273 : decode cX10_isTold 273 = .ok (.iconst 1, 1) := by decide +kernel
theorem dX10_isTold_274 : decode cX10_isTold 274 = .ok (.goto 4, 3) := by decide +kernel
theorem dX10_isTold_277 : decode cX10_isTold 277 = .ok (.iconst 0, 1) := by decide +kernel
theorem dX10_isTold_278 : decode cX10_isTold 278 = .ok (.iconst 0, 1) := by decide +kernel
theorem dX10_isTold_279 : decode cX10_isTold 279 = .ok (.iconst 0, 1) := by decide +kernel
theorem dX10_isTold_280 : decode cX10_isTold 280 = .ok (.invokevirtual 537, 3) := by decide +kernel
theorem dX10_isTold_283 : decode cX10_isTold 283 = .ok (.ifCond .ne 5, 3) := by decide +kernel
theorem dX10_isTold_286 : decode cX10_isTold 286 = .ok (.iconst 0, 1) := by decide +kernel
theorem dX10_isTold_287 : decode cX10_isTold 287 = .ok (.ireturn, 1) := by decide +kernel
theorem dX10_isTold_288 : decode cX10_isTold 288 = .ok (.iinc 3 8, 3) := by decide +kernel
theorem dX10_isTold_291 : decode cX10_isTold 291 = .ok (.iinc 4 1, 3) := by decide +kernel
theorem dX10_isTold_294 : decode cX10_isTold 294 = .ok (.goto (-38), 3) := by decide +kernel
theorem dX10_isTold_297 : decode cX10_isTold 297 = .ok (.iconst 0, 1) := by decide +kernel
theorem dX10_isTold_298 : decode cX10_isTold 298 = .ok (.istore 4, 2) := by decide +kernel
theorem dX10_isTold_300 : decode cX10_isTold 300 = .ok (.iload 4, 2) := by decide +kernel
theorem dX10_isTold_302 : decode cX10_isTold 302 = .ok (.aload_n 0, 1) := by decide +kernel
theorem dX10_isTold_303 : decode cX10_isTold 303 = .ok (.invokevirtual 265, 3) := by decide +kernel
theorem dX10_isTold_306 : decode cX10_isTold 306 = .ok (.if_icmp .ge 24, 3) := by decide +kernel
theorem dX10_isTold_309 : decode cX10_isTold 309 = .ok (.aload_n 0, 1) := by decide +kernel
theorem dX10_isTold_310 : decode cX10_isTold 310 = .ok (.getfield 7, 3) := by decide +kernel
theorem dX10_isTold_313 : decode cX10_isTold 313 = .ok (.iload_n 3, 1) := by decide +kernel
theorem dX10_isTold_314 : decode cX10_isTold 314 = .ok (.iload 4, 2) := by decide +kernel
theorem dX10_isTold_316 : decode cX10_isTold 316 = .ok (.iadd, 1) := by decide +kernel
theorem dX10_isTold_317 : decode cX10_isTold 317 = .ok (.iaload, 1) := by decide +kernel
theorem dX10_isTold_318 : decode cX10_isTold 318 = .ok (.iconst 1, 1) := by decide +kernel
theorem dX10_isTold_319 : decode cX10_isTold 319 = .ok (.if_icmp .le 5, 3) := by decide +kernel
theorem dX10_isTold_322 : decode cX10_isTold 322 = .ok (.iconst 0, 1) := by decide +kernel
theorem dX10_isTold_323 : decode cX10_isTold 323 = .ok (.ireturn, 1) := by decide +kernel
theorem dX10_isTold_324 : decode cX10_isTold 324 = .ok (.iinc 4 1, 3) := by decide +kernel
theorem dX10_isTold_327 : decode cX10_isTold 327 = .ok (.goto (-27), 3) := by decide +kernel
theorem dX10_isTold_330 : decode cX10_isTold 330 = .ok (.iconst 1, 1) := by decide +kernel
theorem dX10_isTold_331 : decode cX10_isTold 331 = .ok (.ireturn, 1) := by decide +kernel
set_option maxRecDepth 20000 in
theorem ggX10_tells_X10_fourAt : GoodIn wsX10_tells wsX10_fourAt := goodIn_r _ [6, 7, 8, 9, 10, 11, 12, 13, 14, 15, 16, 17, 18, 19, 20, 21, 22, 23, 24, 25, 26, 27, 28, 29, 30, 31, 32, 33, 34, 35, 36, 37, 38, 39, 40, 41, 42, 43, 44, 45, 46, 47, 48, 49, 50, 51, 52, 53, 54, 55, 56, 57, 58, 59, 60, 61, 62, 63, 64] (by decide +kernel) (by decide +kernel)
set_option maxRecDepth 20000 in
theorem gX10_tells_X10_fourAt : GoodIn wsX10_tells (wsV RX10 530 RX10 yX10_fourAt wsX10_fourAt) := goodIn_app (goodIn_of _ (by decide +kernel)) ggX10_tells_X10_fourAt
theorem dX10_tells_0 : decode cX10_tells 0 = .ok (.aload_n 0, 1) := by decide +kernel
theorem dX10_tells_1 : decode cX10_tells 1 = .ok (.getfield 101, 3) := by decide +kernel
theorem dX10_tells_4 : decode cX10_tells 4 = .ok (.iload_n 2, 1) := by decide +kernel
theorem dX10_tells_5 : decode cX10_tells 5 = .ok (.aload_n 0, 1) := by decide +kernel
theorem dX10_tells_6 : decode cX10_tells 6 = .ok (.iload_n 1, 1) := by decide +kernel
theorem dX10_tells_7 : decode cX10_tells 7 = .ok (.invokevirtual 530, 3) := by decide +kernel
theorem dX10_tells_10 : decode cX10_tells 10 = .ok (.iastore, 1) := by decide +kernel
theorem dX10_tells_11 : decode cX10_tells 11 = .ok (.aload_n 0, 1) := by decide +kernel
theorem dX10_tells_12 : decode cX10_tells 12 = .ok (.getfield 101, 3) := by decide +kernel
theorem dX10_tells_15 : decode cX10_tells 15 = .ok (.bipush 38, 2) := by decide +kernel
theorem dX10_tells_17 : decode cX10_tells 17 = .ok (.iload_n 2, 1) := by decide +kernel
theorem dX10_tells_18 : decode cX10_tells 18 = .ok (.iadd, 1) := by decide +kernel
theorem dX10_tells_19 : decode cX10_tells 19 = .ok (.aload_n 0, 1) := by decide +kernel
theorem dX10_tells_20 : decode cX10_tells 20 = .ok (.iload_n 1, 1) := by decide +kernel
theorem dX10_tells_21 : decode cX10_tells 21 = .ok (.iconst 4, 1) := by decide +kernel
theorem dX10_tells_22 : decode cX10_tells 22 = .ok (.iadd, 1) := by decide +kernel
theorem dX10_tells_23 : decode cX10_tells 23 = .ok (.invokevirtual 530, 3) := by decide +kernel
theorem dX10_tells_26 : decode cX10_tells 26 = .ok (.iastore, 1) := by decide +kernel
theorem dX10_tells_27 : decode cX10_tells 27 = .ok (.iload_n 1, 1) := by decide +kernel
theorem dX10_tells_28 : decode cX10_tells 28 = .ok (.bipush 8, 2) := by decide +kernel
theorem dX10_tells_30 : decode cX10_tells 30 = .ok (.iadd, 1) := by decide +kernel
theorem dX10_tells_31 : decode cX10_tells 31 = .ok (.ireturn, 1) := by decide +kernel
set_option maxRecDepth 20000 in
theorem ggX10_on_X10_isTold : GoodIn wsX10_on wsX10_isTold := goodIn_r _ [11, 5, 2, 12, 13, 14, 15, 16, 17, 10, 18, 19, 20, 21, 22, 23, 24, 25, 26, 27, 28, 29, 30, 31, 32, 33, 34, 35, 36, 37, 38, 39, 40, 41, 42, 43, 44, 45, 46, 47, 48, 49, 50, 51, 52, 53, 54, 55, 56, 62, 63, 64, 65, 66, 67, 68, 69, 70, 71, 72, 73, 74, 75, 76, 77, 78, 79, 80, 81, 82, 83, 84, 85, 86, 87, 88, 89, 90, 91, 92, 93, 94, 95, 96, 97, 98, 99, 100, 101, 102, 103, 104, 105, 106, 107, 108, 109, 110, 111, 112, 113, 114, 115, 116, 117, 118] (by decide +kernel) (by decide +kernel)
set_option maxRecDepth 20000 in
theorem gX10_on_X10_isTold : GoodIn wsX10_on (wsV RX10 541 RX10 yX10_isTold wsX10_isTold) := goodIn_app (goodIn_of _ (by decide +kernel)) ggX10_on_X10_isTold
set_option maxRecDepth 20000 in
theorem ggX10_on_X10_pictures : GoodIn wsX10_on wsX10_pictures := goodIn_r _ [18, 5, 62, 63, 64, 65, 66, 67, 68, 69, 70, 71, 72, 73, 74, 75, 76, 77, 78, 79, 80, 81, 82, 83, 84, 85, 86, 87, 88, 89, 90, 91, 92, 93, 94, 95, 96, 97, 98, 99, 100, 101, 102, 103, 104, 105, 106, 107, 108, 109, 110, 111, 112, 113, 114, 115, 116, 117, 118] (by decide +kernel) (by decide +kernel)
set_option maxRecDepth 20000 in
theorem gX10_on_X10_pictures : GoodIn wsX10_on (wsV RX10 259 RX10 yX10_pictures wsX10_pictures) := goodIn_app (goodIn_of _ (by decide +kernel)) ggX10_on_X10_pictures
set_option maxRecDepth 20000 in
theorem ggX10_on_X10_tells : GoodIn wsX10_on wsX10_tells := goodIn_r _ [60, 61, 36, 37, 38, 10, 39, 2, 62, 63, 64, 65, 66, 67, 68, 69, 70, 71, 72, 73, 74, 75, 76, 77, 78, 79, 80, 81, 82, 83, 84, 85, 86, 87, 88, 89, 90, 91, 92, 93, 94, 95, 96, 97, 98, 99, 100, 101, 102, 103, 104, 105, 106, 107, 108, 109, 110, 111, 112, 113, 114, 115, 116, 117, 118] (by decide +kernel) (by decide +kernel)
set_option maxRecDepth 20000 in
theorem gX10_on_X10_tells : GoodIn wsX10_on (wsV RX10 544 RX10 yX10_tells wsX10_tells) := goodIn_app (goodIn_of _ (by decide +kernel)) ggX10_on_X10_tells
set_option maxRecDepth 20000 in
theorem ggX10_on_X10_points : GoodIn wsX10_on wsX10_points := goodIn_r _ [22, 5, 62, 63, 64, 65, 66, 67, 68, 69, 70, 71, 72, 73, 74, 75, 76, 77, 78, 79, 80, 81, 82, 83, 84, 85, 86, 87, 88, 89, 90, 91, 92, 93, 94, 95, 96, 97, 98, 99, 100, 101, 102, 103, 104, 105, 106, 107, 108, 109, 110, 111, 112, 113, 114, 115, 116, 117, 118] (by decide +kernel) (by decide +kernel)
set_option maxRecDepth 20000 in
theorem gX10_on_X10_points : GoodIn wsX10_on (wsV RX10 262 RX10 yX10_points wsX10_points) := goodIn_app (goodIn_of _ (by decide +kernel)) ggX10_on_X10_points
set_option maxRecDepth 20000 in
theorem ggX10_on_X10_rows : GoodIn wsX10_on wsX10_rows := goodIn_r _ [26, 5, 62, 63, 64, 65, 66, 67, 68, 69, 70, 71, 72, 73, 74, 75, 76, 77, 78, 79, 80, 81, 82, 83, 84, 85, 86, 87, 88, 89, 90, 91, 92, 93, 94, 95, 96, 97, 98, 99, 100, 101, 102, 103, 104, 105, 106, 107, 108, 109, 110, 111, 112, 113, 114, 115, 116, 117, 118] (by decide +kernel) (by decide +kernel)
set_option maxRecDepth 20000 in
theorem gX10_on_X10_rows : GoodIn wsX10_on (wsV RX10 265 RX10 yX10_rows wsX10_rows) := goodIn_app (goodIn_of _ (by decide +kernel)) ggX10_on_X10_rows
theorem dX10_on_0 : decode cX10_on 0 = .ok (.aload_n 0, 1) := by decide +kernel
theorem dX10_on_1 : decode cX10_on 1 = .ok (.getfield 140, 3) := by decide +kernel
theorem dX10_on_4 : decode cX10_on 4 = .ok (.istore_n 1, 1) := by decide +kernel
theorem dX10_on_5 : decode cX10_on 5 = .ok (.aload_n 0, 1) := by decide +kernel
theorem dX10_on_6 : decode cX10_on 6 = .ok (.iconst 0, 1) := by decide +kernel
theorem dX10_on_7 : decode cX10_on 7 = .ok (.putfield 140, 3) := by decide +kernel
theorem dX10_on_10 : decode cX10_on 10 = .ok (.aload_n 0, 1) := by decide +kernel
theorem dX10_on_11 : decode cX10_on 11 = .ok (.iload_n 1, 1) := by decide +kernel
theorem dX10_on_12 : decode cX10_on 12 = .ok (.invokevirtual 541, 3) := by decide +kernel
theorem dX10_on_15 : decode cX10_on 15 = .ok (.ifCond .ne 5, 3) := by decide +kernel
theorem dX10_on_18 : decode cX10_on 18 = .ok (.iconst 0, 1) := by decide +kernel
theorem dX10_on_19 : decode cX10_on 19 = .ok (.ireturn, 1) := by decide +kernel
theorem dX10_on_20 : decode cX10_on 20 = .ok (.aload_n 0, 1) := by decide +kernel
theorem dX10_on_21 : decode cX10_on 21 = .ok (.aload_n 0, 1) := by decide +kernel
theorem dX10_on_22 : decode cX10_on 22 = .ok (.getfield 7, 3) := by decide +kernel
theorem dX10_on_25 : decode cX10_on 25 = .ok (.iconst 0, 1) := by decide +kernel
theorem dX10_on_26 : decode cX10_on 26 = .ok (.iaload, 1) := by decide +kernel
theorem dX10_on_27 : decode cX10_on 27 = .ok (.putfield 95, 3) := by decide +kernel
theorem dX10_on_30 : decode cX10_on 30 = .ok (.iconst 1, 1) := by decide +kernel
theorem dX10_on_31 : decode cX10_on 31 = .ok (.istore_n 2, 1) := by decide +kernel
theorem dX10_on_32 : decode cX10_on 32 = .ok (.iconst 0, 1) := by decide +kernel
theorem dX10_on_33 : decode cX10_on 33 = .ok (.istore_n 3, 1) := by decide +kernel
theorem dX10_on_34 : decode cX10_on 34 = .ok (.iload_n 3, 1) := by decide +kernel
theorem dX10_on_35 : decode cX10_on 35 = .ok (.aload_n 0, 1) := by decide +kernel
theorem dX10_on_36 : decode cX10_on 36 = .ok (.invokevirtual 259, 3) := by decide +kernel
theorem dX10_on_39 : decode cX10_on 39 = .ok (.if_icmp .ge 30, 3) := by decide +kernel
theorem dX10_on_42 : decode cX10_on 42 = .ok (.aload_n 0, 1) := by decide +kernel
theorem dX10_on_43 : decode cX10_on 43 = .ok (.getfield 98, 3) := by decide +kernel
theorem dX10_on_46 : decode cX10_on 46 = .ok (.iload_n 3, 1) := by decide +kernel
theorem dX10_on_47 : decode cX10_on 47 = .ok (.aload_n 0, 1) := by decide +kernel
theorem dX10_on_48 : decode cX10_on 48 = .ok (.getfield 7, 3) := by decide +kernel
theorem dX10_on_51 : decode cX10_on 51 = .ok (.iload_n 2, 1) := by decide +kernel
theorem dX10_on_52 : decode cX10_on 52 = .ok (.iaload, 1) := by decide +kernel
theorem dX10_on_53 : decode cX10_on 53 = .ok (.iastore, 1) := by decide +kernel
theorem dX10_on_54 : decode cX10_on 54 = .ok (.aload_n 0, 1) := by decide +kernel
theorem dX10_on_55 : decode cX10_on 55 = .ok (.iload_n 2, 1) := by decide +kernel
theorem dX10_on_56 : decode cX10_on 56 = .ok (.iconst 1, 1) := by decide +kernel
theorem dX10_on_57 : decode cX10_on 57 = .ok (.iadd, 1) := by decide +kernel
theorem dX10_on_58 : decode cX10_on 58 = .ok (.iload_n 3, 1) := by decide +kernel
theorem dX10_on_59 : decode cX10_on 59 = .ok (.invokevirtual 544, 3) := by decide +kernel
theorem dX10_on_62 : decode cX10_on 62 = .ok (.istore_n 2, 1) := by decide +kernel
theorem dX10_on_63 : decode cX10_on 63 = .ok (.iinc 3 1, 3) := by decide +kernel
theorem dX10_on_66 : decode cX10_on 66 = .ok (.goto (-32), 3) := by decide +kernel
theorem dX10_on_69 : decode cX10_on 69 = .ok (.iconst 0, 1) := by decide +kernel
theorem dX10_on_70 : decode cX10_on 70 = .ok (.istore_n 3, 1) := by decide +kernel
theorem dX10_on_71 : decode cX10_on 71 = .ok (.iload_n 3, 1) := by decide +kernel
theorem dX10_on_72 : decode cX10_on 72 = .ok (.aload_n 0, 1) := by decide +kernel
theorem dX10_on_73 : decode cX10_on 73 = .ok (.invokevirtual 262, 3) := by decide +kernel
theorem dX10_on_76 : decode cX10_on 76 = .ok (.if_icmp .ge 19, 3) := by decide +kernel
theorem dX10_on_79 : decode cX10_on 79 = .ok (.aload_n 0, 1) := by decide +kernel
theorem dX10_on_80 : decode cX10_on 80 = .ok (.iload_n 2, 1) := by decide +kernel
theorem dX10_on_81 : decode cX10_on 81 = .ok (.bipush 12, 2) := by decide +kernel
theorem dX10_on_83 : decode cX10_on 83 = .ok (.iload_n 3, 1) := by decide +kernel
theorem dX10_on_84 : decode cX10_on 84 = .ok (.iadd, 1) := by decide +kernel
theorem dX10_on_85 : decode cX10_on 85 = .ok (.invokevirtual 544, 3) := by decide +kernel
theorem dX10_on_88 : decode cX10_on 88 = .ok (.istore_n 2, 1) := by decide +kernel
theorem dX10_on_89 : decode cX10_on 89 = .ok (.iinc 3 1, 3) := by decide +kernel
theorem dX10_on_92 : decode cX10_on 92 = .ok (.goto (-21), 3) := by decide +kernel
theorem dX10_on_95 : decode cX10_on 95 = .ok (.iconst 0, 1) := by decide +kernel
theorem dX10_on_96 : decode cX10_on 96 = .ok (.istore_n 3, 1) := by decide +kernel
theorem dX10_on_97 : decode cX10_on 97 = .ok (.iload_n 3, 1) := by decide +kernel
theorem dX10_on_98 : decode cX10_on 98 = .ok (.aload_n 0, 1) := by decide +kernel
theorem dX10_on_99 : decode cX10_on 99 = .ok (.getfield 58, 3) := by decide +kernel
theorem dX10_on_102 : decode cX10_on 102 = .ok (.bipush 6, 2) := by decide +kernel
theorem dX10_on_104 : decode cX10_on 104 = .ok (.iaload, 1) := by decide +kernel
theorem dX10_on_105 : decode cX10_on 105 = .ok (.if_icmp .ge 19, 3) := by decide +kernel
theorem dX10_on_108 : decode cX10_on 108 = .ok (.aload_n 0, 1) := by decide +kernel
theorem dX10_on_109 : decode cX10_on 109 = .ok (.iload_n 2, 1) := by decide +kernel
theorem dX10_on_110 : decode cX10_on 110 = .ok (.bipush 32, 2) := by decide +kernel
theorem dX10_on_112 : decode cX10_on 112 = .ok (.iload_n 3, 1) := by decide +kernel
theorem dX10_on_113 : decode cX10_on 113 = .ok (.iadd, 1) := by decide +kernel
theorem dX10_on_114 : decode cX10_on 114 = .ok (.invokevirtual 544, 3) := by decide +kernel
theorem dX10_on_117 : decode cX10_on 117 = .ok (.istore_n 2, 1) := by decide +kernel
theorem dX10_on_118 : decode cX10_on 118 = .ok (.iinc 3 1, 3) := by decide +kernel
theorem dX10_on_121 : decode cX10_on 121 = .ok (.goto (-24), 3) := by decide +kernel
theorem dX10_on_124 : decode cX10_on 124 = .ok (.iconst 0, 1) := by decide +kernel
theorem dX10_on_125 : decode cX10_on 125 = .ok (.istore_n 3, 1) := by decide +kernel
theorem dX10_on_126 : decode cX10_on 126 = .ok (.iload_n 3, 1) := by decide +kernel
theorem dX10_on_127 : decode cX10_on 127 = .ok (.aload_n 0, 1) := by decide +kernel
theorem dX10_on_128 : decode cX10_on 128 = .ok (.invokevirtual 265, 3) := by decide +kernel
theorem dX10_on_131 : decode cX10_on 131 = .ok (.if_icmp .ge 32, 3) := by decide +kernel
theorem dX10_on_134 : decode cX10_on 134 = .ok (.aload_n 0, 1) := by decide +kernel
theorem dX10_on_135 : decode cX10_on 135 = .ok (.getfield 91, 3) := by decide +kernel
theorem dX10_on_138 : decode cX10_on 138 = .ok (.iload_n 3, 1) := by decide +kernel
theorem dX10_on_139 : decode cX10_on 139 = .ok (.aload_n 0, 1) := by decide +kernel
theorem dX10_on_140 : decode cX10_on 140 = .ok (.getfield 7, 3) := by decide +kernel
theorem dX10_on_143 : decode cX10_on 143 = .ok (.iload_n 2, 1) := by decide +kernel
theorem dX10_on_144 : decode cX10_on 144 = .ok (.iload_n 3, 1) := by decide +kernel
theorem dX10_on_145 : decode cX10_on 145 = .ok (.iadd, 1) := by decide +kernel
theorem dX10_on_146 : decode cX10_on 146 = .ok (.iaload, 1) := by decide +kernel
theorem dX10_on_147 : decode cX10_on 147 = .ok (.iconst 1, 1) := by decide +kernel
theorem dX10_on_148 : decode cX10_on 148 = .ok (.if_icmp .ne 7, 3) := by decide +kernel
theorem dX10_on_151 : decode cX10_on 151 = .ok (.iconst 1, 1) := by decide +kernel
theorem dX10_on_152 : decode cX10_on 152 = .ok (.goto 4, 3) := by decide +kernel
theorem dX10_on_155 : decode cX10_on 155 = .ok (.iconst 0, 1) := by decide +kernel
theorem dX10_on_156 : decode cX10_on 156 = .ok (.bastore, 1) := by decide +kernel
theorem dX10_on_157 : decode cX10_on 157 = .ok (.iinc 3 1, 3) := by decide +kernel
theorem dX10_on_160 : decode cX10_on 160 = .ok (.goto (-34), 3) := by decide +kernel
theorem dX10_on_163 : decode cX10_on 163 = .ok (.iconst 1, 1) := by decide +kernel
theorem dX10_on_164 : decode cX10_on 164 = .ok (.ireturn, 1) := by decide +kernel
theorem dJ9_floorDiv_f86c9_0 : decode cJ9_floorDiv_f86c9 0 = .ok (.lload_n 0, 1) := by decide +kernel
theorem dJ9_floorDiv_f86c9_1 : decode cJ9_floorDiv_f86c9 1 = .ok (.lload_n 2, 1) := by decide +kernel
theorem dJ9_floorDiv_f86c9_2 : decode cJ9_floorDiv_f86c9 2 = .ok (.ldiv, 1) := by decide +kernel
theorem dJ9_floorDiv_f86c9_3 : decode cJ9_floorDiv_f86c9 3 = .ok (.lstore 4, 2) := by decide +kernel
theorem dJ9_floorDiv_f86c9_5 : decode cJ9_floorDiv_f86c9 5 = .ok (.lload_n 0, 1) := by decide +kernel
theorem dJ9_floorDiv_f86c9_6 : decode cJ9_floorDiv_f86c9 6 = .ok (.lload_n 2, 1) := by decide +kernel
theorem dJ9_floorDiv_f86c9_7 : decode cJ9_floorDiv_f86c9 7 = .ok (.lxor, 1) := by decide +kernel
theorem dJ9_floorDiv_f86c9_8 : decode cJ9_floorDiv_f86c9 8 = .ok (.lconst 0, 1) := by decide +kernel
theorem dJ9_floorDiv_f86c9_9 : decode cJ9_floorDiv_f86c9 9 = .ok (.lcmp, 1) := by decide +kernel
theorem dJ9_floorDiv_f86c9_10 : decode cJ9_floorDiv_f86c9 10 = .ok (.ifCond .ge 17, 3) := by decide +kernel
theorem dJ9_floorDiv_f86c9_13 : decode cJ9_floorDiv_f86c9 13 = .ok (.lload 4, 2) := by decide +kernel
theorem dJ9_floorDiv_f86c9_15 : decode cJ9_floorDiv_f86c9 15 = .ok (.lload_n 2, 1) := by decide +kernel
theorem dJ9_floorDiv_f86c9_16 : decode cJ9_floorDiv_f86c9 16 = .ok (.lmul, 1) := by decide +kernel
theorem dJ9_floorDiv_f86c9_17 : decode cJ9_floorDiv_f86c9 17 = .ok (.lload_n 0, 1) := by decide +kernel
theorem dJ9_floorDiv_f86c9_18 : decode cJ9_floorDiv_f86c9 18 = .ok (.lcmp, 1) := by decide +kernel
theorem dJ9_floorDiv_f86c9_19 : decode cJ9_floorDiv_f86c9 19 = .ok (.ifCond .eq 8, 3) := by decide +kernel
theorem dJ9_floorDiv_f86c9_22 : decode cJ9_floorDiv_f86c9 22 = .ok (.lload 4, 2) := by decide +kernel
theorem dJ9_floorDiv_f86c9_24 : decode cJ9_floorDiv_f86c9 24 = .ok (.lconst 1, 1) := by decide +kernel
theorem dJ9_floorDiv_f86c9_25 : decode cJ9_floorDiv_f86c9 25 = .ok (.lsub, 1) := by decide +kernel
theorem dJ9_floorDiv_f86c9_26 : decode cJ9_floorDiv_f86c9 26 = .ok (.lreturn, 1) := by decide +kernel
theorem dJ9_floorDiv_f86c9_27 : decode cJ9_floorDiv_f86c9 27 = .ok (.lload 4, 2) := by decide +kernel
theorem dJ9_floorDiv_f86c9_29 : decode cJ9_floorDiv_f86c9 29 = .ok (.lreturn, 1) := by decide +kernel
theorem dJ9_floorMod_f86c9_0 : decode cJ9_floorMod_f86c9 0 = .ok (.lload_n 0, 1) := by decide +kernel
theorem dJ9_floorMod_f86c9_1 : decode cJ9_floorMod_f86c9 1 = .ok (.lload_n 2, 1) := by decide +kernel
theorem dJ9_floorMod_f86c9_2 : decode cJ9_floorMod_f86c9 2 = .ok (.lrem, 1) := by decide +kernel
theorem dJ9_floorMod_f86c9_3 : decode cJ9_floorMod_f86c9 3 = .ok (.lstore 4, 2) := by decide +kernel
theorem dJ9_floorMod_f86c9_5 : decode cJ9_floorMod_f86c9 5 = .ok (.lload_n 0, 1) := by decide +kernel
theorem dJ9_floorMod_f86c9_6 : decode cJ9_floorMod_f86c9 6 = .ok (.lload_n 2, 1) := by decide +kernel
theorem dJ9_floorMod_f86c9_7 : decode cJ9_floorMod_f86c9 7 = .ok (.lxor, 1) := by decide +kernel
theorem dJ9_floorMod_f86c9_8 : decode cJ9_floorMod_f86c9 8 = .ok (.lconst 0, 1) := by decide +kernel
theorem dJ9_floorMod_f86c9_9 : decode cJ9_floorMod_f86c9 9 = .ok (.lcmp, 1) := by decide +kernel
theorem dJ9_floorMod_f86c9_10 : decode cJ9_floorMod_f86c9 10 = .ok (.ifCond .ge 15, 3) := by decide +kernel
theorem dJ9_floorMod_f86c9_13 : decode cJ9_floorMod_f86c9 13 = .ok (.lload 4, 2) := by decide +kernel
theorem dJ9_floorMod_f86c9_15 : decode cJ9_floorMod_f86c9 15 = .ok (.lconst 0, 1) := by decide +kernel
theorem dJ9_floorMod_f86c9_16 : decode cJ9_floorMod_f86c9 16 = .ok (.lcmp, 1) := by decide +kernel
theorem dJ9_floorMod_f86c9_17 : decode cJ9_floorMod_f86c9 17 = .ok (.ifCond .eq 8, 3) := by decide +kernel
theorem dJ9_floorMod_f86c9_20 : decode cJ9_floorMod_f86c9 20 = .ok (.lload 4, 2) := by decide +kernel
theorem dJ9_floorMod_f86c9_22 : decode cJ9_floorMod_f86c9 22 = .ok (.lload_n 2, 1) := by decide +kernel
theorem dJ9_floorMod_f86c9_23 : decode cJ9_floorMod_f86c9 23 = .ok (.ladd, 1) := by decide +kernel
theorem dJ9_floorMod_f86c9_24 : decode cJ9_floorMod_f86c9 24 = .ok (.lreturn, 1) := by decide +kernel
theorem dJ9_floorMod_f86c9_25 : decode cJ9_floorMod_f86c9 25 = .ok (.lload 4, 2) := by decide +kernel
theorem dJ9_floorMod_f86c9_27 : decode cJ9_floorMod_f86c9 27 = .ok (.lreturn, 1) := by decide +kernel
theorem dJ9_abs_0f7a4_0 : decode cJ9_abs_0f7a4 0 = .ok (.iload_n 0, 1) := by decide +kernel
theorem dJ9_abs_0f7a4_1 : decode cJ9_abs_0f7a4 1 = .ok (.ifCond .ge 8, 3) := by decide +kernel
theorem dJ9_abs_0f7a4_4 : decode cJ9_abs_0f7a4 4 = .ok (.iload_n 0, 1) := by decide +kernel
theorem dJ9_abs_0f7a4_5 : decode cJ9_abs_0f7a4 5 = .ok (.ineg, 1) := by decide +kernel
theorem dJ9_abs_0f7a4_6 : decode cJ9_abs_0f7a4 6 = .ok (.goto 4, 3) := by decide +kernel
theorem dJ9_abs_0f7a4_9 : decode cJ9_abs_0f7a4 9 = .ok (.iload_n 0, 1) := by decide +kernel
theorem dJ9_abs_0f7a4_10 : decode cJ9_abs_0f7a4 10 = .ok (.ireturn, 1) := by decide +kernel
theorem dJ9_max_7cf53_0 : decode cJ9_max_7cf53 0 = .ok (.iload_n 0, 1) := by decide +kernel
theorem dJ9_max_7cf53_1 : decode cJ9_max_7cf53 1 = .ok (.iload_n 1, 1) := by decide +kernel
theorem dJ9_max_7cf53_2 : decode cJ9_max_7cf53 2 = .ok (.if_icmp .lt 7, 3) := by decide +kernel
theorem dJ9_max_7cf53_5 : decode cJ9_max_7cf53 5 = .ok (.iload_n 0, 1) := by decide +kernel
theorem dJ9_max_7cf53_6 : decode cJ9_max_7cf53 6 = .ok (.goto 4, 3) := by decide +kernel
theorem dJ9_max_7cf53_9 : decode cJ9_max_7cf53 9 = .ok (.iload_n 1, 1) := by decide +kernel
theorem dJ9_max_7cf53_10 : decode cJ9_max_7cf53 10 = .ok (.ireturn, 1) := by decide +kernel
theorem dJ9_min_7cf53_0 : decode cJ9_min_7cf53 0 = .ok (.iload_n 0, 1) := by decide +kernel
theorem dJ9_min_7cf53_1 : decode cJ9_min_7cf53 1 = .ok (.iload_n 1, 1) := by decide +kernel
theorem dJ9_min_7cf53_2 : decode cJ9_min_7cf53 2 = .ok (.if_icmp .gt 7, 3) := by decide +kernel
theorem dJ9_min_7cf53_5 : decode cJ9_min_7cf53 5 = .ok (.iload_n 0, 1) := by decide +kernel
theorem dJ9_min_7cf53_6 : decode cJ9_min_7cf53 6 = .ok (.goto 4, 3) := by decide +kernel
theorem dJ9_min_7cf53_9 : decode cJ9_min_7cf53 9 = .ok (.iload_n 1, 1) := by decide +kernel
theorem dJ9_min_7cf53_10 : decode cJ9_min_7cf53 10 = .ok (.ireturn, 1) := by decide +kernel
set_option maxRecDepth 20000 in
theorem ggJ0_length_8abf5_J0_coder_7d493 : GoodIn wsJ0_length_8abf5 wsJ0_coder_7d493 := goodIn_r _ [6, 7, 8] (by decide +kernel) (by decide +kernel)
set_option maxRecDepth 20000 in
theorem gJ0_length_8abf5_J0_coder_7d493 : GoodIn wsJ0_length_8abf5 (wsV RJ0 335 RJ0 yJ0_coder_7d493 wsJ0_coder_7d493) := goodIn_app (goodIn_of _ (by decide +kernel)) ggJ0_length_8abf5_J0_coder_7d493
theorem dJ0_length_8abf5_0 : decode cJ0_length_8abf5 0 = .ok (.aload_n 0, 1) := by decide +kernel
theorem dJ0_length_8abf5_1 : decode cJ0_length_8abf5 1 = .ok (.getfield 9, 3) := by decide +kernel
theorem dJ0_length_8abf5_4 : decode cJ0_length_8abf5 4 = .ok (.arraylength, 1) := by decide +kernel
theorem dJ0_length_8abf5_5 : decode cJ0_length_8abf5 5 = .ok (.aload_n 0, 1) := by decide +kernel
theorem dJ0_length_8abf5_6 : decode cJ0_length_8abf5 6 = .ok (.invokevirtual 335, 3) := by decide +kernel
theorem dJ0_length_8abf5_9 : decode cJ0_length_8abf5 9 = .ok (.ishr, 1) := by decide +kernel
theorem dJ0_length_8abf5_10 : decode cJ0_length_8abf5 10 = .ok (.ireturn, 1) := by decide +kernel
set_option maxRecDepth 20000 in
theorem ggJ0_charAt_5068e_J0_isLatin1_aae02 : GoodIn wsJ0_charAt_5068e wsJ0_isLatin1_aae02 := goodIn_r _ [6, 7, 8] (by decide +kernel) (by decide +kernel)
set_option maxRecDepth 20000 in
theorem gJ0_charAt_5068e_J0_isLatin1_aae02 : GoodIn wsJ0_charAt_5068e (wsV RJ0 492 RJ0 yJ0_isLatin1_aae02 wsJ0_isLatin1_aae02) := goodIn_app (goodIn_of _ (by decide +kernel)) ggJ0_charAt_5068e_J0_isLatin1_aae02
set_option maxRecDepth 20000 in
theorem ggJ0_charAt_5068e_J1_charAt_3b067 : GoodIn wsJ0_charAt_5068e wsJ1_charAt_3b067 := goodIn_r _ [12, 13, 14, 5, 15, 16, 17, 18, 19, 20] (by decide +kernel) (by decide +kernel)
set_option maxRecDepth 20000 in
theorem gJ0_charAt_5068e_J1_charAt_3b067 : GoodIn wsJ0_charAt_5068e (va_wsS RJ0 495 yJ1_charAt_3b067 wsJ1_charAt_3b067) := goodIn_app (goodIn_of _ (by decide +kernel)) ggJ0_charAt_5068e_J1_charAt_3b067
set_option maxRecDepth 20000 in
theorem ggJ0_charAt_5068e_J2_charAt_3b067 : GoodIn wsJ0_charAt_5068e wsJ2_charAt_3b067 := goodIn_r _ [24, 25, 26, 23, 27, 28, 29, 30, 31, 14, 5, 15, 16, 17, 18, 19, 20, 32, 33, 34, 35, 36, 37] (by decide +kernel) (by decide +kernel)
set_option maxRecDepth 20000 in
theorem gJ0_charAt_5068e_J2_charAt_3b067 : GoodIn wsJ0_charAt_5068e (va_wsS RJ0 498 yJ2_charAt_3b067 wsJ2_charAt_3b067) := goodIn_app (goodIn_of _ (by decide +kernel)) ggJ0_charAt_5068e_J2_charAt_3b067
theorem dJ0_charAt_5068e_0 : decode cJ0_charAt_5068e 0 = .ok (.aload_n 0, 1) := by decide +kernel
theorem dJ0_charAt_5068e_1 : decode cJ0_charAt_5068e 1 = .ok (.invokevirtual 492, 3) := by decide +kernel
theorem dJ0_charAt_5068e_4 : decode cJ0_charAt_5068e 4 = .ok (.ifCond .eq 12, 3) := by decide +kernel
theorem dJ0_charAt_5068e_7 : decode cJ0_charAt_5068e 7 = .ok (.aload_n 0, 1) := by decide +kernel
theorem dJ0_charAt_5068e_8 : decode cJ0_charAt_5068e 8 = .ok (.getfield 9, 3) := by decide +kernel
theorem dJ0_charAt_5068e_11 : decode cJ0_charAt_5068e 11 = .ok (.iload_n 1, 1) := by decide +kernel
theorem dJ0_charAt_5068e_12 : decode cJ0_charAt_5068e 12 = .ok (.invokestatic 495, 3) := by decide +kernel
theorem dJ0_charAt_5068e_15 : decode cJ0_charAt_5068e 15 = .ok (.ireturn, 1) := by decide +kernel
theorem dJ0_charAt_5068e_16 : decode cJ0_charAt_5068e 16 = .ok (.aload_n 0, 1) := by decide +kernel
theorem dJ0_charAt_5068e_17 : decode cJ0_charAt_5068e 17 = .ok (.getfield 9, 3) := by decide +kernel
theorem dJ0_charAt_5068e_20 : decode cJ0_charAt_5068e 20 = .ok (.iload_n 1, 1) := by decide +kernel
theorem dJ0_charAt_5068e_21 : decode cJ0_charAt_5068e 21 = .ok (.invokestatic 498, 3) := by decide +kernel
theorem dJ0_charAt_5068e_24 : decode cJ0_charAt_5068e 24 = .ok (.ireturn, 1) := by decide +kernel
theorem dJ0_coder_7d493_0 : decode cJ0_coder_7d493 0 = .ok (.getstatic 38, 3) := by decide +kernel
theorem dJ0_coder_7d493_3 : decode cJ0_coder_7d493 3 = .ok (.ifCond .eq 10, 3) := by decide +kernel
theorem dJ0_coder_7d493_6 : decode cJ0_coder_7d493 6 = .ok (.aload_n 0, 1) := by decide +kernel
theorem dJ0_coder_7d493_7 : decode cJ0_coder_7d493 7 = .ok (.getfield 15, 3) := by decide +kernel
theorem dJ0_coder_7d493_10 : decode cJ0_coder_7d493 10 = .ok (.goto 4, 3) := by decide +kernel
theorem dJ0_coder_7d493_13 : decode cJ0_coder_7d493 13 = .ok (.iconst 1, 1) := by decide +kernel
theorem dJ0_coder_7d493_14 : decode cJ0_coder_7d493 14 = .ok (.ireturn, 1) := by decide +kernel
theorem dJ0_isLatin1_aae02_0 : decode cJ0_isLatin1_aae02 0 = .ok (.getstatic 38, 3) := by decide +kernel
theorem dJ0_isLatin1_aae02_3 : decode cJ0_isLatin1_aae02 3 = .ok (.ifCond .eq 14, 3) := by decide +kernel
theorem dJ0_isLatin1_aae02_6 : decode cJ0_isLatin1_aae02 6 = .ok (.aload_n 0, 1) := by decide +kernel
theorem dJ0_isLatin1_aae02_7 : decode cJ0_isLatin1_aae02 7 = .ok (.getfield 15, 3) := by decide +kernel
theorem dJ0_isLatin1_aae02_10 : decode cJ0_isLatin1_aae02 10 = .ok (.ifCond .ne 7, 3) := by decide +kernel
theorem dJ0_isLatin1_aae02_13 : decode cJ0_isLatin1_aae02 13 = .ok (.iconst 1, 1) := by decide +kernel
theorem dJ0_isLatin1_aae02_14 : decode cJ0_isLatin1_aae02 14 = .ok (.goto 4, 3) := by decide +kernel
theorem dJ0_isLatin1_aae02_17 : decode cJ0_isLatin1_aae02 17 = .ok (.iconst 0, 1) := by decide +kernel
theorem dJ0_isLatin1_aae02_18 : decode cJ0_isLatin1_aae02 18 = .ok (.ireturn, 1) := by decide +kernel
set_option maxRecDepth 20000 in
theorem ggJ0_checkIndex_df160_J3_checkIndex_8e157 : GoodIn wsJ0_checkIndex_df160 wsJ3_checkIndex_8e157 := goodIn_r _ [5] (by decide +kernel) (by decide +kernel)
set_option maxRecDepth 20000 in
theorem gJ0_checkIndex_df160_J3_checkIndex_8e157 : GoodIn wsJ0_checkIndex_df160 (va_wsS RJ0 1059 yJ3_checkIndex_8e157 wsJ3_checkIndex_8e157) := goodIn_app (goodIn_of _ (by decide +kernel)) ggJ0_checkIndex_df160_J3_checkIndex_8e157
theorem dJ0_checkIndex_df160_0 : decode cJ0_checkIndex_df160 0 = .ok (.iload_n 0, 1) := by decide +kernel
theorem dJ0_checkIndex_df160_1 : decode cJ0_checkIndex_df160 1 = .ok (.iload_n 1, 1) := by decide +kernel
theorem dJ0_checkIndex_df160_2 : decode cJ0_checkIndex_df160 2 = .ok (.getstatic 1053, 3) := by decide +kernel
theorem dJ0_checkIndex_df160_5 : decode cJ0_checkIndex_df160 5 = .ok (.invokestatic 1059, 3) := by decide +kernel
theorem dJ0_checkIndex_df160_8 : decode cJ0_checkIndex_df160 8 = .ok (.pop, 1) := by decide +kernel
theorem dJ0_checkIndex_df160_9 : decode cJ0_checkIndex_df160 9 = .ok (.return_, 1) := by decide +kernel
set_option maxRecDepth 20000 in
theorem ggJ1_charAt_3b067_J0_checkIndex_df160 : GoodIn wsJ1_charAt_3b067 wsJ0_checkIndex_df160 := goodIn_r _ [4, 5, 6, 7, 8, 9] (by decide +kernel) (by decide +kernel)
set_option maxRecDepth 20000 in
theorem gJ1_charAt_3b067_J0_checkIndex_df160 : GoodIn wsJ1_charAt_3b067 (va_wsS RJ1 9 yJ0_checkIndex_df160 wsJ0_checkIndex_df160) := goodIn_app (goodIn_of _ (by decide +kernel)) ggJ1_charAt_3b067_J0_checkIndex_df160
theorem dJ1_charAt_3b067_0 : decode cJ1_charAt_3b067 0 = .ok (.iload_n 1, 1) := by decide +kernel
theorem dJ1_charAt_3b067_1 : decode cJ1_charAt_3b067 1 = .ok (.aload_n 0, 1) := by decide +kernel
theorem dJ1_charAt_3b067_2 : decode cJ1_charAt_3b067 2 = .ok (.arraylength, 1) := by decide +kernel
theorem dJ1_charAt_3b067_3 : decode cJ1_charAt_3b067 3 = .ok (.invokestatic 9, 3) := by decide +kernel
theorem dJ1_charAt_3b067_6 : decode cJ1_charAt_3b067 6 = .ok (.aload_n 0, 1) := by decide +kernel
theorem dJ1_charAt_3b067_7 : decode cJ1_charAt_3b067 7 = .ok (.iload_n 1, 1) := by decide +kernel
theorem dJ1_charAt_3b067_8 : decode cJ1_charAt_3b067 8 = .ok (.baload, 1) := by decide +kernel
theorem dJ1_charAt_3b067_9 : decode cJ1_charAt_3b067 9 = .ok (.sipush 255, 3) := by decide +kernel
theorem dJ1_charAt_3b067_12 : decode cJ1_charAt_3b067 12 = .ok (.iand, 1) := by decide +kernel
theorem dJ1_charAt_3b067_13 : decode cJ1_charAt_3b067 13 = .ok (.i2c, 1) := by decide +kernel
theorem dJ1_charAt_3b067_14 : decode cJ1_charAt_3b067 14 = .ok (.ireturn, 1) := by decide +kernel
set_option maxRecDepth 20000 in
theorem ggJ2_getChar_3b067_J2_length_9d52b : GoodIn wsJ2_getChar_3b067 wsJ2_length_9d52b := goodIn_r _ [7] (by decide +kernel) (by decide +kernel)
set_option maxRecDepth 20000 in
theorem gJ2_getChar_3b067_J2_length_9d52b : GoodIn wsJ2_getChar_3b067 (va_wsS RJ2 48 yJ2_length_9d52b wsJ2_length_9d52b) := goodIn_app (goodIn_of _ (by decide +kernel)) ggJ2_getChar_3b067_J2_length_9d52b
theorem dJ2_getChar_3b067_0 : decode cJ2_getChar_3b067 0 = .ok (.getstatic 44, 3) := by decide +kernel
theorem dJ2_getChar_3b067_3 : decode cJ2_getChar_3b067 3 = .ok (.ifCond .ne 25, 3) := by decide +kernel
theorem dJ2_getChar_3b067_6 : decode cJ2_getChar_3b067 6 = .ok (.iload_n 1, 1) := by decide +kernel
theorem dJ2_getChar_3b067_7 : decode cJ2_getChar_3b067 7 = .ok (.ifCond .lt 11, 3) := by decide +kernel
theorem dJ2_getChar_3b067_10 : decode cJ2_getChar_3b067 10 = .ok (.iload_n 1, 1) := by decide +kernel
theorem dJ2_getChar_3b067_11 : decode cJ2_getChar_3b067 11 = .ok (.aload_n 0, 1) := by decide +kernel
theorem dJ2_getChar_3b067_12 : decode cJ2_getChar_3b067 12 = .ok (.invokestatic 48, 3) := by decide +kernel
theorem dJ2_getChar_3b067_15 : decode cJ2_getChar_3b067 15 = .ok (.if_icmp .lt 13, 3) := by decide +kernel
theorem dJ2_getChar_3b067_18 : decode cJ2_getChar_3b067 18 = .ok (.new 52, 3) := by decide +kernel
theorem dJ2_getChar_3b067_21 : decode cJ2_getChar_3b067 21 = .ok (.dup, 1) := by decide +kernel
theorem dJ2_getChar_3b067_22 : decode cJ2_getChar_3b067 22 = .ok (.ldc 54, 2) := by decide +kernel
theorem dJ2_getChar_3b067_24 : decode cJ2_getChar_3b067 24 = .ok (.invokespecial 56, 3) := by decide +kernel
theorem dJ2_getChar_3b067_27 : decode cJ2_getChar_3b067 27 = .ok (.athrow, 1) := by decide +kernel
theorem dJ2_getChar_3b067_28 : decode cJ2_getChar_3b067 28 = .ok (.iload_n 1, 1) := by decide +kernel
theorem dJ2_getChar_3b067_29 : decode cJ2_getChar_3b067 29 = .ok (.iconst 1, 1) := by decide +kernel
theorem dJ2_getChar_3b067_30 : decode cJ2_getChar_3b067 30 = .ok (.ishl, 1) := by decide +kernel
theorem dJ2_getChar_3b067_31 : decode cJ2_getChar_3b067 31 = .ok (.istore_n 1, 1) := by decide +kernel
theorem dJ2_getChar_3b067_32 : decode cJ2_getChar_3b067 32 = .ok (.aload_n 0, 1) := by decide +kernel
theorem dJ2_getChar_3b067_33 : decode cJ2_getChar_3b067 33 = .ok (.iload_n 1, 1) := by decide +kernel
theorem dJ2_getChar_3b067_34 : decode cJ2_getChar_3b067 34 = .ok (.iinc 1 1, 3) := by decide +kernel
theorem dJ2_getChar_3b067_37 : decode cJ2_getChar_3b067 37 = .ok (.baload, 1) := by decide +kernel
theorem dJ2_getChar_3b067_38 : decode cJ2_getChar_3b067 38 = .ok (.sipush 255, 3) := by decide +kernel
theorem dJ2_getChar_3b067_41 : decode cJ2_getChar_3b067 41 = .ok (.iand, 1) := by decide +kernel
theorem dJ2_getChar_3b067_42 : decode cJ2_getChar_3b067 42 = .ok (.getstatic 59, 3) := by decide +kernel
theorem dJ2_getChar_3b067_45 : decode cJ2_getChar_3b067 45 = .ok (.ishl, 1) := by decide +kernel
theorem dJ2_getChar_3b067_46 : decode cJ2_getChar_3b067 46 = .ok (.aload_n 0, 1) := by decide +kernel
theorem dJ2_getChar_3b067_47 : decode cJ2_getChar_3b067 47 = .ok (.iload_n 1, 1) := by decide +kernel
theorem dJ2_getChar_3b067_48 : decode cJ2_getChar_3b067 48 = .ok (.baload, 1) := by decide +kernel
theorem dJ2_getChar_3b067_49 : decode cJ2_getChar_3b067 49 = .ok (.sipush 255, 3) := by decide +kernel
theorem dJ2_getChar_3b067_52 : decode cJ2_getChar_3b067 52 = .ok (.iand, 1) := by decide +kernel
theorem dJ2_getChar_3b067_53 : decode cJ2_getChar_3b067 53 = .ok (.getstatic 63, 3) := by decide +kernel
theorem dJ2_getChar_3b067_56 : decode cJ2_getChar_3b067 56 = .ok (.ishl, 1) := by decide +kernel
theorem dJ2_getChar_3b067_57 : decode cJ2_getChar_3b067 57 = .ok (.ior, 1) := by decide +kernel
theorem dJ2_getChar_3b067_58 : decode cJ2_getChar_3b067 58 = .ok (.i2c, 1) := by decide +kernel
theorem dJ2_getChar_3b067_59 : decode cJ2_getChar_3b067 59 = .ok (.ireturn, 1) := by decide +kernel
theorem dJ2_length_9d52b_0 : decode cJ2_length_9d52b 0 = .ok (.aload_n 0, 1) := by decide +kernel
theorem dJ2_length_9d52b_1 : decode cJ2_length_9d52b 1 = .ok (.arraylength, 1) := by decide +kernel
theorem dJ2_length_9d52b_2 : decode cJ2_length_9d52b 2 = .ok (.iconst 1, 1) := by decide +kernel
theorem dJ2_length_9d52b_3 : decode cJ2_length_9d52b 3 = .ok (.ishr, 1) := by decide +kernel
theorem dJ2_length_9d52b_4 : decode cJ2_length_9d52b 4 = .ok (.ireturn, 1) := by decide +kernel
set_option maxRecDepth 20000 in
theorem ggJ2_charAt_3b067_J2_checkIndex_2214a : GoodIn wsJ2_charAt_3b067 wsJ2_checkIndex_2214a := goodIn_r _ [4, 5, 6, 3, 7, 8, 9, 10, 11, 12, 13, 14, 15, 16] (by decide +kernel) (by decide +kernel)
set_option maxRecDepth 20000 in
theorem gJ2_charAt_3b067_J2_checkIndex_2214a : GoodIn wsJ2_charAt_3b067 (va_wsS RJ2 67 yJ2_checkIndex_2214a wsJ2_checkIndex_2214a) := goodIn_app (goodIn_of _ (by decide +kernel)) ggJ2_charAt_3b067_J2_checkIndex_2214a
set_option maxRecDepth 20000 in
theorem ggJ2_charAt_3b067_J2_getChar_3b067 : GoodIn wsJ2_charAt_3b067 wsJ2_getChar_3b067 := goodIn_r _ [19, 20, 21, 22, 5, 6, 3, 7] (by decide +kernel) (by decide +kernel)
set_option maxRecDepth 20000 in
theorem gJ2_charAt_3b067_J2_getChar_3b067 : GoodIn wsJ2_charAt_3b067 (va_wsS RJ2 71 yJ2_getChar_3b067 wsJ2_getChar_3b067) := goodIn_app (goodIn_of _ (by decide +kernel)) ggJ2_charAt_3b067_J2_getChar_3b067
theorem dJ2_charAt_3b067_0 : decode cJ2_charAt_3b067 0 = .ok (.iload_n 1, 1) := by decide +kernel
theorem dJ2_charAt_3b067_1 : decode cJ2_charAt_3b067 1 = .ok (.aload_n 0, 1) := by decide +kernel
theorem dJ2_charAt_3b067_2 : decode cJ2_charAt_3b067 2 = .ok (.invokestatic 67, 3) := by decide +kernel
theorem dJ2_charAt_3b067_5 : decode cJ2_charAt_3b067 5 = .ok (.aload_n 0, 1) := by decide +kernel
theorem dJ2_charAt_3b067_6 : decode cJ2_charAt_3b067 6 = .ok (.iload_n 1, 1) := by decide +kernel
theorem dJ2_charAt_3b067_7 : decode cJ2_charAt_3b067 7 = .ok (.invokestatic 71, 3) := by decide +kernel
theorem dJ2_charAt_3b067_10 : decode cJ2_charAt_3b067 10 = .ok (.ireturn, 1) := by decide +kernel
set_option maxRecDepth 20000 in
theorem ggJ2_checkIndex_2214a_J2_length_9d52b : GoodIn wsJ2_checkIndex_2214a wsJ2_length_9d52b := goodIn_r _ [4] (by decide +kernel) (by decide +kernel)
set_option maxRecDepth 20000 in
theorem gJ2_checkIndex_2214a_J2_length_9d52b : GoodIn wsJ2_checkIndex_2214a (va_wsS RJ2 48 yJ2_length_9d52b wsJ2_length_9d52b) := goodIn_app (goodIn_of _ (by decide +kernel)) ggJ2_checkIndex_2214a_J2_length_9d52b
set_option maxRecDepth 20000 in
theorem ggJ2_checkIndex_2214a_J0_checkIndex_df160 : GoodIn wsJ2_checkIndex_2214a wsJ0_checkIndex_df160 := goodIn_r _ [8, 9, 10, 11, 12, 13] (by decide +kernel) (by decide +kernel)
set_option maxRecDepth 20000 in
theorem gJ2_checkIndex_2214a_J0_checkIndex_df160 : GoodIn wsJ2_checkIndex_2214a (va_wsS RJ2 414 yJ0_checkIndex_df160 wsJ0_checkIndex_df160) := goodIn_app (goodIn_of _ (by decide +kernel)) ggJ2_checkIndex_2214a_J0_checkIndex_df160
theorem dJ2_checkIndex_2214a_0 : decode cJ2_checkIndex_2214a 0 = .ok (.iload_n 0, 1) := by decide +kernel
theorem dJ2_checkIndex_2214a_1 : decode cJ2_checkIndex_2214a 1 = .ok (.aload_n 1, 1) := by decide +kernel
theorem dJ2_checkIndex_2214a_2 : decode cJ2_checkIndex_2214a 2 = .ok (.invokestatic 48, 3) := by decide +kernel
theorem dJ2_checkIndex_2214a_5 : decode cJ2_checkIndex_2214a 5 = .ok (.invokestatic 414, 3) := by decide +kernel
theorem dJ2_checkIndex_2214a_8 : decode cJ2_checkIndex_2214a 8 = .ok (.return_, 1) := by decide +kernel
theorem dJ7_fill_d0a16_0 : decode cJ7_fill_d0a16 0 = .ok (.iconst 0, 1) := by decide +kernel
theorem dJ7_fill_d0a16_1 : decode cJ7_fill_d0a16 1 = .ok (.istore_n 3, 1) := by decide +kernel
theorem dJ7_fill_d0a16_2 : decode cJ7_fill_d0a16 2 = .ok (.aload_n 0, 1) := by decide +kernel
theorem dJ7_fill_d0a16_3 : decode cJ7_fill_d0a16 3 = .ok (.arraylength, 1) := by decide +kernel
theorem dJ7_fill_d0a16_4 : decode cJ7_fill_d0a16 4 = .ok (.istore 4, 2) := by decide +kernel
theorem dJ7_fill_d0a16_6 : decode cJ7_fill_d0a16 6 = .ok (.iload_n 3, 1) := by decide +kernel
theorem dJ7_fill_d0a16_7 : decode cJ7_fill_d0a16 7 = .ok (.iload 4, 2) := by decide +kernel
theorem dJ7_fill_d0a16_9 : decode cJ7_fill_d0a16 9 = .ok (.if_icmp .ge 13, 3) := by decide +kernel
theorem dJ7_fill_d0a16_12 : decode cJ7_fill_d0a16 12 = .ok (.aload_n 0, 1) := by decide +kernel
theorem dJ7_fill_d0a16_13 : decode cJ7_fill_d0a16 13 = .ok (.iload_n 3, 1) := by decide +kernel
theorem dJ7_fill_d0a16_14 : decode cJ7_fill_d0a16 14 = .ok (.lload_n 1, 1) := by decide +kernel
theorem dJ7_fill_d0a16_15 : decode cJ7_fill_d0a16 15 = .ok (.lastore, 1) := by decide +kernel
theorem dJ7_fill_d0a16_16 : decode cJ7_fill_d0a16 16 = .ok (.iinc 3 1, 3) := by decide +kernel
theorem dJ7_fill_d0a16_19 : decode cJ7_fill_d0a16 19 = .ok (.goto (-13), 3) := by decide +kernel
theorem dJ7_fill_d0a16_22 : decode cJ7_fill_d0a16 22 = .ok (.return_, 1) := by decide +kernel
theorem dJ7_fill_53178_0 : decode cJ7_fill_53178 0 = .ok (.iconst 0, 1) := by decide +kernel
theorem dJ7_fill_53178_1 : decode cJ7_fill_53178 1 = .ok (.istore_n 2, 1) := by decide +kernel
theorem dJ7_fill_53178_2 : decode cJ7_fill_53178 2 = .ok (.aload_n 0, 1) := by decide +kernel
theorem dJ7_fill_53178_3 : decode cJ7_fill_53178 3 = .ok (.arraylength, 1) := by decide +kernel
theorem dJ7_fill_53178_4 : decode cJ7_fill_53178 4 = .ok (.istore_n 3, 1) := by decide +kernel
theorem dJ7_fill_53178_5 : decode cJ7_fill_53178 5 = .ok (.iload_n 2, 1) := by decide +kernel
theorem dJ7_fill_53178_6 : decode cJ7_fill_53178 6 = .ok (.iload_n 3, 1) := by decide +kernel
theorem dJ7_fill_53178_7 : decode cJ7_fill_53178 7 = .ok (.if_icmp .ge 13, 3) := by decide +kernel
theorem dJ7_fill_53178_10 : decode cJ7_fill_53178 10 = .ok (.aload_n 0, 1) := by decide +kernel
theorem dJ7_fill_53178_11 : decode cJ7_fill_53178 11 = .ok (.iload_n 2, 1) := by decide +kernel
theorem dJ7_fill_53178_12 : decode cJ7_fill_53178 12 = .ok (.iload_n 1, 1) := by decide +kernel
theorem dJ7_fill_53178_13 : decode cJ7_fill_53178 13 = .ok (.iastore, 1) := by decide +kernel
theorem dJ7_fill_53178_14 : decode cJ7_fill_53178 14 = .ok (.iinc 2 1, 3) := by decide +kernel
theorem dJ7_fill_53178_17 : decode cJ7_fill_53178 17 = .ok (.goto (-12), 3) := by decide +kernel
theorem dJ7_fill_53178_20 : decode cJ7_fill_53178 20 = .ok (.return_, 1) := by decide +kernel
theorem dJ3_checkIndex_8e157_0 : decode cJ3_checkIndex_8e157 0 = .ok (.iload_n 0, 1) := by decide +kernel
theorem dJ3_checkIndex_8e157_1 : decode cJ3_checkIndex_8e157 1 = .ok (.ifCond .lt 8, 3) := by decide +kernel
theorem dJ3_checkIndex_8e157_4 : decode cJ3_checkIndex_8e157 4 = .ok (.iload_n 0, 1) := by decide +kernel
theorem dJ3_checkIndex_8e157_5 : decode cJ3_checkIndex_8e157 5 = .ok (.iload_n 1, 1) := by decide +kernel
theorem dJ3_checkIndex_8e157_6 : decode cJ3_checkIndex_8e157 6 = .ok (.if_icmp .lt 10, 3) := by decide +kernel
theorem dJ3_checkIndex_8e157_9 : decode cJ3_checkIndex_8e157 9 = .ok (.aload_n 2, 1) := by decide +kernel
theorem dJ3_checkIndex_8e157_10 : decode cJ3_checkIndex_8e157 10 = .ok (.iload_n 0, 1) := by decide +kernel
theorem dJ3_checkIndex_8e157_11 : decode cJ3_checkIndex_8e157 11 = .ok (.iload_n 1, 1) := by decide +kernel
theorem dJ3_checkIndex_8e157_12 : decode cJ3_checkIndex_8e157 12 = .ok (.invokestatic 95, 3) := by decide +kernel
theorem dJ3_checkIndex_8e157_15 : decode cJ3_checkIndex_8e157 15 = .ok (.athrow, 1) := by decide +kernel
theorem dJ3_checkIndex_8e157_16 : decode cJ3_checkIndex_8e157 16 = .ok (.iload_n 0, 1) := by decide +kernel
theorem dJ3_checkIndex_8e157_17 : decode cJ3_checkIndex_8e157 17 = .ok (.ireturn, 1) := by decide +kernel
abbrev vwCl : List vw_C := [(RX0, TX0, 4), (RX1, TX1, 5), (RX2, TX2, 4), (RX3, TX3, 14), (RX4, TX4, 5), (RX5, TX5, 7), (RX6, TX6, 6), (RX7, TX7, 13), (RX8, TX8, 12), (RX9, TX9, 17), (RX10, TX10, 57)]
