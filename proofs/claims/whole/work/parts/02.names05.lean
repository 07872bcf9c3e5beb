theorem dX10_isPicture_0 : decode cX10_isPicture 0 = .ok (.iload_n 1, 1) := by decide +kernel
theorem dX10_isPicture_1 : decode cX10_isPicture 1 = .ok (.i2l, 1) := by decide +kernel
theorem dX10_isPicture_2 : decode cX10_isPicture 2 = .ok (.lconst 0, 1) := by decide +kernel
theorem dX10_isPicture_3 : decode cX10_isPicture 3 = .ok (.aload_n 0, 1) := by decide +kernel
theorem dX10_isPicture_4 : decode cX10_isPicture 4 = .ok (.invokevirtual 259, 3) := by decide +kernel
theorem dX10_isPicture_7 : decode cX10_isPicture 7 = .ok (.iconst 1, 1) := by decide +kernel
theorem dX10_isPicture_8 : decode cX10_isPicture 8 = .ok (.isub, 1) := by decide +kernel
theorem dX10_isPicture_9 : decode cX10_isPicture 9 = .ok (.i2l, 1) := by decide +kernel
theorem dX10_isPicture_10 : decode cX10_isPicture 10 = .ok (.invokestatic 183, 3) := by decide +kernel
theorem dX10_isPicture_13 : decode cX10_isPicture 13 = .ok (.ireturn, 1) := by decide +kernel
set_option maxRecDepth 20000 in
theorem ggX10_isPoint_X10_points : GoodIn wsX10_isPoint wsX10_points := goodIn_r _ [5, 6, 10, 11, 12, 13, 14, 15, 16, 17, 18, 19, 20, 21, 22, 23, 24, 25, 26, 27, 28, 29, 30, 31, 32, 33, 34, 35, 36, 37, 38, 39, 40, 41, 42, 43, 44, 45, 46, 47, 48, 49, 50, 51, 52, 53, 54, 55, 56, 57, 58, 59, 60, 61, 62, 63, 64, 65, 66] (by decide +kernel) (by decide +kernel)
set_option maxRecDepth 20000 in
theorem gX10_isPoint_X10_points : GoodIn wsX10_isPoint (wsV RX10 262 RX10 yX10_points wsX10_points) := goodIn_app (goodIn_of _ (by decide +kernel)) ggX10_isPoint_X10_points
set_option maxRecDepth 20000 in
theorem ggX10_isPoint_X10_isIn : GoodIn wsX10_isPoint wsX10_isIn := goodIn_r _ [9] (by decide +kernel) (by decide +kernel)
set_option maxRecDepth 20000 in
theorem gX10_isPoint_X10_isIn : GoodIn wsX10_isPoint (va_wsS RX10 183 yX10_isIn wsX10_isIn) := goodIn_app (goodIn_of _ (by decide +kernel)) ggX10_isPoint_X10_isIn
theorem dX10_isPoint_0 : decode cX10_isPoint 0 = .ok (.iload_n 1, 1) := by decide +kernel
theorem dX10_isPoint_1 : decode cX10_isPoint 1 = .ok (.i2l, 1) := by decide +kernel
theorem dX10_isPoint_2 : decode cX10_isPoint 2 = .ok (.lconst 0, 1) := by decide +kernel
theorem dX10_isPoint_3 : decode cX10_isPoint 3 = .ok (.aload_n 0, 1) := by decide +kernel
theorem dX10_isPoint_4 : decode cX10_isPoint 4 = .ok (.invokevirtual 262, 3) := by decide +kernel
theorem dX10_isPoint_7 : decode cX10_isPoint 7 = .ok (.iconst 1, 1) := by decide +kernel
theorem dX10_isPoint_8 : decode cX10_isPoint 8 = .ok (.isub, 1) := by decide +kernel
theorem dX10_isPoint_9 : decode cX10_isPoint 9 = .ok (.i2l, 1) := by decide +kernel
theorem dX10_isPoint_10 : decode cX10_isPoint 10 = .ok (.invokestatic 183, 3) := by decide +kernel
theorem dX10_isPoint_13 : decode cX10_isPoint 13 = .ok (.ireturn, 1) := by decide +kernel
set_option maxRecDepth 20000 in
theorem ggX10_isRow_X10_rows : GoodIn wsX10_isRow wsX10_rows := goodIn_r _ [5, 6, 10, 11, 12, 13, 14, 15, 16, 17, 18, 19, 20, 21, 22, 23, 24, 25, 26, 27, 28, 29, 30, 31, 32, 33, 34, 35, 36, 37, 38, 39, 40, 41, 42, 43, 44, 45, 46, 47, 48, 49, 50, 51, 52, 53, 54, 55, 56, 57, 58, 59, 60, 61, 62, 63, 64, 65, 66] (by decide +kernel) (by decide +kernel)
set_option maxRecDepth 20000 in
theorem gX10_isRow_X10_rows : GoodIn wsX10_isRow (wsV RX10 265 RX10 yX10_rows wsX10_rows) := goodIn_app (goodIn_of _ (by decide +kernel)) ggX10_isRow_X10_rows
set_option maxRecDepth 20000 in
theorem ggX10_isRow_X10_isIn : GoodIn wsX10_isRow wsX10_isIn := goodIn_r _ [9] (by decide +kernel) (by decide +kernel)
set_option maxRecDepth 20000 in
theorem gX10_isRow_X10_isIn : GoodIn wsX10_isRow (va_wsS RX10 183 yX10_isIn wsX10_isIn) := goodIn_app (goodIn_of _ (by decide +kernel)) ggX10_isRow_X10_isIn
theorem dX10_isRow_0 : decode cX10_isRow 0 = .ok (.iload_n 1, 1) := by decide +kernel
theorem dX10_isRow_1 : decode cX10_isRow 1 = .ok (.i2l, 1) := by decide +kernel
theorem dX10_isRow_2 : decode cX10_isRow 2 = .ok (.lconst 0, 1) := by decide +kernel
theorem dX10_isRow_3 : decode cX10_isRow 3 = .ok (.aload_n 0, 1) := by decide +kernel
theorem dX10_isRow_4 : decode cX10_isRow 4 = .ok (.invokevirtual 265, 3) := by decide +kernel
theorem dX10_isRow_7 : decode cX10_isRow 7 = .ok (.iconst 1, 1) := by decide +kernel
theorem dX10_isRow_8 : decode cX10_isRow 8 = .ok (.isub, 1) := by decide +kernel
theorem dX10_isRow_9 : decode cX10_isRow 9 = .ok (.i2l, 1) := by decide +kernel
theorem dX10_isRow_10 : decode cX10_isRow 10 = .ok (.invokestatic 183, 3) := by decide +kernel
theorem dX10_isRow_13 : decode cX10_isRow 13 = .ok (.ireturn, 1) := by decide +kernel
theorem dX10_pictureOf_0 : decode cX10_pictureOf 0 = .ok (.aload_n 0, 1) := by decide +kernel
theorem dX10_pictureOf_1 : decode cX10_pictureOf 1 = .ok (.getfield 79, 3) := by decide +kernel
theorem dX10_pictureOf_4 : decode cX10_pictureOf 4 = .ok (.bipush 60, 2) := by decide +kernel
theorem dX10_pictureOf_6 : decode cX10_pictureOf 6 = .ok (.iload_n 1, 1) := by decide +kernel
theorem dX10_pictureOf_7 : decode cX10_pictureOf 7 = .ok (.iadd, 1) := by decide +kernel
theorem dX10_pictureOf_8 : decode cX10_pictureOf 8 = .ok (.iaload, 1) := by decide +kernel
theorem dX10_pictureOf_9 : decode cX10_pictureOf 9 = .ok (.ireturn, 1) := by decide +kernel
theorem dX10_pointOf_0 : decode cX10_pointOf 0 = .ok (.aload_n 0, 1) := by decide +kernel
theorem dX10_pointOf_1 : decode cX10_pointOf 1 = .ok (.getfield 82, 3) := by decide +kernel
theorem dX10_pointOf_4 : decode cX10_pointOf 4 = .ok (.bipush 60, 2) := by decide +kernel
theorem dX10_pointOf_6 : decode cX10_pointOf 6 = .ok (.iload_n 1, 1) := by decide +kernel
theorem dX10_pointOf_7 : decode cX10_pointOf 7 = .ok (.iadd, 1) := by decide +kernel
theorem dX10_pointOf_8 : decode cX10_pointOf 8 = .ok (.iaload, 1) := by decide +kernel
theorem dX10_pointOf_9 : decode cX10_pointOf 9 = .ok (.ireturn, 1) := by decide +kernel
theorem dX10_weightOf_0 : decode cX10_weightOf 0 = .ok (.aload_n 0, 1) := by decide +kernel
theorem dX10_weightOf_1 : decode cX10_weightOf 1 = .ok (.getfield 88, 3) := by decide +kernel
theorem dX10_weightOf_4 : decode cX10_weightOf 4 = .ok (.bipush 60, 2) := by decide +kernel
theorem dX10_weightOf_6 : decode cX10_weightOf 6 = .ok (.iload_n 1, 1) := by decide +kernel
theorem dX10_weightOf_7 : decode cX10_weightOf 7 = .ok (.iadd, 1) := by decide +kernel
theorem dX10_weightOf_8 : decode cX10_weightOf 8 = .ok (.iaload, 1) := by decide +kernel
theorem dX10_weightOf_9 : decode cX10_weightOf 9 = .ok (.ireturn, 1) := by decide +kernel
theorem dX10_centreOf_0 : decode cX10_centreOf 0 = .ok (.aload_n 0, 1) := by decide +kernel
theorem dX10_centreOf_1 : decode cX10_centreOf 1 = .ok (.getfield 67, 3) := by decide +kernel
theorem dX10_centreOf_4 : decode cX10_centreOf 4 = .ok (.bipush 12, 2) := by decide +kernel
theorem dX10_centreOf_6 : decode cX10_centreOf 6 = .ok (.iload_n 1, 1) := by decide +kernel
theorem dX10_centreOf_7 : decode cX10_centreOf 7 = .ok (.iadd, 1) := by decide +kernel
theorem dX10_centreOf_8 : decode cX10_centreOf 8 = .ok (.iaload, 1) := by decide +kernel
theorem dX10_centreOf_9 : decode cX10_centreOf 9 = .ok (.ireturn, 1) := by decide +kernel
theorem dX10_strip_0 : decode cX10_strip 0 = .ok (.aload_n 0, 1) := by decide +kernel
theorem dX10_strip_1 : decode cX10_strip 1 = .ok (.getfield 61, 3) := by decide +kernel
theorem dX10_strip_4 : decode cX10_strip 4 = .ok (.bipush 12, 2) := by decide +kernel
theorem dX10_strip_6 : decode cX10_strip 6 = .ok (.iload_n 1, 1) := by decide +kernel
theorem dX10_strip_7 : decode cX10_strip 7 = .ok (.iadd, 1) := by decide +kernel
theorem dX10_strip_8 : decode cX10_strip 8 = .ok (.iaload, 1) := by decide +kernel
theorem dX10_strip_9 : decode cX10_strip 9 = .ok (.ireturn, 1) := by decide +kernel
theorem dX10_isControl_0 : decode cX10_isControl 0 = .ok (.aload_n 0, 1) := by decide +kernel
theorem dX10_isControl_1 : decode cX10_isControl 1 = .ok (.getfield 73, 3) := by decide +kernel
theorem dX10_isControl_4 : decode cX10_isControl 4 = .ok (.bipush 20, 2) := by decide +kernel
theorem dX10_isControl_6 : decode cX10_isControl 6 = .ok (.iload_n 1, 1) := by decide +kernel
theorem dX10_isControl_7 : decode cX10_isControl 7 = .ok (.iadd, 1) := by decide +kernel
theorem dX10_isControl_8 : decode cX10_isControl 8 = .ok (.iaload, 1) := by decide +kernel
theorem dX10_isControl_9 : decode cX10_isControl 9 = .ok (.istore_n 2, 1) := by decide +kernel
theorem dX10_isControl_10 : decode cX10_isControl 10 = .ok (.iload_n 2, 1) := by decide +kernel
theorem dX10_isControl_11 : decode cX10_isControl 11 = .ok (.ifCond .eq 21, 3) := by decide +kernel
theorem dX10_isControl_14 : decode cX10_isControl 14 = .ok (.aload_n 0, 1) := by decide +kernel
theorem dX10_isControl_15 : decode cX10_isControl 15 = .ok (.getfield 95, 3) := by decide +kernel
theorem dX10_isControl_18 : decode cX10_isControl 18 = .ok (.iload_n 2, 1) := by decide +kernel
theorem dX10_isControl_19 : decode cX10_isControl 19 = .ok (.iconst 1, 1) := by decide +kernel
theorem dX10_isControl_20 : decode cX10_isControl 20 = .ok (.isub, 1) := by decide +kernel
theorem dX10_isControl_21 : decode cX10_isControl 21 = .ok (.ishr, 1) := by decide +kernel
theorem dX10_isControl_22 : decode cX10_isControl 22 = .ok (.iconst 1, 1) := by decide +kernel
theorem dX10_isControl_23 : decode cX10_isControl 23 = .ok (.iand, 1) := by decide +kernel
theorem dX10_isControl_24 : decode cX10_isControl 24 = .ok (.iconst 1, 1) := by decide +kernel
theorem dX10_isControl_25 : decode cX10_isControl 25 = .ok (.if_icmp .ne 7, 3) := by decide +kernel
theorem dX10_isControl_28 : decode cX10_isControl 28 = .ok (.iconst 1, 1) := by decide +kernel
theorem dX10_isControl_29 : decode cX10_isControl 29 = .ok (.goto 4, 3) := by decide +kernel
theorem dX10_isControl_32 : decode cX10_isControl 32 = .ok (.iconst 0, 1) := by decide +kernel
theorem dX10_isControl_33 : decode cX10_isControl 33 = .ok (.ireturn, 1) := by decide +kernel
set_option maxRecDepth 20000 in
theorem ggX10_hasDrift_X10_pictures : GoodIn wsX10_hasDrift wsX10_pictures := goodIn_r _ [5, 6, 17, 18, 19, 20, 21, 22, 23, 24, 25, 26, 27, 28, 29, 30, 31, 32, 33, 34, 35, 36, 37, 38, 39, 40, 41, 42, 43, 44, 45, 46, 47, 48, 49, 50, 51, 52, 53, 54, 55, 56, 57, 58, 59, 60, 61, 62, 63, 64, 65, 66, 67, 68, 69, 70, 71, 72, 73] (by decide +kernel) (by decide +kernel)
set_option maxRecDepth 20000 in
theorem gX10_hasDrift_X10_pictures : GoodIn wsX10_hasDrift (wsV RX10 259 RX10 yX10_pictures wsX10_pictures) := goodIn_app (goodIn_of _ (by decide +kernel)) ggX10_hasDrift_X10_pictures
set_option maxRecDepth 20000 in
theorem ggX10_hasDrift_X10_strip : GoodIn wsX10_hasDrift wsX10_strip := goodIn_r _ [10, 11, 17, 18, 19, 20, 21, 22, 23, 24, 25, 26, 27, 28, 29, 30, 31, 32, 33, 34, 35, 36, 37, 38, 39, 40, 41, 42, 43, 44, 45, 46, 47, 48, 49, 50, 51, 52, 53, 54, 55, 56, 57, 58, 59, 60, 61, 62, 63, 64, 65, 66, 67, 68, 69, 70, 71, 72, 73] (by decide +kernel) (by decide +kernel)
set_option maxRecDepth 20000 in
theorem gX10_hasDrift_X10_strip : GoodIn wsX10_hasDrift (wsV RX10 268 RX10 yX10_strip wsX10_strip) := goodIn_app (goodIn_of _ (by decide +kernel)) ggX10_hasDrift_X10_strip
set_option maxRecDepth 20000 in
theorem ggX10_hasDrift_X10_centreOf : GoodIn wsX10_hasDrift wsX10_centreOf := goodIn_r _ [15, 16, 17, 18, 19, 20, 21, 22, 23, 24, 25, 26, 27, 28, 29, 30, 31, 32, 33, 34, 35, 36, 37, 38, 39, 40, 41, 42, 43, 44, 45, 46, 47, 48, 49, 50, 51, 52, 53, 54, 55, 56, 57, 58, 59, 60, 61, 62, 63, 64, 65, 66, 67, 68, 69, 70, 71, 72, 73] (by decide +kernel) (by decide +kernel)
set_option maxRecDepth 20000 in
theorem gX10_hasDrift_X10_centreOf : GoodIn wsX10_hasDrift (wsV RX10 271 RX10 yX10_centreOf wsX10_centreOf) := goodIn_app (goodIn_of _ (by decide +kernel)) ggX10_hasDrift_X10_centreOf
theorem dX10_hasDrift_0 : decode cX10_hasDrift 0 = .ok (.iconst 0, 1) := by decide +kernel
theorem dX10_hasDrift_1 : decode cX10_hasDrift 1 = .ok (.istore_n 2, 1) := by decide +kernel
theorem dX10_hasDrift_2 : decode cX10_hasDrift 2 = .ok (.iload_n 2, 1) := by decide +kernel
theorem dX10_hasDrift_3 : decode cX10_hasDrift 3 = .ok (.aload_n 0, 1) := by decide +kernel
theorem dX10_hasDrift_4 : decode cX10_hasDrift 4 = .ok (.invokevirtual 259, 3) := by decide +kernel
theorem dX10_hasDrift_7 : decode cX10_hasDrift 7 = .ok (.if_icmp .ge 28, 3) := by decide +kernel
theorem dX10_hasDrift_10 : decode cX10_hasDrift 10 = .ok (.aload_n 0, 1) := by decide +kernel
theorem dX10_hasDrift_11 : decode cX10_hasDrift 11 = .ok (.iload_n 2, 1) := by decide +kernel
theorem dX10_hasDrift_12 : decode cX10_hasDrift 12 = .ok (.invokevirtual 268, 3) := by decide +kernel
theorem dX10_hasDrift_15 : decode cX10_hasDrift 15 = .ok (.iload_n 1, 1) := by decide +kernel
theorem dX10_hasDrift_16 : decode cX10_hasDrift 16 = .ok (.if_icmp .ne 13, 3) := by decide +kernel
theorem dX10_hasDrift_19 : decode cX10_hasDrift 19 = .ok (.aload_n 0, 1) := by decide +kernel
theorem dX10_hasDrift_20 : decode cX10_hasDrift 20 = .ok (.iload_n 2, 1) := by decide +kernel
theorem dX10_hasDrift_21 : decode cX10_hasDrift 21 = .ok (.invokevirtual 271, 3) := by decide +kernel
theorem dX10_hasDrift_24 : decode cX10_hasDrift 24 = .ok (.ifCond .le 5, 3) := by decide +kernel
theorem dX10_hasDrift_27 : decode cX10_hasDrift 27 = .ok (.iconst 1, 1) := by decide +kernel
theorem dX10_hasDrift_28 : decode cX10_hasDrift 28 = .ok (.ireturn, 1) := by decide +kernel
theorem dX10_hasDrift_29 : decode cX10_hasDrift 29 = .ok (.iinc 2 1, 3) := by decide +kernel
theorem dX10_hasDrift_32 : decode cX10_hasDrift 32 = .ok (.goto (-30), 3) := by decide +kernel
theorem dX10_hasDrift_35 : decode cX10_hasDrift 35 = .ok (.iconst 0, 1) := by decide +kernel
theorem dX10_hasDrift_36 : decode cX10_hasDrift 36 = .ok (.ireturn, 1) := by decide +kernel
theorem dX10_turnedBy_0 : decode cX10_turnedBy 0 = .ok (.aload_n 0, 1) := by decide +kernel
theorem dX10_turnedBy_1 : decode cX10_turnedBy 1 = .ok (.getfield 85, 3) := by decide +kernel
theorem dX10_turnedBy_4 : decode cX10_turnedBy 4 = .ok (.bipush 120, 2) := by decide +kernel
theorem dX10_turnedBy_6 : decode cX10_turnedBy 6 = .ok (.iconst 2, 1) := by decide +kernel
theorem dX10_turnedBy_7 : decode cX10_turnedBy 7 = .ok (.iload_n 1, 1) := by decide +kernel
theorem dX10_turnedBy_8 : decode cX10_turnedBy 8 = .ok (.imul, 1) := by decide +kernel
theorem dX10_turnedBy_9 : decode cX10_turnedBy 9 = .ok (.iadd, 1) := by decide +kernel
theorem dX10_turnedBy_10 : decode cX10_turnedBy 10 = .ok (.iaload, 1) := by decide +kernel
theorem dX10_turnedBy_11 : decode cX10_turnedBy 11 = .ok (.istore 4, 2) := by decide +kernel
theorem dX10_turnedBy_13 : decode cX10_turnedBy 13 = .ok (.aload_n 0, 1) := by decide +kernel
theorem dX10_turnedBy_14 : decode cX10_turnedBy 14 = .ok (.getfield 85, 3) := by decide +kernel
theorem dX10_turnedBy_17 : decode cX10_turnedBy 17 = .ok (.bipush 120, 2) := by decide +kernel
theorem dX10_turnedBy_19 : decode cX10_turnedBy 19 = .ok (.iconst 2, 1) := by decide +kernel
theorem dX10_turnedBy_20 : decode cX10_turnedBy 20 = .ok (.iload_n 1, 1) := by decide +kernel
theorem dX10_turnedBy_21 : decode cX10_turnedBy 21 = .ok (.imul, 1) := by decide +kernel
theorem dX10_turnedBy_22 : decode cX10_turnedBy 22 = .ok (.iadd, 1) := by decide +kernel
theorem dX10_turnedBy_23 : decode cX10_turnedBy 23 = .ok (.iconst 1, 1) := by decide +kernel
theorem dX10_turnedBy_24 : decode cX10_turnedBy 24 = .ok (.iadd, 1) := by decide +kernel
theorem dX10_turnedBy_25 : decode cX10_turnedBy 25 = .ok (.iaload, 1) := by decide +kernel
theorem dX10_turnedBy_26 : decode cX10_turnedBy 26 = .ok (.istore 5, 2) := by decide +kernel
theorem dX10_turnedBy_28 : decode cX10_turnedBy 28 = .ok (.iload_n 2, 1) := by decide +kernel
theorem dX10_turnedBy_29 : decode cX10_turnedBy 29 = .ok (.iload_n 3, 1) := by decide +kernel
theorem dX10_turnedBy_30 : decode cX10_turnedBy 30 = .ok (.ifCond .ne 7, 3) := by decide +kernel
theorem dX10_turnedBy_33 : decode cX10_turnedBy 33 = .ok (.iconst 0, 1) := by decide +kernel
theorem dX10_turnedBy_34 : decode cX10_turnedBy 34 = .ok (.goto 4, 3) := by decide +kernel
theorem dX10_turnedBy_37 : decode cX10_turnedBy 37 = .ok (.iconst 3, 1) := by decide +kernel
theorem dX10_turnedBy_38 : decode cX10_turnedBy 38 = .ok (.iadd, 1) := by decide +kernel
theorem dX10_turnedBy_39 : decode cX10_turnedBy 39 = .ok (.iconst 4, 1) := by decide +kernel
theorem dX10_turnedBy_40 : decode cX10_turnedBy 40 = .ok (.irem, 1) := by decide +kernel
theorem dX10_turnedBy_41 : decode cX10_turnedBy 41 = .ok (.istore 6, 2) := by decide +kernel
theorem dX10_turnedBy_43 : decode cX10_turnedBy 43 = .ok (.bipush 100, 2) := by decide +kernel
theorem dX10_turnedBy_45 : decode cX10_turnedBy 45 = .ok (.iload 6, 2) := by decide +kernel
theorem dX10_turnedBy_47 : decode cX10_turnedBy 47 = .ok (.ifCond .ne 8, 3) := by decide +kernel
theorem dX10_turnedBy_50 : decode cX10_turnedBy 50 = .ok (.iload 4, 2) := by decide +kernel
theorem dX10_turnedBy_52 : decode cX10_turnedBy 52 = .ok (.goto 29, 3) := by decide +kernel
theorem dX10_turnedBy_55 : decode cX10_turnedBy 55 = .ok (.iload 6, 2) := by decide +kernel
theorem dX10_turnedBy_57 : decode cX10_turnedBy 57 = .ok (.iconst 1, 1) := by decide +kernel
theorem dX10_turnedBy_58 : decode cX10_turnedBy 58 = .ok (.if_icmp .ne 9, 3) := by decide +kernel
theorem dX10_turnedBy_61 : decode cX10_turnedBy 61 = .ok (.iload 5, 2) := by decide +kernel
theorem dX10_turnedBy_63 : decode cX10_turnedBy 63 = .ok (.ineg, 1) := by decide +kernel
theorem dX10_turnedBy_64 : decode cX10_turnedBy 64 = .ok (.goto 17, 3) := by decide +kernel
theorem dX10_turnedBy_67 : decode cX10_turnedBy 67 = .ok (.iload 6, 2) := by decide +kernel
theorem dX10_turnedBy_69 : decode cX10_turnedBy 69 = .ok (.iconst 2, 1) := by decide +kernel
theorem dX10_turnedBy_70 : decode cX10_turnedBy 70 = .ok (.if_icmp .ne 9, 3) := by decide +kernel
theorem dX10_turnedBy_73 : decode cX10_turnedBy 73 = .ok (.iload 4, 2) := by decide +kernel
theorem dX10_turnedBy_75 : decode cX10_turnedBy 75 = .ok (.ineg, 1) := by decide +kernel
theorem dX10_turnedBy_76 : decode cX10_turnedBy 76 = .ok (.goto 5, 3) := by decide +kernel
theorem dX10_turnedBy_79 : decode cX10_turnedBy 79 = .ok (.iload 5, 2) := by decide +kernel
theorem dX10_turnedBy_81 : decode cX10_turnedBy 81 = .ok (.imul, 1) := by decide +kernel
theorem dX10_turnedBy_82 : decode cX10_turnedBy 82 = .ok (.ireturn, 1) := by decide +kernel
set_option maxRecDepth 20000 in
theorem ggX10_turned_X10_pictureOf : GoodIn wsX10_turned wsX10_pictureOf := goodIn_r _ [6, 7, 13, 14, 15, 16, 17, 18, 19, 20, 21, 22, 23, 24, 25, 26, 27, 28, 29, 30, 31, 32, 33, 34, 35, 36, 37, 38, 39, 40, 41, 42, 43, 44, 45, 46, 47, 48, 49, 50, 51, 52, 53, 54, 55, 56, 57, 58, 59, 60, 61, 62, 63, 64, 65, 66, 67, 68, 69] (by decide +kernel) (by decide +kernel)
set_option maxRecDepth 20000 in
theorem gX10_turned_X10_pictureOf : GoodIn wsX10_turned (wsV RX10 274 RX10 yX10_pictureOf wsX10_pictureOf) := goodIn_app (goodIn_of _ (by decide +kernel)) ggX10_turned_X10_pictureOf
set_option maxRecDepth 20000 in
theorem ggX10_turned_X10_turnedBy : GoodIn wsX10_turned wsX10_turnedBy := goodIn_r _ [11, 12, 13, 14, 15, 16, 17, 18, 19, 20, 21, 22, 23, 24, 25, 26, 27, 28, 29, 30, 31, 32, 33, 34, 35, 36, 37, 38, 39, 40, 41, 42, 43, 44, 45, 46, 47, 48, 49, 50, 51, 52, 53, 54, 55, 56, 57, 58, 59, 60, 61, 62, 63, 64, 65, 66, 67, 68, 69] (by decide +kernel) (by decide +kernel)
set_option maxRecDepth 20000 in
theorem gX10_turned_X10_turnedBy : GoodIn wsX10_turned (wsV RX10 277 RX10 yX10_turnedBy wsX10_turnedBy) := goodIn_app (goodIn_of _ (by decide +kernel)) ggX10_turned_X10_turnedBy
theorem dX10_turned_0 : decode cX10_turned 0 = .ok (.aload_n 0, 1) := by decide +kernel
theorem dX10_turned_1 : decode cX10_turned 1 = .ok (.iload_n 1, 1) := by decide +kernel
theorem dX10_turned_2 : decode cX10_turned 2 = .ok (.aload_n 0, 1) := by decide +kernel
theorem dX10_turned_3 : decode cX10_turned 3 = .ok (.getfield 98, 3) := by decide +kernel
theorem dX10_turned_6 : decode cX10_turned 6 = .ok (.aload_n 0, 1) := by decide +kernel
theorem dX10_turned_7 : decode cX10_turned 7 = .ok (.iload_n 1, 1) := by decide +kernel
theorem dX10_turned_8 : decode cX10_turned 8 = .ok (.invokevirtual 274, 3) := by decide +kernel
theorem dX10_turned_11 : decode cX10_turned 11 = .ok (.iaload, 1) := by decide +kernel
theorem dX10_turned_12 : decode cX10_turned 12 = .ok (.iload_n 2, 1) := by decide +kernel
theorem dX10_turned_13 : decode cX10_turned 13 = .ok (.invokevirtual 277, 3) := by decide +kernel
theorem dX10_turned_16 : decode cX10_turned 16 = .ok (.ireturn, 1) := by decide +kernel
set_option maxRecDepth 20000 in
theorem ggX10_rowOf_X10_rows : GoodIn wsX10_rowOf wsX10_rows := goodIn_r _ [6, 7, 18, 19, 20, 21, 22, 23, 24, 25, 26, 27, 28, 29, 30, 31, 32, 33, 34, 35, 36, 37, 38, 39, 40, 41, 42, 43, 44, 45, 46, 47, 48, 49, 50, 51, 52, 53, 54, 55, 56, 57, 58, 59, 60, 61, 62, 63, 64, 65, 66, 67, 68, 69, 70, 71, 72, 73, 74] (by decide +kernel) (by decide +kernel)
set_option maxRecDepth 20000 in
theorem gX10_rowOf_X10_rows : GoodIn wsX10_rowOf (wsV RX10 265 RX10 yX10_rows wsX10_rows) := goodIn_app (goodIn_of _ (by decide +kernel)) ggX10_rowOf_X10_rows
set_option maxRecDepth 20000 in
theorem ggX10_rowOf_X10_pictureOf : GoodIn wsX10_rowOf wsX10_pictureOf := goodIn_r _ [11, 12, 18, 19, 20, 21, 22, 23, 24, 25, 26, 27, 28, 29, 30, 31, 32, 33, 34, 35, 36, 37, 38, 39, 40, 41, 42, 43, 44, 45, 46, 47, 48, 49, 50, 51, 52, 53, 54, 55, 56, 57, 58, 59, 60, 61, 62, 63, 64, 65, 66, 67, 68, 69, 70, 71, 72, 73, 74] (by decide +kernel) (by decide +kernel)
set_option maxRecDepth 20000 in
theorem gX10_rowOf_X10_pictureOf : GoodIn wsX10_rowOf (wsV RX10 274 RX10 yX10_pictureOf wsX10_pictureOf) := goodIn_app (goodIn_of _ (by decide +kernel)) ggX10_rowOf_X10_pictureOf
set_option maxRecDepth 20000 in
theorem ggX10_rowOf_X10_pointOf : GoodIn wsX10_rowOf wsX10_pointOf := goodIn_r _ [16, 17, 18, 19, 20, 21, 22, 23, 24, 25, 26, 27, 28, 29, 30, 31, 32, 33, 34, 35, 36, 37, 38, 39, 40, 41, 42, 43, 44, 45, 46, 47, 48, 49, 50, 51, 52, 53, 54, 55, 56, 57, 58, 59, 60, 61, 62, 63, 64, 65, 66, 67, 68, 69, 70, 71, 72, 73, 74] (by decide +kernel) (by decide +kernel)
set_option maxRecDepth 20000 in
theorem gX10_rowOf_X10_pointOf : GoodIn wsX10_rowOf (wsV RX10 281 RX10 yX10_pointOf wsX10_pointOf) := goodIn_app (goodIn_of _ (by decide +kernel)) ggX10_rowOf_X10_pointOf
theorem dX10_rowOf_0 : decode cX10_rowOf 0 = .ok (.iconst 0, 1) := by decide +kernel
theorem dX10_rowOf_1 : decode cX10_rowOf 1 = .ok (.istore_n 3, 1) := by decide +kernel
theorem dX10_rowOf_2 : decode cX10_rowOf 2 = .ok (.iload_n 3, 1) := by decide +kernel
theorem dX10_rowOf_3 : decode cX10_rowOf 3 = .ok (.aload_n 0, 1) := by decide +kernel
theorem dX10_rowOf_4 : decode cX10_rowOf 4 = .ok (.invokevirtual 265, 3) := by decide +kernel
theorem dX10_rowOf_7 : decode cX10_rowOf 7 = .ok (.if_icmp .ge 38, 3) := by decide +kernel
theorem dX10_rowOf_10 : decode cX10_rowOf 10 = .ok (.aload_n 0, 1) := by decide +kernel
theorem dX10_rowOf_11 : decode cX10_rowOf 11 = .ok (.getfield 91, 3) := by decide +kernel
theorem dX10_rowOf_14 : decode cX10_rowOf 14 = .ok (.iload_n 3, 1) := by decide +kernel
theorem dX10_rowOf_15 : decode cX10_rowOf 15 = .ok (.baload, 1) := by decide +kernel
theorem dX10_rowOf_16 : decode cX10_rowOf 16 = .ok (.ifCond .ne 23, 3) := by decide +kernel
theorem dX10_rowOf_19 : decode cX10_rowOf 19 = .ok (.aload_n 0, 1) := by decide +kernel
theorem dX10_rowOf_20 : decode cX10_rowOf 20 = .ok (.iload_n 3, 1) := by decide +kernel
theorem dX10_rowOf_21 : decode cX10_rowOf 21 = .ok (.invokevirtual 274, 3) := by decide +kernel
theorem dX10_rowOf_24 : decode cX10_rowOf 24 = .ok (.iload_n 1, 1) := by decide +kernel
theorem dX10_rowOf_25 : decode cX10_rowOf 25 = .ok (.if_icmp .ne 14, 3) := by decide +kernel
theorem dX10_rowOf_28 : decode cX10_rowOf 28 = .ok (.aload_n 0, 1) := by decide +kernel
theorem dX10_rowOf_29 : decode cX10_rowOf 29 = .ok (.iload_n 3, 1) := by decide +kernel
theorem dX10_rowOf_30 : decode cX10_rowOf 30 = .ok (.invokevirtual 281, 3) := by decide +kernel
theorem dX10_rowOf_33 : decode cX10_rowOf 33 = .ok (.iload_n 2, 1) := by decide +kernel
theorem dX10_rowOf_34 : decode cX10_rowOf 34 = .ok (.if_icmp .ne 5, 3) := by decide +kernel
theorem dX10_rowOf_37 : decode cX10_rowOf 37 = .ok (.iload_n 3, 1) := by decide +kernel
theorem dX10_rowOf_38 : decode cX10_rowOf 38 = .ok (.ireturn, 1) := by decide +kernel
theorem dX10_rowOf_39 : decode cX10_rowOf 39 = .ok (.iinc 3 1, 3) := by decide +kernel
theorem dX10_rowOf_42 : decode cX10_rowOf 42 = .ok (.goto (-40), 3) := by decide +kernel
theorem dX10_rowOf_45 : decode cX10_rowOf 45 = .ok (.iconst (-1), 1) := by decide +kernel
theorem dX10_rowOf_46 : decode cX10_rowOf 46 = .ok (.ireturn, 1) := by decide +kernel
set_option maxRecDepth 20000 in
theorem ggX10_put_X10_pictureOf : GoodIn wsX10_put wsX10_pictureOf := goodIn_r _ [6, 7, 18, 19, 20, 21, 22, 23, 24, 25, 26, 27, 28, 29, 30, 31, 32, 33, 34, 35, 36, 37, 38, 39, 40, 41, 42, 43, 44, 45, 46, 47, 48, 49, 50, 51, 52, 53, 54, 55, 56, 57, 58, 59, 60, 61, 62, 63, 64, 65, 66, 67, 68, 69, 70, 71, 72, 73, 74] (by decide +kernel) (by decide +kernel)
set_option maxRecDepth 20000 in
theorem gX10_put_X10_pictureOf : GoodIn wsX10_put (wsV RX10 274 RX10 yX10_pictureOf wsX10_pictureOf) := goodIn_app (goodIn_of _ (by decide +kernel)) ggX10_put_X10_pictureOf
set_option maxRecDepth 20000 in
theorem ggX10_put_X10_turned : GoodIn wsX10_put wsX10_turned := goodIn_r _ [11, 12, 2, 3, 4, 5, 6, 7, 13, 14, 15, 16, 17, 18, 19, 20, 21, 22, 23, 24, 25, 26, 27, 28, 29, 30, 31, 32, 33, 34, 35, 36, 37, 38, 39, 40, 41, 42, 43, 44, 45, 46, 47, 48, 49, 50, 51, 52, 53, 54, 55, 56, 57, 58, 59, 60, 61, 62, 63, 64, 65, 66, 67, 68, 69, 70, 71, 72, 73, 74] (by decide +kernel) (by decide +kernel)
set_option maxRecDepth 20000 in
theorem gX10_put_X10_turned : GoodIn wsX10_put (wsV RX10 284 RX10 yX10_turned wsX10_turned) := goodIn_app (goodIn_of _ (by decide +kernel)) ggX10_put_X10_turned
theorem dX10_put_0 : decode cX10_put 0 = .ok (.aload_n 0, 1) := by decide +kernel
theorem dX10_put_1 : decode cX10_put 1 = .ok (.getfield 101, 3) := by decide +kernel
theorem dX10_put_4 : decode cX10_put 4 = .ok (.bipush 38, 2) := by decide +kernel
theorem dX10_put_6 : decode cX10_put 6 = .ok (.iload_n 2, 1) := by decide +kernel
theorem dX10_put_7 : decode cX10_put 7 = .ok (.imul, 1) := by decide +kernel
theorem dX10_put_8 : decode cX10_put 8 = .ok (.aload_n 0, 1) := by decide +kernel
theorem dX10_put_9 : decode cX10_put 9 = .ok (.iload_n 1, 1) := by decide +kernel
theorem dX10_put_10 : decode cX10_put 10 = .ok (.invokevirtual 274, 3) := by decide +kernel
theorem dX10_put_13 : decode cX10_put 13 = .ok (.iadd, 1) := by decide +kernel
theorem dX10_put_14 : decode cX10_put 14 = .ok (.iaload, 1) := by decide +kernel
theorem dX10_put_15 : decode cX10_put 15 = .ok (.aload_n 0, 1) := by decide +kernel
theorem dX10_put_16 : decode cX10_put 16 = .ok (.iload_n 1, 1) := by decide +kernel
theorem dX10_put_17 : decode cX10_put 17 = .ok (.iload_n 2, 1) := by decide +kernel
theorem dX10_put_18 : decode cX10_put 18 = .ok (.invokevirtual 284, 3) := by decide +kernel
theorem dX10_put_21 : decode cX10_put 21 = .ok (.iadd, 1) := by decide +kernel
theorem dX10_put_22 : decode cX10_put 22 = .ok (.ireturn, 1) := by decide +kernel
set_option maxRecDepth 20000 in
theorem ggX10_standControls_X10_points : GoodIn wsX10_standControls wsX10_points := goodIn_r _ [7, 8, 15, 16, 17, 18, 19, 20, 21, 22, 23, 24, 25, 26, 27, 28, 29, 30, 31, 32, 33, 34, 35, 36, 37, 38, 39, 40, 41, 42, 43, 44, 45, 46, 47, 48, 49, 50, 51, 52, 53, 54, 55, 56, 57, 58, 59, 60, 61, 62, 63, 64, 65, 66, 67, 68, 69, 70, 71] (by decide +kernel) (by decide +kernel)
set_option maxRecDepth 20000 in
theorem gX10_standControls_X10_points : GoodIn wsX10_standControls (wsV RX10 262 RX10 yX10_points wsX10_points) := goodIn_app (goodIn_of _ (by decide +kernel)) ggX10_standControls_X10_points
set_option maxRecDepth 20000 in
theorem ggX10_standControls_X10_isControl : GoodIn wsX10_standControls wsX10_isControl := goodIn_r _ [12, 13, 14, 15, 16, 17, 18, 19, 20, 21, 22, 23, 24, 25, 26, 27, 28, 29, 30, 31, 32, 33, 34, 35, 36, 37, 38, 39, 40, 41, 42, 43, 44, 45, 46, 47, 48, 49, 50, 51, 52, 53, 54, 55, 56, 57, 58, 59, 60, 61, 62, 63, 64, 65, 66, 67, 68, 69, 70, 71] (by decide +kernel) (by decide +kernel)
set_option maxRecDepth 20000 in
theorem gX10_standControls_X10_isControl : GoodIn wsX10_standControls (wsV RX10 287 RX10 yX10_isControl wsX10_isControl) := goodIn_app (goodIn_of _ (by decide +kernel)) ggX10_standControls_X10_isControl
theorem dX10_standControls_0 : decode cX10_standControls 0 = .ok (.iconst 0, 1) := by decide +kernel
theorem dX10_standControls_1 : decode cX10_standControls 1 = .ok (.istore_n 1, 1) := by decide +kernel
theorem dX10_standControls_2 : decode cX10_standControls 2 = .ok (.iload_n 1, 1) := by decide +kernel
theorem dX10_standControls_3 : decode cX10_standControls 3 = .ok (.aload_n 0, 1) := by decide +kernel
theorem dX10_standControls_4 : decode cX10_standControls 4 = .ok (.invokevirtual 262, 3) := by decide +kernel
theorem dX10_standControls_7 : decode cX10_standControls 7 = .ok (.if_icmp .ge 60, 3) := by decide +kernel
theorem dX10_standControls_10 : decode cX10_standControls 10 = .ok (.iconst 0, 1) := by decide +kernel
theorem dX10_standControls_11 : decode cX10_standControls 11 = .ok (.istore_n 2, 1) := by decide +kernel
theorem dX10_standControls_12 : decode cX10_standControls 12 = .ok (.iload_n 2, 1) := by decide +kernel
theorem dX10_standControls_13 : decode cX10_standControls 13 = .ok (.iconst 2, 1) := by decide +kernel
theorem dX10_standControls_14 : decode cX10_standControls 14 = .ok (.if_icmp .ge 47, 3) := by decide +kernel
theorem dX10_standControls_17 : decode cX10_standControls 17 = .ok (.aload_n 0, 1) := by decide +kernel
theorem dX10_standControls_18 : decode cX10_standControls 18 = .ok (.iload_n 1, 1) := by decide +kernel
theorem dX10_standControls_19 : decode cX10_standControls 19 = .ok (.invokevirtual 287, 3) := by decide +kernel
theorem dX10_standControls_22 : decode cX10_standControls 22 = .ok (.ifCond .eq 33, 3) := by decide +kernel
theorem dX10_standControls_25 : decode cX10_standControls 25 = .ok (.aload_n 0, 1) := by decide +kernel
theorem dX10_standControls_26 : decode cX10_standControls 26 = .ok (.getfield 101, 3) := by decide +kernel
theorem dX10_standControls_29 : decode cX10_standControls 29 = .ok (.bipush 38, 2) := by decide +kernel
theorem dX10_standControls_31 : decode cX10_standControls 31 = .ok (.iload_n 2, 1) := by decide +kernel
theorem dX10_standControls_32 : decode cX10_standControls 32 = .ok (.imul, 1) := by decide +kernel
theorem dX10_standControls_33 : decode cX10_standControls 33 = .ok (.bipush 12, 2) := by decide +kernel
theorem dX10_standControls_35 : decode cX10_standControls 35 = .ok (.iadd, 1) := by decide +kernel
theorem dX10_standControls_36 : decode cX10_standControls 36 = .ok (.iload_n 1, 1) := by decide +kernel
theorem dX10_standControls_37 : decode cX10_standControls 37 = .ok (.iadd, 1) := by decide +kernel
theorem dX10_standControls_38 : decode cX10_standControls 38 = .ok (.bipush 100, 2) := by decide +kernel
theorem dX10_standControls_40 : decode cX10_standControls 40 = .ok (.aload_n 0, 1) := by decide +kernel
theorem dX10_standControls_41 : decode cX10_standControls 41 = .ok (.getfield 76, 3) := by decide +kernel
theorem dX10_standControls_44 : decode cX10_standControls 44 = .ok (.bipush 40, 2) := by decide +kernel
theorem dX10_standControls_46 : decode cX10_standControls 46 = .ok (.iconst 2, 1) := by decide +kernel
theorem dX10_standControls_47 : decode cX10_standControls 47 = .ok (.iload_n 1, 1) := by decide +kernel
theorem dX10_standControls_48 : decode cX10_standControls 48 = .ok (.imul, 1) := by decide +kernel
theorem dX10_standControls_49 : decode cX10_standControls 49 = .ok (.iadd, 1) := by decide +kernel
theorem dX10_standControls_50 : decode cX10_standControls 50 = .ok (.iload_n 2, 1) := by decide +kernel
theorem dX10_standControls_51 : decode cX10_standControls 51 = .ok (.iadd, 1) := by decide +kernel
theorem dX10_standControls_52 : decode cX10_standControls 52 = .ok (.iaload, 1) := by decide +kernel
theorem dX10_standControls_53 : decode cX10_standControls 53 = .ok (.imul, 1) := by decide +kernel
theorem dX10_standControls_54 : decode cX10_standControls 54 = .ok (.iastore, 1) := by decide +kernel
theorem dX10_standControls_55 : decode cX10_standControls 55 = .ok (.iinc 2 1, 3) := by decide +kernel
theorem dX10_standControls_58 : decode cX10_standControls 58 = .ok (.goto (-46), 3) := by decide +kernel
theorem dX10_standControls_61 : decode cX10_standControls 61 = .ok (.iinc 1 1, 3) := by decide +kernel
theorem dX10_standControls_64 : decode cX10_standControls 64 = .ok (.goto (-62), 3) := by decide +kernel
theorem dX10_standControls_67 : decode cX10_standControls 67 = .ok (.return_, 1) := by decide +kernel
set_option maxRecDepth 20000 in
theorem ggX10_startedRow_X10_rows : GoodIn wsX10_startedRow wsX10_rows := goodIn_r _ [7, 8, 19, 20, 21, 22, 23, 24, 25, 26, 27, 28, 29, 30, 31, 32, 33, 34, 35, 36, 37, 38, 39, 40, 41, 42, 43, 44, 45, 46, 47, 48, 49, 50, 51, 52, 53, 54, 55, 56, 57, 58, 59, 60, 61, 62, 63, 64, 65, 66, 67, 68, 69, 70, 71, 72, 73, 74, 75] (by decide +kernel) (by decide +kernel)
set_option maxRecDepth 20000 in
theorem gX10_startedRow_X10_rows : GoodIn wsX10_startedRow (wsV RX10 265 RX10 yX10_rows wsX10_rows) := goodIn_app (goodIn_of _ (by decide +kernel)) ggX10_startedRow_X10_rows
set_option maxRecDepth 20000 in
theorem ggX10_startedRow_X10_pointOf : GoodIn wsX10_startedRow wsX10_pointOf := goodIn_r _ [12, 13, 19, 20, 21, 22, 23, 24, 25, 26, 27, 28, 29, 30, 31, 32, 33, 34, 35, 36, 37, 38, 39, 40, 41, 42, 43, 44, 45, 46, 47, 48, 49, 50, 51, 52, 53, 54, 55, 56, 57, 58, 59, 60, 61, 62, 63, 64, 65, 66, 67, 68, 69, 70, 71, 72, 73, 74, 75] (by decide +kernel) (by decide +kernel)
set_option maxRecDepth 20000 in
theorem gX10_startedRow_X10_pointOf : GoodIn wsX10_startedRow (wsV RX10 281 RX10 yX10_pointOf wsX10_pointOf) := goodIn_app (goodIn_of _ (by decide +kernel)) ggX10_startedRow_X10_pointOf
set_option maxRecDepth 20000 in
theorem ggX10_startedRow_X10_pictureOf : GoodIn wsX10_startedRow wsX10_pictureOf := goodIn_r _ [17, 18, 19, 20, 21, 22, 23, 24, 25, 26, 27, 28, 29, 30, 31, 32, 33, 34, 35, 36, 37, 38, 39, 40, 41, 42, 43, 44, 45, 46, 47, 48, 49, 50, 51, 52, 53, 54, 55, 56, 57, 58, 59, 60, 61, 62, 63, 64, 65, 66, 67, 68, 69, 70, 71, 72, 73, 74, 75] (by decide +kernel) (by decide +kernel)
set_option maxRecDepth 20000 in
theorem gX10_startedRow_X10_pictureOf : GoodIn wsX10_startedRow (wsV RX10 274 RX10 yX10_pictureOf wsX10_pictureOf) := goodIn_app (goodIn_of _ (by decide +kernel)) ggX10_startedRow_X10_pictureOf
theorem dX10_startedRow_0 : decode cX10_startedRow 0 = .ok (.iconst 0, 1) := by decide +kernel
theorem dX10_startedRow_1 : decode cX10_startedRow 1 = .ok (.istore_n 2, 1) := by decide +kernel
theorem dX10_startedRow_2 : decode cX10_startedRow 2 = .ok (.iload_n 2, 1) := by decide +kernel
theorem dX10_startedRow_3 : decode cX10_startedRow 3 = .ok (.aload_n 0, 1) := by decide +kernel
theorem dX10_startedRow_4 : decode cX10_startedRow 4 = .ok (.invokevirtual 265, 3) := by decide +kernel
theorem dX10_startedRow_7 : decode cX10_startedRow 7 = .ok (.if_icmp .ge 42, 3) := by decide +kernel
theorem dX10_startedRow_10 : decode cX10_startedRow 10 = .ok (.aload_n 0, 1) := by decide +kernel
theorem dX10_startedRow_11 : decode cX10_startedRow 11 = .ok (.getfield 91, 3) := by decide +kernel
theorem dX10_startedRow_14 : decode cX10_startedRow 14 = .ok (.iload_n 2, 1) := by decide +kernel
theorem dX10_startedRow_15 : decode cX10_startedRow 15 = .ok (.baload, 1) := by decide +kernel
theorem dX10_startedRow_16 : decode cX10_startedRow 16 = .ok (.ifCond .ne 27, 3) := by decide +kernel
theorem dX10_startedRow_19 : decode cX10_startedRow 19 = .ok (.aload_n 0, 1) := by decide +kernel
theorem dX10_startedRow_20 : decode cX10_startedRow 20 = .ok (.iload_n 2, 1) := by decide +kernel
theorem dX10_startedRow_21 : decode cX10_startedRow 21 = .ok (.invokevirtual 281, 3) := by decide +kernel
theorem dX10_startedRow_24 : decode cX10_startedRow 24 = .ok (.iload_n 1, 1) := by decide +kernel
theorem dX10_startedRow_25 : decode cX10_startedRow 25 = .ok (.if_icmp .ne 18, 3) := by decide +kernel
theorem dX10_startedRow_28 : decode cX10_startedRow 28 = .ok (.aload_n 0, 1) := by decide +kernel
theorem dX10_startedRow_29 : decode cX10_startedRow 29 = .ok (.getfield 104, 3) := by decide +kernel
theorem dX10_startedRow_32 : decode cX10_startedRow 32 = .ok (.aload_n 0, 1) := by decide +kernel
theorem dX10_startedRow_33 : decode cX10_startedRow 33 = .ok (.iload_n 2, 1) := by decide +kernel
theorem dX10_startedRow_34 : decode cX10_startedRow 34 = .ok (.invokevirtual 274, 3) := by decide +kernel
theorem dX10_startedRow_37 : decode cX10_startedRow 37 = .ok (.baload, 1) := by decide +kernel
theorem dX10_startedRow_38 : decode cX10_startedRow 38 = .ok (.ifCond .eq 5, 3) := by decide +kernel
theorem dX10_startedRow_41 : decode cX10_startedRow 41 = .ok (.iload_n 2, 1) := by decide +kernel
theorem dX10_startedRow_42 : decode cX10_startedRow 42 = .ok (.ireturn, 1) := by decide +kernel
theorem dX10_startedRow_43 : decode cX10_startedRow 43 = .ok (.iinc 2 1, 3) := by decide +kernel
theorem dX10_startedRow_46 : decode cX10_startedRow 46 = .ok (.goto (-44), 3) := by decide +kernel
theorem dX10_startedRow_49 : decode cX10_startedRow 49 = .ok (.iconst (-1), 1) := by decide +kernel
theorem dX10_startedRow_50 : decode cX10_startedRow 50 = .ok (.ireturn, 1) := by decide +kernel
set_option maxRecDepth 20000 in
theorem ggX10_sharedMany_X10_points : GoodIn wsX10_sharedMany wsX10_points := goodIn_r _ [5, 6, 31, 32, 33, 34, 35, 36, 37, 38, 39, 40, 41, 42, 43, 44, 45, 46, 47, 48, 49, 50, 51, 52, 53, 54, 55, 56, 57, 58, 59, 60, 61, 62, 63, 64, 65, 66, 67, 68, 69, 70, 71, 72, 73, 74, 75, 76, 77, 78, 79, 80, 81, 82, 83, 84, 85, 86, 87] (by decide +kernel) (by decide +kernel)
set_option maxRecDepth 20000 in
theorem gX10_sharedMany_X10_points : GoodIn wsX10_sharedMany (wsV RX10 262 RX10 yX10_points wsX10_points) := goodIn_app (goodIn_of _ (by decide +kernel)) ggX10_sharedMany_X10_points
set_option maxRecDepth 20000 in
theorem ggX10_sharedMany_X10_rowOf : GoodIn wsX10_sharedMany wsX10_rowOf := goodIn_r _ [10, 11, 12, 13, 14, 4, 15, 6, 16, 17, 18, 19, 20, 21, 22, 23, 24, 25, 31, 32, 33, 34, 35, 36, 37, 38, 39, 40, 41, 42, 43, 44, 45, 46, 47, 48, 49, 50, 51, 52, 53, 54, 55, 56, 57, 58, 59, 60, 61, 62, 63, 64, 65, 66, 67, 68, 69, 70, 71, 72, 73, 74, 75, 76, 77, 78, 79, 80, 81, 82, 83, 84, 85, 86, 87] (by decide +kernel) (by decide +kernel)
set_option maxRecDepth 20000 in
theorem gX10_sharedMany_X10_rowOf : GoodIn wsX10_sharedMany (wsV RX10 290 RX10 yX10_rowOf wsX10_rowOf) := goodIn_app (goodIn_of _ (by decide +kernel)) ggX10_sharedMany_X10_rowOf
set_option maxRecDepth 20000 in
theorem ggX10_sharedMany_X10_startedRow : GoodIn wsX10_sharedMany wsX10_startedRow := goodIn_r _ [29, 11, 30, 12, 13, 14, 4, 15, 6, 21, 22, 23, 24, 25, 16, 17, 18, 19, 20, 31, 32, 33, 34, 35, 36, 37, 38, 39, 40, 41, 42, 43, 44, 45, 46, 47, 48, 49, 50, 51, 52, 53, 54, 55, 56, 57, 58, 59, 60, 61, 62, 63, 64, 65, 66, 67, 68, 69, 70, 71, 72, 73, 74, 75, 76, 77, 78, 79, 80, 81, 82, 83, 84, 85, 86, 87] (by decide +kernel) (by decide +kernel)
set_option maxRecDepth 20000 in
theorem gX10_sharedMany_X10_startedRow : GoodIn wsX10_sharedMany (wsV RX10 293 RX10 yX10_startedRow wsX10_startedRow) := goodIn_app (goodIn_of _ (by decide +kernel)) ggX10_sharedMany_X10_startedRow
theorem dX10_sharedMany_0 : decode cX10_sharedMany 0 = .ok (.iconst 0, 1) := by decide +kernel
theorem dX10_sharedMany_1 : decode cX10_sharedMany 1 = .ok (.istore_n 2, 1) := by decide +kernel
theorem dX10_sharedMany_2 : decode cX10_sharedMany 2 = .ok (.iconst 0, 1) := by decide +kernel
theorem dX10_sharedMany_3 : decode cX10_sharedMany 3 = .ok (.istore_n 3, 1) := by decide +kernel
theorem dX10_sharedMany_4 : decode cX10_sharedMany 4 = .ok (.iload_n 3, 1) := by decide +kernel
theorem dX10_sharedMany_5 : decode cX10_sharedMany 5 = .ok (.aload_n 0, 1) := by decide +kernel
theorem dX10_sharedMany_6 : decode cX10_sharedMany 6 = .ok (.invokevirtual 262, 3) := by decide +kernel
theorem dX10_sharedMany_9 : decode cX10_sharedMany 9 = .ok (.if_icmp .ge 31, 3) := by decide +kernel
theorem dX10_sharedMany_12 : decode cX10_sharedMany 12 = .ok (.aload_n 0, 1) := by decide +kernel
theorem dX10_sharedMany_13 : decode cX10_sharedMany 13 = .ok (.iload_n 1, 1) := by decide +kernel
theorem dX10_sharedMany_14 : decode cX10_sharedMany 14 = .ok (.iload_n 3, 1) := by decide +kernel
theorem dX10_sharedMany_15 : decode cX10_sharedMany 15 = .ok (.invokevirtual 290, 3) := by decide +kernel
theorem dX10_sharedMany_18 : decode cX10_sharedMany 18 = .ok (.iconst (-1), 1) := by decide +kernel
theorem dX10_sharedMany_19 : decode cX10_sharedMany 19 = .ok (.if_icmp .eq 15, 3) := by decide +kernel
theorem dX10_sharedMany_22 : decode cX10_sharedMany 22 = .ok (.aload_n 0, 1) := by decide +kernel
theorem dX10_sharedMany_23 : decode cX10_sharedMany 23 = .ok (.iload_n 3, 1) := by decide +kernel
theorem dX10_sharedMany_24 : decode cX10_sharedMany 24 = .ok (.invokevirtual 293, 3) := by decide +kernel
theorem dX10_sharedMany_27 : decode cX10_sharedMany 27 = .ok (.iconst (-1), 1) := by decide +kernel
theorem dX10_sharedMany_28 : decode cX10_sharedMany 28 = .ok (.if_icmp .eq 6, 3) := by decide +kernel
theorem dX10_sharedMany_31 : decode cX10_sharedMany 31 = .ok (.iinc 2 1, 3) := by decide +kernel
theorem dX10_sharedMany_34 : decode cX10_sharedMany 34 = .ok (.iinc 3 1, 3) := by decide +kernel
theorem dX10_sharedMany_37 : decode cX10_sharedMany 37 = .ok (.goto (-33), 3) := by decide +kernel
theorem dX10_sharedMany_40 : decode cX10_sharedMany 40 = .ok (.iload_n 2, 1) := by decide +kernel
theorem dX10_sharedMany_41 : decode cX10_sharedMany 41 = .ok (.ireturn, 1) := by decide +kernel
theorem dX10_apart_0 : decode cX10_apart 0 = .ok (.lload_n 0, 1) := by decide +kernel
theorem dX10_apart_1 : decode cX10_apart 1 = .ok (.lload_n 2, 1) := by decide +kernel
theorem dX10_apart_2 : decode cX10_apart 2 = .ok (.lcmp, 1) := by decide +kernel
theorem dX10_apart_3 : decode cX10_apart 3 = .ok (.ifCond .le 9, 3) := by decide +kernel
theorem dX10_apart_6 : decode cX10_apart 6 = .ok (.lload_n 0, 1) := by decide +kernel
theorem dX10_apart_7 : decode cX10_apart 7 = .ok (.lload_n 2, 1) := by decide +kernel
theorem dX10_apart_8 : decode cX10_apart 8 = .ok (.lsub, 1) := by decide +kernel
theorem dX10_apart_9 : decode cX10_apart 9 = .ok (.goto 6, 3) := by decide +kernel
theorem dX10_apart_12 : decode cX10_apart 12 = .ok (.lload_n 2, 1) := by decide +kernel
theorem dX10_apart_13 : decode cX10_apart 13 = .ok (.lload_n 0, 1) := by decide +kernel
theorem dX10_apart_14 : decode cX10_apart 14 = .ok (.lsub, 1) := by decide +kernel
theorem dX10_apart_15 : decode cX10_apart 15 = .ok (.lreturn, 1) := by decide +kernel
set_option maxRecDepth 20000 in
theorem ggX10_unlike_X10_points : GoodIn wsX10_unlike wsX10_points := goodIn_r _ [5, 6, 49, 50, 51, 52, 53, 54, 55, 56, 57, 58, 59, 60, 61, 62, 63, 64, 65, 66, 67, 68, 69, 70, 71, 72, 73, 74, 75, 76, 77, 78, 79, 80, 81, 82, 83, 84, 85, 86, 87, 88, 89, 90, 91, 92, 93, 94, 95, 96, 97, 98, 99, 100, 101, 102, 103, 104, 105] (by decide +kernel) (by decide +kernel)
set_option maxRecDepth 20000 in
theorem gX10_unlike_X10_points : GoodIn wsX10_unlike (wsV RX10 262 RX10 yX10_points wsX10_points) := goodIn_app (goodIn_of _ (by decide +kernel)) ggX10_unlike_X10_points
set_option maxRecDepth 20000 in
theorem ggX10_unlike_X10_rowOf : GoodIn wsX10_unlike wsX10_rowOf := goodIn_r _ [10, 11, 12, 13, 14, 4, 15, 6, 16, 17, 18, 19, 20, 21, 22, 23, 24, 25, 49, 50, 51, 52, 53, 54, 55, 56, 57, 58, 59, 60, 61, 62, 63, 64, 65, 66, 67, 68, 69, 70, 71, 72, 73, 74, 75, 76, 77, 78, 79, 80, 81, 82, 83, 84, 85, 86, 87, 88, 89, 90, 91, 92, 93, 94, 95, 96, 97, 98, 99, 100, 101, 102, 103, 104, 105] (by decide +kernel) (by decide +kernel)
set_option maxRecDepth 20000 in
theorem gX10_unlike_X10_rowOf : GoodIn wsX10_unlike (wsV RX10 290 RX10 yX10_rowOf wsX10_rowOf) := goodIn_app (goodIn_of _ (by decide +kernel)) ggX10_unlike_X10_rowOf
set_option maxRecDepth 20000 in
theorem ggX10_unlike_X10_startedRow : GoodIn wsX10_unlike wsX10_startedRow := goodIn_r _ [29, 11, 30, 12, 13, 14, 4, 15, 6, 21, 22, 23, 24, 25, 16, 17, 18, 19, 20, 49, 50, 51, 52, 53, 54, 55, 56, 57, 58, 59, 60, 61, 62, 63, 64, 65, 66, 67, 68, 69, 70, 71, 72, 73, 74, 75, 76, 77, 78, 79, 80, 81, 82, 83, 84, 85, 86, 87, 88, 89, 90, 91, 92, 93, 94, 95, 96, 97, 98, 99, 100, 101, 102, 103, 104, 105] (by decide +kernel) (by decide +kernel)
set_option maxRecDepth 20000 in
theorem gX10_unlike_X10_startedRow : GoodIn wsX10_unlike (wsV RX10 293 RX10 yX10_startedRow wsX10_startedRow) := goodIn_app (goodIn_of _ (by decide +kernel)) ggX10_unlike_X10_startedRow
set_option maxRecDepth 20000 in
theorem ggX10_unlike_X10_turnedBy : GoodIn wsX10_unlike wsX10_turnedBy := goodIn_r _ [34, 35, 49, 50, 51, 52, 53, 54, 55, 56, 57, 58, 59, 60, 61, 62, 63, 64, 65, 66, 67, 68, 69, 70, 71, 72, 73, 74, 75, 76, 77, 78, 79, 80, 81, 82, 83, 84, 85, 86, 87, 88, 89, 90, 91, 92, 93, 94, 95, 96, 97, 98, 99, 100, 101, 102, 103, 104, 105] (by decide +kernel) (by decide +kernel)
set_option maxRecDepth 20000 in
theorem gX10_unlike_X10_turnedBy : GoodIn wsX10_unlike (wsV RX10 277 RX10 yX10_turnedBy wsX10_turnedBy) := goodIn_app (goodIn_of _ (by decide +kernel)) ggX10_unlike_X10_turnedBy
set_option maxRecDepth 20000 in
theorem ggX10_unlike_X10_put : GoodIn wsX10_unlike wsX10_put := goodIn_r _ [39, 40, 16, 17, 18, 4, 19, 20, 41, 42, 43, 44, 45, 31, 32, 33, 34, 35, 49, 50, 51, 52, 53, 54, 55, 56, 57, 58, 59, 60, 61, 62, 63, 64, 65, 66, 67, 68, 69, 70, 71, 72, 73, 74, 75, 76, 77, 78, 79, 80, 81, 82, 83, 84, 85, 86, 87, 88, 89, 90, 91, 92, 93, 94, 95, 96, 97, 98, 99, 100, 101, 102, 103, 104, 105] (by decide +kernel) (by decide +kernel)
set_option maxRecDepth 20000 in
theorem gX10_unlike_X10_put : GoodIn wsX10_unlike (wsV RX10 296 RX10 yX10_put wsX10_put) := goodIn_app (goodIn_of _ (by decide +kernel)) ggX10_unlike_X10_put
set_option maxRecDepth 20000 in
theorem ggX10_unlike_X10_apart : GoodIn wsX10_unlike wsX10_apart := goodIn_r _ [48] (by decide +kernel) (by decide +kernel)
set_option maxRecDepth 20000 in
theorem gX10_unlike_X10_apart : GoodIn wsX10_unlike (va_wsS RX10 299 yX10_apart wsX10_apart) := goodIn_app (goodIn_of _ (by decide +kernel)) ggX10_unlike_X10_apart
theorem dX10_unlike_0 : decode cX10_unlike 0 = .ok (.iconst (-1), 1) := by decide +kernel
theorem dX10_unlike_1 : decode cX10_unlike 1 = .ok (.istore_n 3, 1) := by decide +kernel
theorem dX10_unlike_2 : decode cX10_unlike 2 = .ok (.lconst 0, 1) := by decide +kernel
theorem dX10_unlike_3 : decode cX10_unlike 3 = .ok (.lstore 4, 2) := by decide +kernel
theorem dX10_unlike_5 : decode cX10_unlike 5 = .ok (.iconst 0, 1) := by decide +kernel
theorem dX10_unlike_6 : decode cX10_unlike 6 = .ok (.istore 6, 2) := by decide +kernel
theorem dX10_unlike_8 : decode cX10_unlike 8 = .ok (.iload 6, 2) := by decide +kernel
theorem dX10_unlike_10 : decode cX10_unlike 10 = .ok (.aload_n 0, 1) := by decide +kernel
theorem dX10_unlike_11 : decode cX10_unlike 11 = .ok (.invokevirtual 262, 3) := by decide +kernel
theorem dX10_unlike_14 : decode cX10_unlike 14 = .ok (.if_icmp .ge 117, 3) := by decide +kernel
theorem dX10_unlike_17 : decode cX10_unlike 17 = .ok (.aload_n 0, 1) := by decide +kernel
theorem dX10_unlike_18 : decode cX10_unlike 18 = .ok (.iload_n 1, 1) := by decide +kernel
theorem dX10_unlike_19 : decode cX10_unlike 19 = .ok (.iload 6, 2) := by decide +kernel
theorem dX10_unlike_21 : decode cX10_unlike 21 = .ok (.invokevirtual 290, 3) := by decide +kernel
theorem dX10_unlike_24 : decode cX10_unlike 24 = .ok (.istore 7, 2) := by decide +kernel
theorem dX10_unlike_26 : decode cX10_unlike 26 = .ok (.aload_n 0, 1) := by decide +kernel
theorem dX10_unlike_27 : decode cX10_unlike 27 = .ok (.iload 6, 2) := by decide +kernel
theorem dX10_unlike_29 : decode cX10_unlike 29 = .ok (.invokevirtual 293, 3) := by decide +kernel
theorem dX10_unlike_32 : decode cX10_unlike 32 = .ok (.istore 8, 2) := by decide +kernel
theorem dX10_unlike_34 : decode cX10_unlike 34 = .ok (.iload 7, 2) := by decide +kernel
theorem dX10_unlike_36 : decode cX10_unlike 36 = .ok (.iconst (-1), 1) := by decide +kernel
theorem dX10_unlike_37 : decode cX10_unlike 37 = .ok (.if_icmp .eq 88, 3) := by decide +kernel
theorem dX10_unlike_40 : decode cX10_unlike 40 = .ok (.iload 8, 2) := by decide +kernel
theorem dX10_unlike_42 : decode cX10_unlike 42 = .ok (.iconst (-1), 1) := by decide +kernel
theorem dX10_unlike_43 : decode cX10_unlike 43 = .ok (.if_icmp .ne 6, 3) := by decide +kernel
theorem dX10_unlike_46 : decode cX10_unlike 46 = .ok (.goto 79, 3) := by decide +kernel
theorem dX10_unlike_49 : decode cX10_unlike 49 = .ok (.iload_n 3, 1) := by decide +kernel
theorem dX10_unlike_50 : decode cX10_unlike 50 = .ok (.iconst (-1), 1) := by decide +kernel
theorem dX10_unlike_51 : decode cX10_unlike 51 = .ok (.if_icmp .ne 6, 3) := by decide +kernel
theorem dX10_unlike_54 : decode cX10_unlike 54 = .ok (.iload 6, 2) := by decide +kernel
theorem dX10_unlike_56 : decode cX10_unlike 56 = .ok (.istore_n 3, 1) := by decide +kernel
theorem dX10_unlike_57 : decode cX10_unlike 57 = .ok (.iconst 0, 1) := by decide +kernel
theorem dX10_unlike_58 : decode cX10_unlike 58 = .ok (.istore 9, 2) := by decide +kernel
theorem dX10_unlike_60 : decode cX10_unlike 60 = .ok (.iload 9, 2) := by decide +kernel
theorem dX10_unlike_62 : decode cX10_unlike 62 = .ok (.iconst 2, 1) := by decide +kernel
theorem dX10_unlike_63 : decode cX10_unlike 63 = .ok (.if_icmp .ge 62, 3) := by decide +kernel
theorem dX10_unlike_66 : decode cX10_unlike 66 = .ok (.lload 4, 2) := by decide +kernel
theorem dX10_unlike_68 : decode cX10_unlike 68 = .ok (.aload_n 0, 1) := by decide +kernel
theorem dX10_unlike_69 : decode cX10_unlike 69 = .ok (.iload 7, 2) := by decide +kernel
theorem dX10_unlike_71 : decode cX10_unlike 71 = .ok (.iload_n 2, 1) := by decide +kernel
theorem dX10_unlike_72 : decode cX10_unlike 72 = .ok (.iload 9, 2) := by decide +kernel
theorem dX10_unlike_74 : decode cX10_unlike 74 = .ok (.invokevirtual 277, 3) := by decide +kernel
theorem dX10_unlike_77 : decode cX10_unlike 77 = .ok (.aload_n 0, 1) := by decide +kernel
theorem dX10_unlike_78 : decode cX10_unlike 78 = .ok (.aload_n 0, 1) := by decide +kernel
theorem dX10_unlike_79 : decode cX10_unlike 79 = .ok (.iload_n 1, 1) := by decide +kernel
theorem dX10_unlike_80 : decode cX10_unlike 80 = .ok (.iload_n 3, 1) := by decide +kernel
theorem dX10_unlike_81 : decode cX10_unlike 81 = .ok (.invokevirtual 290, 3) := by decide +kernel
theorem dX10_unlike_84 : decode cX10_unlike 84 = .ok (.iload_n 2, 1) := by decide +kernel
theorem dX10_unlike_85 : decode cX10_unlike 85 = .ok (.iload 9, 2) := by decide +kernel
theorem dX10_unlike_87 : decode cX10_unlike 87 = .ok (.invokevirtual 277, 3) := by decide +kernel
theorem dX10_unlike_90 : decode cX10_unlike 90 = .ok (.isub, 1) := by decide +kernel
theorem dX10_unlike_91 : decode cX10_unlike 91 = .ok (.i2l, 1) := by decide +kernel
theorem dX10_unlike_92 : decode cX10_unlike 92 = .ok (.aload_n 0, 1) := by decide +kernel
theorem dX10_unlike_93 : decode cX10_unlike 93 = .ok (.iload 8, 2) := by decide +kernel
theorem dX10_unlike_95 : decode cX10_unlike 95 = .ok (.iload 9, 2) := by decide +kernel
theorem dX10_unlike_97 : decode cX10_unlike 97 = .ok (.invokevirtual 296, 3) := by decide +kernel
theorem dX10_unlike_100 : decode cX10_unlike 100 = .ok (.aload_n 0, 1) := by decide +kernel
theorem dX10_unlike_101 : decode cX10_unlike 101 = .ok (.aload_n 0, 1) := by decide +kernel
theorem dX10_unlike_102 : decode cX10_unlike 102 = .ok (.iload_n 3, 1) := by decide +kernel
theorem dX10_unlike_103 : decode cX10_unlike 103 = .ok (.invokevirtual 293, 3) := by decide +kernel
theorem dX10_unlike_106 : decode cX10_unlike 106 = .ok (.iload 9, 2) := by decide +kernel
theorem dX10_unlike_108 : decode cX10_unlike 108 = .ok (.invokevirtual 296, 3) := by decide +kernel
theorem dX10_unlike_111 : decode cX10_unlike 111 = .ok (.isub, 1) := by decide +kernel
theorem dX10_unlike_112 : decode cX10_unlike 112 = .ok (.i2l, 1) := by decide +kernel
theorem dX10_unlike_113 : decode cX10_unlike 113 = .ok (.invokestatic 299, 3) := by decide +kernel
theorem dX10_unlike_116 : decode cX10_unlike 116 = .ok (.ladd, 1) := by decide +kernel
theorem dX10_unlike_117 : decode cX10_unlike 117 = .ok (.lstore 4, 2) := by decide +kernel
theorem dX10_unlike_119 : decode cX10_unlike 119 = .ok (.iinc 9 1, 3) := by decide +kernel
theorem dX10_unlike_122 : decode cX10_unlike 122 = .ok (.goto (-62), 3) := by decide +kernel
theorem dX10_unlike_125 : decode cX10_unlike 125 = .ok (.iinc 6 1, 3) := by decide +kernel
theorem dX10_unlike_128 : decode cX10_unlike 128 = .ok (.goto (-120), 3) := by decide +kernel
theorem dX10_unlike_131 : decode cX10_unlike 131 = .ok (.lload 4, 2) := by decide +kernel
theorem dX10_unlike_133 : decode cX10_unlike 133 = .ok (.lreturn, 1) := by decide +kernel
set_option maxRecDepth 20000 in
theorem ggX10_startsBy_X10_unlike : GoodIn wsX10_startsBy wsX10_unlike := goodIn_r _ [9, 10, 11, 12, 8, 13, 14, 15, 16, 17, 18, 19, 20, 21, 22, 23, 24, 25, 26, 27, 28, 29, 30, 31, 32, 33, 34, 35, 36, 37, 4, 38, 39, 40, 41, 42, 43, 44, 45, 46, 3, 47, 48, 49, 50, 2, 51, 52, 53, 54, 55, 56, 57, 58, 59, 60, 61, 62, 63, 64, 65, 66, 67, 68, 69, 70, 71, 72, 73, 74, 75, 76, 77, 78, 79, 80, 81, 82, 83, 84, 85, 86, 87, 88, 89, 90, 91, 92, 93, 94, 95, 96, 97, 98, 99, 100, 101, 102, 103, 104, 105, 106, 107, 108, 109, 110] (by decide +kernel) (by decide +kernel)
set_option maxRecDepth 20000 in
theorem gX10_startsBy_X10_unlike : GoodIn wsX10_startsBy (wsV RX10 303 RX10 yX10_unlike wsX10_unlike) := goodIn_app (goodIn_of _ (by decide +kernel)) ggX10_startsBy_X10_unlike
set_option maxRecDepth 20000 in
theorem ggX10_startsBy_X10_rowOf : GoodIn wsX10_startsBy wsX10_rowOf := goodIn_r _ [18, 19, 20, 21, 22, 8, 23, 14, 24, 25, 26, 27, 28, 29, 30, 31, 32, 33, 54, 55, 56, 57, 58, 59, 60, 61, 62, 63, 64, 65, 66, 67, 68, 69, 70, 71, 72, 73, 74, 75, 76, 77, 78, 79, 80, 81, 82, 83, 84, 85, 86, 87, 88, 89, 90, 91, 92, 93, 94, 95, 96, 97, 98, 99, 100, 101, 102, 103, 104, 105, 106, 107, 108, 109, 110] (by decide +kernel) (by decide +kernel)
set_option maxRecDepth 20000 in
theorem gX10_startsBy_X10_rowOf : GoodIn wsX10_startsBy (wsV RX10 290 RX10 yX10_rowOf wsX10_rowOf) := goodIn_app (goodIn_of _ (by decide +kernel)) ggX10_startsBy_X10_rowOf
set_option maxRecDepth 20000 in
theorem ggX10_startsBy_X10_startedRow : GoodIn wsX10_startsBy wsX10_startedRow := goodIn_r _ [37, 19, 4, 20, 21, 22, 8, 23, 14, 29, 30, 31, 32, 33, 24, 25, 26, 27, 28, 54, 55, 56, 57, 58, 59, 60, 61, 62, 63, 64, 65, 66, 67, 68, 69, 70, 71, 72, 73, 74, 75, 76, 77, 78, 79, 80, 81, 82, 83, 84, 85, 86, 87, 88, 89, 90, 91, 92, 93, 94, 95, 96, 97, 98, 99, 100, 101, 102, 103, 104, 105, 106, 107, 108, 109, 110] (by decide +kernel) (by decide +kernel)
set_option maxRecDepth 20000 in
theorem gX10_startsBy_X10_startedRow : GoodIn wsX10_startsBy (wsV RX10 293 RX10 yX10_startedRow wsX10_startedRow) := goodIn_app (goodIn_of _ (by decide +kernel)) ggX10_startsBy_X10_startedRow
set_option maxRecDepth 20000 in
theorem ggX10_startsBy_X10_put : GoodIn wsX10_startsBy wsX10_put := goodIn_r _ [46, 3, 24, 25, 26, 8, 27, 28, 47, 48, 49, 50, 2, 38, 39, 40, 41, 42, 54, 55, 56, 57, 58, 59, 60, 61, 62, 63, 64, 65, 66, 67, 68, 69, 70, 71, 72, 73, 74, 75, 76, 77, 78, 79, 80, 81, 82, 83, 84, 85, 86, 87, 88, 89, 90, 91, 92, 93, 94, 95, 96, 97, 98, 99, 100, 101, 102, 103, 104, 105, 106, 107, 108, 109, 110] (by decide +kernel) (by decide +kernel)
set_option maxRecDepth 20000 in
theorem gX10_startsBy_X10_put : GoodIn wsX10_startsBy (wsV RX10 296 RX10 yX10_put wsX10_put) := goodIn_app (goodIn_of _ (by decide +kernel)) ggX10_startsBy_X10_put
set_option maxRecDepth 20000 in
theorem ggX10_startsBy_X10_turned : GoodIn wsX10_startsBy wsX10_turned := goodIn_r _ [50, 2, 24, 25, 26, 8, 27, 28, 38, 39, 40, 41, 42, 54, 55, 56, 57, 58, 59, 60, 61, 62, 63, 64, 65, 66, 67, 68, 69, 70, 71, 72, 73, 74, 75, 76, 77, 78, 79, 80, 81, 82, 83, 84, 85, 86, 87, 88, 89, 90, 91, 92, 93, 94, 95, 96, 97, 98, 99, 100, 101, 102, 103, 104, 105, 106, 107, 108, 109, 110] (by decide +kernel) (by decide +kernel)
set_option maxRecDepth 20000 in
theorem gX10_startsBy_X10_turned : GoodIn wsX10_startsBy (wsV RX10 284 RX10 yX10_turned wsX10_turned) := goodIn_app (goodIn_of _ (by decide +kernel)) ggX10_startsBy_X10_turned
theorem dX10_startsBy_0 : decode cX10_startsBy 0 = .ok (.aload_n 0, 1) := by decide +kernel
theorem dX10_startsBy_1 : decode cX10_startsBy 1 = .ok (.getfield 64, 3) := by decide +kernel
theorem dX10_startsBy_4 : decode cX10_startsBy 4 = .ok (.bipush 12, 2) := by decide +kernel
theorem dX10_startsBy_6 : decode cX10_startsBy 6 = .ok (.iload_n 1, 1) := by decide +kernel
theorem dX10_startsBy_7 : decode cX10_startsBy 7 = .ok (.iadd, 1) := by decide +kernel
theorem dX10_startsBy_8 : decode cX10_startsBy 8 = .ok (.iaload, 1) := by decide +kernel
theorem dX10_startsBy_9 : decode cX10_startsBy 9 = .ok (.iconst 4, 1) := by decide +kernel
theorem dX10_startsBy_10 : decode cX10_startsBy 10 = .ok (.if_icmp .ne 43, 3) := by decide +kernel
theorem dX10_startsBy_13 : decode cX10_startsBy 13 = .ok (.iconst 0, 1) := by decide +kernel
theorem dX10_startsBy_14 : decode cX10_startsBy 14 = .ok (.istore_n 2, 1) := by decide +kernel
theorem dX10_startsBy_15 : decode cX10_startsBy 15 = .ok (.iconst 1, 1) := by decide +kernel
theorem dX10_startsBy_16 : decode cX10_startsBy 16 = .ok (.istore_n 3, 1) := by decide +kernel
theorem dX10_startsBy_17 : decode cX10_startsBy 17 = .ok (.iload_n 3, 1) := by decide +kernel
theorem dX10_startsBy_18 : decode cX10_startsBy 18 = .ok (.iconst 4, 1) := by decide +kernel
theorem dX10_startsBy_19 : decode cX10_startsBy 19 = .ok (.if_icmp .ge 27, 3) := by decide +kernel
theorem dX10_startsBy_22 : decode cX10_startsBy 22 = .ok (.aload_n 0, 1) := by decide +kernel
theorem dX10_startsBy_23 : decode cX10_startsBy 23 = .ok (.iload_n 1, 1) := by decide +kernel
theorem dX10_startsBy_24 : decode cX10_startsBy 24 = .ok (.iload_n 3, 1) := by decide +kernel
theorem dX10_startsBy_25 : decode cX10_startsBy 25 = .ok (.invokevirtual 303, 3) := by decide +kernel
theorem dX10_startsBy_28 : decode cX10_startsBy 28 = .ok (.aload_n 0, 1) := by decide +kernel
theorem dX10_startsBy_29 : decode cX10_startsBy 29 = .ok (.iload_n 1, 1) := by decide +kernel
theorem dX10_startsBy_30 : decode cX10_startsBy 30 = .ok (.iload_n 2, 1) := by decide +kernel
theorem dX10_startsBy_31 : decode cX10_startsBy 31 = .ok (.invokevirtual 303, 3) := by decide +kernel
theorem dX10_startsBy_34 : decode cX10_startsBy 34 = .ok (.lcmp, 1) := by decide +kernel
theorem dX10_startsBy_35 : decode cX10_startsBy 35 = .ok (.ifCond .ge 5, 3) := by decide +kernel
theorem dX10_startsBy_38 : decode cX10_startsBy 38 = .ok (.iload_n 3, 1) := by decide +kernel
theorem dX10_startsBy_39 : decode cX10_startsBy 39 = .ok (.istore_n 2, 1) := by decide +kernel
theorem dX10_startsBy_40 : decode cX10_startsBy 40 = .ok (.iinc 3 1, 3) := by decide +kernel
theorem dX10_startsBy_43 : decode cX10_startsBy 43 = .ok (.goto (-26), 3) := by decide +kernel
theorem dX10_startsBy_46 : decode cX10_startsBy 46 = .ok (.aload_n 0, 1) := by decide +kernel
theorem dX10_startsBy_47 : decode cX10_startsBy 47 = .ok (.getfield 98, 3) := by decide +kernel
theorem dX10_startsBy_50 : decode cX10_startsBy 50 = .ok (.iload_n 1, 1) := by decide +kernel
theorem dX10_startsBy_51 : decode cX10_startsBy 51 = .ok (.iload_n 2, 1) := by decide +kernel
theorem dX10_startsBy_52 : decode cX10_startsBy 52 = .ok (.iastore, 1) := by decide +kernel
theorem dX10_startsBy_53 : decode cX10_startsBy 53 = .ok (.iconst 0, 1) := by decide +kernel
theorem dX10_startsBy_54 : decode cX10_startsBy 54 = .ok (.istore_n 2, 1) := by decide +kernel
theorem dX10_startsBy_55 : decode cX10_startsBy 55 = .ok (.aload_n 0, 1) := by decide +kernel
theorem dX10_startsBy_56 : decode cX10_startsBy 56 = .ok (.iload_n 1, 1) := by decide +kernel
theorem dX10_startsBy_57 : decode cX10_startsBy 57 = .ok (.iload_n 2, 1) := by decide +kernel
theorem dX10_startsBy_58 : decode cX10_startsBy 58 = .ok (.invokevirtual 290, 3) := by decide +kernel
theorem dX10_startsBy_61 : decode cX10_startsBy 61 = .ok (.iconst (-1), 1) := by decide +kernel
theorem dX10_startsBy_62 : decode cX10_startsBy 62 = .ok (.if_icmp .eq 12, 3) := by decide +kernel
theorem dX10_startsBy_65 : decode cX10_startsBy 65 = .ok (.aload_n 0, 1) := by decide +kernel
theorem dX10_startsBy_66 : decode cX10_startsBy 66 = .ok (.iload_n 2, 1) := by decide +kernel
theorem dX10_startsBy_67 : decode cX10_startsBy 67 = .ok (.invokevirtual 293, 3) := by decide +kernel
theorem dX10_startsBy_70 : decode cX10_startsBy 70 = .ok (.iconst (-1), 1) := by decide +kernel
theorem dX10_startsBy_71 : decode cX10_startsBy 71 = .ok (.if_icmp .ne 9, 3) := by decide +kernel
theorem dX10_startsBy_74 : decode cX10_startsBy 74 = .ok (.iinc 2 1, 3) := by decide +kernel
theorem dX10_startsBy_77 : decode cX10_startsBy 77 = .ok (.goto (-22), 3) := by decide +kernel
theorem dX10_startsBy_80 : decode cX10_startsBy 80 = .ok (.iconst 0, 1) := by decide +kernel
theorem dX10_startsBy_81 : decode cX10_startsBy 81 = .ok (.istore_n 3, 1) := by decide +kernel
theorem dX10_startsBy_82 : decode cX10_startsBy 82 = .ok (.iload_n 3, 1) := by decide +kernel
theorem dX10_startsBy_83 : decode cX10_startsBy 83 = .ok (.iconst 2, 1) := by decide +kernel
theorem dX10_startsBy_84 : decode cX10_startsBy 84 = .ok (.if_icmp .ge 42, 3) := by decide +kernel
theorem dX10_startsBy_87 : decode cX10_startsBy 87 = .ok (.aload_n 0, 1) := by decide +kernel
theorem dX10_startsBy_88 : decode cX10_startsBy 88 = .ok (.getfield 101, 3) := by decide +kernel
theorem dX10_startsBy_91 : decode cX10_startsBy 91 = .ok (.bipush 38, 2) := by decide +kernel
theorem dX10_startsBy_93 : decode cX10_startsBy 93 = .ok (.iload_n 3, 1) := by decide +kernel
theorem dX10_startsBy_94 : decode cX10_startsBy 94 = .ok (.imul, 1) := by decide +kernel
theorem dX10_startsBy_95 : decode cX10_startsBy 95 = .ok (.iload_n 1, 1) := by decide +kernel
theorem dX10_startsBy_96 : decode cX10_startsBy 96 = .ok (.iadd, 1) := by decide +kernel
theorem dX10_startsBy_97 : decode cX10_startsBy 97 = .ok (.aload_n 0, 1) := by decide +kernel
theorem dX10_startsBy_98 : decode cX10_startsBy 98 = .ok (.aload_n 0, 1) := by decide +kernel
theorem dX10_startsBy_99 : decode cX10_startsBy 99 = .ok (.iload_n 2, 1) := by decide +kernel
theorem dX10_startsBy_100 : decode cX10_startsBy 100 = .ok (.invokevirtual 293, 3) := by decide +kernel
theorem dX10_startsBy_103 : decode cX10_startsBy 103 = .ok (.iload_n 3, 1) := by decide +kernel
theorem dX10_startsBy_104 : decode cX10_startsBy 104 = .ok (.invokevirtual 296, 3) := by decide +kernel
theorem dX10_startsBy_107 : decode cX10_startsBy 107 = .ok (.aload_n 0, 1) := by decide +kernel
theorem dX10_startsBy_108 : decode cX10_startsBy 108 = .ok (.aload_n 0, 1) := by decide +kernel
theorem dX10_startsBy_109 : decode cX10_startsBy 109 = .ok (.iload_n 1, 1) := by decide +kernel
theorem dX10_startsBy_110 : decode cX10_startsBy 110 = .ok (.iload_n 2, 1) := by decide +kernel
theorem dX10_startsBy_111 : decode cX10_startsBy 111 = .ok (.invokevirtual 290, 3) := by decide +kernel
theorem dX10_startsBy_114 : decode cX10_startsBy 114 = .ok (.iload_n 3, 1) := by decide +kernel
theorem dX10_startsBy_115 : decode cX10_startsBy 115 = .ok (.invokevirtual 284, 3) := by decide +kernel
theorem dX10_startsBy_118 : decode cX10_startsBy 118 = .ok (.isub, 1) := by decide +kernel
theorem dX10_startsBy_119 : decode cX10_startsBy 119 = .ok (.iastore, 1) := by decide +kernel
theorem dX10_startsBy_120 : decode cX10_startsBy 120 = .ok (.iinc 3 1, 3) := by decide +kernel
theorem dX10_startsBy_123 : decode cX10_startsBy 123 = .ok (.goto (-41), 3) := by decide +kernel
theorem dX10_startsBy_126 : decode cX10_startsBy 126 = .ok (.aload_n 0, 1) := by decide +kernel
theorem dX10_startsBy_127 : decode cX10_startsBy 127 = .ok (.getfield 104, 3) := by decide +kernel
theorem dX10_startsBy_130 : decode cX10_startsBy 130 = .ok (.iload_n 1, 1) := by decide +kernel
theorem dX10_startsBy_131 : decode cX10_startsBy 131 = .ok (.iconst 1, 1) := by decide +kernel
theorem dX10_startsBy_132 : decode cX10_startsBy 132 = .ok (.bastore, 1) := by decide +kernel
theorem dX10_startsBy_133 : decode cX10_startsBy 133 = .ok (.return_, 1) := by decide +kernel
set_option maxRecDepth 20000 in
theorem ggX10_nextStarted_X10_pictures : GoodIn wsX10_nextStarted wsX10_pictures := goodIn_r _ [7, 8, 40, 41, 42, 43, 44, 45, 46, 47, 48, 49, 50, 51, 52, 53, 54, 55, 56, 57, 58, 59, 60, 61, 62, 63, 64, 65, 66, 67, 68, 69, 70, 71, 72, 73, 74, 75, 76, 77, 78, 79, 80, 81, 82, 83, 84, 85, 86, 87, 88, 89, 90, 91, 92, 93, 94, 95, 96] (by decide +kernel) (by decide +kernel)
set_option maxRecDepth 20000 in
theorem gX10_nextStarted_X10_pictures : GoodIn wsX10_nextStarted (wsV RX10 259 RX10 yX10_pictures wsX10_pictures) := goodIn_app (goodIn_of _ (by decide +kernel)) ggX10_nextStarted_X10_pictures
set_option maxRecDepth 20000 in
theorem ggX10_nextStarted_X10_sharedMany : GoodIn wsX10_nextStarted wsX10_sharedMany := goodIn_r _ [12, 13, 14, 15, 6, 16, 8, 17, 18, 19, 20, 21, 22, 23, 24, 25, 26, 27, 28, 29, 30, 31, 32, 33, 34, 35, 36, 37, 38, 39, 1, 40, 41, 42, 43, 44, 45, 46, 47, 48, 49, 50, 51, 52, 53, 54, 55, 56, 57, 58, 59, 60, 61, 62, 63, 64, 65, 66, 67, 68, 69, 70, 71, 72, 73, 74, 75, 76, 77, 78, 79, 80, 81, 82, 83, 84, 85, 86, 87, 88, 89, 90, 91, 92, 93, 94, 95, 96] (by decide +kernel) (by decide +kernel)
set_option maxRecDepth 20000 in
theorem gX10_nextStarted_X10_sharedMany : GoodIn wsX10_nextStarted (wsV RX10 307 RX10 yX10_sharedMany wsX10_sharedMany) := goodIn_app (goodIn_of _ (by decide +kernel)) ggX10_nextStarted_X10_sharedMany
theorem dX10_nextStarted_0 : decode cX10_nextStarted 0 = .ok (.iconst 0, 1) := by decide +kernel
theorem dX10_nextStarted_1 : decode cX10_nextStarted 1 = .ok (.istore_n 1, 1) := by decide +kernel
theorem dX10_nextStarted_2 : decode cX10_nextStarted 2 = .ok (.iload_n 1, 1) := by decide +kernel
theorem dX10_nextStarted_3 : decode cX10_nextStarted 3 = .ok (.aload_n 0, 1) := by decide +kernel
theorem dX10_nextStarted_4 : decode cX10_nextStarted 4 = .ok (.invokevirtual 259, 3) := by decide +kernel
theorem dX10_nextStarted_7 : decode cX10_nextStarted 7 = .ok (.if_icmp .ge 46, 3) := by decide +kernel
theorem dX10_nextStarted_10 : decode cX10_nextStarted 10 = .ok (.aload_n 0, 1) := by decide +kernel
theorem dX10_nextStarted_11 : decode cX10_nextStarted 11 = .ok (.getfield 104, 3) := by decide +kernel
theorem dX10_nextStarted_14 : decode cX10_nextStarted 14 = .ok (.iload_n 1, 1) := by decide +kernel
theorem dX10_nextStarted_15 : decode cX10_nextStarted 15 = .ok (.baload, 1) := by decide +kernel
theorem dX10_nextStarted_16 : decode cX10_nextStarted 16 = .ok (.ifCond .ne 31, 3) := by decide +kernel
theorem dX10_nextStarted_19 : decode cX10_nextStarted 19 = .ok (.aload_n 0, 1) := by decide +kernel
theorem dX10_nextStarted_20 : decode cX10_nextStarted 20 = .ok (.iload_n 1, 1) := by decide +kernel
theorem dX10_nextStarted_21 : decode cX10_nextStarted 21 = .ok (.invokevirtual 307, 3) := by decide +kernel
theorem dX10_nextStarted_24 : decode cX10_nextStarted 24 = .ok (.aload_n 0, 1) := by decide +kernel
theorem dX10_nextStarted_25 : decode cX10_nextStarted 25 = .ok (.getfield 64, 3) := by decide +kernel
theorem dX10_nextStarted_28 : decode cX10_nextStarted 28 = .ok (.bipush 12, 2) := by decide +kernel
theorem dX10_nextStarted_30 : decode cX10_nextStarted 30 = .ok (.iload_n 1, 1) := by decide +kernel
theorem dX10_nextStarted_31 : decode cX10_nextStarted 31 = .ok (.iadd, 1) := by decide +kernel
theorem dX10_nextStarted_32 : decode cX10_nextStarted 32 = .ok (.iaload, 1) := by decide +kernel
theorem dX10_nextStarted_33 : decode cX10_nextStarted 33 = .ok (.iconst 4, 1) := by decide +kernel
theorem dX10_nextStarted_34 : decode cX10_nextStarted 34 = .ok (.if_icmp .ne 7, 3) := by decide +kernel
theorem dX10_nextStarted_37 : decode cX10_nextStarted 37 = .ok (.iconst 2, 1) := by decide +kernel
theorem dX10_nextStarted_38 : decode cX10_nextStarted 38 = .ok (.goto 4, 3) := by decide +kernel
theorem dX10_nextStarted_41 : decode cX10_nextStarted 41 = .ok (.iconst 1, 1) := by decide +kernel
theorem dX10_nextStarted_42 : decode cX10_nextStarted 42 = .ok (.if_icmp .lt 5, 3) := by decide +kernel
theorem dX10_nextStarted_45 : decode cX10_nextStarted 45 = .ok (.iload_n 1, 1) := by decide +kernel
theorem dX10_nextStarted_46 : decode cX10_nextStarted 46 = .ok (.ireturn, 1) := by decide +kernel
theorem dX10_nextStarted_47 : decode cX10_nextStarted 47 = .ok (.iinc 1 1, 3) := by decide +kernel
theorem dX10_nextStarted_50 : decode cX10_nextStarted 50 = .ok (.goto (-48), 3) := by decide +kernel
theorem dX10_nextStarted_53 : decode cX10_nextStarted 53 = .ok (.iconst (-1), 1) := by decide +kernel
theorem dX10_nextStarted_54 : decode cX10_nextStarted 54 = .ok (.ireturn, 1) := by decide +kernel
set_option maxRecDepth 20000 in
theorem ggX10_firstNotStarted_X10_pictures : GoodIn wsX10_firstNotStarted wsX10_pictures := goodIn_r _ [6, 7, 8, 9, 10, 11, 12, 13, 14, 15, 16, 17, 18, 19, 20, 21, 22, 23, 24, 25, 26, 27, 28, 29, 30, 31, 32, 33, 34, 35, 36, 37, 38, 39, 40, 41, 42, 43, 44, 45, 46, 47, 48, 49, 50, 51, 52, 53, 54, 55, 56, 57, 58, 59, 60, 61, 62, 63, 64] (by decide +kernel) (by decide +kernel)
set_option maxRecDepth 20000 in
theorem gX10_firstNotStarted_X10_pictures : GoodIn wsX10_firstNotStarted (wsV RX10 259 RX10 yX10_pictures wsX10_pictures) := goodIn_app (goodIn_of _ (by decide +kernel)) ggX10_firstNotStarted_X10_pictures
theorem dX10_firstNotStarted_0 : decode cX10_firstNotStarted 0 = .ok (.iconst 0, 1) := by decide +kernel
theorem dX10_firstNotStarted_1 : decode cX10_firstNotStarted 1 = .ok (.istore_n 1, 1) := by decide +kernel
theorem dX10_firstNotStarted_2 : decode cX10_firstNotStarted 2 = .ok (.iload_n 1, 1) := by decide +kernel
theorem dX10_firstNotStarted_3 : decode cX10_firstNotStarted 3 = .ok (.aload_n 0, 1) := by decide +kernel
theorem dX10_firstNotStarted_4 : decode cX10_firstNotStarted 4 = .ok (.invokevirtual 259, 3) := by decide +kernel
theorem dX10_firstNotStarted_7 : decode cX10_firstNotStarted 7 = .ok (.if_icmp .ge 20, 3) := by decide +kernel
theorem dX10_firstNotStarted_10 : decode cX10_firstNotStarted 10 = .ok (.aload_n 0, 1) := by decide +kernel
theorem dX10_firstNotStarted_11 : decode cX10_firstNotStarted 11 = .ok (.getfield 104, 3) := by decide +kernel
theorem dX10_firstNotStarted_14 : decode cX10_firstNotStarted 14 = .ok (.iload_n 1, 1) := by decide +kernel
theorem dX10_firstNotStarted_15 : decode cX10_firstNotStarted 15 = .ok (.baload, 1) := by decide +kernel
theorem dX10_firstNotStarted_16 : decode cX10_firstNotStarted 16 = .ok (.ifCond .ne 5, 3) := by decide +kernel
theorem dX10_firstNotStarted_19 : decode cX10_firstNotStarted 19 = .ok (.iload_n 1, 1) := by decide +kernel
theorem dX10_firstNotStarted_20 : decode cX10_firstNotStarted 20 = .ok (.ireturn, 1) := by decide +kernel
theorem dX10_firstNotStarted_21 : decode cX10_firstNotStarted 21 = .ok (.iinc 1 1, 3) := by decide +kernel
theorem dX10_firstNotStarted_24 : decode cX10_firstNotStarted 24 = .ok (.goto (-22), 3) := by decide +kernel
theorem dX10_firstNotStarted_27 : decode cX10_firstNotStarted 27 = .ok (.iconst (-1), 1) := by decide +kernel
theorem dX10_firstNotStarted_28 : decode cX10_firstNotStarted 28 = .ok (.ireturn, 1) := by decide +kernel
set_option maxRecDepth 20000 in
theorem ggX10_starts_X10_pictures : GoodIn wsX10_starts wsX10_pictures := goodIn_r _ [9, 10, 85, 86, 87, 88, 89, 90, 91, 92, 93, 94, 95, 96, 97, 98, 99, 100, 101, 102, 103, 104, 105, 106, 107, 108, 109, 110, 111, 112, 113, 114, 115, 116, 117, 118, 119, 120, 121, 122, 123, 124, 125, 126, 127, 128, 129, 130, 131, 132, 133, 134, 135, 136, 137, 138, 139, 140, 141] (by decide +kernel) (by decide +kernel)
set_option maxRecDepth 20000 in
theorem gX10_starts_X10_pictures : GoodIn wsX10_starts (wsV RX10 259 RX10 yX10_pictures wsX10_pictures) := goodIn_app (goodIn_of _ (by decide +kernel)) ggX10_starts_X10_pictures
set_option maxRecDepth 20000 in
theorem ggX10_starts_X10_firstNotStarted : GoodIn wsX10_starts wsX10_firstNotStarted := goodIn_r _ [14, 4, 5, 6, 7, 8, 9, 10, 85, 86, 87, 88, 89, 90, 91, 92, 93, 94, 95, 96, 97, 98, 99, 100, 101, 102, 103, 104, 105, 106, 107, 108, 109, 110, 111, 112, 113, 114, 115, 116, 117, 118, 119, 120, 121, 122, 123, 124, 125, 126, 127, 128, 129, 130, 131, 132, 133, 134, 135, 136, 137, 138, 139, 140, 141] (by decide +kernel) (by decide +kernel)
set_option maxRecDepth 20000 in
theorem gX10_starts_X10_firstNotStarted : GoodIn wsX10_starts (wsV RX10 310 RX10 yX10_firstNotStarted wsX10_firstNotStarted) := goodIn_app (goodIn_of _ (by decide +kernel)) ggX10_starts_X10_firstNotStarted
set_option maxRecDepth 20000 in
theorem ggX10_starts_X10_nextStarted : GoodIn wsX10_starts wsX10_nextStarted := goodIn_r _ [18, 4, 2, 5, 6, 7, 8, 9, 10, 19, 20, 21, 22, 23, 24, 25, 26, 27, 28, 29, 30, 31, 32, 33, 34, 35, 36, 37, 38, 39, 40, 41, 42, 43, 44, 45, 46, 47, 48, 49, 85, 86, 87, 88, 89, 90, 91, 92, 93, 94, 95, 96, 97, 98, 99, 100, 101, 102, 103, 104, 105, 106, 107, 108, 109, 110, 111, 112, 113, 114, 115, 116, 117, 118, 119, 120, 121, 122, 123, 124, 125, 126, 127, 128, 129, 130, 131, 132, 133, 134, 135, 136, 137, 138, 139, 140, 141] (by decide +kernel) (by decide +kernel)
set_option maxRecDepth 20000 in
theorem gX10_starts_X10_nextStarted : GoodIn wsX10_starts (wsV RX10 313 RX10 yX10_nextStarted wsX10_nextStarted) := goodIn_app (goodIn_of _ (by decide +kernel)) ggX10_starts_X10_nextStarted
set_option maxRecDepth 20000 in
theorem ggX10_starts_X10_startsBy : GoodIn wsX10_starts wsX10_startsBy := goodIn_r _ [53, 2, 3, 1, 4, 54, 55, 56, 8, 57, 23, 24, 25, 26, 10, 27, 28, 29, 30, 31, 32, 33, 34, 35, 36, 37, 38, 39, 40, 41, 42, 43, 44, 45, 46, 47, 48, 49, 58, 59, 60, 61, 62, 63, 64, 65, 66, 67, 68, 69, 70, 71, 72, 73, 85, 86, 87, 88, 89, 90, 91, 92, 93, 94, 95, 96, 97, 98, 99, 100, 101, 102, 103, 104, 105, 106, 107, 108, 109, 110, 111, 112, 113, 114, 115, 116, 117, 118, 119, 120, 121, 122, 123, 124, 125, 126, 127, 128, 129, 130, 131, 132, 133, 134, 135, 136, 137, 138, 139, 140, 141] (by decide +kernel) (by decide +kernel)
set_option maxRecDepth 20000 in
theorem gX10_starts_X10_startsBy : GoodIn wsX10_starts (wsV RX10 316 RX10 yX10_startsBy wsX10_startsBy) := goodIn_app (goodIn_of _ (by decide +kernel)) ggX10_starts_X10_startsBy
set_option maxRecDepth 20000 in
theorem ggX10_starts_X10_points : GoodIn wsX10_starts wsX10_points := goodIn_r _ [26, 10, 85, 86, 87, 88, 89, 90, 91, 92, 93, 94, 95, 96, 97, 98, 99, 100, 101, 102, 103, 104, 105, 106, 107, 108, 109, 110, 111, 112, 113, 114, 115, 116, 117, 118, 119, 120, 121, 122, 123, 124, 125, 126, 127, 128, 129, 130, 131, 132, 133, 134, 135, 136, 137, 138, 139, 140, 141] (by decide +kernel) (by decide +kernel)
set_option maxRecDepth 20000 in
theorem gX10_starts_X10_points : GoodIn wsX10_starts (wsV RX10 262 RX10 yX10_points wsX10_points) := goodIn_app (goodIn_of _ (by decide +kernel)) ggX10_starts_X10_points
set_option maxRecDepth 20000 in
theorem ggX10_starts_X10_startedRow : GoodIn wsX10_starts wsX10_startedRow := goodIn_r _ [49, 31, 4, 32, 33, 34, 8, 35, 10, 41, 42, 43, 44, 45, 36, 37, 38, 39, 40, 85, 86, 87, 88, 89, 90, 91, 92, 93, 94, 95, 96, 97, 98, 99, 100, 101, 102, 103, 104, 105, 106, 107, 108, 109, 110, 111, 112, 113, 114, 115, 116, 117, 118, 119, 120, 121, 122, 123, 124, 125, 126, 127, 128, 129, 130, 131, 132, 133, 134, 135, 136, 137, 138, 139, 140, 141] (by decide +kernel) (by decide +kernel)
set_option maxRecDepth 20000 in
theorem gX10_starts_X10_startedRow : GoodIn wsX10_starts (wsV RX10 293 RX10 yX10_startedRow wsX10_startedRow) := goodIn_app (goodIn_of _ (by decide +kernel)) ggX10_starts_X10_startedRow
set_option maxRecDepth 20000 in
theorem ggX10_starts_X10_put : GoodIn wsX10_starts wsX10_put := goodIn_r _ [66, 1, 36, 37, 38, 8, 39, 40, 67, 68, 69, 70, 3, 58, 59, 60, 61, 62, 85, 86, 87, 88, 89, 90, 91, 92, 93, 94, 95, 96, 97, 98, 99, 100, 101, 102, 103, 104, 105, 106, 107, 108, 109, 110, 111, 112, 113, 114, 115, 116, 117, 118, 119, 120, 121, 122, 123, 124, 125, 126, 127, 128, 129, 130, 131, 132, 133, 134, 135, 136, 137, 138, 139, 140, 141] (by decide +kernel) (by decide +kernel)
set_option maxRecDepth 20000 in
theorem gX10_starts_X10_put : GoodIn wsX10_starts (wsV RX10 296 RX10 yX10_put wsX10_put) := goodIn_app (goodIn_of _ (by decide +kernel)) ggX10_starts_X10_put
set_option maxRecDepth 20000 in
theorem ggX10_starts_X10_standControls : GoodIn wsX10_starts wsX10_standControls := goodIn_r _ [77, 1, 78, 23, 24, 25, 8, 26, 10, 79, 80, 81, 82, 83, 84, 85, 86, 87, 88, 89, 90, 91, 92, 93, 94, 95, 96, 97, 98, 99, 100, 101, 102, 103, 104, 105, 106, 107, 108, 109, 110, 111, 112, 113, 114, 115, 116, 117, 118, 119, 120, 121, 122, 123, 124, 125, 126, 127, 128, 129, 130, 131, 132, 133, 134, 135, 136, 137, 138, 139, 140, 141] (by decide +kernel) (by decide +kernel)
set_option maxRecDepth 20000 in
theorem gX10_starts_X10_standControls : GoodIn wsX10_starts (wsV RX10 319 RX10 yX10_standControls wsX10_standControls) := goodIn_app (goodIn_of _ (by decide +kernel)) ggX10_starts_X10_standControls
theorem dX10_starts_0 : decode cX10_starts 0 = .ok (.iconst 0, 1) := by decide +kernel
theorem dX10_starts_1 : decode cX10_starts 1 = .ok (.istore_n 1, 1) := by decide +kernel
theorem dX10_starts_2 : decode cX10_starts 2 = .ok (.iload_n 1, 1) := by decide +kernel
theorem dX10_starts_3 : decode cX10_starts 3 = .ok (.bipush 76, 2) := by decide +kernel
theorem dX10_starts_5 : decode cX10_starts 5 = .ok (.if_icmp .ge 16, 3) := by decide +kernel
theorem dX10_starts_8 : decode cX10_starts 8 = .ok (.aload_n 0, 1) := by decide +kernel
theorem dX10_starts_9 : decode cX10_starts 9 = .ok (.getfield 101, 3) := by decide +kernel
theorem dX10_starts_12 : decode cX10_starts 12 = .ok (.iload_n 1, 1) := by decide +kernel
theorem dX10_starts_13 : decode cX10_starts 13 = .ok (.iconst 0, 1) := by decide +kernel
theorem dX10_starts_14 : decode cX10_starts 14 = .ok (.iastore, 1) := by decide +kernel
theorem dX10_starts_15 : decode cX10_starts 15 = .ok (.iinc 1 1, 3) := by decide +kernel
theorem dX10_starts_18 : decode cX10_starts 18 = .ok (.goto (-16), 3) := by decide +kernel
theorem dX10_starts_21 : decode cX10_starts 21 = .ok (.iconst 0, 1) := by decide +kernel
theorem dX10_starts_22 : decode cX10_starts 22 = .ok (.istore_n 1, 1) := by decide +kernel
theorem dX10_starts_23 : decode cX10_starts 23 = .ok (.iload_n 1, 1) := by decide +kernel
theorem dX10_starts_24 : decode cX10_starts 24 = .ok (.bipush 12, 2) := by decide +kernel
theorem dX10_starts_26 : decode cX10_starts 26 = .ok (.if_icmp .ge 50, 3) := by decide +kernel
theorem dX10_starts_29 : decode cX10_starts 29 = .ok (.aload_n 0, 1) := by decide +kernel
theorem dX10_starts_30 : decode cX10_starts 30 = .ok (.getfield 64, 3) := by decide +kernel
theorem dX10_starts_33 : decode cX10_starts 33 = .ok (.bipush 12, 2) := by decide +kernel
theorem dX10_starts_35 : decode cX10_starts 35 = .ok (.iload_n 1, 1) := by decide +kernel
theorem dX10_starts_36 : decode cX10_starts 36 = .ok (.iadd, 1) := by decide +kernel
theorem dX10_starts_37 : decode cX10_starts 37 = .ok (.iaload, 1) := by decide +kernel
theorem dX10_starts_38 : decode cX10_starts 38 = .ok (.istore_n 2, 1) := by decide +kernel
theorem dX10_starts_39 : decode cX10_starts 39 = .ok (.aload_n 0, 1) := by decide +kernel
theorem dX10_starts_40 : decode cX10_starts 40 = .ok (.getfield 98, 3) := by decide +kernel
theorem dX10_starts_43 : decode cX10_starts 43 = .ok (.iload_n 1, 1) := by decide +kernel
theorem dX10_starts_44 : decode cX10_starts 44 = .ok (.iload_n 2, 1) := by decide +kernel
theorem dX10_starts_45 : decode cX10_starts 45 = .ok (.iconst 4, 1) := by decide +kernel
theorem dX10_starts_46 : decode cX10_starts 46 = .ok (.if_icmp .ne 7, 3) := by decide +kernel
theorem dX10_starts_49 : decode cX10_starts 49 = .ok (.iconst 0, 1) := by decide +kernel
theorem dX10_starts_50 : decode cX10_starts 50 = .ok (.goto 4, 3) := by decide +kernel
theorem dX10_starts_53 : decode cX10_starts 53 = .ok (.iload_n 2, 1) := by decide +kernel
theorem dX10_starts_54 : decode cX10_starts 54 = .ok (.iastore, 1) := by decide +kernel
theorem dX10_starts_55 : decode cX10_starts 55 = .ok (.aload_n 0, 1) := by decide +kernel
theorem dX10_starts_56 : decode cX10_starts 56 = .ok (.getfield 104, 3) := by decide +kernel
theorem dX10_starts_59 : decode cX10_starts 59 = .ok (.iload_n 1, 1) := by decide +kernel
theorem dX10_starts_60 : decode cX10_starts 60 = .ok (.iload_n 1, 1) := by decide +kernel
theorem dX10_starts_61 : decode cX10_starts 61 = .ok (.ifCond .ne 7, 3) := by decide +kernel
theorem dX10_starts_64 : decode cX10_starts 64 = .ok (.iconst 1, 1) := by decide +kernel
theorem dX10_starts_65 : decode cX10_starts 65 = .ok (.goto 4, 3) := by decide +kernel
theorem dX10_starts_68 : decode cX10_starts 68 = .ok (.iconst 0, 1) := by decide +kernel
theorem dX10_starts_69 : decode cX10_starts 69 = .ok (.bastore, 1) := by decide +kernel
theorem dX10_starts_70 : decode cX10_starts 70 = .ok (.iinc 1 1, 3) := by decide +kernel
theorem dX10_starts_73 : decode cX10_starts 73 = .ok (.goto (-50), 3) := by decide +kernel
theorem dX10_starts_76 : decode cX10_starts 76 = .ok (.aload_n 0, 1) := by decide +kernel
theorem dX10_starts_77 : decode cX10_starts 77 = .ok (.invokevirtual 259, 3) := by decide +kernel
theorem dX10_starts_80 : decode cX10_starts 80 = .ok (.ifCond .ne 7, 3) := by decide +kernel
theorem dX10_starts_83 : decode cX10_starts 83 = .ok (.iconst 0, 1) := by decide +kernel
theorem dX10_starts_84 : decode cX10_starts 84 = .ok (.goto 4, 3) := by decide +kernel
theorem dX10_starts_87 : decode cX10_starts 87 = .ok (.iconst 1, 1) := by decide +kernel
theorem dX10_starts_88 : decode cX10_starts 88 = .ok (.istore_n 1, 1) := by decide +kernel
theorem dX10_starts_89 : decode cX10_starts 89 = .ok (.aload_n 0, 1) := by decide +kernel
theorem dX10_starts_90 : decode cX10_starts 90 = .ok (.invokevirtual 310, 3) := by decide +kernel
theorem dX10_starts_93 : decode cX10_starts 93 = .ok (.iconst (-1), 1) := by decide +kernel
theorem dX10_starts_94 : decode cX10_starts 94 = .ok (.if_icmp .eq 37, 3) := by decide +kernel
theorem dX10_starts_97 : decode cX10_starts 97 = .ok (.aload_n 0, 1) := by decide +kernel
theorem dX10_starts_98 : decode cX10_starts 98 = .ok (.invokevirtual 313, 3) := by decide +kernel
theorem dX10_starts_101 : decode cX10_starts 101 = .ok (.istore_n 2, 1) := by decide +kernel
theorem dX10_starts_102 : decode cX10_starts 102 = .ok (.iload_n 2, 1) := by decide +kernel
theorem dX10_starts_103 : decode cX10_starts 103 = .ok (.iconst (-1), 1) := by decide +kernel
theorem dX10_starts_104 : decode cX10_starts 104 = .ok (.if_icmp .eq 11, 3) := by decide +kernel
theorem dX10_starts_107 : decode cX10_starts 107 = .ok (.aload_n 0, 1) := by decide +kernel
theorem dX10_starts_108 : decode cX10_starts 108 = .ok (.iload_n 2, 1) := by decide +kernel
theorem dX10_starts_109 : decode cX10_starts 109 = .ok (.invokevirtual 316, 3) := by decide +kernel
theorem dX10_starts_112 : decode cX10_starts 112 = .ok (.goto (-23), 3) := by decide +kernel
theorem dX10_starts_115 : decode cX10_starts 115 = .ok (.aload_n 0, 1) := by decide +kernel
theorem dX10_starts_116 : decode cX10_starts 116 = .ok (.getfield 104, 3) := by decide +kernel
theorem dX10_starts_119 : decode cX10_starts 119 = .ok (.aload_n 0, 1) := by decide +kernel
theorem dX10_starts_120 : decode cX10_starts 120 = .ok (.invokevirtual 310, 3) := by decide +kernel
theorem dX10_starts_123 : decode cX10_starts 123 = .ok (.iconst 1, 1) := by decide +kernel
theorem dX10_starts_124 : decode cX10_starts 124 = .ok (.bastore, 1) := by decide +kernel
theorem dX10_starts_125 : decode cX10_starts 125 = .ok (.iinc 1 1, 3) := by decide +kernel
theorem dX10_starts_128 : decode cX10_starts 128 = .ok (.goto (-39), 3) := by decide +kernel
theorem dX10_starts_131 : decode cX10_starts 131 = .ok (.iconst 0, 1) := by decide +kernel
theorem dX10_starts_132 : decode cX10_starts 132 = .ok (.istore_n 2, 1) := by decide +kernel
theorem dX10_starts_133 : decode cX10_starts 133 = .ok (.iload_n 2, 1) := by decide +kernel
theorem dX10_starts_134 : decode cX10_starts 134 = .ok (.aload_n 0, 1) := by decide +kernel
theorem dX10_starts_135 : decode cX10_starts 135 = .ok (.invokevirtual 262, 3) := by decide +kernel
theorem dX10_starts_138 : decode cX10_starts 138 = .ok (.if_icmp .ge 72, 3) := by decide +kernel
theorem dX10_starts_141 : decode cX10_starts 141 = .ok (.aload_n 0, 1) := by decide +kernel
theorem dX10_starts_142 : decode cX10_starts 142 = .ok (.invokevirtual 259, 3) := by decide +kernel
theorem dX10_starts_145 : decode cX10_starts 145 = .ok (.ifCond .ne 7, 3) := by decide +kernel
theorem dX10_starts_148 : decode cX10_starts 148 = .ok (.iconst (-1), 1) := by decide +kernel
theorem dX10_starts_149 : decode cX10_starts 149 = .ok (.goto 8, 3) := by decide +kernel
theorem dX10_starts_152 : decode cX10_starts 152 = .ok (.aload_n 0, 1) := by decide +kernel
theorem dX10_starts_153 : decode cX10_starts 153 = .ok (.iload_n 2, 1) := by decide +kernel
theorem dX10_starts_154 : decode cX10_starts 154 = .ok (.invokevirtual 293, 3) := by decide +kernel
theorem dX10_starts_157 : decode cX10_starts 157 = .ok (.istore_n 3, 1) := by decide +kernel
theorem dX10_starts_158 : decode cX10_starts 158 = .ok (.iconst 0, 1) := by decide +kernel
theorem dX10_starts_159 : decode cX10_starts 159 = .ok (.istore 4, 2) := by decide +kernel
theorem dX10_starts_161 : decode cX10_starts 161 = .ok (.iload 4, 2) := by decide +kernel
theorem dX10_starts_163 : decode cX10_starts 163 = .ok (.iconst 2, 1) := by decide +kernel
theorem dX10_starts_164 : decode cX10_starts 164 = .ok (.if_icmp .ge 40, 3) := by decide +kernel
theorem dX10_starts_167 : decode cX10_starts 167 = .ok (.aload_n 0, 1) := by decide +kernel
theorem dX10_starts_168 : decode cX10_starts 168 = .ok (.getfield 101, 3) := by decide +kernel
theorem dX10_starts_171 : decode cX10_starts 171 = .ok (.bipush 38, 2) := by decide +kernel
theorem dX10_starts_173 : decode cX10_starts 173 = .ok (.iload 4, 2) := by decide +kernel
theorem dX10_starts_175 : decode cX10_starts 175 = .ok (.imul, 1) := by decide +kernel
theorem dX10_starts_176 : decode cX10_starts 176 = .ok (.bipush 12, 2) := by decide +kernel
theorem dX10_starts_178 : decode cX10_starts 178 = .ok (.iadd, 1) := by decide +kernel
theorem dX10_starts_179 : decode cX10_starts 179 = .ok (.iload_n 2, 1) := by decide +kernel
theorem dX10_starts_180 : decode cX10_starts 180 = .ok (.iadd, 1) := by decide +kernel
theorem dX10_starts_181 : decode cX10_starts 181 = .ok (.iload_n 3, 1) := by decide +kernel
theorem dX10_starts_182 : decode cX10_starts 182 = .ok (.iconst (-1), 1) := by decide +kernel
theorem dX10_starts_183 : decode cX10_starts 183 = .ok (.if_icmp .ne 7, 3) := by decide +kernel
theorem dX10_starts_186 : decode cX10_starts 186 = .ok (.iconst 0, 1) := by decide +kernel
theorem dX10_starts_187 : decode cX10_starts 187 = .ok (.goto 10, 3) := by decide +kernel
theorem dX10_starts_190 : decode cX10_starts 190 = .ok (.aload_n 0, 1) := by decide +kernel
theorem dX10_starts_191 : decode cX10_starts 191 = .ok (.iload_n 3, 1) := by decide +kernel
theorem dX10_starts_192 : decode cX10_starts 192 = .ok (.iload 4, 2) := by decide +kernel
theorem dX10_starts_194 : decode cX10_starts 194 = .ok (.invokevirtual 296, 3) := by decide +kernel
theorem dX10_starts_197 : decode cX10_starts 197 = .ok (.iastore, 1) := by decide +kernel
theorem dX10_starts_198 : decode cX10_starts 198 = .ok (.iinc 4 1, 3) := by decide +kernel
theorem dX10_starts_201 : decode cX10_starts 201 = .ok (.goto (-40), 3) := by decide +kernel
theorem dX10_starts_204 : decode cX10_starts 204 = .ok (.iinc 2 1, 3) := by decide +kernel
theorem dX10_starts_207 : decode cX10_starts 207 = .ok (.goto (-74), 3) := by decide +kernel
theorem dX10_starts_210 : decode cX10_starts 210 = .ok (.aload_n 0, 1) := by decide +kernel
theorem dX10_starts_211 : decode cX10_starts 211 = .ok (.invokevirtual 319, 3) := by decide +kernel
theorem dX10_starts_214 : decode cX10_starts 214 = .ok (.iload_n 1, 1) := by decide +kernel
theorem dX10_starts_215 : decode cX10_starts 215 = .ok (.ireturn, 1) := by decide +kernel
set_option maxRecDepth 20000 in
theorem ggX10_start_X10_starts : GoodIn wsX10_start wsX10_starts := goodIn_r _ [5, 6, 7, 8, 9, 10, 11, 12, 4, 13, 14, 15, 16, 17, 18, 19, 20, 21, 22, 23, 24, 25, 26, 27, 28, 29, 30, 31, 32, 33, 34, 35, 36, 37, 38, 39, 40, 41, 42, 43, 44, 45, 46, 47, 48, 49, 50, 51, 52, 53, 54, 55, 56, 57, 58, 59, 60, 61, 62, 63, 64, 65, 66, 67, 68, 69, 70, 71, 72, 73, 74, 75, 76, 77, 78, 79, 80, 81, 82, 83, 84, 85, 86, 87, 88, 89, 90, 91, 92, 93, 94, 95, 96, 97, 98, 99, 100, 101, 102, 103, 104, 105, 106, 107, 108, 109, 110, 111, 112, 113, 114, 115, 116, 117, 118, 119, 120, 121, 122, 123, 124, 125, 126, 127, 128, 129, 130, 131, 132, 133, 134, 135, 136, 137, 138, 139, 140, 141, 142, 143, 144, 145] (by decide +kernel) (by decide +kernel)
set_option maxRecDepth 20000 in
theorem gX10_start_X10_starts : GoodIn wsX10_start (wsV RX10 256 RX10 yX10_starts wsX10_starts) := goodIn_app (goodIn_of _ (by decide +kernel)) ggX10_start_X10_starts
theorem dX10_start_0 : decode cX10_start 0 = .ok (.aload_n 0, 1) := by decide +kernel
theorem dX10_start_1 : decode cX10_start 1 = .ok (.invokevirtual 256, 3) := by decide +kernel
theorem dX10_start_4 : decode cX10_start 4 = .ok (.ireturn, 1) := by decide +kernel
set_option maxRecDepth 20000 in
theorem ggX10_miss_X10_pointOf : GoodIn wsX10_miss wsX10_pointOf := goodIn_r _ [6, 7, 27, 28, 29, 30, 31, 32, 33, 34, 35, 36, 37, 38, 39, 40, 41, 42, 43, 44, 45, 46, 47, 48, 49, 50, 51, 52, 53, 54, 55, 56, 57, 58, 59, 60, 61, 62, 63, 64, 65, 66, 67, 68, 69, 70, 71, 72, 73, 74, 75, 76, 77, 78, 79, 80, 81, 82, 83] (by decide +kernel) (by decide +kernel)
set_option maxRecDepth 20000 in
theorem gX10_miss_X10_pointOf : GoodIn wsX10_miss (wsV RX10 281 RX10 yX10_pointOf wsX10_pointOf) := goodIn_app (goodIn_of _ (by decide +kernel)) ggX10_miss_X10_pointOf
set_option maxRecDepth 20000 in
theorem ggX10_miss_X10_put : GoodIn wsX10_miss wsX10_put := goodIn_r _ [11, 1, 12, 13, 14, 5, 15, 16, 17, 18, 19, 20, 21, 22, 23, 24, 25, 26, 27, 28, 29, 30, 31, 32, 33, 34, 35, 36, 37, 38, 39, 40, 41, 42, 43, 44, 45, 46, 47, 48, 49, 50, 51, 52, 53, 54, 55, 56, 57, 58, 59, 60, 61, 62, 63, 64, 65, 66, 67, 68, 69, 70, 71, 72, 73, 74, 75, 76, 77, 78, 79, 80, 81, 82, 83] (by decide +kernel) (by decide +kernel)
set_option maxRecDepth 20000 in
theorem gX10_miss_X10_put : GoodIn wsX10_miss (wsV RX10 296 RX10 yX10_put wsX10_put) := goodIn_app (goodIn_of _ (by decide +kernel)) ggX10_miss_X10_put
theorem dX10_miss_0 : decode cX10_miss 0 = .ok (.aload_n 0, 1) := by decide +kernel
theorem dX10_miss_1 : decode cX10_miss 1 = .ok (.getfield 101, 3) := by decide +kernel
theorem dX10_miss_4 : decode cX10_miss 4 = .ok (.bipush 38, 2) := by decide +kernel
theorem dX10_miss_6 : decode cX10_miss 6 = .ok (.iload_n 2, 1) := by decide +kernel
theorem dX10_miss_7 : decode cX10_miss 7 = .ok (.imul, 1) := by decide +kernel
theorem dX10_miss_8 : decode cX10_miss 8 = .ok (.bipush 12, 2) := by decide +kernel
theorem dX10_miss_10 : decode cX10_miss 10 = .ok (.iadd, 1) := by decide +kernel
theorem dX10_miss_11 : decode cX10_miss 11 = .ok (.aload_n 0, 1) := by decide +kernel
theorem dX10_miss_12 : decode cX10_miss 12 = .ok (.iload_n 1, 1) := by decide +kernel
theorem dX10_miss_13 : decode cX10_miss 13 = .ok (.invokevirtual 281, 3) := by decide +kernel
theorem dX10_miss_16 : decode cX10_miss 16 = .ok (.iadd, 1) := by decide +kernel
theorem dX10_miss_17 : decode cX10_miss 17 = .ok (.iaload, 1) := by decide +kernel
theorem dX10_miss_18 : decode cX10_miss 18 = .ok (.aload_n 0, 1) := by decide +kernel
theorem dX10_miss_19 : decode cX10_miss 19 = .ok (.iload_n 1, 1) := by decide +kernel
theorem dX10_miss_20 : decode cX10_miss 20 = .ok (.iload_n 2, 1) := by decide +kernel
theorem dX10_miss_21 : decode cX10_miss 21 = .ok (.invokevirtual 296, 3) := by decide +kernel
theorem dX10_miss_24 : decode cX10_miss 24 = .ok (.isub, 1) := by decide +kernel
theorem dX10_miss_25 : decode cX10_miss 25 = .ok (.ireturn, 1) := by decide +kernel
set_option maxRecDepth 20000 in
theorem ggX10_doubtOf_X10_miss : GoodIn wsX10_doubtOf wsX10_miss := goodIn_r _ [5, 6, 7, 8, 9, 4, 10, 11, 12, 13, 14, 15, 16, 17, 18, 19, 20, 21, 22, 23, 24, 25, 26, 27, 28, 29, 30, 36, 37, 38, 39, 40, 41, 42, 43, 44, 45, 46, 47, 48, 49, 50, 51, 52, 53, 54, 55, 56, 57, 58, 59, 60, 61, 62, 63, 64, 65, 66, 67, 68, 69, 70, 71, 72, 73, 74, 75, 76, 77, 78, 79, 80, 81, 82, 83, 84, 85, 86, 87, 88, 89, 90, 91, 92] (by decide +kernel) (by decide +kernel)
set_option maxRecDepth 20000 in
theorem gX10_doubtOf_X10_miss : GoodIn wsX10_doubtOf (wsV RX10 322 RX10 yX10_miss wsX10_miss) := goodIn_app (goodIn_of _ (by decide +kernel)) ggX10_doubtOf_X10_miss
set_option maxRecDepth 20000 in
theorem ggX10_doubtOf_X10_weightOf : GoodIn wsX10_doubtOf wsX10_weightOf := goodIn_r _ [34, 35, 36, 37, 38, 39, 40, 41, 42, 43, 44, 45, 46, 47, 48, 49, 50, 51, 52, 53, 54, 55, 56, 57, 58, 59, 60, 61, 62, 63, 64, 65, 66, 67, 68, 69, 70, 71, 72, 73, 74, 75, 76, 77, 78, 79, 80, 81, 82, 83, 84, 85, 86, 87, 88, 89, 90, 91, 92] (by decide +kernel) (by decide +kernel)
set_option maxRecDepth 20000 in
theorem gX10_doubtOf_X10_weightOf : GoodIn wsX10_doubtOf (wsV RX10 325 RX10 yX10_weightOf wsX10_weightOf) := goodIn_app (goodIn_of _ (by decide +kernel)) ggX10_doubtOf_X10_weightOf
theorem dX10_doubtOf_0 : decode cX10_doubtOf 0 = .ok (.aload_n 0, 1) := by decide +kernel
theorem dX10_doubtOf_1 : decode cX10_doubtOf 1 = .ok (.iload_n 1, 1) := by decide +kernel
theorem dX10_doubtOf_2 : decode cX10_doubtOf 2 = .ok (.iconst 0, 1) := by decide +kernel
theorem dX10_doubtOf_3 : decode cX10_doubtOf 3 = .ok (.invokevirtual 322, 3) := by decide +kernel
theorem dX10_doubtOf_6 : decode cX10_doubtOf 6 = .ok (.i2l, 1) := by decide +kernel
theorem dX10_doubtOf_7 : decode cX10_doubtOf 7 = .ok (.lstore_n 2, 1) := by decide +kernel
theorem dX10_doubtOf_8 : decode cX10_doubtOf 8 = .ok (.aload_n 0, 1) := by decide +kernel
theorem dX10_doubtOf_9 : decode cX10_doubtOf 9 = .ok (.iload_n 1, 1) := by decide +kernel
theorem dX10_doubtOf_10 : decode cX10_doubtOf 10 = .ok (.iconst 1, 1) := by decide +kernel
theorem dX10_doubtOf_11 : decode cX10_doubtOf 11 = .ok (.invokevirtual 322, 3) := by decide +kernel
theorem dX10_doubtOf_14 : decode cX10_doubtOf 14 = .ok (.i2l, 1) := by decide +kernel
theorem dX10_doubtOf_15 : decode cX10_doubtOf 15 = .ok (.lstore 4, 2) := by decide +kernel
theorem dX10_doubtOf_17 : decode cX10_doubtOf 17 = .ok (.aload_n 0, 1) := by decide +kernel
theorem dX10_doubtOf_18 : decode cX10_doubtOf 18 = .ok (.iload_n 1, 1) := by decide +kernel
theorem dX10_doubtOf_19 : decode cX10_doubtOf 19 = .ok (.invokevirtual 325, 3) := by decide +kernel
theorem dX10_doubtOf_22 : decode cX10_doubtOf 22 = .ok (.i2l, 1) := by decide +kernel
theorem dX10_doubtOf_23 : decode cX10_doubtOf 23 = .ok (.lload_n 2, 1) := by decide +kernel
theorem dX10_doubtOf_24 : decode cX10_doubtOf 24 = .ok (.lload_n 2, 1) := by decide +kernel
theorem dX10_doubtOf_25 : decode cX10_doubtOf 25 = .ok (.lmul, 1) := by decide +kernel
theorem dX10_doubtOf_26 : decode cX10_doubtOf 26 = .ok (.lload 4, 2) := by decide +kernel
theorem dX10_doubtOf_28 : decode cX10_doubtOf 28 = .ok (.lload 4, 2) := by decide +kernel
theorem dX10_doubtOf_30 : decode cX10_doubtOf 30 = .ok (.lmul, 1) := by decide +kernel
theorem dX10_doubtOf_31 : decode cX10_doubtOf 31 = .ok (.ladd, 1) := by decide +kernel
theorem dX10_doubtOf_32 : decode cX10_doubtOf 32 = .ok (.lmul, 1) := by decide +kernel
theorem dX10_doubtOf_33 : decode cX10_doubtOf 33 = .ok (.lreturn, 1) := by decide +kernel
set_option maxRecDepth 20000 in
theorem ggX10_sum_X10_rows : GoodIn wsX10_sum wsX10_rows := goodIn_r _ [8, 9, 61, 62, 63, 64, 65, 66, 67, 68, 69, 70, 71, 72, 73, 74, 75, 76, 77, 78, 79, 80, 81, 82, 83, 84, 85, 86, 87, 88, 89, 90, 91, 92, 93, 94, 95, 96, 97, 98, 99, 100, 101, 102, 103, 104, 105, 106, 107, 108, 109, 110, 111, 112, 113, 114, 115, 116, 117] (by decide +kernel) (by decide +kernel)
set_option maxRecDepth 20000 in
theorem gX10_sum_X10_rows : GoodIn wsX10_sum (wsV RX10 265 RX10 yX10_rows wsX10_rows) := goodIn_app (goodIn_of _ (by decide +kernel)) ggX10_sum_X10_rows
set_option maxRecDepth 20000 in
theorem ggX10_sum_X10_doubtOf : GoodIn wsX10_sum wsX10_doubtOf := goodIn_r _ [13, 14, 15, 16, 7, 17, 2, 18, 19, 20, 21, 22, 23, 24, 25, 26, 27, 28, 29, 30, 31, 32, 33, 34, 35, 36, 37, 38, 39, 40, 41, 42, 43, 44, 45, 46, 61, 62, 63, 64, 65, 66, 67, 68, 69, 70, 71, 72, 73, 74, 75, 76, 77, 78, 79, 80, 81, 82, 83, 84, 85, 86, 87, 88, 89, 90, 91, 92, 93, 94, 95, 96, 97, 98, 99, 100, 101, 102, 103, 104, 105, 106, 107, 108, 109, 110, 111, 112, 113, 114, 115, 116, 117] (by decide +kernel) (by decide +kernel)
set_option maxRecDepth 20000 in
theorem gX10_sum_X10_doubtOf : GoodIn wsX10_sum (wsV RX10 328 RX10 yX10_doubtOf wsX10_doubtOf) := goodIn_app (goodIn_of _ (by decide +kernel)) ggX10_sum_X10_doubtOf
set_option maxRecDepth 20000 in
theorem ggX10_sum_X10_pictures : GoodIn wsX10_sum wsX10_pictures := goodIn_r _ [50, 9, 61, 62, 63, 64, 65, 66, 67, 68, 69, 70, 71, 72, 73, 74, 75, 76, 77, 78, 79, 80, 81, 82, 83, 84, 85, 86, 87, 88, 89, 90, 91, 92, 93, 94, 95, 96, 97, 98, 99, 100, 101, 102, 103, 104, 105, 106, 107, 108, 109, 110, 111, 112, 113, 114, 115, 116, 117] (by decide +kernel) (by decide +kernel)
set_option maxRecDepth 20000 in
theorem gX10_sum_X10_pictures : GoodIn wsX10_sum (wsV RX10 259 RX10 yX10_pictures wsX10_pictures) := goodIn_app (goodIn_of _ (by decide +kernel)) ggX10_sum_X10_pictures
set_option maxRecDepth 20000 in
theorem ggX10_sum_X10_strip : GoodIn wsX10_sum wsX10_strip := goodIn_r _ [54, 55, 61, 62, 63, 64, 65, 66, 67, 68, 69, 70, 71, 72, 73, 74, 75, 76, 77, 78, 79, 80, 81, 82, 83, 84, 85, 86, 87, 88, 89, 90, 91, 92, 93, 94, 95, 96, 97, 98, 99, 100, 101, 102, 103, 104, 105, 106, 107, 108, 109, 110, 111, 112, 113, 114, 115, 116, 117] (by decide +kernel) (by decide +kernel)
set_option maxRecDepth 20000 in
theorem gX10_sum_X10_strip : GoodIn wsX10_sum (wsV RX10 268 RX10 yX10_strip wsX10_strip) := goodIn_app (goodIn_of _ (by decide +kernel)) ggX10_sum_X10_strip
set_option maxRecDepth 20000 in
theorem ggX10_sum_X10_centreOf : GoodIn wsX10_sum wsX10_centreOf := goodIn_r _ [59, 60, 61, 62, 63, 64, 65, 66, 67, 68, 69, 70, 71, 72, 73, 74, 75, 76, 77, 78, 79, 80, 81, 82, 83, 84, 85, 86, 87, 88, 89, 90, 91, 92, 93, 94, 95, 96, 97, 98, 99, 100, 101, 102, 103, 104, 105, 106, 107, 108, 109, 110, 111, 112, 113, 114, 115, 116, 117] (by decide +kernel) (by decide +kernel)
set_option maxRecDepth 20000 in
theorem gX10_sum_X10_centreOf : GoodIn wsX10_sum (wsV RX10 271 RX10 yX10_centreOf wsX10_centreOf) := goodIn_app (goodIn_of _ (by decide +kernel)) ggX10_sum_X10_centreOf
theorem dX10_sum_0 : decode cX10_sum 0 = .ok (.lconst 0, 1) := by decide +kernel
theorem dX10_sum_1 : decode cX10_sum 1 = .ok (.lstore_n 1, 1) := by decide +kernel
theorem dX10_sum_2 : decode cX10_sum 2 = .ok (.iconst 0, 1) := by decide +kernel
theorem dX10_sum_3 : decode cX10_sum 3 = .ok (.istore_n 3, 1) := by decide +kernel
theorem dX10_sum_4 : decode cX10_sum 4 = .ok (.iload_n 3, 1) := by decide +kernel
theorem dX10_sum_5 : decode cX10_sum 5 = .ok (.aload_n 0, 1) := by decide +kernel
theorem dX10_sum_6 : decode cX10_sum 6 = .ok (.invokevirtual 265, 3) := by decide +kernel
theorem dX10_sum_9 : decode cX10_sum 9 = .ok (.if_icmp .ge 26, 3) := by decide +kernel
theorem dX10_sum_12 : decode cX10_sum 12 = .ok (.aload_n 0, 1) := by decide +kernel
theorem dX10_sum_13 : decode cX10_sum 13 = .ok (.getfield 91, 3) := by decide +kernel
theorem dX10_sum_16 : decode cX10_sum 16 = .ok (.iload_n 3, 1) := by decide +kernel
theorem dX10_sum_17 : decode cX10_sum 17 = .ok (.baload, 1) := by decide +kernel
theorem dX10_sum_18 : decode cX10_sum 18 = .ok (.ifCond .ne 11, 3) := by decide +kernel
theorem dX10_sum_21 : decode cX10_sum 21 = .ok (.lload_n 1, 1) := by decide +kernel
theorem dX10_sum_22 : decode cX10_sum 22 = .ok (.aload_n 0, 1) := by decide +kernel
theorem dX10_sum_23 : decode cX10_sum 23 = .ok (.iload_n 3, 1) := by decide +kernel
theorem dX10_sum_24 : decode cX10_sum 24 = .ok (.invokevirtual 328, 3) := by decide +kernel
theorem dX10_sum_27 : decode cX10_sum 27 = .ok (.ladd, 1) := by decide +kernel
theorem dX10_sum_28 : decode cX10_sum 28 = .ok (.lstore_n 1, 1) := by decide +kernel
theorem dX10_sum_29 : decode cX10_sum 29 = .ok (.iinc 3 1, 3) := by decide +kernel
theorem dX10_sum_32 : decode cX10_sum 32 = .ok (.goto (-28), 3) := by decide +kernel
theorem dX10_sum_35 : decode cX10_sum 35 = .ok (.iconst 0, 1) := by decide +kernel
theorem dX10_sum_36 : decode cX10_sum 36 = .ok (.istore_n 3, 1) := by decide +kernel
theorem dX10_sum_37 : decode cX10_sum 37 = .ok (.iload_n 3, 1) := by decide +kernel
theorem dX10_sum_38 : decode cX10_sum 38 = .ok (.aload_n 0, 1) := by decide +kernel
theorem dX10_sum_39 : decode cX10_sum 39 = .ok (.invokevirtual 259, 3) := by decide +kernel
theorem dX10_sum_42 : decode cX10_sum 42 = .ok (.if_icmp .ge 92, 3) := by decide +kernel
theorem dX10_sum_45 : decode cX10_sum 45 = .ok (.iconst 0, 1) := by decide +kernel
theorem dX10_sum_46 : decode cX10_sum 46 = .ok (.istore 4, 2) := by decide +kernel
theorem dX10_sum_48 : decode cX10_sum 48 = .ok (.iload 4, 2) := by decide +kernel
theorem dX10_sum_50 : decode cX10_sum 50 = .ok (.iconst 2, 1) := by decide +kernel
theorem dX10_sum_51 : decode cX10_sum 51 = .ok (.if_icmp .ge 77, 3) := by decide +kernel
theorem dX10_sum_54 : decode cX10_sum 54 = .ok (.aload_n 0, 1) := by decide +kernel
theorem dX10_sum_55 : decode cX10_sum 55 = .ok (.getfield 101, 3) := by decide +kernel
theorem dX10_sum_58 : decode cX10_sum 58 = .ok (.bipush 38, 2) := by decide +kernel
theorem dX10_sum_60 : decode cX10_sum 60 = .ok (.iload 4, 2) := by decide +kernel
theorem dX10_sum_62 : decode cX10_sum 62 = .ok (.imul, 1) := by decide +kernel
theorem dX10_sum_63 : decode cX10_sum 63 = .ok (.iload_n 3, 1) := by decide +kernel
theorem dX10_sum_64 : decode cX10_sum 64 = .ok (.iadd, 1) := by decide +kernel
theorem dX10_sum_65 : decode cX10_sum 65 = .ok (.iaload, 1) := by decide +kernel
theorem dX10_sum_66 : decode cX10_sum 66 = .ok (.aload_n 0, 1) := by decide +kernel
theorem dX10_sum_67 : decode cX10_sum 67 = .ok (.getfield 101, 3) := by decide +kernel
theorem dX10_sum_70 : decode cX10_sum 70 = .ok (.bipush 38, 2) := by decide +kernel
theorem dX10_sum_72 : decode cX10_sum 72 = .ok (.iload 4, 2) := by decide +kernel
theorem dX10_sum_74 : decode cX10_sum 74 = .ok (.imul, 1) := by decide +kernel
theorem dX10_sum_75 : decode cX10_sum 75 = .ok (.bipush 32, 2) := by decide +kernel
theorem dX10_sum_77 : decode cX10_sum 77 = .ok (.iadd, 1) := by decide +kernel
theorem dX10_sum_78 : decode cX10_sum 78 = .ok (.aload_n 0, 1) := by decide +kernel
theorem dX10_sum_79 : decode cX10_sum 79 = .ok (.iload_n 3, 1) := by decide +kernel
theorem dX10_sum_80 : decode cX10_sum 80 = .ok (.invokevirtual 268, 3) := by decide +kernel
theorem dX10_sum_83 : decode cX10_sum 83 = .ok (.iadd, 1) := by decide +kernel
theorem dX10_sum_84 : decode cX10_sum 84 = .ok (.iaload, 1) := by decide +kernel
theorem dX10_sum_85 : decode cX10_sum 85 = .ok (.isub, 1) := by decide +kernel
theorem dX10_sum_86 : decode cX10_sum 86 = .ok (.bipush 100, 2) := by decide +kernel
theorem dX10_sum_88 : decode cX10_sum 88 = .ok (.aload_n 0, 1) := by decide +kernel
theorem dX10_sum_89 : decode cX10_sum 89 = .ok (.getfield 70, 3) := by decide +kernel
theorem dX10_sum_92 : decode cX10_sum 92 = .ok (.bipush 24, 2) := by decide +kernel
theorem dX10_sum_94 : decode cX10_sum 94 = .ok (.iconst 2, 1) := by decide +kernel
theorem dX10_sum_95 : decode cX10_sum 95 = .ok (.iload_n 3, 1) := by decide +kernel
theorem dX10_sum_96 : decode cX10_sum 96 = .ok (.imul, 1) := by decide +kernel
theorem dX10_sum_97 : decode cX10_sum 97 = .ok (.iadd, 1) := by decide +kernel
theorem dX10_sum_98 : decode cX10_sum 98 = .ok (.iload 4, 2) := by decide +kernel
theorem dX10_sum_100 : decode cX10_sum 100 = .ok (.iadd, 1) := by decide +kernel
theorem dX10_sum_101 : decode cX10_sum 101 = .ok (.iaload, 1) := by decide +kernel
theorem dX10_sum_102 : decode cX10_sum 102 = .ok (.imul, 1) := by decide +kernel
theorem dX10_sum_103 : decode cX10_sum 103 = .ok (.isub, 1) := by decide +kernel
theorem dX10_sum_104 : decode cX10_sum 104 = .ok (.i2l, 1) := by decide +kernel
theorem dX10_sum_105 : decode cX10_sum 105 = .ok (.lstore 5, 2) := by decide +kernel
theorem dX10_sum_107 : decode cX10_sum 107 = .ok (.lload_n 1, 1) := by decide +kernel
theorem dX10_sum_108 : decode cX10_sum 108 = .ok (.aload_n 0, 1) := by decide +kernel
theorem dX10_sum_109 : decode cX10_sum 109 = .ok (.iload_n 3, 1) := by decide +kernel
theorem dX10_sum_110 : decode cX10_sum 110 = .ok (.invokevirtual 271, 3) := by decide +kernel
theorem dX10_sum_113 : decode cX10_sum 113 = .ok (.i2l, 1) := by decide +kernel
theorem dX10_sum_114 : decode cX10_sum 114 = .ok (.lload 5, 2) := by decide +kernel
theorem dX10_sum_116 : decode cX10_sum 116 = .ok (.lmul, 1) := by decide +kernel
theorem dX10_sum_117 : decode cX10_sum 117 = .ok (.lload 5, 2) := by decide +kernel
theorem dX10_sum_119 : decode cX10_sum 119 = .ok (.lmul, 1) := by decide +kernel
theorem dX10_sum_120 : decode cX10_sum 120 = .ok (.ladd, 1) := by decide +kernel
theorem dX10_sum_121 : decode cX10_sum 121 = .ok (.lstore_n 1, 1) := by decide +kernel
theorem dX10_sum_122 : decode cX10_sum 122 = .ok (.iinc 4 1, 3) := by decide +kernel
theorem dX10_sum_125 : decode cX10_sum 125 = .ok (.goto (-77), 3) := by decide +kernel
theorem dX10_sum_128 : decode cX10_sum 128 = .ok (.iinc 3 1, 3) := by decide +kernel
theorem dX10_sum_131 : decode cX10_sum 131 = .ok (.goto (-94), 3) := by decide +kernel
theorem dX10_sum_134 : decode cX10_sum 134 = .ok (.lload_n 1, 1) := by decide +kernel
theorem dX10_sum_135 : decode cX10_sum 135 = .ok (.lreturn, 1) := by decide +kernel
theorem dX10_mean_0 : decode cX10_mean 0 = .ok (.aload_n 0, 1) := by decide +kernel
theorem dX10_mean_1 : decode cX10_mean 1 = .ok (.dup, 1) := by decide +kernel
theorem dX10_mean_2 : decode cX10_mean 2 = .ok (.getfield 332, 3) := by decide +kernel
theorem dX10_mean_5 : decode cX10_mean 5 = .ok (.iload_n 1, 1) := by decide +kernel
theorem dX10_mean_6 : decode cX10_mean 6 = .ok (.i2l, 1) := by decide +kernel
theorem dX10_mean_7 : decode cX10_mean 7 = .ok (.iload_n 2, 1) := by decide +kernel
theorem dX10_mean_8 : decode cX10_mean 8 = .ok (.i2l, 1) := by decide +kernel
theorem dX10_mean_9 : decode cX10_mean 9 = .ok (.lmul, 1) := by decide +kernel
theorem dX10_mean_10 : decode cX10_mean 10 = .ok (.ladd, 1) := by decide +kernel
theorem dX10_mean_11 : decode cX10_mean 11 = .ok (.putfield 332, 3) := by decide +kernel
theorem dX10_mean_14 : decode cX10_mean 14 = .ok (.aload_n 0, 1) := by decide +kernel
theorem dX10_mean_15 : decode cX10_mean 15 = .ok (.dup, 1) := by decide +kernel
theorem dX10_mean_16 : decode cX10_mean 16 = .ok (.getfield 336, 3) := by decide +kernel
theorem dX10_mean_19 : decode cX10_mean 19 = .ok (.iload_n 1, 1) := by decide +kernel
theorem dX10_mean_20 : decode cX10_mean 20 = .ok (.iadd, 1) := by decide +kernel
theorem dX10_mean_21 : decode cX10_mean 21 = .ok (.putfield 336, 3) := by decide +kernel
theorem dX10_mean_24 : decode cX10_mean 24 = .ok (.return_, 1) := by decide +kernel
theorem dX10_becomes_0 : decode cX10_becomes 0 = .ok (.aload_n 0, 1) := by decide +kernel
theorem dX10_becomes_1 : decode cX10_becomes 1 = .ok (.getfield 336, 3) := by decide +kernel
theorem dX10_becomes_4 : decode cX10_becomes 4 = .ok (.ifCond .ne 5, 3) := by decide +kernel
theorem dX10_becomes_7 : decode cX10_becomes 7 = .ok (.iconst 0, 1) := by decide +kernel
theorem dX10_becomes_8 : decode cX10_becomes 8 = .ok (.ireturn, 1) := by decide +kernel
theorem dX10_becomes_9 : decode cX10_becomes 9 = .ok (.aload_n 0, 1) := by decide +kernel
theorem dX10_becomes_10 : decode cX10_becomes 10 = .ok (.getfield 332, 3) := by decide +kernel
theorem dX10_becomes_13 : decode cX10_becomes 13 = .ok (.aload_n 0, 1) := by decide +kernel
theorem dX10_becomes_14 : decode cX10_becomes 14 = .ok (.getfield 336, 3) := by decide +kernel
theorem dX10_becomes_17 : decode cX10_becomes 17 = .ok (.i2l, 1) := by decide +kernel
theorem dX10_becomes_18 : decode cX10_becomes 18 = .ok (.ldiv, 1) := by decide +kernel
theorem dX10_becomes_19 : decode cX10_becomes 19 = .ok (.lstore_n 2, 1) := by decide +kernel
theorem dX10_becomes_20 : decode cX10_becomes 20 = .ok (.aload_n 0, 1) := by decide +kernel
theorem dX10_becomes_21 : decode cX10_becomes 21 = .ok (.getfield 332, 3) := by decide +kernel
theorem dX10_becomes_24 : decode cX10_becomes 24 = .ok (.aload_n 0, 1) := by decide +kernel
theorem dX10_becomes_25 : decode cX10_becomes 25 = .ok (.getfield 336, 3) := by decide +kernel
theorem dX10_becomes_28 : decode cX10_becomes 28 = .ok (.i2l, 1) := by decide +kernel
theorem dX10_becomes_29 : decode cX10_becomes 29 = .ok (.lrem, 1) := by decide +kernel
theorem dX10_becomes_30 : decode cX10_becomes 30 = .ok (.lstore 4, 2) := by decide +kernel
theorem dX10_becomes_32 : decode cX10_becomes 32 = .ok (.lload 4, 2) := by decide +kernel
theorem dX10_becomes_34 : decode cX10_becomes 34 = .ok (.lconst 0, 1) := by decide +kernel
theorem dX10_becomes_35 : decode cX10_becomes 35 = .ok (.lcmp, 1) := by decide +kernel
theorem dX10_becomes_36 : decode cX10_becomes 36 = .ok (.ifCond .ge 17, 3) := by decide +kernel
theorem dX10_becomes_39 : decode cX10_becomes 39 = .ok (.lload_n 2, 1) := by decide +kernel
theorem dX10_becomes_40 : decode cX10_becomes 40 = .ok (.lconst 1, 1) := by decide +kernel
theorem dX10_becomes_41 : decode cX10_becomes 41 = .ok (.lsub, 1) := by decide +kernel
theorem dX10_becomes_42 : decode cX10_becomes 42 = .ok (.lstore_n 2, 1) := by decide +kernel
theorem dX10_becomes_43 : decode cX10_becomes 43 = .ok (.lload 4, 2) := by decide +kernel
theorem dX10_becomes_45 : decode cX10_becomes 45 = .ok (.aload_n 0, 1) := by decide +kernel
theorem dX10_becomes_46 : decode cX10_becomes 46 = .ok (.getfield 336, 3) := by decide +kernel
theorem dX10_becomes_49 : decode cX10_becomes 49 = .ok (.i2l, 1) := by decide +kernel
theorem dX10_becomes_50 : decode cX10_becomes 50 = .ok (.ladd, 1) := by decide +kernel
theorem dX10_becomes_51 : decode cX10_becomes 51 = .ok (.lstore 4, 2) := by decide +kernel
theorem dX10_becomes_53 : decode cX10_becomes 53 = .ok (.aload_n 0, 1) := by decide +kernel
theorem dX10_becomes_54 : decode cX10_becomes 54 = .ok (.getfield 101, 3) := by decide +kernel
theorem dX10_becomes_57 : decode cX10_becomes 57 = .ok (.iload_n 1, 1) := by decide +kernel
theorem dX10_becomes_58 : decode cX10_becomes 58 = .ok (.iaload, 1) := by decide +kernel
theorem dX10_becomes_59 : decode cX10_becomes 59 = .ok (.istore 6, 2) := by decide +kernel
theorem dX10_becomes_61 : decode cX10_becomes 61 = .ok (.ldc2_w 339, 3) := by decide +kernel
theorem dX10_becomes_64 : decode cX10_becomes 64 = .ok (.lload 4, 2) := by decide +kernel
theorem dX10_becomes_66 : decode cX10_becomes 66 = .ok (.lmul, 1) := by decide +kernel
theorem dX10_becomes_67 : decode cX10_becomes 67 = .ok (.aload_n 0, 1) := by decide +kernel
theorem dX10_becomes_68 : decode cX10_becomes 68 = .ok (.getfield 336, 3) := by decide +kernel
theorem dX10_becomes_71 : decode cX10_becomes 71 = .ok (.i2l, 1) := by decide +kernel
theorem dX10_becomes_72 : decode cX10_becomes 72 = .ok (.lcmp, 1) := by decide +kernel
theorem dX10_becomes_73 : decode cX10_becomes 73 = .ok (.ifCond .gt 28, 3) := by decide +kernel
theorem dX10_becomes_76 : decode cX10_becomes 76 = .ok (.ldc2_w 339, 3) := by decide +kernel
theorem dX10_becomes_79 : decode cX10_becomes 79 = .ok (.lload 4, 2) := by decide +kernel
theorem dX10_becomes_81 : decode cX10_becomes 81 = .ok (.lmul, 1) := by decide +kernel
theorem dX10_becomes_82 : decode cX10_becomes 82 = .ok (.aload_n 0, 1) := by decide +kernel
theorem dX10_becomes_83 : decode cX10_becomes 83 = .ok (.getfield 336, 3) := by decide +kernel
theorem dX10_becomes_86 : decode cX10_becomes 86 = .ok (.i2l, 1) := by decide +kernel
theorem dX10_becomes_87 : decode cX10_becomes 87 = .ok (.lcmp, 1) := by decide +kernel
theorem dX10_becomes_88 : decode cX10_becomes 88 = .ok (.ifCond .ne 17, 3) := by decide +kernel
theorem dX10_becomes_91 : decode cX10_becomes 91 = .ok (.iload 6, 2) := by decide +kernel
theorem dX10_becomes_93 : decode cX10_becomes 93 = .ok (.i2l, 1) := by decide +kernel
theorem dX10_becomes_94 : decode cX10_becomes 94 = .ok (.lload_n 2, 1) := by decide +kernel
theorem dX10_becomes_95 : decode cX10_becomes 95 = .ok (.lconst 1, 1) := by decide +kernel
theorem dX10_becomes_96 : decode cX10_becomes 96 = .ok (.ladd, 1) := by decide +kernel
theorem dX10_becomes_97 : decode cX10_becomes 97 = .ok (.lcmp, 1) := by decide +kernel
theorem dX10_becomes_98 : decode cX10_becomes 98 = .ok (.ifCond .ne 7, 3) := by decide +kernel
theorem dX10_becomes_101 : decode cX10_becomes 101 = .ok (.lload_n 2, 1) := by decide +kernel
theorem dX10_becomes_102 : decode cX10_becomes 102 = .ok (.lconst 1, 1) := by decide +kernel
theorem dX10_becomes_103 : decode cX10_becomes 103 = .ok (.ladd, 1) := by decide +kernel
theorem dX10_becomes_104 : decode cX10_becomes 104 = .ok (.lstore_n 2, 1) := by decide +kernel
theorem dX10_becomes_105 : decode cX10_becomes 105 = .ok (.aload_n 0, 1) := by decide +kernel
theorem dX10_becomes_106 : decode cX10_becomes 106 = .ok (.getfield 101, 3) := by decide +kernel
theorem dX10_becomes_109 : decode cX10_becomes 109 = .ok (.iload_n 1, 1) := by decide +kernel
theorem dX10_becomes_110 : decode cX10_becomes 110 = .ok (.lload_n 2, 1) := by decide +kernel
theorem dX10_becomes_111 : decode cX10_becomes 111 = .ok (.l2i, 1) := by decide +kernel
theorem dX10_becomes_112 : decode cX10_becomes 112 = .ok (.iastore, 1) := by decide +kernel
theorem dX10_becomes_113 : decode cX10_becomes 113 = .ok (.iload 6, 2) := by decide +kernel
theorem dX10_becomes_115 : decode cX10_becomes 115 = .ok (.aload_n 0, 1) := by decide +kernel
theorem dX10_becomes_116 : decode cX10_becomes 116 = .ok (.getfield 101, 3) := by decide +kernel
theorem dX10_becomes_119 : decode cX10_becomes 119 = .ok (.iload_n 1, 1) := by decide +kernel
theorem dX10_becomes_120 : decode cX10_becomes 120 = .ok (.iaload, 1) := by decide +kernel
theorem dX10_becomes_121 : decode cX10_becomes 121 = .ok (.if_icmp .eq 7, 3) := by decide +kernel
theorem dX10_becomes_124 : decode cX10_becomes 124 = .ok (.iconst 1, 1) := by decide +kernel
theorem dX10_becomes_125 : decode cX10_becomes 125 = .ok (.goto 4, 3) := by decide +kernel
theorem dX10_becomes_128 : decode cX10_becomes 128 = .ok (.iconst 0, 1) := by decide +kernel
theorem dX10_becomes_129 : decode cX10_becomes 129 = .ok (.ireturn, 1) := by decide +kernel
theorem dX10_noMean_0 : decode cX10_noMean 0 = .ok (.aload_n 0, 1) := by decide +kernel
theorem dX10_noMean_1 : decode cX10_noMean 1 = .ok (.lconst 0, 1) := by decide +kernel
theorem dX10_noMean_2 : decode cX10_noMean 2 = .ok (.putfield 332, 3) := by decide +kernel
theorem dX10_noMean_5 : decode cX10_noMean 5 = .ok (.aload_n 0, 1) := by decide +kernel
theorem dX10_noMean_6 : decode cX10_noMean 6 = .ok (.iconst 0, 1) := by decide +kernel
theorem dX10_noMean_7 : decode cX10_noMean 7 = .ok (.putfield 336, 3) := by decide +kernel
theorem dX10_noMean_10 : decode cX10_noMean 10 = .ok (.return_, 1) := by decide +kernel
set_option maxRecDepth 20000 in
theorem ggX10_isPointAltered_X10_noMean : GoodIn wsX10_isPointAltered wsX10_noMean := goodIn_r _ [6, 7, 8, 53, 54, 55, 56, 57, 58, 59, 60, 61, 62, 63, 64, 65, 66, 67, 68, 69, 70, 71, 72, 73, 74, 75, 76, 77, 78, 79, 80, 81, 82, 83, 84, 85, 86, 87, 88, 89, 90, 91, 92, 93, 94, 95, 96, 97, 98, 99, 100, 101, 102, 103, 104, 105, 106, 107, 108, 109] (by decide +kernel) (by decide +kernel)
set_option maxRecDepth 20000 in
theorem gX10_isPointAltered_X10_noMean : GoodIn wsX10_isPointAltered (wsV RX10 341 RX10 yX10_noMean wsX10_noMean) := goodIn_app (goodIn_of _ (by decide +kernel)) ggX10_isPointAltered_X10_noMean
set_option maxRecDepth 20000 in
theorem ggX10_isPointAltered_X10_rows : GoodIn wsX10_isPointAltered wsX10_rows := goodIn_r _ [12, 13, 53, 54, 55, 56, 57, 58, 59, 60, 61, 62, 63, 64, 65, 66, 67, 68, 69, 70, 71, 72, 73, 74, 75, 76, 77, 78, 79, 80, 81, 82, 83, 84, 85, 86, 87, 88, 89, 90, 91, 92, 93, 94, 95, 96, 97, 98, 99, 100, 101, 102, 103, 104, 105, 106, 107, 108, 109] (by decide +kernel) (by decide +kernel)
set_option maxRecDepth 20000 in
theorem gX10_isPointAltered_X10_rows : GoodIn wsX10_isPointAltered (wsV RX10 265 RX10 yX10_rows wsX10_rows) := goodIn_app (goodIn_of _ (by decide +kernel)) ggX10_isPointAltered_X10_rows
set_option maxRecDepth 20000 in
theorem ggX10_isPointAltered_X10_pointOf : GoodIn wsX10_isPointAltered wsX10_pointOf := goodIn_r _ [17, 18, 53, 54, 55, 56, 57, 58, 59, 60, 61, 62, 63, 64, 65, 66, 67, 68, 69, 70, 71, 72, 73, 74, 75, 76, 77, 78, 79, 80, 81, 82, 83, 84, 85, 86, 87, 88, 89, 90, 91, 92, 93, 94, 95, 96, 97, 98, 99, 100, 101, 102, 103, 104, 105, 106, 107, 108, 109] (by decide +kernel) (by decide +kernel)
set_option maxRecDepth 20000 in
theorem gX10_isPointAltered_X10_pointOf : GoodIn wsX10_isPointAltered (wsV RX10 281 RX10 yX10_pointOf wsX10_pointOf) := goodIn_app (goodIn_of _ (by decide +kernel)) ggX10_isPointAltered_X10_pointOf
set_option maxRecDepth 20000 in
theorem ggX10_isPointAltered_X10_weightOf : GoodIn wsX10_isPointAltered wsX10_weightOf := goodIn_r _ [22, 23, 53, 54, 55, 56, 57, 58, 59, 60, 61, 62, 63, 64, 65, 66, 67, 68, 69, 70, 71, 72, 73, 74, 75, 76, 77, 78, 79, 80, 81, 82, 83, 84, 85, 86, 87, 88, 89, 90, 91, 92, 93, 94, 95, 96, 97, 98, 99, 100, 101, 102, 103, 104, 105, 106, 107, 108, 109] (by decide +kernel) (by decide +kernel)
set_option maxRecDepth 20000 in
theorem gX10_isPointAltered_X10_weightOf : GoodIn wsX10_isPointAltered (wsV RX10 325 RX10 yX10_weightOf wsX10_weightOf) := goodIn_app (goodIn_of _ (by decide +kernel)) ggX10_isPointAltered_X10_weightOf
set_option maxRecDepth 20000 in
theorem ggX10_isPointAltered_X10_put : GoodIn wsX10_isPointAltered wsX10_put := goodIn_r _ [27, 28, 29, 30, 31, 5, 32, 33, 34, 35, 36, 37, 38, 39, 40, 41, 42, 43, 53, 54, 55, 56, 57, 58, 59, 60, 61, 62, 63, 64, 65, 66, 67, 68, 69, 70, 71, 72, 73, 74, 75, 76, 77, 78, 79, 80, 81, 82, 83, 84, 85, 86, 87, 88, 89, 90, 91, 92, 93, 94, 95, 96, 97, 98, 99, 100, 101, 102, 103, 104, 105, 106, 107, 108, 109] (by decide +kernel) (by decide +kernel)
set_option maxRecDepth 20000 in
theorem gX10_isPointAltered_X10_put : GoodIn wsX10_isPointAltered (wsV RX10 296 RX10 yX10_put wsX10_put) := goodIn_app (goodIn_of _ (by decide +kernel)) ggX10_isPointAltered_X10_put
set_option maxRecDepth 20000 in
theorem ggX10_isPointAltered_X10_mean : GoodIn wsX10_isPointAltered wsX10_mean := goodIn_r _ [47, 7, 8, 53, 54, 55, 56, 57, 58, 59, 60, 61, 62, 63, 64, 65, 66, 67, 68, 69, 70, 71, 72, 73, 74, 75, 76, 77, 78, 79, 80, 81, 82, 83, 84, 85, 86, 87, 88, 89, 90, 91, 92, 93, 94, 95, 96, 97, 98, 99, 100, 101, 102, 103, 104, 105, 106, 107, 108, 109] (by decide +kernel) (by decide +kernel)
set_option maxRecDepth 20000 in
theorem gX10_isPointAltered_X10_mean : GoodIn wsX10_isPointAltered (wsV RX10 344 RX10 yX10_mean wsX10_mean) := goodIn_app (goodIn_of _ (by decide +kernel)) ggX10_isPointAltered_X10_mean
set_option maxRecDepth 20000 in
theorem ggX10_isPointAltered_X10_becomes : GoodIn wsX10_isPointAltered wsX10_becomes := goodIn_r _ [51, 8, 7, 28, 52, 53, 54, 55, 56, 57, 58, 59, 60, 61, 62, 63, 64, 65, 66, 67, 68, 69, 70, 71, 72, 73, 74, 75, 76, 77, 78, 79, 80, 81, 82, 83, 84, 85, 86, 87, 88, 89, 90, 91, 92, 93, 94, 95, 96, 97, 98, 99, 100, 101, 102, 103, 104, 105, 106, 107, 108, 109] (by decide +kernel) (by decide +kernel)
set_option maxRecDepth 20000 in
theorem gX10_isPointAltered_X10_becomes : GoodIn wsX10_isPointAltered (wsV RX10 347 RX10 yX10_becomes wsX10_becomes) := goodIn_app (goodIn_of _ (by decide +kernel)) ggX10_isPointAltered_X10_becomes
theorem dX10_isPointAltered_0 : decode cX10_isPointAltered 0 = .ok (.aload_n 0, 1) := by decide +kernel
theorem dX10_isPointAltered_1 : decode cX10_isPointAltered 1 = .ok (.invokevirtual 341, 3) := by decide +kernel
theorem dX10_isPointAltered_4 : decode cX10_isPointAltered 4 = .ok (.iconst 0, 1) := by decide +kernel
theorem dX10_isPointAltered_5 : decode cX10_isPointAltered 5 = .ok (.istore_n 3, 1) := by decide +kernel
theorem dX10_isPointAltered_6 : decode cX10_isPointAltered 6 = .ok (.iload_n 3, 1) := by decide +kernel
theorem dX10_isPointAltered_7 : decode cX10_isPointAltered 7 = .ok (.aload_n 0, 1) := by decide +kernel
theorem dX10_isPointAltered_8 : decode cX10_isPointAltered 8 = .ok (.invokevirtual 265, 3) := by decide +kernel
theorem dX10_isPointAltered_11 : decode cX10_isPointAltered 11 = .ok (.if_icmp .ge 42, 3) := by decide +kernel
theorem dX10_isPointAltered_14 : decode cX10_isPointAltered 14 = .ok (.aload_n 0, 1) := by decide +kernel
theorem dX10_isPointAltered_15 : decode cX10_isPointAltered 15 = .ok (.getfield 91, 3) := by decide +kernel
theorem dX10_isPointAltered_18 : decode cX10_isPointAltered 18 = .ok (.iload_n 3, 1) := by decide +kernel
theorem dX10_isPointAltered_19 : decode cX10_isPointAltered 19 = .ok (.baload, 1) := by decide +kernel
theorem dX10_isPointAltered_20 : decode cX10_isPointAltered 20 = .ok (.ifCond .ne 27, 3) := by decide +kernel
theorem dX10_isPointAltered_23 : decode cX10_isPointAltered 23 = .ok (.aload_n 0, 1) := by decide +kernel
theorem dX10_isPointAltered_24 : decode cX10_isPointAltered 24 = .ok (.iload_n 3, 1) := by decide +kernel
theorem dX10_isPointAltered_25 : decode cX10_isPointAltered 25 = .ok (.invokevirtual 281, 3) := by decide +kernel
theorem dX10_isPointAltered_28 : decode cX10_isPointAltered 28 = .ok (.iload_n 1, 1) := by decide +kernel
theorem dX10_isPointAltered_29 : decode cX10_isPointAltered 29 = .ok (.if_icmp .ne 18, 3) := by decide +kernel
theorem dX10_isPointAltered_32 : decode cX10_isPointAltered 32 = .ok (.aload_n 0, 1) := by decide +kernel
theorem dX10_isPointAltered_33 : decode cX10_isPointAltered 33 = .ok (.aload_n 0, 1) := by decide +kernel
theorem dX10_isPointAltered_34 : decode cX10_isPointAltered 34 = .ok (.iload_n 3, 1) := by decide +kernel
theorem dX10_isPointAltered_35 : decode cX10_isPointAltered 35 = .ok (.invokevirtual 325, 3) := by decide +kernel
theorem dX10_isPointAltered_38 : decode cX10_isPointAltered 38 = .ok (.aload_n 0, 1) := by decide +kernel
theorem dX10_isPointAltered_39 : decode cX10_isPointAltered 39 = .ok (.iload_n 3, 1) := by decide +kernel
theorem dX10_isPointAltered_40 : decode cX10_isPointAltered 40 = .ok (.iload_n 2, 1) := by decide +kernel
theorem dX10_isPointAltered_41 : decode cX10_isPointAltered 41 = .ok (.invokevirtual 296, 3) := by decide +kernel
theorem dX10_isPointAltered_44 : decode cX10_isPointAltered 44 = .ok (.invokevirtual 344, 3) := by decide +kernel
theorem dX10_isPointAltered_47 : decode cX10_isPointAltered 47 = .ok (.iinc 3 1, 3) := by decide +kernel
theorem dX10_isPointAltered_50 : decode cX10_isPointAltered 50 = .ok (.goto (-44), 3) := by decide +kernel
theorem dX10_isPointAltered_53 : decode cX10_isPointAltered 53 = .ok (.aload_n 0, 1) := by decide +kernel
theorem dX10_isPointAltered_54 : decode cX10_isPointAltered 54 = .ok (.bipush 38, 2) := by decide +kernel
theorem dX10_isPointAltered_56 : decode cX10_isPointAltered 56 = .ok (.iload_n 2, 1) := by decide +kernel
theorem dX10_isPointAltered_57 : decode cX10_isPointAltered 57 = .ok (.imul, 1) := by decide +kernel
theorem dX10_isPointAltered_58 : decode cX10_isPointAltered 58 = .ok (.bipush 12, 2) := by decide +kernel
theorem dX10_isPointAltered_60 : decode cX10_isPointAltered 60 = .ok (.iadd, 1) := by decide +kernel
theorem dX10_isPointAltered_61 : decode cX10_isPointAltered 61 = .ok (.iload_n 1, 1) := by decide +kernel
theorem dX10_isPointAltered_62 : decode cX10_isPointAltered 62 = .ok (.iadd, 1) := by decide +kernel
theorem dX10_isPointAltered_63 : decode cX10_isPointAltered 63 = .ok (.invokevirtual 347, 3) := by decide +kernel
theorem dX10_isPointAltered_66 : decode cX10_isPointAltered 66 = .ok (.ireturn, 1) := by decide +kernel
set_option maxRecDepth 20000 in
theorem ggX10_isPictureAltered_X10_noMean : GoodIn wsX10_isPictureAltered wsX10_noMean := goodIn_r _ [8, 9, 10, 60, 61, 62, 63, 64, 65, 66, 67, 68, 69, 70, 71, 72, 73, 74, 75, 76, 77, 78, 79, 80, 81, 82, 83, 84, 85, 86, 87, 88, 89, 90, 91, 92, 93, 94, 95, 96, 97, 98, 99, 100, 101, 102, 103, 104, 105, 106, 107, 108, 109, 110, 111, 112, 113, 114, 115, 116] (by decide +kernel) (by decide +kernel)
set_option maxRecDepth 20000 in
theorem gX10_isPictureAltered_X10_noMean : GoodIn wsX10_isPictureAltered (wsV RX10 341 RX10 yX10_noMean wsX10_noMean) := goodIn_app (goodIn_of _ (by decide +kernel)) ggX10_isPictureAltered_X10_noMean
set_option maxRecDepth 20000 in
theorem ggX10_isPictureAltered_X10_rows : GoodIn wsX10_isPictureAltered wsX10_rows := goodIn_r _ [14, 15, 60, 61, 62, 63, 64, 65, 66, 67, 68, 69, 70, 71, 72, 73, 74, 75, 76, 77, 78, 79, 80, 81, 82, 83, 84, 85, 86, 87, 88, 89, 90, 91, 92, 93, 94, 95, 96, 97, 98, 99, 100, 101, 102, 103, 104, 105, 106, 107, 108, 109, 110, 111, 112, 113, 114, 115, 116] (by decide +kernel) (by decide +kernel)
set_option maxRecDepth 20000 in
theorem gX10_isPictureAltered_X10_rows : GoodIn wsX10_isPictureAltered (wsV RX10 265 RX10 yX10_rows wsX10_rows) := goodIn_app (goodIn_of _ (by decide +kernel)) ggX10_isPictureAltered_X10_rows
set_option maxRecDepth 20000 in
theorem ggX10_isPictureAltered_X10_pictureOf : GoodIn wsX10_isPictureAltered wsX10_pictureOf := goodIn_r _ [19, 20, 60, 61, 62, 63, 64, 65, 66, 67, 68, 69, 70, 71, 72, 73, 74, 75, 76, 77, 78, 79, 80, 81, 82, 83, 84, 85, 86, 87, 88, 89, 90, 91, 92, 93, 94, 95, 96, 97, 98, 99, 100, 101, 102, 103, 104, 105, 106, 107, 108, 109, 110, 111, 112, 113, 114, 115, 116] (by decide +kernel) (by decide +kernel)
set_option maxRecDepth 20000 in
theorem gX10_isPictureAltered_X10_pictureOf : GoodIn wsX10_isPictureAltered (wsV RX10 274 RX10 yX10_pictureOf wsX10_pictureOf) := goodIn_app (goodIn_of _ (by decide +kernel)) ggX10_isPictureAltered_X10_pictureOf
set_option maxRecDepth 20000 in
theorem ggX10_isPictureAltered_X10_weightOf : GoodIn wsX10_isPictureAltered wsX10_weightOf := goodIn_r _ [24, 25, 60, 61, 62, 63, 64, 65, 66, 67, 68, 69, 70, 71, 72, 73, 74, 75, 76, 77, 78, 79, 80, 81, 82, 83, 84, 85, 86, 87, 88, 89, 90, 91, 92, 93, 94, 95, 96, 97, 98, 99, 100, 101, 102, 103, 104, 105, 106, 107, 108, 109, 110, 111, 112, 113, 114, 115, 116] (by decide +kernel) (by decide +kernel)
set_option maxRecDepth 20000 in
theorem gX10_isPictureAltered_X10_weightOf : GoodIn wsX10_isPictureAltered (wsV RX10 325 RX10 yX10_weightOf wsX10_weightOf) := goodIn_app (goodIn_of _ (by decide +kernel)) ggX10_isPictureAltered_X10_weightOf
set_option maxRecDepth 20000 in
theorem ggX10_isPictureAltered_X10_pointOf : GoodIn wsX10_isPictureAltered wsX10_pointOf := goodIn_r _ [29, 30, 60, 61, 62, 63, 64, 65, 66, 67, 68, 69, 70, 71, 72, 73, 74, 75, 76, 77, 78, 79, 80, 81, 82, 83, 84, 85, 86, 87, 88, 89, 90, 91, 92, 93, 94, 95, 96, 97, 98, 99, 100, 101, 102, 103, 104, 105, 106, 107, 108, 109, 110, 111, 112, 113, 114, 115, 116] (by decide +kernel) (by decide +kernel)
set_option maxRecDepth 20000 in
theorem gX10_isPictureAltered_X10_pointOf : GoodIn wsX10_isPictureAltered (wsV RX10 281 RX10 yX10_pointOf wsX10_pointOf) := goodIn_app (goodIn_of _ (by decide +kernel)) ggX10_isPictureAltered_X10_pointOf
set_option maxRecDepth 20000 in
theorem ggX10_isPictureAltered_X10_turned : GoodIn wsX10_isPictureAltered wsX10_turned := goodIn_r _ [34, 35, 16, 17, 18, 7, 19, 20, 36, 37, 38, 39, 40, 60, 61, 62, 63, 64, 65, 66, 67, 68, 69, 70, 71, 72, 73, 74, 75, 76, 77, 78, 79, 80, 81, 82, 83, 84, 85, 86, 87, 88, 89, 90, 91, 92, 93, 94, 95, 96, 97, 98, 99, 100, 101, 102, 103, 104, 105, 106, 107, 108, 109, 110, 111, 112, 113, 114, 115, 116] (by decide +kernel) (by decide +kernel)
set_option maxRecDepth 20000 in
theorem gX10_isPictureAltered_X10_turned : GoodIn wsX10_isPictureAltered (wsV RX10 284 RX10 yX10_turned wsX10_turned) := goodIn_app (goodIn_of _ (by decide +kernel)) ggX10_isPictureAltered_X10_turned
set_option maxRecDepth 20000 in
theorem ggX10_isPictureAltered_X10_mean : GoodIn wsX10_isPictureAltered wsX10_mean := goodIn_r _ [44, 9, 10, 60, 61, 62, 63, 64, 65, 66, 67, 68, 69, 70, 71, 72, 73, 74, 75, 76, 77, 78, 79, 80, 81, 82, 83, 84, 85, 86, 87, 88, 89, 90, 91, 92, 93, 94, 95, 96, 97, 98, 99, 100, 101, 102, 103, 104, 105, 106, 107, 108, 109, 110, 111, 112, 113, 114, 115, 116] (by decide +kernel) (by decide +kernel)
set_option maxRecDepth 20000 in
theorem gX10_isPictureAltered_X10_mean : GoodIn wsX10_isPictureAltered (wsV RX10 344 RX10 yX10_mean wsX10_mean) := goodIn_app (goodIn_of _ (by decide +kernel)) ggX10_isPictureAltered_X10_mean
set_option maxRecDepth 20000 in
theorem ggX10_isPictureAltered_X10_centreOf : GoodIn wsX10_isPictureAltered wsX10_centreOf := goodIn_r _ [48, 49, 60, 61, 62, 63, 64, 65, 66, 67, 68, 69, 70, 71, 72, 73, 74, 75, 76, 77, 78, 79, 80, 81, 82, 83, 84, 85, 86, 87, 88, 89, 90, 91, 92, 93, 94, 95, 96, 97, 98, 99, 100, 101, 102, 103, 104, 105, 106, 107, 108, 109, 110, 111, 112, 113, 114, 115, 116] (by decide +kernel) (by decide +kernel)
set_option maxRecDepth 20000 in
theorem gX10_isPictureAltered_X10_centreOf : GoodIn wsX10_isPictureAltered (wsV RX10 271 RX10 yX10_centreOf wsX10_centreOf) := goodIn_app (goodIn_of _ (by decide +kernel)) ggX10_isPictureAltered_X10_centreOf
set_option maxRecDepth 20000 in
theorem ggX10_isPictureAltered_X10_strip : GoodIn wsX10_isPictureAltered wsX10_strip := goodIn_r _ [53, 54, 60, 61, 62, 63, 64, 65, 66, 67, 68, 69, 70, 71, 72, 73, 74, 75, 76, 77, 78, 79, 80, 81, 82, 83, 84, 85, 86, 87, 88, 89, 90, 91, 92, 93, 94, 95, 96, 97, 98, 99, 100, 101, 102, 103, 104, 105, 106, 107, 108, 109, 110, 111, 112, 113, 114, 115, 116] (by decide +kernel) (by decide +kernel)
set_option maxRecDepth 20000 in
theorem gX10_isPictureAltered_X10_strip : GoodIn wsX10_isPictureAltered (wsV RX10 268 RX10 yX10_strip wsX10_strip) := goodIn_app (goodIn_of _ (by decide +kernel)) ggX10_isPictureAltered_X10_strip
set_option maxRecDepth 20000 in
theorem ggX10_isPictureAltered_X10_becomes : GoodIn wsX10_isPictureAltered wsX10_becomes := goodIn_r _ [58, 10, 9, 2, 59, 60, 61, 62, 63, 64, 65, 66, 67, 68, 69, 70, 71, 72, 73, 74, 75, 76, 77, 78, 79, 80, 81, 82, 83, 84, 85, 86, 87, 88, 89, 90, 91, 92, 93, 94, 95, 96, 97, 98, 99, 100, 101, 102, 103, 104, 105, 106, 107, 108, 109, 110, 111, 112, 113, 114, 115, 116] (by decide +kernel) (by decide +kernel)
set_option maxRecDepth 20000 in
theorem gX10_isPictureAltered_X10_becomes : GoodIn wsX10_isPictureAltered (wsV RX10 347 RX10 yX10_becomes wsX10_becomes) := goodIn_app (goodIn_of _ (by decide +kernel)) ggX10_isPictureAltered_X10_becomes
theorem dX10_isPictureAltered_0 : decode cX10_isPictureAltered 0 = .ok (.aload_n 0, 1) := by decide +kernel
theorem dX10_isPictureAltered_1 : decode cX10_isPictureAltered 1 = .ok (.invokevirtual 341, 3) := by decide +kernel
theorem dX10_isPictureAltered_4 : decode cX10_isPictureAltered 4 = .ok (.iconst 0, 1) := by decide +kernel
theorem dX10_isPictureAltered_5 : decode cX10_isPictureAltered 5 = .ok (.istore_n 3, 1) := by decide +kernel
theorem dX10_isPictureAltered_6 : decode cX10_isPictureAltered 6 = .ok (.iload_n 3, 1) := by decide +kernel
theorem dX10_isPictureAltered_7 : decode cX10_isPictureAltered 7 = .ok (.aload_n 0, 1) := by decide +kernel
theorem dX10_isPictureAltered_8 : decode cX10_isPictureAltered 8 = .ok (.invokevirtual 265, 3) := by decide +kernel
theorem dX10_isPictureAltered_11 : decode cX10_isPictureAltered 11 = .ok (.if_icmp .ge 61, 3) := by decide +kernel
theorem dX10_isPictureAltered_14 : decode cX10_isPictureAltered 14 = .ok (.aload_n 0, 1) := by decide +kernel
theorem dX10_isPictureAltered_15 : decode cX10_isPictureAltered 15 = .ok (.getfield 91, 3) := by decide +kernel
theorem dX10_isPictureAltered_18 : decode cX10_isPictureAltered 18 = .ok (.iload_n 3, 1) := by decide +kernel
theorem dX10_isPictureAltered_19 : decode cX10_isPictureAltered 19 = .ok (.baload, 1) := by decide +kernel
theorem dX10_isPictureAltered_20 : decode cX10_isPictureAltered 20 = .ok (.ifCond .ne 46, 3) := by decide +kernel
theorem dX10_isPictureAltered_23 : decode cX10_isPictureAltered 23 = .ok (.aload_n 0, 1) := by decide +kernel
theorem dX10_isPictureAltered_24 : decode cX10_isPictureAltered 24 = .ok (.iload_n 3, 1) := by decide +kernel
theorem dX10_isPictureAltered_25 : decode cX10_isPictureAltered 25 = .ok (.invokevirtual 274, 3) := by decide +kernel
theorem dX10_isPictureAltered_28 : decode cX10_isPictureAltered 28 = .ok (.iload_n 1, 1) := by decide +kernel
theorem dX10_isPictureAltered_29 : decode cX10_isPictureAltered 29 = .ok (.if_icmp .ne 37, 3) := by decide +kernel
theorem dX10_isPictureAltered_32 : decode cX10_isPictureAltered 32 = .ok (.aload_n 0, 1) := by decide +kernel
theorem dX10_isPictureAltered_33 : decode cX10_isPictureAltered 33 = .ok (.aload_n 0, 1) := by decide +kernel
theorem dX10_isPictureAltered_34 : decode cX10_isPictureAltered 34 = .ok (.iload_n 3, 1) := by decide +kernel
theorem dX10_isPictureAltered_35 : decode cX10_isPictureAltered 35 = .ok (.invokevirtual 325, 3) := by decide +kernel
theorem dX10_isPictureAltered_38 : decode cX10_isPictureAltered 38 = .ok (.aload_n 0, 1) := by decide +kernel
theorem dX10_isPictureAltered_39 : decode cX10_isPictureAltered 39 = .ok (.getfield 101, 3) := by decide +kernel
theorem dX10_isPictureAltered_42 : decode cX10_isPictureAltered 42 = .ok (.bipush 38, 2) := by decide +kernel
theorem dX10_isPictureAltered_44 : decode cX10_isPictureAltered 44 = .ok (.iload_n 2, 1) := by decide +kernel
theorem dX10_isPictureAltered_45 : decode cX10_isPictureAltered 45 = .ok (.imul, 1) := by decide +kernel
theorem dX10_isPictureAltered_46 : decode cX10_isPictureAltered 46 = .ok (.bipush 12, 2) := by decide +kernel
theorem dX10_isPictureAltered_48 : decode cX10_isPictureAltered 48 = .ok (.iadd, 1) := by decide +kernel
theorem dX10_isPictureAltered_49 : decode cX10_isPictureAltered 49 = .ok (.aload_n 0, 1) := by decide +kernel
theorem dX10_isPictureAltered_50 : decode cX10_isPictureAltered 50 = .ok (.iload_n 3, 1) := by decide +kernel
theorem dX10_isPictureAltered_51 : decode cX10_isPictureAltered 51 = .ok (.invokevirtual 281, 3) := by decide +kernel
theorem dX10_isPictureAltered_54 : decode cX10_isPictureAltered 54 = .ok (.iadd, 1) := by decide +kernel
theorem dX10_isPictureAltered_55 : decode cX10_isPictureAltered 55 = .ok (.iaload, 1) := by decide +kernel
theorem dX10_isPictureAltered_56 : decode cX10_isPictureAltered 56 = .ok (.aload_n 0, 1) := by decide +kernel
theorem dX10_isPictureAltered_57 : decode cX10_isPictureAltered 57 = .ok (.iload_n 3, 1) := by decide +kernel
theorem dX10_isPictureAltered_58 : decode cX10_isPictureAltered 58 = .ok (.iload_n 2, 1) := by decide +kernel
theorem dX10_isPictureAltered_59 : decode cX10_isPictureAltered 59 = .ok (.invokevirtual 284, 3) := by decide +kernel
theorem dX10_isPictureAltered_62 : decode cX10_isPictureAltered 62 = .ok (.isub, 1) := by decide +kernel
theorem dX10_isPictureAltered_63 : decode cX10_isPictureAltered 63 = .ok (.invokevirtual 344, 3) := by decide +kernel
theorem dX10_isPictureAltered_66 : decode cX10_isPictureAltered 66 = .ok (.iinc 3 1, 3) := by decide +kernel
theorem dX10_isPictureAltered_69 : decode cX10_isPictureAltered 69 = .ok (.goto (-63), 3) := by decide +kernel
theorem dX10_isPictureAltered_72 : decode cX10_isPictureAltered 72 = .ok (.aload_n 0, 1) := by decide +kernel
theorem dX10_isPictureAltered_73 : decode cX10_isPictureAltered 73 = .ok (.iload_n 1, 1) := by decide +kernel
theorem dX10_isPictureAltered_74 : decode cX10_isPictureAltered 74 = .ok (.invokevirtual 271, 3) := by decide +kernel
theorem dX10_isPictureAltered_77 : decode cX10_isPictureAltered 77 = .ok (.ifCond .le 47, 3) := by decide +kernel
theorem dX10_isPictureAltered_80 : decode cX10_isPictureAltered 80 = .ok (.aload_n 0, 1) := by decide +kernel
theorem dX10_isPictureAltered_81 : decode cX10_isPictureAltered 81 = .ok (.aload_n 0, 1) := by decide +kernel
theorem dX10_isPictureAltered_82 : decode cX10_isPictureAltered 82 = .ok (.iload_n 1, 1) := by decide +kernel
theorem dX10_isPictureAltered_83 : decode cX10_isPictureAltered 83 = .ok (.invokevirtual 271, 3) := by decide +kernel
theorem dX10_isPictureAltered_86 : decode cX10_isPictureAltered 86 = .ok (.aload_n 0, 1) := by decide +kernel
theorem dX10_isPictureAltered_87 : decode cX10_isPictureAltered 87 = .ok (.getfield 101, 3) := by decide +kernel
theorem dX10_isPictureAltered_90 : decode cX10_isPictureAltered 90 = .ok (.bipush 38, 2) := by decide +kernel
theorem dX10_isPictureAltered_92 : decode cX10_isPictureAltered 92 = .ok (.iload_n 2, 1) := by decide +kernel
theorem dX10_isPictureAltered_93 : decode cX10_isPictureAltered 93 = .ok (.imul, 1) := by decide +kernel
theorem dX10_isPictureAltered_94 : decode cX10_isPictureAltered 94 = .ok (.bipush 32, 2) := by decide +kernel
theorem dX10_isPictureAltered_96 : decode cX10_isPictureAltered 96 = .ok (.iadd, 1) := by decide +kernel
theorem dX10_isPictureAltered_97 : decode cX10_isPictureAltered 97 = .ok (.aload_n 0, 1) := by decide +kernel
theorem dX10_isPictureAltered_98 : decode cX10_isPictureAltered 98 = .ok (.iload_n 1, 1) := by decide +kernel
theorem dX10_isPictureAltered_99 : decode cX10_isPictureAltered 99 = .ok (.invokevirtual 268, 3) := by decide +kernel
theorem dX10_isPictureAltered_102 : decode cX10_isPictureAltered 102 = .ok (.iadd, 1) := by decide +kernel
theorem dX10_isPictureAltered_103 : decode cX10_isPictureAltered 103 = .ok (.iaload, 1) := by decide +kernel
theorem dX10_isPictureAltered_104 : decode cX10_isPictureAltered 104 = .ok (.bipush 100, 2) := by decide +kernel
theorem dX10_isPictureAltered_106 : decode cX10_isPictureAltered 106 = .ok (.aload_n 0, 1) := by decide +kernel
theorem dX10_isPictureAltered_107 : decode cX10_isPictureAltered 107 = .ok (.getfield 70, 3) := by decide +kernel
theorem dX10_isPictureAltered_110 : decode cX10_isPictureAltered 110 = .ok (.bipush 24, 2) := by decide +kernel
theorem dX10_isPictureAltered_112 : decode cX10_isPictureAltered 112 = .ok (.iconst 2, 1) := by decide +kernel
theorem dX10_isPictureAltered_113 : decode cX10_isPictureAltered 113 = .ok (.iload_n 1, 1) := by decide +kernel
theorem dX10_isPictureAltered_114 : decode cX10_isPictureAltered 114 = .ok (.imul, 1) := by decide +kernel
theorem dX10_isPictureAltered_115 : decode cX10_isPictureAltered 115 = .ok (.iadd, 1) := by decide +kernel
theorem dX10_isPictureAltered_116 : decode cX10_isPictureAltered 116 = .ok (.iload_n 2, 1) := by decide +kernel
theorem dX10_isPictureAltered_117 : decode cX10_isPictureAltered 117 = .ok (.iadd, 1) := by decide +kernel
theorem dX10_isPictureAltered_118 : decode cX10_isPictureAltered 118 = .ok (.iaload, 1) := by decide +kernel
theorem dX10_isPictureAltered_119 : decode cX10_isPictureAltered 119 = .ok (.imul, 1) := by decide +kernel
theorem dX10_isPictureAltered_120 : decode cX10_isPictureAltered 120 = .ok (.iadd, 1) := by decide +kernel
theorem dX10_isPictureAltered_121 : decode cX10_isPictureAltered 121 = .ok (.invokevirtual 344, 3) := by decide +kernel
theorem dX10_isPictureAltered_124 : decode cX10_isPictureAltered 124 = .ok (.aload_n 0, 1) := by decide +kernel
theorem dX10_isPictureAltered_125 : decode cX10_isPictureAltered 125 = .ok (.bipush 38, 2) := by decide +kernel
theorem dX10_isPictureAltered_127 : decode cX10_isPictureAltered 127 = .ok (.iload_n 2, 1) := by decide +kernel
theorem dX10_isPictureAltered_128 : decode cX10_isPictureAltered 128 = .ok (.imul, 1) := by decide +kernel
theorem dX10_isPictureAltered_129 : decode cX10_isPictureAltered 129 = .ok (.iload_n 1, 1) := by decide +kernel
theorem dX10_isPictureAltered_130 : decode cX10_isPictureAltered 130 = .ok (.iadd, 1) := by decide +kernel
theorem dX10_isPictureAltered_131 : decode cX10_isPictureAltered 131 = .ok (.invokevirtual 347, 3) := by decide +kernel
theorem dX10_isPictureAltered_134 : decode cX10_isPictureAltered 134 = .ok (.ireturn, 1) := by decide +kernel
set_option maxRecDepth 20000 in
theorem ggX10_isDriftAltered_X10_noMean : GoodIn wsX10_isDriftAltered wsX10_noMean := goodIn_r _ [7, 8, 9, 34, 35, 36, 37, 38, 39, 40, 41, 42, 43, 44, 45, 46, 47, 48, 49, 50, 51, 52, 53, 54, 55, 56, 57, 58, 59, 60, 61, 62, 63, 64, 65, 66, 67, 68, 69, 70, 71, 72, 73, 74, 75, 76, 77, 78, 79, 80, 81, 82, 83, 84, 85, 86, 87, 88, 89, 90] (by decide +kernel) (by decide +kernel)
set_option maxRecDepth 20000 in
theorem gX10_isDriftAltered_X10_noMean : GoodIn wsX10_isDriftAltered (wsV RX10 341 RX10 yX10_noMean wsX10_noMean) := goodIn_app (goodIn_of _ (by decide +kernel)) ggX10_isDriftAltered_X10_noMean
set_option maxRecDepth 20000 in
theorem ggX10_isDriftAltered_X10_pictures : GoodIn wsX10_isDriftAltered wsX10_pictures := goodIn_r _ [13, 14, 34, 35, 36, 37, 38, 39, 40, 41, 42, 43, 44, 45, 46, 47, 48, 49, 50, 51, 52, 53, 54, 55, 56, 57, 58, 59, 60, 61, 62, 63, 64, 65, 66, 67, 68, 69, 70, 71, 72, 73, 74, 75, 76, 77, 78, 79, 80, 81, 82, 83, 84, 85, 86, 87, 88, 89, 90] (by decide +kernel) (by decide +kernel)
set_option maxRecDepth 20000 in
theorem gX10_isDriftAltered_X10_pictures : GoodIn wsX10_isDriftAltered (wsV RX10 259 RX10 yX10_pictures wsX10_pictures) := goodIn_app (goodIn_of _ (by decide +kernel)) ggX10_isDriftAltered_X10_pictures
set_option maxRecDepth 20000 in
theorem ggX10_isDriftAltered_X10_strip : GoodIn wsX10_isDriftAltered wsX10_strip := goodIn_r _ [18, 19, 34, 35, 36, 37, 38, 39, 40, 41, 42, 43, 44, 45, 46, 47, 48, 49, 50, 51, 52, 53, 54, 55, 56, 57, 58, 59, 60, 61, 62, 63, 64, 65, 66, 67, 68, 69, 70, 71, 72, 73, 74, 75, 76, 77, 78, 79, 80, 81, 82, 83, 84, 85, 86, 87, 88, 89, 90] (by decide +kernel) (by decide +kernel)
set_option maxRecDepth 20000 in
theorem gX10_isDriftAltered_X10_strip : GoodIn wsX10_isDriftAltered (wsV RX10 268 RX10 yX10_strip wsX10_strip) := goodIn_app (goodIn_of _ (by decide +kernel)) ggX10_isDriftAltered_X10_strip
set_option maxRecDepth 20000 in
theorem ggX10_isDriftAltered_X10_centreOf : GoodIn wsX10_isDriftAltered wsX10_centreOf := goodIn_r _ [23, 24, 34, 35, 36, 37, 38, 39, 40, 41, 42, 43, 44, 45, 46, 47, 48, 49, 50, 51, 52, 53, 54, 55, 56, 57, 58, 59, 60, 61, 62, 63, 64, 65, 66, 67, 68, 69, 70, 71, 72, 73, 74, 75, 76, 77, 78, 79, 80, 81, 82, 83, 84, 85, 86, 87, 88, 89, 90] (by decide +kernel) (by decide +kernel)
set_option maxRecDepth 20000 in
theorem gX10_isDriftAltered_X10_centreOf : GoodIn wsX10_isDriftAltered (wsV RX10 271 RX10 yX10_centreOf wsX10_centreOf) := goodIn_app (goodIn_of _ (by decide +kernel)) ggX10_isDriftAltered_X10_centreOf
set_option maxRecDepth 20000 in
theorem ggX10_isDriftAltered_X10_mean : GoodIn wsX10_isDriftAltered wsX10_mean := goodIn_r _ [28, 8, 9, 34, 35, 36, 37, 38, 39, 40, 41, 42, 43, 44, 45, 46, 47, 48, 49, 50, 51, 52, 53, 54, 55, 56, 57, 58, 59, 60, 61, 62, 63, 64, 65, 66, 67, 68, 69, 70, 71, 72, 73, 74, 75, 76, 77, 78, 79, 80, 81, 82, 83, 84, 85, 86, 87, 88, 89, 90] (by decide +kernel) (by decide +kernel)
set_option maxRecDepth 20000 in
theorem gX10_isDriftAltered_X10_mean : GoodIn wsX10_isDriftAltered (wsV RX10 344 RX10 yX10_mean wsX10_mean) := goodIn_app (goodIn_of _ (by decide +kernel)) ggX10_isDriftAltered_X10_mean
set_option maxRecDepth 20000 in
theorem ggX10_isDriftAltered_X10_becomes : GoodIn wsX10_isDriftAltered wsX10_becomes := goodIn_r _ [32, 9, 8, 1, 33, 34, 35, 36, 37, 38, 39, 40, 41, 42, 43, 44, 45, 46, 47, 48, 49, 50, 51, 52, 53, 54, 55, 56, 57, 58, 59, 60, 61, 62, 63, 64, 65, 66, 67, 68, 69, 70, 71, 72, 73, 74, 75, 76, 77, 78, 79, 80, 81, 82, 83, 84, 85, 86, 87, 88, 89, 90] (by decide +kernel) (by decide +kernel)
set_option maxRecDepth 20000 in
theorem gX10_isDriftAltered_X10_becomes : GoodIn wsX10_isDriftAltered (wsV RX10 347 RX10 yX10_becomes wsX10_becomes) := goodIn_app (goodIn_of _ (by decide +kernel)) ggX10_isDriftAltered_X10_becomes
theorem dX10_isDriftAltered_0 : decode cX10_isDriftAltered 0 = .ok (.aload_n 0, 1) := by decide +kernel
theorem dX10_isDriftAltered_1 : decode cX10_isDriftAltered 1 = .ok (.invokevirtual 341, 3) := by decide +kernel
theorem dX10_isDriftAltered_4 : decode cX10_isDriftAltered 4 = .ok (.iconst 0, 1) := by decide +kernel
theorem dX10_isDriftAltered_5 : decode cX10_isDriftAltered 5 = .ok (.istore_n 3, 1) := by decide +kernel
theorem dX10_isDriftAltered_6 : decode cX10_isDriftAltered 6 = .ok (.iload_n 3, 1) := by decide +kernel
theorem dX10_isDriftAltered_7 : decode cX10_isDriftAltered 7 = .ok (.aload_n 0, 1) := by decide +kernel
theorem dX10_isDriftAltered_8 : decode cX10_isDriftAltered 8 = .ok (.invokevirtual 259, 3) := by decide +kernel
theorem dX10_isDriftAltered_11 : decode cX10_isDriftAltered 11 = .ok (.if_icmp .ge 63, 3) := by decide +kernel
theorem dX10_isDriftAltered_14 : decode cX10_isDriftAltered 14 = .ok (.aload_n 0, 1) := by decide +kernel
theorem dX10_isDriftAltered_15 : decode cX10_isDriftAltered 15 = .ok (.iload_n 3, 1) := by decide +kernel
theorem dX10_isDriftAltered_16 : decode cX10_isDriftAltered 16 = .ok (.invokevirtual 268, 3) := by decide +kernel
theorem dX10_isDriftAltered_19 : decode cX10_isDriftAltered 19 = .ok (.iload_n 1, 1) := by decide +kernel
theorem dX10_isDriftAltered_20 : decode cX10_isDriftAltered 20 = .ok (.if_icmp .ne 48, 3) := by decide +kernel
theorem dX10_isDriftAltered_23 : decode cX10_isDriftAltered 23 = .ok (.aload_n 0, 1) := by decide +kernel
theorem dX10_isDriftAltered_24 : decode cX10_isDriftAltered 24 = .ok (.iload_n 3, 1) := by decide +kernel
theorem dX10_isDriftAltered_25 : decode cX10_isDriftAltered 25 = .ok (.invokevirtual 271, 3) := by decide +kernel
theorem dX10_isDriftAltered_28 : decode cX10_isDriftAltered 28 = .ok (.ifCond .le 40, 3) := by decide +kernel
theorem dX10_isDriftAltered_31 : decode cX10_isDriftAltered 31 = .ok (.aload_n 0, 1) := by decide +kernel
theorem dX10_isDriftAltered_32 : decode cX10_isDriftAltered 32 = .ok (.aload_n 0, 1) := by decide +kernel
theorem dX10_isDriftAltered_33 : decode cX10_isDriftAltered 33 = .ok (.iload_n 3, 1) := by decide +kernel
theorem dX10_isDriftAltered_34 : decode cX10_isDriftAltered 34 = .ok (.invokevirtual 271, 3) := by decide +kernel
theorem dX10_isDriftAltered_37 : decode cX10_isDriftAltered 37 = .ok (.aload_n 0, 1) := by decide +kernel
theorem dX10_isDriftAltered_38 : decode cX10_isDriftAltered 38 = .ok (.getfield 101, 3) := by decide +kernel
theorem dX10_isDriftAltered_41 : decode cX10_isDriftAltered 41 = .ok (.bipush 38, 2) := by decide +kernel
theorem dX10_isDriftAltered_43 : decode cX10_isDriftAltered 43 = .ok (.iload_n 2, 1) := by decide +kernel
theorem dX10_isDriftAltered_44 : decode cX10_isDriftAltered 44 = .ok (.imul, 1) := by decide +kernel
theorem dX10_isDriftAltered_45 : decode cX10_isDriftAltered 45 = .ok (.iload_n 3, 1) := by decide +kernel
theorem dX10_isDriftAltered_46 : decode cX10_isDriftAltered 46 = .ok (.iadd, 1) := by decide +kernel
theorem dX10_isDriftAltered_47 : decode cX10_isDriftAltered 47 = .ok (.iaload, 1) := by decide +kernel
theorem dX10_isDriftAltered_48 : decode cX10_isDriftAltered 48 = .ok (.bipush 100, 2) := by decide +kernel
theorem dX10_isDriftAltered_50 : decode cX10_isDriftAltered 50 = .ok (.aload_n 0, 1) := by decide +kernel
theorem dX10_isDriftAltered_51 : decode cX10_isDriftAltered 51 = .ok (.getfield 70, 3) := by decide +kernel
theorem dX10_isDriftAltered_54 : decode cX10_isDriftAltered 54 = .ok (.bipush 24, 2) := by decide +kernel
theorem dX10_isDriftAltered_56 : decode cX10_isDriftAltered 56 = .ok (.iconst 2, 1) := by decide +kernel
theorem dX10_isDriftAltered_57 : decode cX10_isDriftAltered 57 = .ok (.iload_n 3, 1) := by decide +kernel
theorem dX10_isDriftAltered_58 : decode cX10_isDriftAltered 58 = .ok (.imul, 1) := by decide +kernel
theorem dX10_isDriftAltered_59 : decode cX10_isDriftAltered 59 = .ok (.iadd, 1) := by decide +kernel
theorem dX10_isDriftAltered_60 : decode cX10_isDriftAltered 60 = .ok (.iload_n 2, 1) := by decide +kernel
theorem dX10_isDriftAltered_61 : decode cX10_isDriftAltered 61 = .ok (.iadd, 1) := by decide +kernel
theorem dX10_isDriftAltered_62 : decode cX10_isDriftAltered 62 = .ok (.iaload, 1) := by decide +kernel
theorem dX10_isDriftAltered_63 : decode cX10_isDriftAltered 63 = .ok (.imul, 1) := by decide +kernel
theorem dX10_isDriftAltered_64 : decode cX10_isDriftAltered 64 = .ok (.isub, 1) := by decide +kernel
theorem dX10_isDriftAltered_65 : decode cX10_isDriftAltered 65 = .ok (.invokevirtual 344, 3) := by decide +kernel
theorem dX10_isDriftAltered_68 : decode cX10_isDriftAltered 68 = .ok (.iinc 3 1, 3) := by decide +kernel
theorem dX10_isDriftAltered_71 : decode cX10_isDriftAltered 71 = .ok (.goto (-65), 3) := by decide +kernel
theorem dX10_isDriftAltered_74 : decode cX10_isDriftAltered 74 = .ok (.aload_n 0, 1) := by decide +kernel
theorem dX10_isDriftAltered_75 : decode cX10_isDriftAltered 75 = .ok (.bipush 38, 2) := by decide +kernel
theorem dX10_isDriftAltered_77 : decode cX10_isDriftAltered 77 = .ok (.iload_n 2, 1) := by decide +kernel
theorem dX10_isDriftAltered_78 : decode cX10_isDriftAltered 78 = .ok (.imul, 1) := by decide +kernel
theorem dX10_isDriftAltered_79 : decode cX10_isDriftAltered 79 = .ok (.bipush 32, 2) := by decide +kernel
theorem dX10_isDriftAltered_81 : decode cX10_isDriftAltered 81 = .ok (.iadd, 1) := by decide +kernel
theorem dX10_isDriftAltered_82 : decode cX10_isDriftAltered 82 = .ok (.iload_n 1, 1) := by decide +kernel
theorem dX10_isDriftAltered_83 : decode cX10_isDriftAltered 83 = .ok (.iadd, 1) := by decide +kernel
theorem dX10_isDriftAltered_84 : decode cX10_isDriftAltered 84 = .ok (.invokevirtual 347, 3) := by decide +kernel
theorem dX10_isDriftAltered_87 : decode cX10_isDriftAltered 87 = .ok (.ireturn, 1) := by decide +kernel
set_option maxRecDepth 20000 in
theorem ggX10_isRound_X10_points : GoodIn wsX10_isRound wsX10_points := goodIn_r _ [6, 1, 90, 91, 92, 93, 94, 95, 96, 97, 98, 99, 100, 101, 102, 103, 104, 105, 106, 107, 108, 109, 110, 111, 112, 113, 114, 115, 116, 117, 118, 119, 120, 121, 122, 123, 124, 125, 126, 127, 128, 129, 130, 131, 132, 133, 134, 135, 136, 137, 138, 139, 140, 141, 142, 143, 144, 145, 146] (by decide +kernel) (by decide +kernel)
set_option maxRecDepth 20000 in
theorem gX10_isRound_X10_points : GoodIn wsX10_isRound (wsV RX10 262 RX10 yX10_points wsX10_points) := goodIn_app (goodIn_of _ (by decide +kernel)) ggX10_isRound_X10_points
set_option maxRecDepth 20000 in
theorem ggX10_isRound_X10_isControl : GoodIn wsX10_isRound wsX10_isControl := goodIn_r _ [10, 11, 12, 90, 91, 92, 93, 94, 95, 96, 97, 98, 99, 100, 101, 102, 103, 104, 105, 106, 107, 108, 109, 110, 111, 112, 113, 114, 115, 116, 117, 118, 119, 120, 121, 122, 123, 124, 125, 126, 127, 128, 129, 130, 131, 132, 133, 134, 135, 136, 137, 138, 139, 140, 141, 142, 143, 144, 145, 146] (by decide +kernel) (by decide +kernel)
set_option maxRecDepth 20000 in
theorem gX10_isRound_X10_isControl : GoodIn wsX10_isRound (wsV RX10 287 RX10 yX10_isControl wsX10_isControl) := goodIn_app (goodIn_of _ (by decide +kernel)) ggX10_isRound_X10_isControl
set_option maxRecDepth 20000 in
theorem ggX10_isRound_X10_isPointAltered : GoodIn wsX10_isRound wsX10_isPointAltered := goodIn_r _ [16, 17, 18, 19, 20, 5, 21, 22, 23, 24, 25, 26, 27, 1, 28, 29, 30, 31, 32, 33, 34, 35, 36, 37, 38, 39, 40, 41, 42, 43, 44, 45, 46, 47, 48, 49, 50, 51, 52, 53, 54, 55, 56, 57, 58, 59, 60, 61, 62, 63, 64, 65, 66, 90, 91, 92, 93, 94, 95, 96, 97, 98, 99, 100, 101, 102, 103, 104, 105, 106, 107, 108, 109, 110, 111, 112, 113, 114, 115, 116, 117, 118, 119, 120, 121, 122, 123, 124, 125, 126, 127, 128, 129, 130, 131, 132, 133, 134, 135, 136, 137, 138, 139, 140, 141, 142, 143, 144, 145, 146] (by decide +kernel) (by decide +kernel)
set_option maxRecDepth 20000 in
theorem gX10_isRound_X10_isPointAltered : GoodIn wsX10_isRound (wsV RX10 350 RX10 yX10_isPointAltered wsX10_isPointAltered) := goodIn_app (goodIn_of _ (by decide +kernel)) ggX10_isRound_X10_isPointAltered
set_option maxRecDepth 20000 in
theorem ggX10_isRound_X10_pictures : GoodIn wsX10_isRound wsX10_pictures := goodIn_r _ [70, 1, 90, 91, 92, 93, 94, 95, 96, 97, 98, 99, 100, 101, 102, 103, 104, 105, 106, 107, 108, 109, 110, 111, 112, 113, 114, 115, 116, 117, 118, 119, 120, 121, 122, 123, 124, 125, 126, 127, 128, 129, 130, 131, 132, 133, 134, 135, 136, 137, 138, 139, 140, 141, 142, 143, 144, 145, 146] (by decide +kernel) (by decide +kernel)
set_option maxRecDepth 20000 in
theorem gX10_isRound_X10_pictures : GoodIn wsX10_isRound (wsV RX10 259 RX10 yX10_pictures wsX10_pictures) := goodIn_app (goodIn_of _ (by decide +kernel)) ggX10_isRound_X10_pictures
set_option maxRecDepth 20000 in
theorem ggX10_isRound_X10_isPictureAltered : GoodIn wsX10_isRound wsX10_isPictureAltered := goodIn_r _ [74, 17, 42, 75, 18, 19, 20, 5, 21, 22, 23, 24, 25, 26, 27, 1, 43, 44, 45, 46, 47, 33, 34, 35, 36, 37, 28, 29, 30, 31, 32, 48, 49, 50, 51, 52, 53, 54, 55, 56, 57, 58, 59, 60, 61, 76, 77, 78, 79, 80, 81, 82, 83, 84, 85, 62, 63, 64, 65, 66, 90, 91, 92, 93, 94, 95, 96, 97, 98, 99, 100, 101, 102, 103, 104, 105, 106, 107, 108, 109, 110, 111, 112, 113, 114, 115, 116, 117, 118, 119, 120, 121, 122, 123, 124, 125, 126, 127, 128, 129, 130, 131, 132, 133, 134, 135, 136, 137, 138, 139, 140, 141, 142, 143, 144, 145, 146] (by decide +kernel) (by decide +kernel)
set_option maxRecDepth 20000 in
theorem gX10_isRound_X10_isPictureAltered : GoodIn wsX10_isRound (wsV RX10 354 RX10 yX10_isPictureAltered wsX10_isPictureAltered) := goodIn_app (goodIn_of _ (by decide +kernel)) ggX10_isRound_X10_isPictureAltered
set_option maxRecDepth 20000 in
theorem ggX10_isRound_X10_isDriftAltered : GoodIn wsX10_isRound wsX10_isDriftAltered := goodIn_r _ [89, 42, 75, 18, 19, 20, 5, 21, 22, 23, 67, 68, 69, 70, 1, 81, 82, 83, 84, 85, 76, 77, 78, 79, 80, 58, 59, 60, 61, 62, 63, 64, 65, 66, 90, 91, 92, 93, 94, 95, 96, 97, 98, 99, 100, 101, 102, 103, 104, 105, 106, 107, 108, 109, 110, 111, 112, 113, 114, 115, 116, 117, 118, 119, 120, 121, 122, 123, 124, 125, 126, 127, 128, 129, 130, 131, 132, 133, 134, 135, 136, 137, 138, 139, 140, 141, 142, 143, 144, 145, 146] (by decide +kernel) (by decide +kernel)
set_option maxRecDepth 20000 in
theorem gX10_isRound_X10_isDriftAltered : GoodIn wsX10_isRound (wsV RX10 357 RX10 yX10_isDriftAltered wsX10_isDriftAltered) := goodIn_app (goodIn_of _ (by decide +kernel)) ggX10_isRound_X10_isDriftAltered
theorem dX10_isRound_0 : decode cX10_isRound 0 = .ok (.iconst 0, 1) := by decide +kernel
theorem dX10_isRound_1 : decode cX10_isRound 1 = .ok (.istore_n 1, 1) := by decide +kernel
theorem dX10_isRound_2 : decode cX10_isRound 2 = .ok (.iconst 0, 1) := by decide +kernel
theorem dX10_isRound_3 : decode cX10_isRound 3 = .ok (.istore_n 2, 1) := by decide +kernel
theorem dX10_isRound_4 : decode cX10_isRound 4 = .ok (.iload_n 2, 1) := by decide +kernel
theorem dX10_isRound_5 : decode cX10_isRound 5 = .ok (.aload_n 0, 1) := by decide +kernel
theorem dX10_isRound_6 : decode cX10_isRound 6 = .ok (.invokevirtual 262, 3) := by decide +kernel
theorem dX10_isRound_9 : decode cX10_isRound 9 = .ok (.if_icmp .ge 41, 3) := by decide +kernel
theorem dX10_isRound_12 : decode cX10_isRound 12 = .ok (.iconst 0, 1) := by decide +kernel
theorem dX10_isRound_13 : decode cX10_isRound 13 = .ok (.istore_n 3, 1) := by decide +kernel
theorem dX10_isRound_14 : decode cX10_isRound 14 = .ok (.iload_n 3, 1) := by decide +kernel
theorem dX10_isRound_15 : decode cX10_isRound 15 = .ok (.iconst 2, 1) := by decide +kernel
theorem dX10_isRound_16 : decode cX10_isRound 16 = .ok (.if_icmp .ge 28, 3) := by decide +kernel
theorem dX10_isRound_19 : decode cX10_isRound 19 = .ok (.aload_n 0, 1) := by decide +kernel
theorem dX10_isRound_20 : decode cX10_isRound 20 = .ok (.iload_n 2, 1) := by decide +kernel
theorem dX10_isRound_21 : decode cX10_isRound 21 = .ok (.invokevirtual 287, 3) := by decide +kernel
theorem dX10_isRound_24 : decode cX10_isRound 24 = .ok (.ifCond .ne 14, 3) := by decide +kernel
theorem dX10_isRound_27 : decode cX10_isRound 27 = .ok (.aload_n 0, 1) := by decide +kernel
theorem dX10_isRound_28 : decode cX10_isRound 28 = .ok (.iload_n 2, 1) := by decide +kernel
theorem dX10_isRound_29 : decode cX10_isRound 29 = .ok (.iload_n 3, 1) := by decide +kernel
theorem dX10_isRound_30 : decode cX10_isRound 30 = .ok (.invokevirtual 350, 3) := by decide +kernel
theorem dX10_isRound_33 : decode cX10_isRound 33 = .ok (.ifCond .eq 5, 3) := by decide +kernel
theorem dX10_isRound_36 : decode cX10_isRound 36 = .ok (.iconst 1, 1) := by decide +kernel
theorem dX10_isRound_37 : decode cX10_isRound 37 = .ok (.istore_n 1, 1) := by decide +kernel
theorem dX10_isRound_38 : decode cX10_isRound 38 = .ok (.iinc 3 1, 3) := by decide +kernel
theorem dX10_isRound_41 : decode cX10_isRound 41 = .ok (.goto (-27), 3) := by decide +kernel
theorem dX10_isRound_44 : decode cX10_isRound 44 = .ok (.iinc 2 1, 3) := by decide +kernel
theorem dX10_isRound_47 : decode cX10_isRound 47 = .ok (.goto (-43), 3) := by decide +kernel
theorem dX10_isRound_50 : decode cX10_isRound 50 = .ok (.iconst 0, 1) := by decide +kernel
theorem dX10_isRound_51 : decode cX10_isRound 51 = .ok (.istore_n 2, 1) := by decide +kernel
theorem dX10_isRound_52 : decode cX10_isRound 52 = .ok (.iload_n 2, 1) := by decide +kernel
theorem dX10_isRound_53 : decode cX10_isRound 53 = .ok (.aload_n 0, 1) := by decide +kernel
theorem dX10_isRound_54 : decode cX10_isRound 54 = .ok (.invokevirtual 259, 3) := by decide +kernel
theorem dX10_isRound_57 : decode cX10_isRound 57 = .ok (.if_icmp .ge 33, 3) := by decide +kernel
theorem dX10_isRound_60 : decode cX10_isRound 60 = .ok (.iconst 0, 1) := by decide +kernel
theorem dX10_isRound_61 : decode cX10_isRound 61 = .ok (.istore_n 3, 1) := by decide +kernel
theorem dX10_isRound_62 : decode cX10_isRound 62 = .ok (.iload_n 3, 1) := by decide +kernel
theorem dX10_isRound_63 : decode cX10_isRound 63 = .ok (.iconst 2, 1) := by decide +kernel
theorem dX10_isRound_64 : decode cX10_isRound 64 = .ok (.if_icmp .ge 20, 3) := by decide +kernel
theorem dX10_isRound_67 : decode cX10_isRound 67 = .ok (.aload_n 0, 1) := by decide +kernel
theorem dX10_isRound_68 : decode cX10_isRound 68 = .ok (.iload_n 2, 1) := by decide +kernel
theorem dX10_isRound_69 : decode cX10_isRound 69 = .ok (.iload_n 3, 1) := by decide +kernel
theorem dX10_isRound_70 : decode cX10_isRound 70 = .ok (.invokevirtual 354, 3) := by decide +kernel
theorem dX10_isRound_73 : decode cX10_isRound 73 = .ok (.ifCond .eq 5, 3) := by decide +kernel
theorem dX10_isRound_76 : decode cX10_isRound 76 = .ok (.iconst 1, 1) := by decide +kernel
theorem dX10_isRound_77 : decode cX10_isRound 77 = .ok (.istore_n 1, 1) := by decide +kernel
theorem dX10_isRound_78 : decode cX10_isRound 78 = .ok (.iinc 3 1, 3) := by decide +kernel
theorem dX10_isRound_81 : decode cX10_isRound 81 = .ok (.goto (-19), 3) := by decide +kernel
theorem dX10_isRound_84 : decode cX10_isRound 84 = .ok (.iinc 2 1, 3) := by decide +kernel
theorem dX10_isRound_87 : decode cX10_isRound 87 = .ok (.goto (-35), 3) := by decide +kernel
theorem dX10_isRound_90 : decode cX10_isRound 90 = .ok (.iconst 0, 1) := by decide +kernel
theorem dX10_isRound_91 : decode cX10_isRound 91 = .ok (.istore_n 2, 1) := by decide +kernel
theorem dX10_isRound_92 : decode cX10_isRound 92 = .ok (.iload_n 2, 1) := by decide +kernel
theorem dX10_isRound_93 : decode cX10_isRound 93 = .ok (.aload_n 0, 1) := by decide +kernel
theorem dX10_isRound_94 : decode cX10_isRound 94 = .ok (.getfield 58, 3) := by decide +kernel
theorem dX10_isRound_97 : decode cX10_isRound 97 = .ok (.bipush 6, 2) := by decide +kernel
theorem dX10_isRound_99 : decode cX10_isRound 99 = .ok (.iaload, 1) := by decide +kernel
theorem dX10_isRound_100 : decode cX10_isRound 100 = .ok (.if_icmp .ge 33, 3) := by decide +kernel
theorem dX10_isRound_103 : decode cX10_isRound 103 = .ok (.iconst 0, 1) := by decide +kernel
theorem dX10_isRound_104 : decode cX10_isRound 104 = .ok (.istore_n 3, 1) := by decide +kernel
theorem dX10_isRound_105 : decode cX10_isRound 105 = .ok (.iload_n 3, 1) := by decide +kernel
theorem dX10_isRound_106 : decode cX10_isRound 106 = .ok (.iconst 2, 1) := by decide +kernel
theorem dX10_isRound_107 : decode cX10_isRound 107 = .ok (.if_icmp .ge 20, 3) := by decide +kernel
theorem dX10_isRound_110 : decode cX10_isRound 110 = .ok (.aload_n 0, 1) := by decide +kernel
theorem dX10_isRound_111 : decode cX10_isRound 111 = .ok (.iload_n 2, 1) := by decide +kernel
theorem dX10_isRound_112 : decode cX10_isRound 112 = .ok (.iload_n 3, 1) := by decide +kernel
theorem dX10_isRound_113 : decode cX10_isRound 113 = .ok (.invokevirtual 357, 3) := by decide +kernel
theorem dX10_isRound_116 : decode cX10_isRound 116 = .ok (.ifCond .eq 5, 3) := by decide +kernel
theorem dX10_isRound_119 : decode cX10_isRound 119 = .ok (.iconst 1, 1) := by decide +kernel
theorem dX10_isRound_120 : decode cX10_isRound 120 = .ok (.istore_n 1, 1) := by decide +kernel
theorem dX10_isRound_121 : decode cX10_isRound 121 = .ok (.iinc 3 1, 3) := by decide +kernel
theorem dX10_isRound_124 : decode cX10_isRound 124 = .ok (.goto (-19), 3) := by decide +kernel
theorem dX10_isRound_127 : decode cX10_isRound 127 = .ok (.iinc 2 1, 3) := by decide +kernel
theorem dX10_isRound_130 : decode cX10_isRound 130 = .ok (.goto (-38), 3) := by decide +kernel
theorem dX10_isRound_133 : decode cX10_isRound 133 = .ok (.iload_n 1, 1) := by decide +kernel
theorem dX10_isRound_134 : decode cX10_isRound 134 = .ok (.ireturn, 1) := by decide +kernel
set_option maxRecDepth 20000 in
theorem ggX10_rests_X10_isRound : GoodIn wsX10_rests wsX10_isRound := goodIn_r _ [5, 6, 7, 8, 9, 4, 10, 11, 12, 13, 14, 15, 16, 17, 18, 19, 20, 21, 22, 23, 24, 25, 26, 27, 28, 29, 30, 31, 32, 33, 34, 35, 36, 37, 38, 39, 40, 41, 42, 43, 44, 45, 46, 47, 48, 49, 50, 51, 52, 53, 54, 55, 56, 57, 58, 59, 60, 61, 62, 63, 64, 65, 66, 67, 68, 69, 70, 71, 72, 73, 74, 75, 76, 77, 78, 79, 80, 81, 82, 83, 84, 85, 86, 87, 88, 89, 90, 91, 92, 93, 94, 95, 96, 97, 98, 99, 100, 101, 102, 103, 104, 105, 106, 107, 108, 109, 110, 111, 112, 113, 114, 115, 116, 117, 118, 119, 120, 121, 122, 123, 124, 125, 126, 127, 128, 129, 130, 131, 132, 133, 134, 135, 136, 137, 138, 139, 140, 141, 142, 143, 144, 145, 146, 147, 148, 149, 150] (by decide +kernel) (by decide +kernel)
set_option maxRecDepth 20000 in
theorem gX10_rests_X10_isRound : GoodIn wsX10_rests (wsV RX10 360 RX10 yX10_isRound wsX10_isRound) := goodIn_app (goodIn_of _ (by decide +kernel)) ggX10_rests_X10_isRound
theorem dX10_rests_0 : decode cX10_rests 0 = .ok (.iconst 0, 1) := by decide +kernel
theorem dX10_rests_1 : decode cX10_rests 1 = .ok (.istore_n 2, 1) := by decide +kernel
theorem dX10_rests_2 : decode cX10_rests 2 = .ok (.iload_n 2, 1) := by decide +kernel
theorem dX10_rests_3 : decode cX10_rests 3 = .ok (.iload_n 1, 1) := by decide +kernel
theorem dX10_rests_4 : decode cX10_rests 4 = .ok (.if_icmp .ge 16, 3) := by decide +kernel
theorem dX10_rests_7 : decode cX10_rests 7 = .ok (.aload_n 0, 1) := by decide +kernel
theorem dX10_rests_8 : decode cX10_rests 8 = .ok (.invokevirtual 360, 3) := by decide +kernel
theorem dX10_rests_11 : decode cX10_rests 11 = .ok (.ifCond .eq 9, 3) := by decide +kernel
theorem dX10_rests_14 : decode cX10_rests 14 = .ok (.iinc 2 1, 3) := by decide +kernel
theorem dX10_rests_17 : decode cX10_rests 17 = .ok (.goto (-15), 3) := by decide +kernel
theorem dX10_rests_20 : decode cX10_rests 20 = .ok (.iload_n 2, 1) := by decide +kernel
theorem dX10_rests_21 : decode cX10_rests 21 = .ok (.ireturn, 1) := by decide +kernel
set_option maxRecDepth 20000 in
theorem ggX10_rounds_X10_isIn : GoodIn wsX10_rounds wsX10_isIn := goodIn_r _ [5] (by decide +kernel) (by decide +kernel)
set_option maxRecDepth 20000 in
theorem gX10_rounds_X10_isIn : GoodIn wsX10_rounds (va_wsS RX10 183 yX10_isIn wsX10_isIn) := goodIn_app (goodIn_of _ (by decide +kernel)) ggX10_rounds_X10_isIn
set_option maxRecDepth 20000 in
theorem ggX10_rounds_X10_rests : GoodIn wsX10_rounds wsX10_rests := goodIn_r _ [9, 10, 11, 12, 4, 13, 14, 15, 16, 17, 18, 19, 20, 21, 22, 23, 24, 25, 26, 27, 28, 29, 30, 31, 32, 33, 34, 35, 36, 37, 38, 39, 40, 41, 42, 43, 44, 45, 46, 47, 48, 49, 50, 51, 52, 53, 54, 55, 56, 57, 58, 59, 60, 61, 62, 63, 64, 65, 66, 67, 68, 69, 70, 71, 72, 73, 74, 75, 76, 77, 78, 79, 80, 81, 82, 83, 84, 85, 86, 87, 88, 89, 90, 91, 92, 93, 94, 95, 96, 97, 98, 99, 100, 101, 102, 103, 104, 105, 106, 107, 108, 109, 110, 111, 112, 113, 114, 115, 116, 117, 118, 119, 120, 121, 122, 123, 124, 125, 126, 127, 128, 129, 130, 131, 132, 133, 134, 135, 136, 137, 138, 139, 140, 141, 142, 143, 144, 145, 146, 147, 148, 149, 150, 151, 152, 153, 154, 155, 156, 157, 158] (by decide +kernel) (by decide +kernel)
set_option maxRecDepth 20000 in
theorem gX10_rounds_X10_rests : GoodIn wsX10_rounds (wsV RX10 365 RX10 yX10_rests wsX10_rests) := goodIn_app (goodIn_of _ (by decide +kernel)) ggX10_rounds_X10_rests
theorem dX10_rounds_0 : decode cX10_rounds 0 = .ok (.iload_n 1, 1) := by decide +kernel
theorem dX10_rounds_1 : decode cX10_rounds 1 = .ok (.i2l, 1) := by decide +kernel
theorem dX10_rounds_2 : decode cX10_rounds 2 = .ok (.lconst 1, 1) := by decide +kernel
theorem dX10_rounds_3 : decode cX10_rounds 3 = .ok (.ldc2_w 363, 3) := by decide +kernel
theorem dX10_rounds_6 : decode cX10_rounds 6 = .ok (.invokestatic 183, 3) := by decide +kernel
theorem dX10_rounds_9 : decode cX10_rounds 9 = .ok (.ifCond .eq 11, 3) := by decide +kernel
theorem dX10_rounds_12 : decode cX10_rounds 12 = .ok (.aload_n 0, 1) := by decide +kernel
theorem dX10_rounds_13 : decode cX10_rounds 13 = .ok (.iload_n 1, 1) := by decide +kernel
theorem dX10_rounds_14 : decode cX10_rounds 14 = .ok (.invokevirtual 365, 3) := by decide +kernel
theorem dX10_rounds_17 : decode cX10_rounds 17 = .ok (.goto 4, 3) := by decide +kernel
theorem dX10_rounds_20 : decode cX10_rounds 20 = .ok (.iconst (-1), 1) := by decide +kernel
theorem dX10_rounds_21 : decode cX10_rounds 21 = .ok (.ireturn, 1) := by decide +kernel
set_option maxRecDepth 20000 in
theorem ggX10_isUsed_X10_hasDrift : GoodIn wsX10_isUsed wsX10_hasDrift := goodIn_r _ [6, 7, 8, 9, 5, 10, 11, 12, 13, 14, 15, 16, 17, 18, 19, 20, 21, 36, 37, 38, 39, 40, 41, 42, 43, 44, 45, 46, 47, 48, 49, 50, 51, 52, 53, 54, 55, 56, 57, 58, 59, 60, 61, 62, 63, 64, 65, 66, 67, 68, 69, 70, 71, 72, 73, 74, 75, 76, 77, 78, 79, 80, 81, 82, 83, 84, 85, 86, 87, 88, 89, 90, 91, 92] (by decide +kernel) (by decide +kernel)
set_option maxRecDepth 20000 in
theorem gX10_isUsed_X10_hasDrift : GoodIn wsX10_isUsed (wsV RX10 368 RX10 yX10_hasDrift wsX10_hasDrift) := goodIn_app (goodIn_of _ (by decide +kernel)) ggX10_isUsed_X10_hasDrift
set_option maxRecDepth 20000 in
theorem ggX10_isUsed_X10_centreOf : GoodIn wsX10_isUsed wsX10_centreOf := goodIn_r _ [20, 21, 36, 37, 38, 39, 40, 41, 42, 43, 44, 45, 46, 47, 48, 49, 50, 51, 52, 53, 54, 55, 56, 57, 58, 59, 60, 61, 62, 63, 64, 65, 66, 67, 68, 69, 70, 71, 72, 73, 74, 75, 76, 77, 78, 79, 80, 81, 82, 83, 84, 85, 86, 87, 88, 89, 90, 91, 92] (by decide +kernel) (by decide +kernel)
set_option maxRecDepth 20000 in
theorem gX10_isUsed_X10_centreOf : GoodIn wsX10_isUsed (wsV RX10 271 RX10 yX10_centreOf wsX10_centreOf) := goodIn_app (goodIn_of _ (by decide +kernel)) ggX10_isUsed_X10_centreOf
set_option maxRecDepth 20000 in
theorem ggX10_isUsed_X10_rows : GoodIn wsX10_isUsed wsX10_rows := goodIn_r _ [25, 11, 36, 37, 38, 39, 40, 41, 42, 43, 44, 45, 46, 47, 48, 49, 50, 51, 52, 53, 54, 55, 56, 57, 58, 59, 60, 61, 62, 63, 64, 65, 66, 67, 68, 69, 70, 71, 72, 73, 74, 75, 76, 77, 78, 79, 80, 81, 82, 83, 84, 85, 86, 87, 88, 89, 90, 91, 92] (by decide +kernel) (by decide +kernel)
set_option maxRecDepth 20000 in
theorem gX10_isUsed_X10_rows : GoodIn wsX10_isUsed (wsV RX10 265 RX10 yX10_rows wsX10_rows) := goodIn_app (goodIn_of _ (by decide +kernel)) ggX10_isUsed_X10_rows
set_option maxRecDepth 20000 in
theorem ggX10_isUsed_X10_pictureOf : GoodIn wsX10_isUsed wsX10_pictureOf := goodIn_r _ [29, 30, 36, 37, 38, 39, 40, 41, 42, 43, 44, 45, 46, 47, 48, 49, 50, 51, 52, 53, 54, 55, 56, 57, 58, 59, 60, 61, 62, 63, 64, 65, 66, 67, 68, 69, 70, 71, 72, 73, 74, 75, 76, 77, 78, 79, 80, 81, 82, 83, 84, 85, 86, 87, 88, 89, 90, 91, 92] (by decide +kernel) (by decide +kernel)
set_option maxRecDepth 20000 in
theorem gX10_isUsed_X10_pictureOf : GoodIn wsX10_isUsed (wsV RX10 274 RX10 yX10_pictureOf wsX10_pictureOf) := goodIn_app (goodIn_of _ (by decide +kernel)) ggX10_isUsed_X10_pictureOf
set_option maxRecDepth 20000 in
theorem ggX10_isUsed_X10_pointOf : GoodIn wsX10_isUsed wsX10_pointOf := goodIn_r _ [34, 35, 36, 37, 38, 39, 40, 41, 42, 43, 44, 45, 46, 47, 48, 49, 50, 51, 52, 53, 54, 55, 56, 57, 58, 59, 60, 61, 62, 63, 64, 65, 66, 67, 68, 69, 70, 71, 72, 73, 74, 75, 76, 77, 78, 79, 80, 81, 82, 83, 84, 85, 86, 87, 88, 89, 90, 91, 92] (by decide +kernel) (by decide +kernel)
set_option maxRecDepth 20000 in
theorem gX10_isUsed_X10_pointOf : GoodIn wsX10_isUsed (wsV RX10 281 RX10 yX10_pointOf wsX10_pointOf) := goodIn_app (goodIn_of _ (by decide +kernel)) ggX10_isUsed_X10_pointOf
theorem dX10_isUsed_0 : decode cX10_isUsed 0 = .ok (.iload_n 1, 1) := by decide +kernel
theorem dX10_isUsed_1 : decode cX10_isUsed 1 = .ok (.bipush 32, 2) := by decide +kernel
theorem dX10_isUsed_3 : decode cX10_isUsed 3 = .ok (.if_icmp .lt 12, 3) := by decide +kernel
theorem dX10_isUsed_6 : decode cX10_isUsed 6 = .ok (.aload_n 0, 1) := by decide +kernel
theorem dX10_isUsed_7 : decode cX10_isUsed 7 = .ok (.iload_n 1, 1) := by decide +kernel
theorem dX10_isUsed_8 : decode cX10_isUsed 8 = .ok (.bipush 32, 2) := by decide +kernel
theorem dX10_isUsed_10 : decode cX10_isUsed 10 = .ok (.isub, 1) := by decide +kernel
theorem dX10_isUsed_11 : decode cX10_isUsed 11 = .ok (.invokevirtual 368, 3) := by decide +kernel
theorem dX10_isUsed_14 : decode cX10_isUsed 14 = .ok (.ireturn, 1) := by decide +kernel
theorem dX10_isUsed_15 : decode cX10_isUsed 15 = .ok (.iload_n 1, 1) := by decide +kernel
theorem dX10_isUsed_16 : decode cX10_isUsed 16 = .ok (.bipush 12, 2) := by decide +kernel
theorem dX10_isUsed_18 : decode cX10_isUsed 18 = .ok (.if_icmp .ge 13, 3) := by decide +kernel
theorem dX10_isUsed_21 : decode cX10_isUsed 21 = .ok (.aload_n 0, 1) := by decide +kernel
theorem dX10_isUsed_22 : decode cX10_isUsed 22 = .ok (.iload_n 1, 1) := by decide +kernel
theorem dX10_isUsed_23 : decode cX10_isUsed 23 = .ok (.invokevirtual 271, 3) := by decide +kernel
theorem dX10_isUsed_26 : decode cX10_isUsed 26 = .ok (.ifCond .le 5, 3) := by decide +kernel
theorem dX10_isUsed_29 : decode cX10_isUsed 29 = .ok (.iconst 1, 1) := by decide +kernel
theorem dX10_isUsed_30 : decode cX10_isUsed 30 = .ok (.ireturn, 1) := by decide +kernel
theorem dX10_isUsed_31 : decode cX10_isUsed 31 = .ok (.iconst 0, 1) := by decide +kernel
theorem dX10_isUsed_32 : decode cX10_isUsed 32 = .ok (.istore_n 2, 1) := by decide +kernel
theorem dX10_isUsed_33 : decode cX10_isUsed 33 = .ok (.iload_n 2, 1) := by decide +kernel
theorem dX10_isUsed_34 : decode cX10_isUsed 34 = .ok (.aload_n 0, 1) := by decide +kernel
theorem dX10_isUsed_35 : decode cX10_isUsed 35 = .ok (.invokevirtual 265, 3) := by decide +kernel
theorem dX10_isUsed_38 : decode cX10_isUsed 38 = .ok (.if_icmp .ge 50, 3) := by decide +kernel
theorem dX10_isUsed_41 : decode cX10_isUsed 41 = .ok (.aload_n 0, 1) := by decide +kernel
theorem dX10_isUsed_42 : decode cX10_isUsed 42 = .ok (.getfield 91, 3) := by decide +kernel
theorem dX10_isUsed_45 : decode cX10_isUsed 45 = .ok (.iload_n 2, 1) := by decide +kernel
theorem dX10_isUsed_46 : decode cX10_isUsed 46 = .ok (.baload, 1) := by decide +kernel
theorem dX10_isUsed_47 : decode cX10_isUsed 47 = .ok (.ifCond .ne 35, 3) := by decide +kernel
theorem dX10_isUsed_50 : decode cX10_isUsed 50 = .ok (.iload_n 1, 1) := by decide +kernel
theorem dX10_isUsed_51 : decode cX10_isUsed 51 = .ok (.bipush 12, 2) := by decide +kernel
theorem dX10_isUsed_53 : decode cX10_isUsed 53 = .ok (.if_icmp .ge 15, 3) := by decide +kernel
theorem dX10_isUsed_56 : decode cX10_isUsed 56 = .ok (.aload_n 0, 1) := by decide +kernel
theorem dX10_isUsed_57 : decode cX10_isUsed 57 = .ok (.iload_n 2, 1) := by decide +kernel
theorem dX10_isUsed_58 : decode cX10_isUsed 58 = .ok (.invokevirtual 274, 3) := by decide +kernel
theorem dX10_isUsed_61 : decode cX10_isUsed 61 = .ok (.iload_n 1, 1) := by decide +kernel
theorem dX10_isUsed_62 : decode cX10_isUsed 62 = .ok (.if_icmp .ne 20, 3) := by decide +kernel
theorem dX10_isUsed_65 : decode cX10_isUsed 65 = .ok (.goto 15, 3) := by decide +kernel
theorem dX10_isUsed_68 : decode cX10_isUsed 68 = .ok (.aload_n 0, 1) := by decide +kernel
theorem dX10_isUsed_69 : decode cX10_isUsed 69 = .ok (.iload_n 2, 1) := by decide +kernel
theorem dX10_isUsed_70 : decode cX10_isUsed 70 = .ok (.invokevirtual 281, 3) := by decide +kernel
theorem dX10_isUsed_73 : decode cX10_isUsed 73 = .ok (.iload_n 1, 1) := by decide +kernel
theorem dX10_isUsed_74 : decode cX10_isUsed 74 = .ok (.bipush 12, 2) := by decide +kernel
theorem dX10_isUsed_76 : decode cX10_isUsed 76 = .ok (.isub, 1) := by decide +kernel
theorem dX10_isUsed_77 : decode cX10_isUsed 77 = .ok (.if_icmp .ne 5, 3) := by decide +kernel
theorem dX10_isUsed_80 : decode cX10_isUsed 80 = .ok (.iconst 1, 1) := by decide +kernel
theorem dX10_isUsed_81 : decode cX10_isUsed 81 = .ok (.ireturn, 1) := by decide +kernel
theorem dX10_isUsed_82 : decode cX10_isUsed 82 = .ok (.iinc 2 1, 3) := by decide +kernel
theorem dX10_isUsed_85 : decode cX10_isUsed 85 = .ok (.goto (-52), 3) := by decide +kernel
theorem dX10_isUsed_88 : decode cX10_isUsed 88 = .ok (.iconst 0, 1) := by decide +kernel
theorem dX10_isUsed_89 : decode cX10_isUsed 89 = .ok (.ireturn, 1) := by decide +kernel
theorem dX10_modulo_0 : decode cX10_modulo 0 = .ok (.lload_n 0, 1) := by decide +kernel
theorem dX10_modulo_1 : decode cX10_modulo 1 = .ok (.ldc2_w 371, 3) := by decide +kernel
theorem dX10_modulo_4 : decode cX10_modulo 4 = .ok (.lrem, 1) := by decide +kernel
theorem dX10_modulo_5 : decode cX10_modulo 5 = .ok (.ldc2_w 371, 3) := by decide +kernel
theorem dX10_modulo_8 : decode cX10_modulo 8 = .ok (.ladd, 1) := by decide +kernel
theorem dX10_modulo_9 : decode cX10_modulo 9 = .ok (.ldc2_w 371, 3) := by decide +kernel
theorem dX10_modulo_12 : decode cX10_modulo 12 = .ok (.lrem, 1) := by decide +kernel
theorem dX10_modulo_13 : decode cX10_modulo 13 = .ok (.lreturn, 1) := by decide +kernel
set_option maxRecDepth 20000 in
theorem ggX10_adds_X10_modulo : GoodIn wsX10_adds wsX10_modulo := goodIn_r _ [5, 6] (by decide +kernel) (by decide +kernel)
set_option maxRecDepth 20000 in
theorem gX10_adds_X10_modulo : GoodIn wsX10_adds (va_wsS RX10 373 yX10_modulo wsX10_modulo) := goodIn_app (goodIn_of _ (by decide +kernel)) ggX10_adds_X10_modulo
theorem dX10_adds_0 : decode cX10_adds 0 = .ok (.aload_n 0, 1) := by decide +kernel
theorem dX10_adds_1 : decode cX10_adds 1 = .ok (.getfield 110, 3) := by decide +kernel
theorem dX10_adds_4 : decode cX10_adds 4 = .ok (.bipush 40, 2) := by decide +kernel
theorem dX10_adds_6 : decode cX10_adds 6 = .ok (.iload_n 1, 1) := by decide +kernel
theorem dX10_adds_7 : decode cX10_adds 7 = .ok (.imul, 1) := by decide +kernel
theorem dX10_adds_8 : decode cX10_adds 8 = .ok (.iload_n 2, 1) := by decide +kernel
theorem dX10_adds_9 : decode cX10_adds 9 = .ok (.iadd, 1) := by decide +kernel
theorem dX10_adds_10 : decode cX10_adds 10 = .ok (.aload_n 0, 1) := by decide +kernel
theorem dX10_adds_11 : decode cX10_adds 11 = .ok (.getfield 110, 3) := by decide +kernel
theorem dX10_adds_14 : decode cX10_adds 14 = .ok (.bipush 40, 2) := by decide +kernel
theorem dX10_adds_16 : decode cX10_adds 16 = .ok (.iload_n 1, 1) := by decide +kernel
theorem dX10_adds_17 : decode cX10_adds 17 = .ok (.imul, 1) := by decide +kernel
theorem dX10_adds_18 : decode cX10_adds 18 = .ok (.iload_n 2, 1) := by decide +kernel
theorem dX10_adds_19 : decode cX10_adds 19 = .ok (.iadd, 1) := by decide +kernel
theorem dX10_adds_20 : decode cX10_adds 20 = .ok (.laload, 1) := by decide +kernel
theorem dX10_adds_21 : decode cX10_adds 21 = .ok (.lload_n 3, 1) := by decide +kernel
theorem dX10_adds_22 : decode cX10_adds 22 = .ok (.ladd, 1) := by decide +kernel
theorem dX10_adds_23 : decode cX10_adds 23 = .ok (.invokestatic 373, 3) := by decide +kernel
theorem dX10_adds_26 : decode cX10_adds 26 = .ok (.lastore, 1) := by decide +kernel
theorem dX10_adds_27 : decode cX10_adds 27 = .ok (.return_, 1) := by decide +kernel
set_option maxRecDepth 20000 in
theorem ggX10_addsTie_X10_adds : GoodIn wsX10_addsTie wsX10_adds := goodIn_r _ [5, 6, 7, 8, 4, 9, 10, 11, 12, 13, 14, 15, 16, 17, 18, 19, 20, 21, 22, 23, 24, 25, 26, 27, 28, 29, 30, 31, 32, 33, 34, 35, 36, 37, 38, 39, 40, 41, 42, 43, 44, 45, 46, 47, 48, 49, 50, 51, 52, 53, 54, 55, 56, 57, 58, 59, 60, 61, 62, 63, 64, 65, 66, 67] (by decide +kernel) (by decide +kernel)
set_option maxRecDepth 20000 in
theorem gX10_addsTie_X10_adds : GoodIn wsX10_addsTie (wsV RX10 377 RX10 yX10_adds wsX10_adds) := goodIn_app (goodIn_of _ (by decide +kernel)) ggX10_addsTie_X10_adds
theorem dX10_addsTie_0 : decode cX10_addsTie 0 = .ok (.aload_n 0, 1) := by decide +kernel
theorem dX10_addsTie_1 : decode cX10_addsTie 1 = .ok (.iload_n 1, 1) := by decide +kernel
theorem dX10_addsTie_2 : decode cX10_addsTie 2 = .ok (.iload_n 1, 1) := by decide +kernel
theorem dX10_addsTie_3 : decode cX10_addsTie 3 = .ok (.iload_n 3, 1) := by decide +kernel
theorem dX10_addsTie_4 : decode cX10_addsTie 4 = .ok (.i2l, 1) := by decide +kernel
theorem dX10_addsTie_5 : decode cX10_addsTie 5 = .ok (.invokevirtual 377, 3) := by decide +kernel
theorem dX10_addsTie_8 : decode cX10_addsTie 8 = .ok (.iload_n 2, 1) := by decide +kernel
theorem dX10_addsTie_9 : decode cX10_addsTie 9 = .ok (.iconst (-1), 1) := by decide +kernel
theorem dX10_addsTie_10 : decode cX10_addsTie 10 = .ok (.if_icmp .eq 12, 3) := by decide +kernel
theorem dX10_addsTie_13 : decode cX10_addsTie 13 = .ok (.aload_n 0, 1) := by decide +kernel
theorem dX10_addsTie_14 : decode cX10_addsTie 14 = .ok (.iload_n 1, 1) := by decide +kernel
theorem dX10_addsTie_15 : decode cX10_addsTie 15 = .ok (.iload_n 2, 1) := by decide +kernel
theorem dX10_addsTie_16 : decode cX10_addsTie 16 = .ok (.iload_n 3, 1) := by decide +kernel
theorem dX10_addsTie_17 : decode cX10_addsTie 17 = .ok (.ineg, 1) := by decide +kernel
theorem dX10_addsTie_18 : decode cX10_addsTie 18 = .ok (.i2l, 1) := by decide +kernel
theorem dX10_addsTie_19 : decode cX10_addsTie 19 = .ok (.invokevirtual 377, 3) := by decide +kernel
theorem dX10_addsTie_22 : decode cX10_addsTie 22 = .ok (.aload_n 0, 1) := by decide +kernel
theorem dX10_addsTie_23 : decode cX10_addsTie 23 = .ok (.iload_n 1, 1) := by decide +kernel
theorem dX10_addsTie_24 : decode cX10_addsTie 24 = .ok (.bipush 38, 2) := by decide +kernel
theorem dX10_addsTie_26 : decode cX10_addsTie 26 = .ok (.iload_n 3, 1) := by decide +kernel
theorem dX10_addsTie_27 : decode cX10_addsTie 27 = .ok (.i2l, 1) := by decide +kernel
theorem dX10_addsTie_28 : decode cX10_addsTie 28 = .ok (.iload 4, 2) := by decide +kernel
theorem dX10_addsTie_30 : decode cX10_addsTie 30 = .ok (.i2l, 1) := by decide +kernel
theorem dX10_addsTie_31 : decode cX10_addsTie 31 = .ok (.lmul, 1) := by decide +kernel
theorem dX10_addsTie_32 : decode cX10_addsTie 32 = .ok (.invokevirtual 377, 3) := by decide +kernel
theorem dX10_addsTie_35 : decode cX10_addsTie 35 = .ok (.aload_n 0, 1) := by decide +kernel
theorem dX10_addsTie_36 : decode cX10_addsTie 36 = .ok (.iload_n 1, 1) := by decide +kernel
theorem dX10_addsTie_37 : decode cX10_addsTie 37 = .ok (.bipush 39, 2) := by decide +kernel
theorem dX10_addsTie_39 : decode cX10_addsTie 39 = .ok (.iload_n 3, 1) := by decide +kernel
theorem dX10_addsTie_40 : decode cX10_addsTie 40 = .ok (.i2l, 1) := by decide +kernel
theorem dX10_addsTie_41 : decode cX10_addsTie 41 = .ok (.iload 5, 2) := by decide +kernel
theorem dX10_addsTie_43 : decode cX10_addsTie 43 = .ok (.i2l, 1) := by decide +kernel
theorem dX10_addsTie_44 : decode cX10_addsTie 44 = .ok (.lmul, 1) := by decide +kernel
theorem dX10_addsTie_45 : decode cX10_addsTie 45 = .ok (.invokevirtual 377, 3) := by decide +kernel
theorem dX10_addsTie_48 : decode cX10_addsTie 48 = .ok (.return_, 1) := by decide +kernel
theorem dX10_numberOf_0 : decode cX10_numberOf 0 = .ok (.iconst 0, 1) := by decide +kernel
theorem dX10_numberOf_1 : decode cX10_numberOf 1 = .ok (.istore_n 2, 1) := by decide +kernel
theorem dX10_numberOf_2 : decode cX10_numberOf 2 = .ok (.iload_n 2, 1) := by decide +kernel
theorem dX10_numberOf_3 : decode cX10_numberOf 3 = .ok (.aload_n 0, 1) := by decide +kernel
theorem dX10_numberOf_4 : decode cX10_numberOf 4 = .ok (.getfield 381, 3) := by decide +kernel
theorem dX10_numberOf_7 : decode cX10_numberOf 7 = .ok (.if_icmp .ge 21, 3) := by decide +kernel
theorem dX10_numberOf_10 : decode cX10_numberOf 10 = .ok (.aload_n 0, 1) := by decide +kernel
theorem dX10_numberOf_11 : decode cX10_numberOf 11 = .ok (.getfield 107, 3) := by decide +kernel
theorem dX10_numberOf_14 : decode cX10_numberOf 14 = .ok (.iload_n 2, 1) := by decide +kernel
theorem dX10_numberOf_15 : decode cX10_numberOf 15 = .ok (.iaload, 1) := by decide +kernel
theorem dX10_numberOf_16 : decode cX10_numberOf 16 = .ok (.iload_n 1, 1) := by decide +kernel
theorem dX10_numberOf_17 : decode cX10_numberOf 17 = .ok (.if_icmp .ne 5, 3) := by decide +kernel
theorem dX10_numberOf_20 : decode cX10_numberOf 20 = .ok (.iload_n 2, 1) := by decide +kernel
theorem dX10_numberOf_21 : decode cX10_numberOf 21 = .ok (.ireturn, 1) := by decide +kernel
theorem dX10_numberOf_22 : decode cX10_numberOf 22 = .ok (.iinc 2 1, 3) := by decide +kernel
theorem dX10_numberOf_25 : decode cX10_numberOf 25 = .ok (.goto (-23), 3) := by decide +kernel
theorem dX10_numberOf_28 : decode cX10_numberOf 28 = .ok (.iconst (-1), 1) := by decide +kernel
theorem dX10_numberOf_29 : decode cX10_numberOf 29 = .ok (.ireturn, 1) := by decide +kernel
set_option maxRecDepth 20000 in
theorem ggX10_equations_X10_pictures : GoodIn wsX10_equations wsX10_pictures := goodIn_r _ [12, 2, 86, 87, 88, 89, 90, 91, 92, 93, 94, 95, 96, 97, 98, 99, 100, 101, 102, 103, 104, 105, 106, 107, 108, 109, 110, 111, 112, 113, 114, 115, 116, 117, 118, 119, 120, 121, 122, 123, 124, 125, 126, 127, 128, 129, 130, 131, 132, 133, 134, 135, 136, 137, 138, 139, 140, 141, 142] (by decide +kernel) (by decide +kernel)
set_option maxRecDepth 20000 in
theorem gX10_equations_X10_pictures : GoodIn wsX10_equations (wsV RX10 259 RX10 yX10_pictures wsX10_pictures) := goodIn_app (goodIn_of _ (by decide +kernel)) ggX10_equations_X10_pictures
set_option maxRecDepth 20000 in
theorem ggX10_equations_X10_points : GoodIn wsX10_equations wsX10_points := goodIn_r _ [16, 2, 86, 87, 88, 89, 90, 91, 92, 93, 94, 95, 96, 97, 98, 99, 100, 101, 102, 103, 104, 105, 106, 107, 108, 109, 110, 111, 112, 113, 114, 115, 116, 117, 118, 119, 120, 121, 122, 123, 124, 125, 126, 127, 128, 129, 130, 131, 132, 133, 134, 135, 136, 137, 138, 139, 140, 141, 142] (by decide +kernel) (by decide +kernel)
set_option maxRecDepth 20000 in
theorem gX10_equations_X10_points : GoodIn wsX10_equations (wsV RX10 262 RX10 yX10_points wsX10_points) := goodIn_app (goodIn_of _ (by decide +kernel)) ggX10_equations_X10_points
set_option maxRecDepth 20000 in
theorem ggX10_equations_X10_isControl : GoodIn wsX10_equations wsX10_isControl := goodIn_r _ [20, 21, 22, 86, 87, 88, 89, 90, 91, 92, 93, 94, 95, 96, 97, 98, 99, 100, 101, 102, 103, 104, 105, 106, 107, 108, 109, 110, 111, 112, 113, 114, 115, 116, 117, 118, 119, 120, 121, 122, 123, 124, 125, 126, 127, 128, 129, 130, 131, 132, 133, 134, 135, 136, 137, 138, 139, 140, 141, 142] (by decide +kernel) (by decide +kernel)
set_option maxRecDepth 20000 in
theorem gX10_equations_X10_isControl : GoodIn wsX10_equations (wsV RX10 287 RX10 yX10_isControl wsX10_isControl) := goodIn_app (goodIn_of _ (by decide +kernel)) ggX10_equations_X10_isControl
set_option maxRecDepth 20000 in
theorem ggX10_equations_X10_isUsed : GoodIn wsX10_equations wsX10_isUsed := goodIn_r _ [26, 5, 27, 28, 29, 11, 30, 8, 9, 10, 12, 2, 31, 32, 33, 34, 35, 36, 37, 38, 39, 40, 41, 42, 43, 44, 45, 46, 47, 48, 49, 50, 51, 52, 53, 54, 86, 87, 88, 89, 90, 91, 92, 93, 94, 95, 96, 97, 98, 99, 100, 101, 102, 103, 104, 105, 106, 107, 108, 109, 110, 111, 112, 113, 114, 115, 116, 117, 118, 119, 120, 121, 122, 123, 124, 125, 126, 127, 128, 129, 130, 131, 132, 133, 134, 135, 136, 137, 138, 139, 140, 141, 142] (by decide +kernel) (by decide +kernel)
set_option maxRecDepth 20000 in
theorem gX10_equations_X10_isUsed : GoodIn wsX10_equations (wsV RX10 384 RX10 yX10_isUsed wsX10_isUsed) := goodIn_app (goodIn_of _ (by decide +kernel)) ggX10_equations_X10_isUsed
set_option maxRecDepth 20000 in
theorem ggX10_equations_X10_rows : GoodIn wsX10_equations wsX10_rows := goodIn_r _ [44, 2, 86, 87, 88, 89, 90, 91, 92, 93, 94, 95, 96, 97, 98, 99, 100, 101, 102, 103, 104, 105, 106, 107, 108, 109, 110, 111, 112, 113, 114, 115, 116, 117, 118, 119, 120, 121, 122, 123, 124, 125, 126, 127, 128, 129, 130, 131, 132, 133, 134, 135, 136, 137, 138, 139, 140, 141, 142] (by decide +kernel) (by decide +kernel)
set_option maxRecDepth 20000 in
theorem gX10_equations_X10_rows : GoodIn wsX10_equations (wsV RX10 265 RX10 yX10_rows wsX10_rows) := goodIn_app (goodIn_of _ (by decide +kernel)) ggX10_equations_X10_rows
set_option maxRecDepth 20000 in
theorem ggX10_equations_X10_pictureOf : GoodIn wsX10_equations wsX10_pictureOf := goodIn_r _ [48, 49, 86, 87, 88, 89, 90, 91, 92, 93, 94, 95, 96, 97, 98, 99, 100, 101, 102, 103, 104, 105, 106, 107, 108, 109, 110, 111, 112, 113, 114, 115, 116, 117, 118, 119, 120, 121, 122, 123, 124, 125, 126, 127, 128, 129, 130, 131, 132, 133, 134, 135, 136, 137, 138, 139, 140, 141, 142] (by decide +kernel) (by decide +kernel)
set_option maxRecDepth 20000 in
theorem gX10_equations_X10_pictureOf : GoodIn wsX10_equations (wsV RX10 274 RX10 yX10_pictureOf wsX10_pictureOf) := goodIn_app (goodIn_of _ (by decide +kernel)) ggX10_equations_X10_pictureOf
set_option maxRecDepth 20000 in
theorem ggX10_equations_X10_numberOf : GoodIn wsX10_equations wsX10_numberOf := goodIn_r _ [58, 1, 3, 86, 87, 88, 89, 90, 91, 92, 93, 94, 95, 96, 97, 98, 99, 100, 101, 102, 103, 104, 105, 106, 107, 108, 109, 110, 111, 112, 113, 114, 115, 116, 117, 118, 119, 120, 121, 122, 123, 124, 125, 126, 127, 128, 129, 130, 131, 132, 133, 134, 135, 136, 137, 138, 139, 140, 141, 142] (by decide +kernel) (by decide +kernel)
set_option maxRecDepth 20000 in
theorem gX10_equations_X10_numberOf : GoodIn wsX10_equations (wsV RX10 387 RX10 yX10_numberOf wsX10_numberOf) := goodIn_app (goodIn_of _ (by decide +kernel)) ggX10_equations_X10_numberOf
set_option maxRecDepth 20000 in
theorem ggX10_equations_X10_pointOf : GoodIn wsX10_equations wsX10_pointOf := goodIn_r _ [53, 54, 86, 87, 88, 89, 90, 91, 92, 93, 94, 95, 96, 97, 98, 99, 100, 101, 102, 103, 104, 105, 106, 107, 108, 109, 110, 111, 112, 113, 114, 115, 116, 117, 118, 119, 120, 121, 122, 123, 124, 125, 126, 127, 128, 129, 130, 131, 132, 133, 134, 135, 136, 137, 138, 139, 140, 141, 142] (by decide +kernel) (by decide +kernel)
set_option maxRecDepth 20000 in
theorem gX10_equations_X10_pointOf : GoodIn wsX10_equations (wsV RX10 281 RX10 yX10_pointOf wsX10_pointOf) := goodIn_app (goodIn_of _ (by decide +kernel)) ggX10_equations_X10_pointOf
set_option maxRecDepth 20000 in
theorem ggX10_equations_X10_weightOf : GoodIn wsX10_equations wsX10_weightOf := goodIn_r _ [62, 63, 86, 87, 88, 89, 90, 91, 92, 93, 94, 95, 96, 97, 98, 99, 100, 101, 102, 103, 104, 105, 106, 107, 108, 109, 110, 111, 112, 113, 114, 115, 116, 117, 118, 119, 120, 121, 122, 123, 124, 125, 126, 127, 128, 129, 130, 131, 132, 133, 134, 135, 136, 137, 138, 139, 140, 141, 142] (by decide +kernel) (by decide +kernel)
set_option maxRecDepth 20000 in
theorem gX10_equations_X10_weightOf : GoodIn wsX10_equations (wsV RX10 325 RX10 yX10_weightOf wsX10_weightOf) := goodIn_app (goodIn_of _ (by decide +kernel)) ggX10_equations_X10_weightOf
set_option maxRecDepth 20000 in
theorem ggX10_equations_X10_turned : GoodIn wsX10_equations wsX10_turned := goodIn_r _ [67, 68, 45, 46, 47, 11, 48, 49, 69, 70, 71, 72, 73, 86, 87, 88, 89, 90, 91, 92, 93, 94, 95, 96, 97, 98, 99, 100, 101, 102, 103, 104, 105, 106, 107, 108, 109, 110, 111, 112, 113, 114, 115, 116, 117, 118, 119, 120, 121, 122, 123, 124, 125, 126, 127, 128, 129, 130, 131, 132, 133, 134, 135, 136, 137, 138, 139, 140, 141, 142] (by decide +kernel) (by decide +kernel)
set_option maxRecDepth 20000 in
theorem gX10_equations_X10_turned : GoodIn wsX10_equations (wsV RX10 284 RX10 yX10_turned wsX10_turned) := goodIn_app (goodIn_of _ (by decide +kernel)) ggX10_equations_X10_turned
set_option maxRecDepth 20000 in
theorem ggX10_equations_X10_addsTie : GoodIn wsX10_equations wsX10_addsTie := goodIn_r _ [77, 78, 79, 80, 11, 81, 4, 82, 83, 84, 85, 86, 87, 88, 89, 90, 91, 92, 93, 94, 95, 96, 97, 98, 99, 100, 101, 102, 103, 104, 105, 106, 107, 108, 109, 110, 111, 112, 113, 114, 115, 116, 117, 118, 119, 120, 121, 122, 123, 124, 125, 126, 127, 128, 129, 130, 131, 132, 133, 134, 135, 136, 137, 138, 139, 140, 141, 142] (by decide +kernel) (by decide +kernel)
set_option maxRecDepth 20000 in
theorem gX10_equations_X10_addsTie : GoodIn wsX10_equations (wsV RX10 390 RX10 yX10_addsTie wsX10_addsTie) := goodIn_app (goodIn_of _ (by decide +kernel)) ggX10_equations_X10_addsTie
set_option maxRecDepth 20000 in
theorem ggX10_equations_X10_centreOf : GoodIn wsX10_equations wsX10_centreOf := goodIn_r _ [39, 40, 86, 87, 88, 89, 90, 91, 92, 93, 94, 95, 96, 97, 98, 99, 100, 101, 102, 103, 104, 105, 106, 107, 108, 109, 110, 111, 112, 113, 114, 115, 116, 117, 118, 119, 120, 121, 122, 123, 124, 125, 126, 127, 128, 129, 130, 131, 132, 133, 134, 135, 136, 137, 138, 139, 140, 141, 142] (by decide +kernel) (by decide +kernel)
set_option maxRecDepth 20000 in
theorem gX10_equations_X10_centreOf : GoodIn wsX10_equations (wsV RX10 271 RX10 yX10_centreOf wsX10_centreOf) := goodIn_app (goodIn_of _ (by decide +kernel)) ggX10_equations_X10_centreOf
set_option maxRecDepth 20000 in
theorem ggX10_equations_X10_strip : GoodIn wsX10_equations wsX10_strip := goodIn_r _ [34, 35, 86, 87, 88, 89, 90, 91, 92, 93, 94, 95, 96, 97, 98, 99, 100, 101, 102, 103, 104, 105, 106, 107, 108, 109, 110, 111, 112, 113, 114, 115, 116, 117, 118, 119, 120, 121, 122, 123, 124, 125, 126, 127, 128, 129, 130, 131, 132, 133, 134, 135, 136, 137, 138, 139, 140, 141, 142] (by decide +kernel) (by decide +kernel)
set_option maxRecDepth 20000 in
theorem gX10_equations_X10_strip : GoodIn wsX10_equations (wsV RX10 268 RX10 yX10_strip wsX10_strip) := goodIn_app (goodIn_of _ (by decide +kernel)) ggX10_equations_X10_strip
theorem dX10_equations_0 : decode cX10_equations 0 = .ok (.aload_n 0, 1) := by decide +kernel
theorem dX10_equations_1 : decode cX10_equations 1 = .ok (.iconst 0, 1) := by decide +kernel
theorem dX10_equations_2 : decode cX10_equations 2 = .ok (.putfield 381, 3) := by decide +kernel
theorem dX10_equations_5 : decode cX10_equations 5 = .ok (.iconst 0, 1) := by decide +kernel
theorem dX10_equations_6 : decode cX10_equations 6 = .ok (.istore_n 1, 1) := by decide +kernel
theorem dX10_equations_7 : decode cX10_equations 7 = .ok (.iload_n 1, 1) := by decide +kernel
theorem dX10_equations_8 : decode cX10_equations 8 = .ok (.bipush 38, 2) := by decide +kernel
theorem dX10_equations_10 : decode cX10_equations 10 = .ok (.if_icmp .ge 122, 3) := by decide +kernel
theorem dX10_equations_13 : decode cX10_equations 13 = .ok (.iload_n 1, 1) := by decide +kernel
theorem dX10_equations_14 : decode cX10_equations 14 = .ok (.bipush 12, 2) := by decide +kernel
theorem dX10_equations_16 : decode cX10_equations 16 = .ok (.if_icmp .ge 19, 3) := by decide +kernel
theorem dX10_equations_19 : decode cX10_equations 19 = .ok (.iload_n 1, 1) := by decide +kernel
theorem dX10_equations_20 : decode cX10_equations 20 = .ok (.aload_n 0, 1) := by decide +kernel
theorem dX10_equations_21 : decode cX10_equations 21 = .ok (.invokevirtual 259, 3) := by decide +kernel
theorem dX10_equations_24 : decode cX10_equations 24 = .ok (.if_icmp .ge 7, 3) := by decide +kernel
theorem dX10_equations_27 : decode cX10_equations 27 = .ok (.iconst 1, 1) := by decide +kernel
theorem dX10_equations_28 : decode cX10_equations 28 = .ok (.goto 62, 3) := by decide +kernel
theorem dX10_equations_31 : decode cX10_equations 31 = .ok (.iconst 0, 1) := by decide +kernel
theorem dX10_equations_32 : decode cX10_equations 32 = .ok (.goto 58, 3) := by decide +kernel
theorem dX10_equations_35 : decode cX10_equations 35 = .ok (.iload_n 1, 1) := by decide +kernel
theorem dX10_equations_36 : decode cX10_equations 36 = .ok (.bipush 32, 2) := by decide +kernel
theorem dX10_equations_38 : decode cX10_equations 38 = .ok (.if_icmp .ge 33, 3) := by decide +kernel
theorem dX10_equations_41 : decode cX10_equations 41 = .ok (.iload_n 1, 1) := by decide +kernel
theorem dX10_equations_42 : decode cX10_equations 42 = .ok (.bipush 12, 2) := by decide +kernel
theorem dX10_equations_44 : decode cX10_equations 44 = .ok (.isub, 1) := by decide +kernel
theorem dX10_equations_45 : decode cX10_equations 45 = .ok (.aload_n 0, 1) := by decide +kernel
theorem dX10_equations_46 : decode cX10_equations 46 = .ok (.invokevirtual 262, 3) := by decide +kernel
theorem dX10_equations_49 : decode cX10_equations 49 = .ok (.if_icmp .ge 18, 3) := by decide +kernel
theorem dX10_equations_52 : decode cX10_equations 52 = .ok (.aload_n 0, 1) := by decide +kernel
theorem dX10_equations_53 : decode cX10_equations 53 = .ok (.iload_n 1, 1) := by decide +kernel
theorem dX10_equations_54 : decode cX10_equations 54 = .ok (.bipush 12, 2) := by decide +kernel
theorem dX10_equations_56 : decode cX10_equations 56 = .ok (.isub, 1) := by decide +kernel
theorem dX10_equations_57 : decode cX10_equations 57 = .ok (.invokevirtual 287, 3) := by decide +kernel
theorem dX10_equations_60 : decode cX10_equations 60 = .ok (.ifCond .ne 7, 3) := by decide +kernel
theorem dX10_equations_63 : decode cX10_equations 63 = .ok (.iconst 1, 1) := by decide +kernel
theorem dX10_equations_64 : decode cX10_equations 64 = .ok (.goto 26, 3) := by decide +kernel
theorem dX10_equations_67 : decode cX10_equations 67 = .ok (.iconst 0, 1) := by decide +kernel
theorem dX10_equations_68 : decode cX10_equations 68 = .ok (.goto 22, 3) := by decide +kernel
theorem dX10_equations_71 : decode cX10_equations 71 = .ok (.iload_n 1, 1) := by decide +kernel
theorem dX10_equations_72 : decode cX10_equations 72 = .ok (.bipush 32, 2) := by decide +kernel
theorem dX10_equations_74 : decode cX10_equations 74 = .ok (.isub, 1) := by decide +kernel
theorem dX10_equations_75 : decode cX10_equations 75 = .ok (.aload_n 0, 1) := by decide +kernel
theorem dX10_equations_76 : decode cX10_equations 76 = .ok (.getfield 58, 3) := by decide +kernel
theorem dX10_equations_79 : decode cX10_equations 79 = .ok (.bipush 6, 2) := by decide +kernel
theorem dX10_equations_81 : decode cX10_equations 81 = .ok (.iaload, 1) := by decide +kernel
theorem dX10_equations_82 : decode cX10_equations 82 = .ok (.if_icmp .ge 7, 3) := by decide +kernel
theorem dX10_equations_85 : decode cX10_equations 85 = .ok (.iconst 1, 1) := by decide +kernel
theorem dX10_equations_86 : decode cX10_equations 86 = .ok (.goto 4, 3) := by decide +kernel
theorem dX10_equations_89 : decode cX10_equations 89 = .ok (.iconst 0, 1) := by decide +kernel
theorem dX10_equations_90 : decode cX10_equations 90 = .ok (.istore_n 2, 1) := by decide +kernel
theorem dX10_equations_91 : decode cX10_equations 91 = .ok (.iload_n 2, 1) := by decide +kernel
theorem dX10_equations_92 : decode cX10_equations 92 = .ok (.ifCond .eq 34, 3) := by decide +kernel
theorem dX10_equations_95 : decode cX10_equations 95 = .ok (.aload_n 0, 1) := by decide +kernel
theorem dX10_equations_96 : decode cX10_equations 96 = .ok (.iload_n 1, 1) := by decide +kernel
theorem dX10_equations_97 : decode cX10_equations 97 = .ok (.invokevirtual 384, 3) := by decide +kernel
theorem dX10_equations_100 : decode cX10_equations 100 = .ok (.ifCond .ne 6, 3) := by decide +kernel
theorem dX10_equations_103 : decode cX10_equations 103 = .ok (.goto 23, 3) := by decide +kernel
theorem dX10_equations_106 : decode cX10_equations 106 = .ok (.aload_n 0, 1) := by decide +kernel
theorem dX10_equations_107 : decode cX10_equations 107 = .ok (.getfield 107, 3) := by decide +kernel
theorem dX10_equations_110 : decode cX10_equations 110 = .ok (.aload_n 0, 1) := by decide +kernel
theorem dX10_equations_111 : decode cX10_equations 111 = .ok (.getfield 381, 3) := by decide +kernel
theorem dX10_equations_114 : decode cX10_equations 114 = .ok (.iload_n 1, 1) := by decide +kernel
theorem dX10_equations_115 : decode cX10_equations 115 = .ok (.iastore, 1) := by decide +kernel
theorem dX10_equations_116 : decode cX10_equations 116 = .ok (.aload_n 0, 1) := by decide +kernel
theorem dX10_equations_117 : decode cX10_equations 117 = .ok (.dup, 1) := by decide +kernel
theorem dX10_equations_118 : decode cX10_equations 118 = .ok (.getfield 381, 3) := by decide +kernel
theorem dX10_equations_121 : decode cX10_equations 121 = .ok (.iconst 1, 1) := by decide +kernel
theorem dX10_equations_122 : decode cX10_equations 122 = .ok (.iadd, 1) := by decide +kernel
theorem dX10_equations_123 : decode cX10_equations 123 = .ok (.putfield 381, 3) := by decide +kernel
theorem dX10_equations_126 : decode cX10_equations 126 = .ok (.iinc 1 1, 3) := by decide +kernel
theorem dX10_equations_129 : decode cX10_equations 129 = .ok (.goto (-122), 3) := by decide +kernel
theorem dX10_equations_132 : decode cX10_equations 132 = .ok (.iconst 0, 1) := by decide +kernel
theorem dX10_equations_133 : decode cX10_equations 133 = .ok (.istore_n 1, 1) := by decide +kernel
theorem dX10_equations_134 : decode cX10_equations 134 = .ok (.iload_n 1, 1) := by decide +kernel
theorem dX10_equations_135 : decode cX10_equations 135 = .ok (.sipush 1520, 3) := by decide +kernel
theorem dX10_equations_138 : decode cX10_equations 138 = .ok (.if_icmp .ge 16, 3) := by decide +kernel
theorem dX10_equations_141 : decode cX10_equations 141 = .ok (.aload_n 0, 1) := by decide +kernel
theorem dX10_equations_142 : decode cX10_equations 142 = .ok (.getfield 110, 3) := by decide +kernel
theorem dX10_equations_145 : decode cX10_equations 145 = .ok (.iload_n 1, 1) := by decide +kernel
theorem dX10_equations_146 : decode cX10_equations 146 = .ok (.lconst 0, 1) := by decide +kernel
theorem dX10_equations_147 : decode cX10_equations 147 = .ok (.lastore, 1) := by decide +kernel
theorem dX10_equations_148 : decode cX10_equations 148 = .ok (.iinc 1 1, 3) := by decide +kernel
theorem dX10_equations_151 : decode cX10_equations 151 = .ok (.goto (-17), 3) := by decide +kernel
theorem dX10_equations_154 : decode cX10_equations 154 = .ok (.iconst 0, 1) := by decide +kernel
theorem dX10_equations_155 : decode cX10_equations 155 = .ok (.istore_n 1, 1) := by decide +kernel
theorem dX10_equations_156 : decode cX10_equations 156 = .ok (.iload_n 1, 1) := by decide +kernel
theorem dX10_equations_157 : decode cX10_equations 157 = .ok (.aload_n 0, 1) := by decide +kernel
theorem dX10_equations_158 : decode cX10_equations 158 = .ok (.invokevirtual 265, 3) := by decide +kernel
theorem dX10_equations_161 : decode cX10_equations 161 = .ok (.if_icmp .ge 159, 3) := by decide +kernel
theorem dX10_equations_164 : decode cX10_equations 164 = .ok (.aload_n 0, 1) := by decide +kernel
theorem dX10_equations_165 : decode cX10_equations 165 = .ok (.getfield 91, 3) := by decide +kernel
theorem dX10_equations_168 : decode cX10_equations 168 = .ok (.iload_n 1, 1) := by decide +kernel
theorem dX10_equations_169 : decode cX10_equations 169 = .ok (.baload, 1) := by decide +kernel
theorem dX10_equations_170 : decode cX10_equations 170 = .ok (.ifCond .eq 6, 3) := by decide +kernel
theorem dX10_equations_173 : decode cX10_equations 173 = .ok (.goto 141, 3) := by decide +kernel
theorem dX10_equations_176 : decode cX10_equations 176 = .ok (.aload_n 0, 1) := by decide +kernel
theorem dX10_equations_177 : decode cX10_equations 177 = .ok (.aload_n 0, 1) := by decide +kernel
theorem dX10_equations_178 : decode cX10_equations 178 = .ok (.iload_n 1, 1) := by decide +kernel
theorem dX10_equations_179 : decode cX10_equations 179 = .ok (.invokevirtual 274, 3) := by decide +kernel
theorem dX10_equations_182 : decode cX10_equations 182 = .ok (.invokevirtual 387, 3) := by decide +kernel
theorem dX10_equations_185 : decode cX10_equations 185 = .ok (.istore_n 2, 1) := by decide +kernel
theorem dX10_equations_186 : decode cX10_equations 186 = .ok (.aload_n 0, 1) := by decide +kernel
theorem dX10_equations_187 : decode cX10_equations 187 = .ok (.bipush 12, 2) := by decide +kernel
theorem dX10_equations_189 : decode cX10_equations 189 = .ok (.aload_n 0, 1) := by decide +kernel
theorem dX10_equations_190 : decode cX10_equations 190 = .ok (.iload_n 1, 1) := by decide +kernel
theorem dX10_equations_191 : decode cX10_equations 191 = .ok (.invokevirtual 281, 3) := by decide +kernel
theorem dX10_equations_194 : decode cX10_equations 194 = .ok (.iadd, 1) := by decide +kernel
theorem dX10_equations_195 : decode cX10_equations 195 = .ok (.invokevirtual 387, 3) := by decide +kernel
theorem dX10_equations_198 : decode cX10_equations 198 = .ok (.istore_n 3, 1) := by decide +kernel
theorem dX10_equations_199 : decode cX10_equations 199 = .ok (.bipush 40, 2) := by decide +kernel
theorem dX10_equations_201 : decode cX10_equations 201 = .ok (.iconst 2, 1) := by decide +kernel
theorem dX10_equations_202 : decode cX10_equations 202 = .ok (.aload_n 0, 1) := by decide +kernel
theorem dX10_equations_203 : decode cX10_equations 203 = .ok (.iload_n 1, 1) := by decide +kernel
theorem dX10_equations_204 : decode cX10_equations 204 = .ok (.invokevirtual 281, 3) := by decide +kernel
theorem dX10_equations_207 : decode cX10_equations 207 = .ok (.imul, 1) := by decide +kernel
theorem dX10_equations_208 : decode cX10_equations 208 = .ok (.iadd, 1) := by decide +kernel
theorem dX10_equations_209 : decode cX10_equations 209 = .ok (.istore 4, 2) := by decide +kernel
theorem dX10_equations_211 : decode cX10_equations 211 = .ok (.iload_n 3, 1) := by decide +kernel
theorem dX10_equations_212 : decode cX10_equations 212 = .ok (.iconst (-1), 1) := by decide +kernel
theorem dX10_equations_213 : decode cX10_equations 213 = .ok (.if_icmp .ne 53, 3) := by decide +kernel
theorem dX10_equations_216 : decode cX10_equations 216 = .ok (.aload_n 0, 1) := by decide +kernel
theorem dX10_equations_217 : decode cX10_equations 217 = .ok (.iload_n 2, 1) := by decide +kernel
theorem dX10_equations_218 : decode cX10_equations 218 = .ok (.iconst (-1), 1) := by decide +kernel
theorem dX10_equations_219 : decode cX10_equations 219 = .ok (.aload_n 0, 1) := by decide +kernel
theorem dX10_equations_220 : decode cX10_equations 220 = .ok (.iload_n 1, 1) := by decide +kernel
theorem dX10_equations_221 : decode cX10_equations 221 = .ok (.invokevirtual 325, 3) := by decide +kernel
theorem dX10_equations_224 : decode cX10_equations 224 = .ok (.bipush 100, 2) := by decide +kernel
theorem dX10_equations_226 : decode cX10_equations 226 = .ok (.aload_n 0, 1) := by decide +kernel
theorem dX10_equations_227 : decode cX10_equations 227 = .ok (.getfield 76, 3) := by decide +kernel
theorem dX10_equations_230 : decode cX10_equations 230 = .ok (.iload 4, 2) := by decide +kernel
theorem dX10_equations_232 : decode cX10_equations 232 = .ok (.iaload, 1) := by decide +kernel
theorem dX10_equations_233 : decode cX10_equations 233 = .ok (.imul, 1) := by decide +kernel
theorem dX10_equations_234 : decode cX10_equations 234 = .ok (.aload_n 0, 1) := by decide +kernel
theorem dX10_equations_235 : decode cX10_equations 235 = .ok (.iload_n 1, 1) := by decide +kernel
theorem dX10_equations_236 : decode cX10_equations 236 = .ok (.iconst 0, 1) := by decide +kernel
theorem dX10_equations_237 : decode cX10_equations 237 = .ok (.invokevirtual 284, 3) := by decide +kernel
theorem dX10_equations_240 : decode cX10_equations 240 = .ok (.isub, 1) := by decide +kernel
theorem dX10_equations_241 : decode cX10_equations 241 = .ok (.bipush 100, 2) := by decide +kernel
theorem dX10_equations_243 : decode cX10_equations 243 = .ok (.aload_n 0, 1) := by decide +kernel
theorem dX10_equations_244 : decode cX10_equations 244 = .ok (.getfield 76, 3) := by decide +kernel
theorem dX10_equations_247 : decode cX10_equations 247 = .ok (.iload 4, 2) := by decide +kernel
theorem dX10_equations_249 : decode cX10_equations 249 = .ok (.iconst 1, 1) := by decide +kernel
theorem dX10_equations_250 : decode cX10_equations 250 = .ok (.iadd, 1) := by decide +kernel
theorem dX10_equations_251 : decode cX10_equations 251 = .ok (.iaload, 1) := by decide +kernel
theorem dX10_equations_252 : decode cX10_equations 252 = .ok (.imul, 1) := by decide +kernel
theorem dX10_equations_253 : decode cX10_equations 253 = .ok (.aload_n 0, 1) := by decide +kernel
theorem dX10_equations_254 : decode cX10_equations 254 = .ok (.iload_n 1, 1) := by decide +kernel
theorem dX10_equations_255 : decode cX10_equations 255 = .ok (.iconst 1, 1) := by decide +kernel
theorem dX10_equations_256 : decode cX10_equations 256 = .ok (.invokevirtual 284, 3) := by decide +kernel
theorem dX10_equations_259 : decode cX10_equations 259 = .ok (.isub, 1) := by decide +kernel
theorem dX10_equations_260 : decode cX10_equations 260 = .ok (.invokevirtual 390, 3) := by decide +kernel
theorem dX10_equations_263 : decode cX10_equations 263 = .ok (.goto 51, 3) := by decide +kernel
theorem dX10_equations_266 : decode cX10_equations 266 = .ok (.aload_n 0, 1) := by decide +kernel
theorem dX10_equations_267 : decode cX10_equations 267 = .ok (.iload_n 2, 1) := by decide +kernel
theorem dX10_equations_268 : decode cX10_equations 268 = .ok (.iload_n 3, 1) := by decide +kernel
theorem dX10_equations_269 : decode cX10_equations 269 = .ok (.aload_n 0, 1) := by decide +kernel
theorem dX10_equations_270 : decode cX10_equations 270 = .ok (.iload_n 1, 1) := by decide +kernel
theorem dX10_equations_271 : decode cX10_equations 271 = .ok (.invokevirtual 325, 3) := by decide +kernel
theorem dX10_equations_274 : decode cX10_equations 274 = .ok (.aload_n 0, 1) := by decide +kernel
theorem dX10_equations_275 : decode cX10_equations 275 = .ok (.iload_n 1, 1) := by decide +kernel
theorem dX10_equations_276 : decode cX10_equations 276 = .ok (.iconst 0, 1) := by decide +kernel
theorem dX10_equations_277 : decode cX10_equations 277 = .ok (.invokevirtual 284, 3) := by decide +kernel
theorem dX10_equations_280 : decode cX10_equations 280 = .ok (.ineg, 1) := by decide +kernel
theorem dX10_equations_281 : decode cX10_equations 281 = .ok (.aload_n 0, 1) := by decide +kernel
theorem dX10_equations_282 : decode cX10_equations 282 = .ok (.iload_n 1, 1) := by decide +kernel
theorem dX10_equations_283 : decode cX10_equations 283 = .ok (.iconst 1, 1) := by decide +kernel
theorem dX10_equations_284 : decode cX10_equations 284 = .ok (.invokevirtual 284, 3) := by decide +kernel
theorem dX10_equations_287 : decode cX10_equations 287 = .ok (.ineg, 1) := by decide +kernel
theorem dX10_equations_288 : decode cX10_equations 288 = .ok (.invokevirtual 390, 3) := by decide +kernel
theorem dX10_equations_291 : decode cX10_equations 291 = .ok (.aload_n 0, 1) := by decide +kernel
theorem dX10_equations_292 : decode cX10_equations 292 = .ok (.iload_n 3, 1) := by decide +kernel
theorem dX10_equations_293 : decode cX10_equations 293 = .ok (.iload_n 2, 1) := by decide +kernel
theorem dX10_equations_294 : decode cX10_equations 294 = .ok (.aload_n 0, 1) := by decide +kernel
theorem dX10_equations_295 : decode cX10_equations 295 = .ok (.iload_n 1, 1) := by decide +kernel
theorem dX10_equations_296 : decode cX10_equations 296 = .ok (.invokevirtual 325, 3) := by decide +kernel
theorem dX10_equations_299 : decode cX10_equations 299 = .ok (.aload_n 0, 1) := by decide +kernel
theorem dX10_equations_300 : decode cX10_equations 300 = .ok (.iload_n 1, 1) := by decide +kernel
theorem dX10_equations_301 : decode cX10_equations 301 = .ok (.iconst 0, 1) := by decide +kernel
theorem dX10_equations_302 : decode cX10_equations 302 = .ok (.invokevirtual 284, 3) := by decide +kernel
theorem dX10_equations_305 : decode cX10_equations 305 = .ok (.aload_n 0, 1) := by decide +kernel
theorem dX10_equations_306 : decode cX10_equations 306 = .ok (.iload_n 1, 1) := by decide +kernel
theorem dX10_equations_307 : decode cX10_equations 307 = .ok (.iconst 1, 1) := by decide +kernel
theorem dX10_equations_308 : decode cX10_equations 308 = .ok (.invokevirtual 284, 3) := by decide +kernel
theorem dX10_equations_311 : decode cX10_equations 311 = .ok (.invokevirtual 390, 3) := by decide +kernel
theorem dX10_equations_314 : decode cX10_equations 314 = .ok (.iinc 1 1, 3) := by decide +kernel
theorem dX10_equations_317 : decode cX10_equations 317 = .ok (.goto (-161), 3) := by decide +kernel
theorem dX10_equations_320 : decode cX10_equations 320 = .ok (.iconst 0, 1) := by decide +kernel
theorem dX10_equations_321 : decode cX10_equations 321 = .ok (.istore_n 1, 1) := by decide +kernel
theorem dX10_equations_322 : decode cX10_equations 322 = .ok (.iload_n 1, 1) := by decide +kernel
theorem dX10_equations_323 : decode cX10_equations 323 = .ok (.aload_n 0, 1) := by decide +kernel
theorem dX10_equations_324 : decode cX10_equations 324 = .ok (.invokevirtual 259, 3) := by decide +kernel
theorem dX10_equations_327 : decode cX10_equations 327 = .ok (.if_icmp .ge 117, 3) := by decide +kernel
theorem dX10_equations_330 : decode cX10_equations 330 = .ok (.aload_n 0, 1) := by decide +kernel
theorem dX10_equations_331 : decode cX10_equations 331 = .ok (.iload_n 1, 1) := by decide +kernel
theorem dX10_equations_332 : decode cX10_equations 332 = .ok (.invokevirtual 271, 3) := by decide +kernel
theorem dX10_equations_335 : decode cX10_equations 335 = .ok (.ifCond .ne 6, 3) := by decide +kernel
theorem dX10_equations_338 : decode cX10_equations 338 = .ok (.goto 100, 3) := by decide +kernel
theorem dX10_equations_341 : decode cX10_equations 341 = .ok (.aload_n 0, 1) := by decide +kernel
theorem dX10_equations_342 : decode cX10_equations 342 = .ok (.iload_n 1, 1) := by decide +kernel
theorem dX10_equations_343 : decode cX10_equations 343 = .ok (.invokevirtual 387, 3) := by decide +kernel
theorem dX10_equations_346 : decode cX10_equations 346 = .ok (.istore_n 2, 1) := by decide +kernel
theorem dX10_equations_347 : decode cX10_equations 347 = .ok (.aload_n 0, 1) := by decide +kernel
theorem dX10_equations_348 : decode cX10_equations 348 = .ok (.bipush 32, 2) := by decide +kernel
theorem dX10_equations_350 : decode cX10_equations 350 = .ok (.aload_n 0, 1) := by decide +kernel
theorem dX10_equations_351 : decode cX10_equations 351 = .ok (.iload_n 1, 1) := by decide +kernel
theorem dX10_equations_352 : decode cX10_equations 352 = .ok (.invokevirtual 268, 3) := by decide +kernel
theorem dX10_equations_355 : decode cX10_equations 355 = .ok (.iadd, 1) := by decide +kernel
theorem dX10_equations_356 : decode cX10_equations 356 = .ok (.invokevirtual 387, 3) := by decide +kernel
theorem dX10_equations_359 : decode cX10_equations 359 = .ok (.istore_n 3, 1) := by decide +kernel
theorem dX10_equations_360 : decode cX10_equations 360 = .ok (.aload_n 0, 1) := by decide +kernel
theorem dX10_equations_361 : decode cX10_equations 361 = .ok (.iload_n 2, 1) := by decide +kernel
theorem dX10_equations_362 : decode cX10_equations 362 = .ok (.iload_n 3, 1) := by decide +kernel
theorem dX10_equations_363 : decode cX10_equations 363 = .ok (.aload_n 0, 1) := by decide +kernel
theorem dX10_equations_364 : decode cX10_equations 364 = .ok (.iload_n 1, 1) := by decide +kernel
theorem dX10_equations_365 : decode cX10_equations 365 = .ok (.invokevirtual 271, 3) := by decide +kernel
theorem dX10_equations_368 : decode cX10_equations 368 = .ok (.bipush 100, 2) := by decide +kernel
theorem dX10_equations_370 : decode cX10_equations 370 = .ok (.aload_n 0, 1) := by decide +kernel
theorem dX10_equations_371 : decode cX10_equations 371 = .ok (.getfield 70, 3) := by decide +kernel
theorem dX10_equations_374 : decode cX10_equations 374 = .ok (.bipush 24, 2) := by decide +kernel
theorem dX10_equations_376 : decode cX10_equations 376 = .ok (.iconst 2, 1) := by decide +kernel
theorem dX10_equations_377 : decode cX10_equations 377 = .ok (.iload_n 1, 1) := by decide +kernel
theorem dX10_equations_378 : decode cX10_equations 378 = .ok (.imul, 1) := by decide +kernel
theorem dX10_equations_379 : decode cX10_equations 379 = .ok (.iadd, 1) := by decide +kernel
theorem dX10_equations_380 : decode cX10_equations 380 = .ok (.iaload, 1) := by decide +kernel
theorem dX10_equations_381 : decode cX10_equations 381 = .ok (.imul, 1) := by decide +kernel
theorem dX10_equations_382 : decode cX10_equations 382 = .ok (.bipush 100, 2) := by decide +kernel
theorem dX10_equations_384 : decode cX10_equations 384 = .ok (.aload_n 0, 1) := by decide +kernel
theorem dX10_equations_385 : decode cX10_equations 385 = .ok (.getfield 70, 3) := by decide +kernel
theorem dX10_equations_388 : decode cX10_equations 388 = .ok (.bipush 25, 2) := by decide +kernel
theorem dX10_equations_390 : decode cX10_equations 390 = .ok (.iconst 2, 1) := by decide +kernel
theorem dX10_equations_391 : decode cX10_equations 391 = .ok (.iload_n 1, 1) := by decide +kernel
theorem dX10_equations_392 : decode cX10_equations 392 = .ok (.imul, 1) := by decide +kernel
theorem dX10_equations_393 : decode cX10_equations 393 = .ok (.iadd, 1) := by decide +kernel
theorem dX10_equations_394 : decode cX10_equations 394 = .ok (.iaload, 1) := by decide +kernel
theorem dX10_equations_395 : decode cX10_equations 395 = .ok (.imul, 1) := by decide +kernel
theorem dX10_equations_396 : decode cX10_equations 396 = .ok (.invokevirtual 390, 3) := by decide +kernel
theorem dX10_equations_399 : decode cX10_equations 399 = .ok (.aload_n 0, 1) := by decide +kernel
theorem dX10_equations_400 : decode cX10_equations 400 = .ok (.iload_n 3, 1) := by decide +kernel
theorem dX10_equations_401 : decode cX10_equations 401 = .ok (.iload_n 2, 1) := by decide +kernel
theorem dX10_equations_402 : decode cX10_equations 402 = .ok (.aload_n 0, 1) := by decide +kernel
theorem dX10_equations_403 : decode cX10_equations 403 = .ok (.iload_n 1, 1) := by decide +kernel
theorem dX10_equations_404 : decode cX10_equations 404 = .ok (.invokevirtual 271, 3) := by decide +kernel
theorem dX10_equations_407 : decode cX10_equations 407 = .ok (.bipush (-100), 2) := by decide +kernel
theorem dX10_equations_409 : decode cX10_equations 409 = .ok (.aload_n 0, 1) := by decide +kernel
theorem dX10_equations_410 : decode cX10_equations 410 = .ok (.getfield 70, 3) := by decide +kernel
theorem dX10_equations_413 : decode cX10_equations 413 = .ok (.bipush 24, 2) := by decide +kernel
theorem dX10_equations_415 : decode cX10_equations 415 = .ok (.iconst 2, 1) := by decide +kernel
theorem dX10_equations_416 : decode cX10_equations 416 = .ok (.iload_n 1, 1) := by decide +kernel
theorem dX10_equations_417 : decode cX10_equations 417 = .ok (.imul, 1) := by decide +kernel
theorem dX10_equations_418 : decode cX10_equations 418 = .ok (.iadd, 1) := by decide +kernel
theorem dX10_equations_419 : decode cX10_equations 419 = .ok (.iaload, 1) := by decide +kernel
theorem dX10_equations_420 : decode cX10_equations 420 = .ok (.imul, 1) := by decide +kernel
theorem dX10_equations_421 : decode cX10_equations 421 = .ok (.bipush (-100), 2) := by decide +kernel
theorem dX10_equations_423 : decode cX10_equations 423 = .ok (.aload_n 0, 1) := by decide +kernel
theorem dX10_equations_424 : decode cX10_equations 424 = .ok (.getfield 70, 3) := by decide +kernel
theorem dX10_equations_427 : decode cX10_equations 427 = .ok (.bipush 25, 2) := by decide +kernel
theorem dX10_equations_429 : decode cX10_equations 429 = .ok (.iconst 2, 1) := by decide +kernel
theorem dX10_equations_430 : decode cX10_equations 430 = .ok (.iload_n 1, 1) := by decide +kernel
theorem dX10_equations_431 : decode cX10_equations 431 = .ok (.imul, 1) := by decide +kernel
theorem dX10_equations_432 : decode cX10_equations 432 = .ok (.iadd, 1) := by decide +kernel
theorem dX10_equations_433 : decode cX10_equations 433 = .ok (.iaload, 1) := by decide +kernel
theorem dX10_equations_434 : decode cX10_equations 434 = .ok (.imul, 1) := by decide +kernel
theorem dX10_equations_435 : decode cX10_equations 435 = .ok (.invokevirtual 390, 3) := by decide +kernel
theorem dX10_equations_438 : decode cX10_equations 438 = .ok (.iinc 1 1, 3) := by decide +kernel
theorem dX10_equations_441 : decode cX10_equations 441 = .ok (.goto (-119), 3) := by decide +kernel
theorem dX10_equations_444 : decode cX10_equations 444 = .ok (.return_, 1) := by decide +kernel
theorem dX10_inverse_0 : decode cX10_inverse 0 = .ok (.lconst 1, 1) := by decide +kernel
theorem dX10_inverse_1 : decode cX10_inverse 1 = .ok (.lstore_n 2, 1) := by decide +kernel
theorem dX10_inverse_2 : decode cX10_inverse 2 = .ok (.lload_n 0, 1) := by decide +kernel
theorem dX10_inverse_3 : decode cX10_inverse 3 = .ok (.lstore 4, 2) := by decide +kernel
theorem dX10_inverse_5 : decode cX10_inverse 5 = .ok (.ldc2_w 394, 3) := by decide +kernel
theorem dX10_inverse_8 : decode cX10_inverse 8 = .ok (.lstore 6, 2) := by decide +kernel
theorem dX10_inverse_10 : decode cX10_inverse 10 = .ok (.lload 6, 2) := by decide +kernel
theorem dX10_inverse_12 : decode cX10_inverse 12 = .ok (.lconst 0, 1) := by decide +kernel
theorem dX10_inverse_13 : decode cX10_inverse 13 = .ok (.lcmp, 1) := by decide +kernel
theorem dX10_inverse_14 : decode cX10_inverse 14 = .ok (.ifCond .le 45, 3) := by decide +kernel
theorem dX10_inverse_17 : decode cX10_inverse 17 = .ok (.lload 6, 2) := by decide +kernel
theorem dX10_inverse_19 : decode cX10_inverse 19 = .ok (.ldc2_w 339, 3) := by decide +kernel
theorem dX10_inverse_22 : decode cX10_inverse 22 = .ok (.lrem, 1) := by decide +kernel
theorem dX10_inverse_23 : decode cX10_inverse 23 = .ok (.lconst 1, 1) := by decide +kernel
theorem dX10_inverse_24 : decode cX10_inverse 24 = .ok (.lcmp, 1) := by decide +kernel
theorem dX10_inverse_25 : decode cX10_inverse 25 = .ok (.ifCond .ne 12, 3) := by decide +kernel
theorem dX10_inverse_28 : decode cX10_inverse 28 = .ok (.lload_n 2, 1) := by decide +kernel
theorem dX10_inverse_29 : decode cX10_inverse 29 = .ok (.lload 4, 2) := by decide +kernel
theorem dX10_inverse_31 : decode cX10_inverse 31 = .ok (.lmul, 1) := by decide +kernel
theorem dX10_inverse_32 : decode cX10_inverse 32 = .ok (.ldc2_w 371, 3) := by decide +kernel
theorem dX10_inverse_35 : decode cX10_inverse 35 = .ok (.lrem, 1) := by decide +kernel
theorem dX10_inverse_36 : decode cX10_inverse 36 = .ok (.lstore_n 2, 1) := by decide +kernel
theorem dX10_inverse_37 : decode cX10_inverse 37 = .ok (.lload 4, 2) := by decide +kernel
theorem dX10_inverse_39 : decode cX10_inverse 39 = .ok (.lload 4, 2) := by decide +kernel
theorem dX10_inverse_41 : decode cX10_inverse 41 = .ok (.lmul, 1) := by decide +kernel
theorem dX10_inverse_42 : decode cX10_inverse 42 = .ok (.ldc2_w 371, 3) := by decide +kernel
theorem dX10_inverse_45 : decode cX10_inverse 45 = .ok (.lrem, 1) := by decide +kernel
theorem dX10_inverse_46 : decode cX10_inverse 46 = .ok (.lstore 4, 2) := by decide +kernel
theorem dX10_inverse_48 : decode cX10_inverse 48 = .ok (.lload 6, 2) := by decide +kernel
theorem dX10_inverse_50 : decode cX10_inverse 50 = .ok (.ldc2_w 339, 3) := by decide +kernel
theorem dX10_inverse_53 : decode cX10_inverse 53 = .ok (.ldiv, 1) := by decide +kernel
theorem dX10_inverse_54 : decode cX10_inverse 54 = .ok (.lstore 6, 2) := by decide +kernel
theorem dX10_inverse_56 : decode cX10_inverse 56 = .ok (.goto (-46), 3) := by decide +kernel
theorem dX10_inverse_59 : decode cX10_inverse 59 = .ok (.lload_n 2, 1) := by decide +kernel
theorem dX10_inverse_60 : decode cX10_inverse 60 = .ok (.lreturn, 1) := by decide +kernel
theorem dX10_swaps_0 : decode cX10_swaps 0 = .ok (.iconst 0, 1) := by decide +kernel
theorem dX10_swaps_1 : decode cX10_swaps 1 = .ok (.istore_n 3, 1) := by decide +kernel
theorem dX10_swaps_2 : decode cX10_swaps 2 = .ok (.iload_n 3, 1) := by decide +kernel
theorem dX10_swaps_3 : decode cX10_swaps 3 = .ok (.bipush 40, 2) := by decide +kernel
theorem dX10_swaps_5 : decode cX10_swaps 5 = .ok (.if_icmp .ge 57, 3) := by decide +kernel
theorem dX10_swaps_8 : decode cX10_swaps 8 = .ok (.aload_n 0, 1) := by decide +kernel
theorem dX10_swaps_9 : decode cX10_swaps 9 = .ok (.getfield 110, 3) := by decide +kernel
theorem dX10_swaps_12 : decode cX10_swaps 12 = .ok (.bipush 40, 2) := by decide +kernel
theorem dX10_swaps_14 : decode cX10_swaps 14 = .ok (.iload_n 1, 1) := by decide +kernel
theorem dX10_swaps_15 : decode cX10_swaps 15 = .ok (.imul, 1) := by decide +kernel
theorem dX10_swaps_16 : decode cX10_swaps 16 = .ok (.iload_n 3, 1) := by decide +kernel
theorem dX10_swaps_17 : decode cX10_swaps 17 = .ok (.iadd, 1) := by decide +kernel
theorem dX10_swaps_18 : decode cX10_swaps 18 = .ok (.laload, 1) := by decide +kernel
theorem dX10_swaps_19 : decode cX10_swaps 19 = .ok (.lstore 4, 2) := by decide +kernel
theorem dX10_swaps_21 : decode cX10_swaps 21 = .ok (.aload_n 0, 1) := by decide +kernel
theorem dX10_swaps_22 : decode cX10_swaps 22 = .ok (.getfield 110, 3) := by decide +kernel
theorem dX10_swaps_25 : decode cX10_swaps 25 = .ok (.bipush 40, 2) := by decide +kernel
theorem dX10_swaps_27 : decode cX10_swaps 27 = .ok (.iload_n 1, 1) := by decide +kernel
theorem dX10_swaps_28 : decode cX10_swaps 28 = .ok (.imul, 1) := by decide +kernel
theorem dX10_swaps_29 : decode cX10_swaps 29 = .ok (.iload_n 3, 1) := by decide +kernel
theorem dX10_swaps_30 : decode cX10_swaps 30 = .ok (.iadd, 1) := by decide +kernel
theorem dX10_swaps_31 : decode cX10_swaps 31 = .ok (.aload_n 0, 1) := by decide +kernel
theorem dX10_swaps_32 : decode cX10_swaps 32 = .ok (.getfield 110, 3) := by decide +kernel
theorem dX10_swaps_35 : decode cX10_swaps 35 = .ok (.bipush 40, 2) := by decide +kernel
theorem dX10_swaps_37 : decode cX10_swaps 37 = .ok (.iload_n 2, 1) := by decide +kernel
theorem dX10_swaps_38 : decode cX10_swaps 38 = .ok (.imul, 1) := by decide +kernel
theorem dX10_swaps_39 : decode cX10_swaps 39 = .ok (.iload_n 3, 1) := by decide +kernel
theorem dX10_swaps_40 : decode cX10_swaps 40 = .ok (.iadd, 1) := by decide +kernel
theorem dX10_swaps_41 : decode cX10_swaps 41 = .ok (.laload, 1) := by decide +kernel
theorem dX10_swaps_42 : decode cX10_swaps 42 = .ok (.lastore, 1) := by decide +kernel
theorem dX10_swaps_43 : decode cX10_swaps 43 = .ok (.aload_n 0, 1) := by decide +kernel
theorem dX10_swaps_44 : decode cX10_swaps 44 = .ok (.getfield 110, 3) := by decide +kernel
theorem dX10_swaps_47 : decode cX10_swaps 47 = .ok (.bipush 40, 2) := by decide +kernel
theorem dX10_swaps_49 : decode cX10_swaps 49 = .ok (.iload_n 2, 1) := by decide +kernel
theorem dX10_swaps_50 : decode cX10_swaps 50 = .ok (.imul, 1) := by decide +kernel
theorem dX10_swaps_51 : decode cX10_swaps 51 = .ok (.iload_n 3, 1) := by decide +kernel
theorem dX10_swaps_52 : decode cX10_swaps 52 = .ok (.iadd, 1) := by decide +kernel
theorem dX10_swaps_53 : decode cX10_swaps 53 = .ok (.lload 4, 2) := by decide +kernel
theorem dX10_swaps_55 : decode cX10_swaps 55 = .ok (.lastore, 1) := by decide +kernel
theorem dX10_swaps_56 : decode cX10_swaps 56 = .ok (.iinc 3 1, 3) := by decide +kernel
theorem dX10_swaps_59 : decode cX10_swaps 59 = .ok (.goto (-57), 3) := by decide +kernel
theorem dX10_swaps_62 : decode cX10_swaps 62 = .ok (.return_, 1) := by decide +kernel
set_option maxRecDepth 20000 in
theorem ggX10_isSolved_X10_equations : GoodIn wsX10_isSolved wsX10_equations := goodIn_r _ [8, 1, 9, 10, 2, 11, 12, 13, 14, 15, 16, 7, 17, 18, 19, 20, 21, 22, 23, 24, 25, 26, 27, 28, 29, 30, 31, 32, 33, 34, 35, 36, 37, 38, 39, 40, 41, 42, 43, 44, 45, 46, 47, 48, 49, 50, 51, 52, 53, 54, 55, 56, 57, 58, 59, 60, 61, 62, 63, 64, 65, 66, 67, 68, 69, 70, 71, 72, 73, 74, 75, 76, 77, 78, 79, 80, 81, 82, 83, 84, 85, 86, 87, 88, 89, 3, 99, 100, 101, 102, 103, 104, 105, 106, 107, 108, 109, 110, 111, 112, 113, 114, 115, 116, 117, 118, 119, 120, 121, 122, 123, 124, 125, 126, 127, 128, 129, 130, 131, 132, 133, 134, 135, 136, 137, 138, 139, 140, 141, 142, 143, 144, 145, 146, 147, 148, 149, 150, 151, 152, 153, 154, 155] (by decide +kernel) (by decide +kernel)
set_option maxRecDepth 20000 in
theorem gX10_isSolved_X10_equations : GoodIn wsX10_isSolved (wsV RX10 396 RX10 yX10_equations wsX10_equations) := goodIn_app (goodIn_of _ (by decide +kernel)) ggX10_isSolved_X10_equations
set_option maxRecDepth 20000 in
theorem ggX10_isSolved_X10_swaps : GoodIn wsX10_isSolved wsX10_swaps := goodIn_r _ [93, 2, 99, 100, 101, 102, 103, 104, 105, 106, 107, 108, 109, 110, 111, 112, 113, 114, 115, 116, 117, 118, 119, 120, 121, 122, 123, 124, 125, 126, 127, 128, 129, 130, 131, 132, 133, 134, 135, 136, 137, 138, 139, 140, 141, 142, 143, 144, 145, 146, 147, 148, 149, 150, 151, 152, 153, 154, 155] (by decide +kernel) (by decide +kernel)
set_option maxRecDepth 20000 in
theorem gX10_isSolved_X10_swaps : GoodIn wsX10_isSolved (wsV RX10 399 RX10 yX10_swaps wsX10_swaps) := goodIn_app (goodIn_of _ (by decide +kernel)) ggX10_isSolved_X10_swaps
set_option maxRecDepth 20000 in
theorem ggX10_isSolved_X10_inverse : GoodIn wsX10_isSolved wsX10_inverse := goodIn_r _ [96, 97, 98, 3] (by decide +kernel) (by decide +kernel)
set_option maxRecDepth 20000 in
theorem gX10_isSolved_X10_inverse : GoodIn wsX10_isSolved (va_wsS RX10 402 yX10_inverse wsX10_inverse) := goodIn_app (goodIn_of _ (by decide +kernel)) ggX10_isSolved_X10_inverse
set_option maxRecDepth 20000 in
theorem ggX10_isSolved_X10_modulo : GoodIn wsX10_isSolved wsX10_modulo := goodIn_r _ [89, 3] (by decide +kernel) (by decide +kernel)
set_option maxRecDepth 20000 in
theorem gX10_isSolved_X10_modulo : GoodIn wsX10_isSolved (va_wsS RX10 373 yX10_modulo wsX10_modulo) := goodIn_app (goodIn_of _ (by decide +kernel)) ggX10_isSolved_X10_modulo
theorem dX10_isSolved_0 : decode cX10_isSolved 0 = .ok (.aload_n 0, 1) := by decide +kernel
theorem dX10_isSolved_1 : decode cX10_isSolved 1 = .ok (.invokevirtual 396, 3) := by decide +kernel
theorem dX10_isSolved_4 : decode cX10_isSolved 4 = .ok (.iconst 0, 1) := by decide +kernel
theorem dX10_isSolved_5 : decode cX10_isSolved 5 = .ok (.istore_n 1, 1) := by decide +kernel
theorem dX10_isSolved_6 : decode cX10_isSolved 6 = .ok (.iload_n 1, 1) := by decide +kernel
theorem dX10_isSolved_7 : decode cX10_isSolved 7 = .ok (.aload_n 0, 1) := by decide +kernel
theorem dX10_isSolved_8 : decode cX10_isSolved 8 = .ok (.getfield 381, 3) := by decide +kernel
theorem dX10_isSolved_11 : decode cX10_isSolved 11 = .ok (.if_icmp .ge 227, 3) := by decide +kernel
theorem dX10_isSolved_14 : decode cX10_isSolved 14 = .ok (.iload_n 1, 1) := by decide +kernel
theorem dX10_isSolved_15 : decode cX10_isSolved 15 = .ok (.istore_n 2, 1) := by decide +kernel
theorem dX10_isSolved_16 : decode cX10_isSolved 16 = .ok (.iload_n 2, 1) := by decide +kernel
theorem dX10_isSolved_17 : decode cX10_isSolved 17 = .ok (.aload_n 0, 1) := by decide +kernel
theorem dX10_isSolved_18 : decode cX10_isSolved 18 = .ok (.getfield 381, 3) := by decide +kernel
theorem dX10_isSolved_21 : decode cX10_isSolved 21 = .ok (.if_icmp .ge 25, 3) := by decide +kernel
theorem dX10_isSolved_24 : decode cX10_isSolved 24 = .ok (.aload_n 0, 1) := by decide +kernel
theorem dX10_isSolved_25 : decode cX10_isSolved 25 = .ok (.getfield 110, 3) := by decide +kernel
theorem dX10_isSolved_28 : decode cX10_isSolved 28 = .ok (.bipush 40, 2) := by decide +kernel
theorem dX10_isSolved_30 : decode cX10_isSolved 30 = .ok (.iload_n 2, 1) := by decide +kernel
theorem dX10_isSolved_31 : decode cX10_isSolved 31 = .ok (.imul, 1) := by decide +kernel
theorem dX10_isSolved_32 : decode cX10_isSolved 32 = .ok (.iload_n 1, 1) := by decide +kernel
theorem dX10_isSolved_33 : decode cX10_isSolved 33 = .ok (.iadd, 1) := by decide +kernel
theorem dX10_isSolved_34 : decode cX10_isSolved 34 = .ok (.laload, 1) := by decide +kernel
theorem dX10_isSolved_35 : decode cX10_isSolved 35 = .ok (.lconst 0, 1) := by decide +kernel
theorem dX10_isSolved_36 : decode cX10_isSolved 36 = .ok (.lcmp, 1) := by decide +kernel
theorem dX10_isSolved_37 : decode cX10_isSolved 37 = .ok (.ifCond .ne 9, 3) := by decide +kernel
theorem dX10_isSolved_40 : decode cX10_isSolved 40 = .ok (.iinc 2 1, 3) := by decide +kernel
theorem dX10_isSolved_43 : decode cX10_isSolved 43 = .ok (.goto (-27), 3) := by decide +kernel
theorem dX10_isSolved_46 : decode cX10_isSolved 46 = .ok (.iload_n 2, 1) := by decide +kernel
theorem dX10_isSolved_47 : decode cX10_isSolved 47 = .ok (.aload_n 0, 1) := by decide +kernel
theorem dX10_isSolved_48 : decode cX10_isSolved 48 = .ok (.getfield 381, 3) := by decide +kernel
theorem dX10_isSolved_51 : decode cX10_isSolved 51 = .ok (.if_icmp .ne 5, 3) := by decide +kernel
theorem dX10_isSolved_54 : decode cX10_isSolved 54 = .ok (.iconst 0, 1) := by decide +kernel
theorem dX10_isSolved_55 : decode cX10_isSolved 55 = .ok (.ireturn, 1) := by decide +kernel
theorem dX10_isSolved_56 : decode cX10_isSolved 56 = .ok (.aload_n 0, 1) := by decide +kernel
theorem dX10_isSolved_57 : decode cX10_isSolved 57 = .ok (.iload_n 1, 1) := by decide +kernel
theorem dX10_isSolved_58 : decode cX10_isSolved 58 = .ok (.iload_n 2, 1) := by decide +kernel
theorem dX10_isSolved_59 : decode cX10_isSolved 59 = .ok (.invokevirtual 399, 3) := by decide +kernel
theorem dX10_isSolved_62 : decode cX10_isSolved 62 = .ok (.aload_n 0, 1) := by decide +kernel
theorem dX10_isSolved_63 : decode cX10_isSolved 63 = .ok (.getfield 110, 3) := by decide +kernel
theorem dX10_isSolved_66 : decode cX10_isSolved 66 = .ok (.bipush 40, 2) := by decide +kernel
theorem dX10_isSolved_68 : decode cX10_isSolved 68 = .ok (.iload_n 1, 1) := by decide +kernel
theorem dX10_isSolved_69 : decode cX10_isSolved 69 = .ok (.imul, 1) := by decide +kernel
theorem dX10_isSolved_70 : decode cX10_isSolved 70 = .ok (.iload_n 1, 1) := by decide +kernel
theorem dX10_isSolved_71 : decode cX10_isSolved 71 = .ok (.iadd, 1) := by decide +kernel
theorem dX10_isSolved_72 : decode cX10_isSolved 72 = .ok (.laload, 1) := by decide +kernel
theorem dX10_isSolved_73 : decode cX10_isSolved 73 = .ok (.invokestatic 402, 3) := by decide +kernel
theorem dX10_isSolved_76 : decode cX10_isSolved 76 = .ok (.lstore_n 3, 1) := by decide +kernel
theorem dX10_isSolved_77 : decode cX10_isSolved 77 = .ok (.iconst 0, 1) := by decide +kernel
theorem dX10_isSolved_78 : decode cX10_isSolved 78 = .ok (.istore 5, 2) := by decide +kernel
theorem dX10_isSolved_80 : decode cX10_isSolved 80 = .ok (.iload 5, 2) := by decide +kernel
theorem dX10_isSolved_82 : decode cX10_isSolved 82 = .ok (.bipush 40, 2) := by decide +kernel
theorem dX10_isSolved_84 : decode cX10_isSolved 84 = .ok (.if_icmp .ge 39, 3) := by decide +kernel
theorem dX10_isSolved_87 : decode cX10_isSolved 87 = .ok (.aload_n 0, 1) := by decide +kernel
theorem dX10_isSolved_88 : decode cX10_isSolved 88 = .ok (.getfield 110, 3) := by decide +kernel
theorem dX10_isSolved_91 : decode cX10_isSolved 91 = .ok (.bipush 40, 2) := by decide +kernel
theorem dX10_isSolved_93 : decode cX10_isSolved 93 = .ok (.iload_n 1, 1) := by decide +kernel
theorem dX10_isSolved_94 : decode cX10_isSolved 94 = .ok (.imul, 1) := by decide +kernel
theorem dX10_isSolved_95 : decode cX10_isSolved 95 = .ok (.iload 5, 2) := by decide +kernel
theorem dX10_isSolved_97 : decode cX10_isSolved 97 = .ok (.iadd, 1) := by decide +kernel
theorem dX10_isSolved_98 : decode cX10_isSolved 98 = .ok (.aload_n 0, 1) := by decide +kernel
theorem dX10_isSolved_99 : decode cX10_isSolved 99 = .ok (.getfield 110, 3) := by decide +kernel
theorem dX10_isSolved_102 : decode cX10_isSolved 102 = .ok (.bipush 40, 2) := by decide +kernel
theorem dX10_isSolved_104 : decode cX10_isSolved 104 = .ok (.iload_n 1, 1) := by decide +kernel
theorem dX10_isSolved_105 : decode cX10_isSolved 105 = .ok (.imul, 1) := by decide +kernel
theorem dX10_isSolved_106 : decode cX10_isSolved 106 = .ok (.iload 5, 2) := by decide +kernel
theorem dX10_isSolved_108 : decode cX10_isSolved 108 = .ok (.iadd, 1) := by decide +kernel
theorem dX10_isSolved_109 : decode cX10_isSolved 109 = .ok (.laload, 1) := by decide +kernel
theorem dX10_isSolved_110 : decode cX10_isSolved 110 = .ok (.lload_n 3, 1) := by decide +kernel
theorem dX10_isSolved_111 : decode cX10_isSolved 111 = .ok (.lmul, 1) := by decide +kernel
theorem dX10_isSolved_112 : decode cX10_isSolved 112 = .ok (.ldc2_w 371, 3) := by decide +kernel
theorem dX10_isSolved_115 : decode cX10_isSolved 115 = .ok (.lrem, 1) := by decide +kernel
theorem dX10_isSolved_116 : decode cX10_isSolved 116 = .ok (.lastore, 1) := by decide +kernel
theorem dX10_isSolved_117 : decode cX10_isSolved 117 = .ok (.iinc 5 1, 3) := by decide +kernel
theorem dX10_isSolved_120 : decode cX10_isSolved 120 = .ok (.goto (-40), 3) := by decide +kernel
theorem dX10_isSolved_123 : decode cX10_isSolved 123 = .ok (.iconst 0, 1) := by decide +kernel
theorem dX10_isSolved_124 : decode cX10_isSolved 124 = .ok (.istore 5, 2) := by decide +kernel
theorem dX10_isSolved_126 : decode cX10_isSolved 126 = .ok (.iload 5, 2) := by decide +kernel
theorem dX10_isSolved_128 : decode cX10_isSolved 128 = .ok (.aload_n 0, 1) := by decide +kernel
theorem dX10_isSolved_129 : decode cX10_isSolved 129 = .ok (.getfield 381, 3) := by decide +kernel
theorem dX10_isSolved_132 : decode cX10_isSolved 132 = .ok (.if_icmp .ge 100, 3) := by decide +kernel
theorem dX10_isSolved_135 : decode cX10_isSolved 135 = .ok (.aload_n 0, 1) := by decide +kernel
theorem dX10_isSolved_136 : decode cX10_isSolved 136 = .ok (.getfield 110, 3) := by decide +kernel
theorem dX10_isSolved_139 : decode cX10_isSolved 139 = .ok (.bipush 40, 2) := by decide +kernel
theorem dX10_isSolved_141 : decode cX10_isSolved 141 = .ok (.iload 5, 2) := by decide +kernel
theorem dX10_isSolved_143 : decode cX10_isSolved 143 = .ok (.imul, 1) := by decide +kernel
theorem dX10_isSolved_144 : decode cX10_isSolved 144 = .ok (.iload_n 1, 1) := by decide +kernel
theorem dX10_isSolved_145 : decode cX10_isSolved 145 = .ok (.iadd, 1) := by decide +kernel
theorem dX10_isSolved_146 : decode cX10_isSolved 146 = .ok (.laload, 1) := by decide +kernel
theorem dX10_isSolved_147 : decode cX10_isSolved 147 = .ok (.lstore 6, 2) := by decide +kernel
theorem dX10_isSolved_149 : decode cX10_isSolved 149 = .ok (.iload 5, 2) := by decide +kernel
theorem dX10_isSolved_151 : decode cX10_isSolved 151 = .ok (.iload_n 1, 1) := by decide +kernel
theorem dX10_isSolved_152 : decode cX10_isSolved 152 = .ok (.if_icmp .eq 74, 3) := by decide +kernel
theorem dX10_isSolved_155 : decode cX10_isSolved 155 = .ok (.lload 6, 2) := by decide +kernel
theorem dX10_isSolved_157 : decode cX10_isSolved 157 = .ok (.lconst 0, 1) := by decide +kernel
theorem dX10_isSolved_158 : decode cX10_isSolved 158 = .ok (.lcmp, 1) := by decide +kernel
theorem dX10_isSolved_159 : decode cX10_isSolved 159 = .ok (.ifCond .ne 6, 3) := by decide +kernel
theorem dX10_isSolved_162 : decode cX10_isSolved 162 = .ok (.goto 64, 3) := by decide +kernel
theorem dX10_isSolved_165 : decode cX10_isSolved 165 = .ok (.iconst 0, 1) := by decide +kernel
theorem dX10_isSolved_166 : decode cX10_isSolved 166 = .ok (.istore 8, 2) := by decide +kernel
theorem dX10_isSolved_168 : decode cX10_isSolved 168 = .ok (.iload 8, 2) := by decide +kernel
theorem dX10_isSolved_170 : decode cX10_isSolved 170 = .ok (.bipush 40, 2) := by decide +kernel
theorem dX10_isSolved_172 : decode cX10_isSolved 172 = .ok (.if_icmp .ge 54, 3) := by decide +kernel
theorem dX10_isSolved_175 : decode cX10_isSolved 175 = .ok (.aload_n 0, 1) := by decide +kernel
theorem dX10_isSolved_176 : decode cX10_isSolved 176 = .ok (.getfield 110, 3) := by decide +kernel
theorem dX10_isSolved_179 : decode cX10_isSolved 179 = .ok (.bipush 40, 2) := by decide +kernel
theorem dX10_isSolved_181 : decode cX10_isSolved 181 = .ok (.iload 5, 2) := by decide +kernel
theorem dX10_isSolved_183 : decode cX10_isSolved 183 = .ok (.imul, 1) := by decide +kernel
theorem dX10_isSolved_184 : decode cX10_isSolved 184 = .ok (.iload 8, 2) := by decide +kernel
theorem dX10_isSolved_186 : decode cX10_isSolved 186 = .ok (.iadd, 1) := by decide +kernel
theorem dX10_isSolved_187 : decode cX10_isSolved 187 = .ok (.aload_n 0, 1) := by decide +kernel
theorem dX10_isSolved_188 : decode cX10_isSolved 188 = .ok (.getfield 110, 3) := by decide +kernel
theorem dX10_isSolved_191 : decode cX10_isSolved 191 = .ok (.bipush 40, 2) := by decide +kernel
theorem dX10_isSolved_193 : decode cX10_isSolved 193 = .ok (.iload 5, 2) := by decide +kernel
theorem dX10_isSolved_195 : decode cX10_isSolved 195 = .ok (.imul, 1) := by decide +kernel
theorem dX10_isSolved_196 : decode cX10_isSolved 196 = .ok (.iload 8, 2) := by decide +kernel
theorem dX10_isSolved_198 : decode cX10_isSolved 198 = .ok (.iadd, 1) := by decide +kernel
theorem dX10_isSolved_199 : decode cX10_isSolved 199 = .ok (.laload, 1) := by decide +kernel
theorem dX10_isSolved_200 : decode cX10_isSolved 200 = .ok (.lload 6, 2) := by decide +kernel
theorem dX10_isSolved_202 : decode cX10_isSolved 202 = .ok (.aload_n 0, 1) := by decide +kernel
theorem dX10_isSolved_203 : decode cX10_isSolved 203 = .ok (.getfield 110, 3) := by decide +kernel
theorem dX10_isSolved_206 : decode cX10_isSolved 206 = .ok (.bipush 40, 2) := by decide +kernel
theorem dX10_isSolved_208 : decode cX10_isSolved 208 = .ok (.iload_n 1, 1) := by decide +kernel
theorem dX10_isSolved_209 : decode cX10_isSolved 209 = .ok (.imul, 1) := by decide +kernel
theorem dX10_isSolved_210 : decode cX10_isSolved 210 = .ok (.iload 8, 2) := by decide +kernel
theorem dX10_isSolved_212 : decode cX10_isSolved 212 = .ok (.iadd, 1) := by decide +kernel
theorem dX10_isSolved_213 : decode cX10_isSolved 213 = .ok (.laload, 1) := by decide +kernel
theorem dX10_isSolved_214 : decode cX10_isSolved 214 = .ok (.lmul, 1) := by decide +kernel
theorem dX10_isSolved_215 : decode cX10_isSolved 215 = .ok (.lsub, 1) := by decide +kernel
theorem dX10_isSolved_216 : decode cX10_isSolved 216 = .ok (.invokestatic 373, 3) := by decide +kernel
theorem dX10_isSolved_219 : decode cX10_isSolved 219 = .ok (.lastore, 1) := by decide +kernel
theorem dX10_isSolved_220 : decode cX10_isSolved 220 = .ok (.iinc 8 1, 3) := by decide +kernel
theorem dX10_isSolved_223 : decode cX10_isSolved 223 = .ok (.goto (-55), 3) := by decide +kernel
theorem dX10_isSolved_226 : decode cX10_isSolved 226 = .ok (.iinc 5 1, 3) := by decide +kernel
theorem dX10_isSolved_229 : decode cX10_isSolved 229 = .ok (.goto (-103), 3) := by decide +kernel
theorem dX10_isSolved_232 : decode cX10_isSolved 232 = .ok (.iinc 1 1, 3) := by decide +kernel
theorem dX10_isSolved_235 : decode cX10_isSolved 235 = .ok (.goto (-229), 3) := by decide +kernel
theorem dX10_isSolved_238 : decode cX10_isSolved 238 = .ok (.iconst 1, 1) := by decide +kernel
theorem dX10_isSolved_239 : decode cX10_isSolved 239 = .ok (.ireturn, 1) := by decide +kernel
set_option maxRecDepth 20000 in
theorem ggX10_whole_X10_isIn : GoodIn wsX10_whole wsX10_isIn := goodIn_r _ [8] (by decide +kernel) (by decide +kernel)
set_option maxRecDepth 20000 in
theorem gX10_whole_X10_isIn : GoodIn wsX10_whole (va_wsS RX10 183 yX10_isIn wsX10_isIn) := goodIn_app (goodIn_of _ (by decide +kernel)) ggX10_whole_X10_isIn
set_option maxRecDepth 20000 in
theorem ggX10_whole_X10_isControl : GoodIn wsX10_whole wsX10_isControl := goodIn_r _ [12, 13, 14, 106, 107, 108, 109, 110, 111, 112, 113, 114, 115, 116, 117, 118, 119, 120, 121, 122, 123, 124, 125, 126, 127, 128, 129, 130, 131, 132, 133, 134, 135, 136, 137, 138, 139, 140, 141, 142, 143, 144, 145, 146, 147, 148, 149, 150, 151, 152, 153, 154, 155, 156, 157, 158, 159, 160, 161, 162] (by decide +kernel) (by decide +kernel)
set_option maxRecDepth 20000 in
theorem gX10_whole_X10_isControl : GoodIn wsX10_whole (wsV RX10 287 RX10 yX10_isControl wsX10_isControl) := goodIn_app (goodIn_of _ (by decide +kernel)) ggX10_whole_X10_isControl
set_option maxRecDepth 20000 in
theorem ggX10_whole_X10_modulo : GoodIn wsX10_whole wsX10_modulo := goodIn_r _ [17, 18] (by decide +kernel) (by decide +kernel)
set_option maxRecDepth 20000 in
theorem gX10_whole_X10_modulo : GoodIn wsX10_whole (va_wsS RX10 373 yX10_modulo wsX10_modulo) := goodIn_app (goodIn_of _ (by decide +kernel)) ggX10_whole_X10_modulo
set_option maxRecDepth 20000 in
theorem ggX10_whole_X10_isUsed : GoodIn wsX10_whole wsX10_isUsed := goodIn_r _ [22, 23, 24, 25, 26, 7, 27, 28, 29, 30, 31, 2, 32, 33, 34, 35, 36, 37, 38, 39, 40, 41, 42, 43, 44, 45, 46, 47, 48, 49, 50, 51, 52, 53, 54, 55, 106, 107, 108, 109, 110, 111, 112, 113, 114, 115, 116, 117, 118, 119, 120, 121, 122, 123, 124, 125, 126, 127, 128, 129, 130, 131, 132, 133, 134, 135, 136, 137, 138, 139, 140, 141, 142, 143, 144, 145, 146, 147, 148, 149, 150, 151, 152, 153, 154, 155, 156, 157, 158, 159, 160, 161, 162] (by decide +kernel) (by decide +kernel)
set_option maxRecDepth 20000 in
theorem gX10_whole_X10_isUsed : GoodIn wsX10_whole (wsV RX10 384 RX10 yX10_isUsed wsX10_isUsed) := goodIn_app (goodIn_of _ (by decide +kernel)) ggX10_whole_X10_isUsed
set_option maxRecDepth 20000 in
theorem ggX10_whole_X10_isSolved : GoodIn wsX10_whole wsX10_isSolved := goodIn_r _ [59, 60, 4, 18, 61, 62, 63, 7, 64, 2, 65, 23, 3, 66, 28, 29, 30, 31, 67, 68, 69, 70, 9, 10, 11, 12, 13, 14, 19, 20, 21, 22, 24, 25, 26, 27, 32, 33, 34, 35, 36, 37, 38, 39, 40, 41, 42, 43, 44, 45, 46, 47, 48, 49, 50, 51, 52, 53, 54, 55, 71, 72, 73, 74, 75, 76, 77, 78, 79, 80, 81, 82, 83, 84, 85, 86, 87, 88, 89, 90, 91, 92, 93, 94, 95, 96, 97, 15, 16, 17, 98, 99, 100, 101, 102, 103, 104, 105, 1, 106, 107, 108, 109, 110, 111, 112, 113, 114, 115, 116, 117, 118, 119, 120, 121, 122, 123, 124, 125, 126, 127, 128, 129, 130, 131, 132, 133, 134, 135, 136, 137, 138, 139, 140, 141, 142, 143, 144, 145, 146, 147, 148, 149, 150, 151, 152, 153, 154, 155, 156, 157, 158, 159, 160, 161, 162] (by decide +kernel) (by decide +kernel)
set_option maxRecDepth 20000 in
theorem gX10_whole_X10_isSolved : GoodIn wsX10_whole (wsV RX10 405 RX10 yX10_isSolved wsX10_isSolved) := goodIn_app (goodIn_of _ (by decide +kernel)) ggX10_whole_X10_isSolved
set_option maxRecDepth 20000 in
theorem ggX10_whole_X10_numberOf : GoodIn wsX10_whole wsX10_numberOf := goodIn_r _ [74, 60, 65, 106, 107, 108, 109, 110, 111, 112, 113, 114, 115, 116, 117, 118, 119, 120, 121, 122, 123, 124, 125, 126, 127, 128, 129, 130, 131, 132, 133, 134, 135, 136, 137, 138, 139, 140, 141, 142, 143, 144, 145, 146, 147, 148, 149, 150, 151, 152, 153, 154, 155, 156, 157, 158, 159, 160, 161, 162] (by decide +kernel) (by decide +kernel)
set_option maxRecDepth 20000 in
theorem gX10_whole_X10_numberOf : GoodIn wsX10_whole (wsV RX10 387 RX10 yX10_numberOf wsX10_numberOf) := goodIn_app (goodIn_of _ (by decide +kernel)) ggX10_whole_X10_numberOf
theorem dX10_whole_0 : decode cX10_whole 0 = .ok (.iload_n 1, 1) := by decide +kernel
theorem dX10_whole_1 : decode cX10_whole 1 = .ok (.i2l, 1) := by decide +kernel
theorem dX10_whole_2 : decode cX10_whole 2 = .ok (.lconst 0, 1) := by decide +kernel
theorem dX10_whole_3 : decode cX10_whole 3 = .ok (.ldc2_w 339, 3) := by decide +kernel
theorem dX10_whole_6 : decode cX10_whole 6 = .ok (.invokestatic 183, 3) := by decide +kernel
theorem dX10_whole_9 : decode cX10_whole 9 = .ok (.ifCond .eq 51, 3) := by decide +kernel
theorem dX10_whole_12 : decode cX10_whole 12 = .ok (.iload_n 3, 1) := by decide +kernel
theorem dX10_whole_13 : decode cX10_whole 13 = .ok (.i2l, 1) := by decide +kernel
theorem dX10_whole_14 : decode cX10_whole 14 = .ok (.lconst 0, 1) := by decide +kernel
theorem dX10_whole_15 : decode cX10_whole 15 = .ok (.lconst 1, 1) := by decide +kernel
theorem dX10_whole_16 : decode cX10_whole 16 = .ok (.invokestatic 183, 3) := by decide +kernel
theorem dX10_whole_19 : decode cX10_whole 19 = .ok (.ifCond .eq 41, 3) := by decide +kernel
theorem dX10_whole_22 : decode cX10_whole 22 = .ok (.iload_n 2, 1) := by decide +kernel
theorem dX10_whole_23 : decode cX10_whole 23 = .ok (.i2l, 1) := by decide +kernel
theorem dX10_whole_24 : decode cX10_whole 24 = .ok (.lconst 0, 1) := by decide +kernel
theorem dX10_whole_25 : decode cX10_whole 25 = .ok (.aload_n 0, 1) := by decide +kernel
theorem dX10_whole_26 : decode cX10_whole 26 = .ok (.getfield 58, 3) := by decide +kernel
theorem dX10_whole_29 : decode cX10_whole 29 = .ok (.bipush 6, 2) := by decide +kernel
theorem dX10_whole_31 : decode cX10_whole 31 = .ok (.iload_n 1, 1) := by decide +kernel
theorem dX10_whole_32 : decode cX10_whole 32 = .ok (.ifCond .ne 7, 3) := by decide +kernel
theorem dX10_whole_35 : decode cX10_whole 35 = .ok (.iconst 1, 1) := by decide +kernel
theorem dX10_whole_36 : decode cX10_whole 36 = .ok (.goto 13, 3) := by decide +kernel
theorem dX10_whole_39 : decode cX10_whole 39 = .ok (.iload_n 1, 1) := by decide +kernel
theorem dX10_whole_40 : decode cX10_whole 40 = .ok (.iconst 1, 1) := by decide +kernel
theorem dX10_whole_41 : decode cX10_whole 41 = .ok (.if_icmp .ne 7, 3) := by decide +kernel
theorem dX10_whole_44 : decode cX10_whole 44 = .ok (.iconst 2, 1) := by decide +kernel
theorem dX10_whole_45 : decode cX10_whole 45 = .ok (.goto 4, 3) := by decide +kernel
theorem dX10_whole_48 : decode cX10_whole 48 = .ok (.iconst 0, 1) := by decide +kernel
theorem dX10_whole_49 : decode cX10_whole 49 = .ok (.iadd, 1) := by decide +kernel
theorem dX10_whole_50 : decode cX10_whole 50 = .ok (.iaload, 1) := by decide +kernel
theorem dX10_whole_51 : decode cX10_whole 51 = .ok (.iconst 1, 1) := by decide +kernel
theorem dX10_whole_52 : decode cX10_whole 52 = .ok (.isub, 1) := by decide +kernel
theorem dX10_whole_53 : decode cX10_whole 53 = .ok (.i2l, 1) := by decide +kernel
theorem dX10_whole_54 : decode cX10_whole 54 = .ok (.invokestatic 183, 3) := by decide +kernel
theorem dX10_whole_57 : decode cX10_whole 57 = .ok (.ifCond .ne 5, 3) := by decide +kernel
theorem dX10_whole_60 : decode cX10_whole 60 = .ok (.iconst (-1), 1) := by decide +kernel
theorem dX10_whole_61 : decode cX10_whole 61 = .ok (.ireturn, 1) := by decide +kernel
theorem dX10_whole_62 : decode cX10_whole 62 = .ok (.iload_n 1, 1) := by decide +kernel
theorem dX10_whole_63 : decode cX10_whole 63 = .ok (.iconst 1, 1) := by decide +kernel
theorem dX10_whole_64 : decode cX10_whole 64 = .ok (.if_icmp .ne 33, 3) := by decide +kernel
theorem dX10_whole_67 : decode cX10_whole 67 = .ok (.aload_n 0, 1) := by decide +kernel
theorem dX10_whole_68 : decode cX10_whole 68 = .ok (.iload_n 2, 1) := by decide +kernel
theorem dX10_whole_69 : decode cX10_whole 69 = .ok (.invokevirtual 287, 3) := by decide +kernel
theorem dX10_whole_72 : decode cX10_whole 72 = .ok (.ifCond .eq 25, 3) := by decide +kernel
theorem dX10_whole_75 : decode cX10_whole 75 = .ok (.bipush 100, 2) := by decide +kernel
theorem dX10_whole_77 : decode cX10_whole 77 = .ok (.aload_n 0, 1) := by decide +kernel
theorem dX10_whole_78 : decode cX10_whole 78 = .ok (.getfield 76, 3) := by decide +kernel
theorem dX10_whole_81 : decode cX10_whole 81 = .ok (.bipush 40, 2) := by decide +kernel
theorem dX10_whole_83 : decode cX10_whole 83 = .ok (.iconst 2, 1) := by decide +kernel
theorem dX10_whole_84 : decode cX10_whole 84 = .ok (.iload_n 2, 1) := by decide +kernel
theorem dX10_whole_85 : decode cX10_whole 85 = .ok (.imul, 1) := by decide +kernel
theorem dX10_whole_86 : decode cX10_whole 86 = .ok (.iadd, 1) := by decide +kernel
theorem dX10_whole_87 : decode cX10_whole 87 = .ok (.iload_n 3, 1) := by decide +kernel
theorem dX10_whole_88 : decode cX10_whole 88 = .ok (.iadd, 1) := by decide +kernel
theorem dX10_whole_89 : decode cX10_whole 89 = .ok (.iaload, 1) := by decide +kernel
theorem dX10_whole_90 : decode cX10_whole 90 = .ok (.imul, 1) := by decide +kernel
theorem dX10_whole_91 : decode cX10_whole 91 = .ok (.i2l, 1) := by decide +kernel
theorem dX10_whole_92 : decode cX10_whole 92 = .ok (.invokestatic 373, 3) := by decide +kernel
theorem dX10_whole_95 : decode cX10_whole 95 = .ok (.l2i, 1) := by decide +kernel
theorem dX10_whole_96 : decode cX10_whole 96 = .ok (.ireturn, 1) := by decide +kernel
theorem dX10_whole_97 : decode cX10_whole 97 = .ok (.iload_n 2, 1) := by decide +kernel
theorem dX10_whole_98 : decode cX10_whole 98 = .ok (.iload_n 1, 1) := by decide +kernel
theorem dX10_whole_99 : decode cX10_whole 99 = .ok (.ifCond .ne 7, 3) := by decide +kernel
theorem dX10_whole_102 : decode cX10_whole 102 = .ok (.iconst 0, 1) := by decide +kernel
theorem dX10_whole_103 : decode cX10_whole 103 = .ok (.goto 15, 3) := by decide +kernel
theorem dX10_whole_106 : decode cX10_whole 106 = .ok (.iload_n 1, 1) := by decide +kernel
theorem dX10_whole_107 : decode cX10_whole 107 = .ok (.iconst 1, 1) := by decide +kernel
theorem dX10_whole_108 : decode cX10_whole 108 = .ok (.if_icmp .ne 8, 3) := by decide +kernel
theorem dX10_whole_111 : decode cX10_whole 111 = .ok (.bipush 12, 2) := by decide +kernel
theorem dX10_whole_113 : decode cX10_whole 113 = .ok (.goto 5, 3) := by decide +kernel
theorem dX10_whole_116 : decode cX10_whole 116 = .ok (.bipush 32, 2) := by decide +kernel
theorem dX10_whole_118 : decode cX10_whole 118 = .ok (.iadd, 1) := by decide +kernel
theorem dX10_whole_119 : decode cX10_whole 119 = .ok (.istore 4, 2) := by decide +kernel
theorem dX10_whole_121 : decode cX10_whole 121 = .ok (.aload_n 0, 1) := by decide +kernel
theorem dX10_whole_122 : decode cX10_whole 122 = .ok (.iload 4, 2) := by decide +kernel
theorem dX10_whole_124 : decode cX10_whole 124 = .ok (.invokevirtual 384, 3) := by decide +kernel
theorem dX10_whole_127 : decode cX10_whole 127 = .ok (.ifCond .eq 10, 3) := by decide +kernel
theorem dX10_whole_130 : decode cX10_whole 130 = .ok (.aload_n 0, 1) := by decide +kernel
theorem dX10_whole_131 : decode cX10_whole 131 = .ok (.invokevirtual 405, 3) := by decide +kernel
theorem dX10_whole_134 : decode cX10_whole 134 = .ok (.ifCond .ne 5, 3) := by decide +kernel
theorem dX10_whole_137 : decode cX10_whole 137 = .ok (.iconst (-1), 1) := by decide +kernel
theorem dX10_whole_138 : decode cX10_whole 138 = .ok (.ireturn, 1) := by decide +kernel
theorem dX10_whole_139 : decode cX10_whole 139 = .ok (.aload_n 0, 1) := by decide +kernel
theorem dX10_whole_140 : decode cX10_whole 140 = .ok (.getfield 110, 3) := by decide +kernel
theorem dX10_whole_143 : decode cX10_whole 143 = .ok (.bipush 40, 2) := by decide +kernel
theorem dX10_whole_145 : decode cX10_whole 145 = .ok (.aload_n 0, 1) := by decide +kernel
theorem dX10_whole_146 : decode cX10_whole 146 = .ok (.iload 4, 2) := by decide +kernel
theorem dX10_whole_148 : decode cX10_whole 148 = .ok (.invokevirtual 387, 3) := by decide +kernel
theorem dX10_whole_151 : decode cX10_whole 151 = .ok (.imul, 1) := by decide +kernel
theorem dX10_whole_152 : decode cX10_whole 152 = .ok (.bipush 38, 2) := by decide +kernel
theorem dX10_whole_154 : decode cX10_whole 154 = .ok (.iadd, 1) := by decide +kernel
theorem dX10_whole_155 : decode cX10_whole 155 = .ok (.iload_n 3, 1) := by decide +kernel
theorem dX10_whole_156 : decode cX10_whole 156 = .ok (.iadd, 1) := by decide +kernel
theorem dX10_whole_157 : decode cX10_whole 157 = .ok (.laload, 1) := by decide +kernel
theorem dX10_whole_158 : decode cX10_whole 158 = .ok (.l2i, 1) := by decide +kernel
theorem dX10_whole_159 : decode cX10_whole 159 = .ok (.ireturn, 1) := by decide +kernel
set_option maxRecDepth 20000 in
theorem ggX10_sets_X10_isIn : GoodIn wsX10_sets wsX10_isIn := goodIn_r _ [6] (by decide +kernel) (by decide +kernel)
set_option maxRecDepth 20000 in
theorem gX10_sets_X10_isIn : GoodIn wsX10_sets (va_wsS RX10 183 yX10_isIn wsX10_isIn) := goodIn_app (goodIn_of _ (by decide +kernel)) ggX10_sets_X10_isIn
set_option maxRecDepth 20000 in
theorem ggX10_sets_X10_standControls : GoodIn wsX10_sets wsX10_standControls := goodIn_r _ [10, 11, 12, 13, 14, 15, 5, 16, 17, 18, 19, 20, 21, 22, 2, 27, 28, 29, 30, 31, 32, 33, 34, 35, 36, 37, 38, 39, 40, 41, 42, 43, 44, 45, 46, 47, 48, 49, 50, 51, 52, 53, 54, 55, 56, 57, 58, 59, 60, 61, 62, 63, 64, 65, 66, 67, 68, 69, 70, 71, 72, 73, 74, 75, 76, 77, 78, 79, 80, 81, 82, 83] (by decide +kernel) (by decide +kernel)
set_option maxRecDepth 20000 in
theorem gX10_sets_X10_standControls : GoodIn wsX10_sets (wsV RX10 319 RX10 yX10_standControls wsX10_standControls) := goodIn_app (goodIn_of _ (by decide +kernel)) ggX10_sets_X10_standControls
set_option maxRecDepth 20000 in
theorem ggX10_sets_X10_controls : GoodIn wsX10_sets wsX10_controls := goodIn_r _ [26, 13, 14, 15, 5, 16, 17, 18, 19, 20, 21, 22, 2, 27, 28, 29, 30, 31, 32, 33, 34, 35, 36, 37, 38, 39, 40, 41, 42, 43, 44, 45, 46, 47, 48, 49, 50, 51, 52, 53, 54, 55, 56, 57, 58, 59, 60, 61, 62, 63, 64, 65, 66, 67, 68, 69, 70, 71, 72, 73, 74, 75, 76, 77, 78, 79, 80, 81, 82, 83] (by decide +kernel) (by decide +kernel)
set_option maxRecDepth 20000 in
theorem gX10_sets_X10_controls : GoodIn wsX10_sets (wsV RX10 410 RX10 yX10_controls wsX10_controls) := goodIn_app (goodIn_of _ (by decide +kernel)) ggX10_sets_X10_controls
theorem dX10_sets_0 : decode cX10_sets 0 = .ok (.iload_n 1, 1) := by decide +kernel
theorem dX10_sets_1 : decode cX10_sets 1 = .ok (.i2l, 1) := by decide +kernel
theorem dX10_sets_2 : decode cX10_sets 2 = .ok (.lconst 0, 1) := by decide +kernel
theorem dX10_sets_3 : decode cX10_sets 3 = .ok (.ldc2_w 408, 3) := by decide +kernel
theorem dX10_sets_6 : decode cX10_sets 6 = .ok (.invokestatic 183, 3) := by decide +kernel
theorem dX10_sets_9 : decode cX10_sets 9 = .ok (.ifCond .ne 5, 3) := by decide +kernel
theorem dX10_sets_12 : decode cX10_sets 12 = .ok (.iconst (-1), 1) := by decide +kernel
theorem dX10_sets_13 : decode cX10_sets 13 = .ok (.ireturn, 1) := by decide +kernel
theorem dX10_sets_14 : decode cX10_sets 14 = .ok (.aload_n 0, 1) := by decide +kernel
theorem dX10_sets_15 : decode cX10_sets 15 = .ok (.iload_n 1, 1) := by decide +kernel
theorem dX10_sets_16 : decode cX10_sets 16 = .ok (.putfield 95, 3) := by decide +kernel
theorem dX10_sets_19 : decode cX10_sets 19 = .ok (.aload_n 0, 1) := by decide +kernel
theorem dX10_sets_20 : decode cX10_sets 20 = .ok (.invokevirtual 319, 3) := by decide +kernel
theorem dX10_sets_23 : decode cX10_sets 23 = .ok (.aload_n 0, 1) := by decide +kernel
theorem dX10_sets_24 : decode cX10_sets 24 = .ok (.invokevirtual 410, 3) := by decide +kernel
theorem dX10_sets_27 : decode cX10_sets 27 = .ok (.ireturn, 1) := by decide +kernel
set_option maxRecDepth 20000 in
theorem ggX10_controls_X10_points : GoodIn wsX10_controls wsX10_points := goodIn_r _ [5, 6, 13, 14, 15, 16, 17, 18, 19, 20, 21, 22, 23, 24, 25, 26, 27, 28, 29, 30, 31, 32, 33, 34, 35, 36, 37, 38, 39, 40, 41, 42, 43, 44, 45, 46, 47, 48, 49, 50, 51, 52, 53, 54, 55, 56, 57, 58, 59, 60, 61, 62, 63, 64, 65, 66, 67, 68, 69] (by decide +kernel) (by decide +kernel)
set_option maxRecDepth 20000 in
theorem gX10_controls_X10_points : GoodIn wsX10_controls (wsV RX10 262 RX10 yX10_points wsX10_points) := goodIn_app (goodIn_of _ (by decide +kernel)) ggX10_controls_X10_points
set_option maxRecDepth 20000 in
theorem ggX10_controls_X10_isControl : GoodIn wsX10_controls wsX10_isControl := goodIn_r _ [10, 11, 12, 13, 14, 15, 16, 17, 18, 19, 20, 21, 22, 23, 24, 25, 26, 27, 28, 29, 30, 31, 32, 33, 34, 35, 36, 37, 38, 39, 40, 41, 42, 43, 44, 45, 46, 47, 48, 49, 50, 51, 52, 53, 54, 55, 56, 57, 58, 59, 60, 61, 62, 63, 64, 65, 66, 67, 68, 69] (by decide +kernel) (by decide +kernel)
set_option maxRecDepth 20000 in
theorem gX10_controls_X10_isControl : GoodIn wsX10_controls (wsV RX10 287 RX10 yX10_isControl wsX10_isControl) := goodIn_app (goodIn_of _ (by decide +kernel)) ggX10_controls_X10_isControl
theorem dX10_controls_0 : decode cX10_controls 0 = .ok (.iconst 0, 1) := by decide +kernel
theorem dX10_controls_1 : decode cX10_controls 1 = .ok (.istore_n 1, 1) := by decide +kernel
theorem dX10_controls_2 : decode cX10_controls 2 = .ok (.iconst 0, 1) := by decide +kernel
theorem dX10_controls_3 : decode cX10_controls 3 = .ok (.istore_n 2, 1) := by decide +kernel
theorem dX10_controls_4 : decode cX10_controls 4 = .ok (.iload_n 2, 1) := by decide +kernel
theorem dX10_controls_5 : decode cX10_controls 5 = .ok (.aload_n 0, 1) := by decide +kernel
theorem dX10_controls_6 : decode cX10_controls 6 = .ok (.invokevirtual 262, 3) := by decide +kernel
theorem dX10_controls_9 : decode cX10_controls 9 = .ok (.if_icmp .ge 20, 3) := by decide +kernel
theorem dX10_controls_12 : decode cX10_controls 12 = .ok (.aload_n 0, 1) := by decide +kernel
theorem dX10_controls_13 : decode cX10_controls 13 = .ok (.iload_n 2, 1) := by decide +kernel
theorem dX10_controls_14 : decode cX10_controls 14 = .ok (.invokevirtual 287, 3) := by decide +kernel
theorem dX10_controls_17 : decode cX10_controls 17 = .ok (.ifCond .eq 6, 3) := by decide +kernel
theorem dX10_controls_20 : decode cX10_controls 20 = .ok (.iinc 1 1, 3) := by decide +kernel
theorem dX10_controls_23 : decode cX10_controls 23 = .ok (.iinc 2 1, 3) := by decide +kernel
theorem dX10_controls_26 : decode cX10_controls 26 = .ok (.goto (-22), 3) := by decide +kernel
theorem dX10_controls_29 : decode cX10_controls 29 = .ok (.iload_n 1, 1) := by decide +kernel
theorem dX10_controls_30 : decode cX10_controls 30 = .ok (.ireturn, 1) := by decide +kernel
set_option maxRecDepth 20000 in
theorem ggX10_dropped_X10_rows : GoodIn wsX10_dropped wsX10_rows := goodIn_r _ [6, 7, 8, 9, 10, 11, 12, 13, 14, 15, 16, 17, 18, 19, 20, 21, 22, 23, 24, 25, 26, 27, 28, 29, 30, 31, 32, 33, 34, 35, 36, 37, 38, 39, 40, 41, 42, 43, 44, 45, 46, 47, 48, 49, 50, 51, 52, 53, 54, 55, 56, 57, 58, 59, 60, 61, 62, 63, 64] (by decide +kernel) (by decide +kernel)
set_option maxRecDepth 20000 in
theorem gX10_dropped_X10_rows : GoodIn wsX10_dropped (wsV RX10 265 RX10 yX10_rows wsX10_rows) := goodIn_app (goodIn_of _ (by decide +kernel)) ggX10_dropped_X10_rows
theorem dX10_dropped_0 : decode cX10_dropped 0 = .ok (.iconst 0, 1) := by decide +kernel
theorem dX10_dropped_1 : decode cX10_dropped 1 = .ok (.istore_n 1, 1) := by decide +kernel
theorem dX10_dropped_2 : decode cX10_dropped 2 = .ok (.iconst 0, 1) := by decide +kernel
theorem dX10_dropped_3 : decode cX10_dropped 3 = .ok (.istore_n 2, 1) := by decide +kernel
theorem dX10_dropped_4 : decode cX10_dropped 4 = .ok (.iload_n 2, 1) := by decide +kernel
theorem dX10_dropped_5 : decode cX10_dropped 5 = .ok (.aload_n 0, 1) := by decide +kernel
theorem dX10_dropped_6 : decode cX10_dropped 6 = .ok (.invokevirtual 265, 3) := by decide +kernel
theorem dX10_dropped_9 : decode cX10_dropped 9 = .ok (.if_icmp .ge 21, 3) := by decide +kernel
theorem dX10_dropped_12 : decode cX10_dropped 12 = .ok (.aload_n 0, 1) := by decide +kernel
theorem dX10_dropped_13 : decode cX10_dropped 13 = .ok (.getfield 91, 3) := by decide +kernel
theorem dX10_dropped_16 : decode cX10_dropped 16 = .ok (.iload_n 2, 1) := by decide +kernel
theorem dX10_dropped_17 : decode cX10_dropped 17 = .ok (.baload, 1) := by decide +kernel
theorem dX10_dropped_18 : decode cX10_dropped 18 = .ok (.ifCond .eq 6, 3) := by decide +kernel
theorem dX10_dropped_21 : decode cX10_dropped 21 = .ok (.iinc 1 1, 3) := by decide +kernel
theorem dX10_dropped_24 : decode cX10_dropped 24 = .ok (.iinc 2 1, 3) := by decide +kernel
theorem dX10_dropped_27 : decode cX10_dropped 27 = .ok (.goto (-23), 3) := by decide +kernel
theorem dX10_dropped_30 : decode cX10_dropped 30 = .ok (.iload_n 1, 1) := by decide +kernel
theorem dX10_dropped_31 : decode cX10_dropped 31 = .ok (.ireturn, 1) := by decide +kernel
set_option maxRecDepth 20000 in
theorem ggX10_has_X10_dropped : GoodIn wsX10_has wsX10_dropped := goodIn_r _ [7, 8, 9, 10, 11, 6, 12, 1, 26, 27, 28, 29, 30, 31, 32, 33, 34, 35, 36, 37, 38, 39, 40, 41, 42, 43, 44, 45, 46, 47, 48, 49, 50, 51, 52, 53, 54, 55, 56, 57, 58, 59, 60, 61, 62, 63, 64, 65, 66, 67, 68, 69, 70, 71, 72, 73, 74, 75, 76, 77, 78, 79, 80, 81, 82] (by decide +kernel) (by decide +kernel)
set_option maxRecDepth 20000 in
theorem gX10_has_X10_dropped : GoodIn wsX10_has (wsV RX10 413 RX10 yX10_dropped wsX10_dropped) := goodIn_app (goodIn_of _ (by decide +kernel)) ggX10_has_X10_dropped
set_option maxRecDepth 20000 in
theorem ggX10_has_X10_controls : GoodIn wsX10_has wsX10_controls := goodIn_r _ [16, 17, 18, 19, 6, 20, 1, 21, 22, 23, 24, 25, 2, 26, 27, 28, 29, 30, 31, 32, 33, 34, 35, 36, 37, 38, 39, 40, 41, 42, 43, 44, 45, 46, 47, 48, 49, 50, 51, 52, 53, 54, 55, 56, 57, 58, 59, 60, 61, 62, 63, 64, 65, 66, 67, 68, 69, 70, 71, 72, 73, 74, 75, 76, 77, 78, 79, 80, 81, 82] (by decide +kernel) (by decide +kernel)
set_option maxRecDepth 20000 in
theorem gX10_has_X10_controls : GoodIn wsX10_has (wsV RX10 410 RX10 yX10_controls wsX10_controls) := goodIn_app (goodIn_of _ (by decide +kernel)) ggX10_has_X10_controls
theorem dX10_has_0 : decode cX10_has 0 = .ok (.iload_n 1, 1) := by decide +kernel
theorem dX10_has_1 : decode cX10_has 1 = .ok (.tableswitch 76 0 8 #[51, 51, 51, 51, 51, 51, 61, 66, 71], 51) := by decide +kernel
theorem dX10_has_52 : decode cX10_has 52 = .ok (.aload_n 0, 1) := by decide +kernel
theorem dX10_has_53 : decode cX10_has 53 = .ok (.getfield 58, 3) := by decide +kernel
theorem dX10_has_56 : decode cX10_has 56 = .ok (.bipush 6, 2) := by decide +kernel
theorem dX10_has_58 : decode cX10_has 58 = .ok (.iload_n 1, 1) := by decide +kernel
theorem dX10_has_59 : decode cX10_has 59 = .ok (.iadd, 1) := by decide +kernel
theorem dX10_has_60 : decode cX10_has 60 = .ok (.iaload, 1) := by decide +kernel
theorem dX10_has_61 : decode cX10_has 61 = .ok (.ireturn, 1) := by decide +kernel
theorem dX10_has_62 : decode cX10_has 62 = .ok (.aload_n 0, 1) := by decide +kernel
theorem dX10_has_63 : decode cX10_has 63 = .ok (.invokevirtual 413, 3) := by decide +kernel
theorem dX10_has_66 : decode cX10_has 66 = .ok (.ireturn, 1) := by decide +kernel
theorem dX10_has_67 : decode cX10_has 67 = .ok (.aload_n 0, 1) := by decide +kernel
theorem dX10_has_68 : decode cX10_has 68 = .ok (.getfield 95, 3) := by decide +kernel
theorem dX10_has_71 : decode cX10_has 71 = .ok (.ireturn, 1) := by decide +kernel
theorem dX10_has_72 : decode cX10_has 72 = .ok (.aload_n 0, 1) := by decide +kernel
theorem dX10_has_73 : decode cX10_has 73 = .ok (.invokevirtual 410, 3) := by decide +kernel
theorem dX10_has_76 : decode cX10_has 76 = .ok (.ireturn, 1) := by decide +kernel
theorem dX10_has_77 : decode cX10_has 77 = .ok (.iconst (-1), 1) := by decide +kernel
theorem dX10_has_78 : decode cX10_has 78 = .ok (.ireturn, 1) := by decide +kernel
set_option maxRecDepth 20000 in
theorem ggX10_letter_X10_isIn : GoodIn wsX10_letter wsX10_isIn := goodIn_r _ [9] (by decide +kernel) (by decide +kernel)
set_option maxRecDepth 20000 in
theorem gX10_letter_X10_isIn : GoodIn wsX10_letter (va_wsS RX10 183 yX10_isIn wsX10_isIn) := goodIn_app (goodIn_of _ (by decide +kernel)) ggX10_letter_X10_isIn
theorem dX10_letter_0 : decode cX10_letter 0 = .ok (.iload_n 1, 1) := by decide +kernel
theorem dX10_letter_1 : decode cX10_letter 1 = .ok (.i2l, 1) := by decide +kernel
theorem dX10_letter_2 : decode cX10_letter 2 = .ok (.lconst 0, 1) := by decide +kernel
theorem dX10_letter_3 : decode cX10_letter 3 = .ok (.ldc2_w 339, 3) := by decide +kernel
theorem dX10_letter_6 : decode cX10_letter 6 = .ok (.invokestatic 183, 3) := by decide +kernel
theorem dX10_letter_9 : decode cX10_letter 9 = .ok (.ifCond .eq 36, 3) := by decide +kernel
theorem dX10_letter_12 : decode cX10_letter 12 = .ok (.iload_n 2, 1) := by decide +kernel
theorem dX10_letter_13 : decode cX10_letter 13 = .ok (.i2l, 1) := by decide +kernel
theorem dX10_letter_14 : decode cX10_letter 14 = .ok (.lconst 0, 1) := by decide +kernel
theorem dX10_letter_15 : decode cX10_letter 15 = .ok (.aload_n 0, 1) := by decide +kernel
theorem dX10_letter_16 : decode cX10_letter 16 = .ok (.getfield 58, 3) := by decide +kernel
theorem dX10_letter_19 : decode cX10_letter 19 = .ok (.bipush 6, 2) := by decide +kernel
theorem dX10_letter_21 : decode cX10_letter 21 = .ok (.iload_n 1, 1) := by decide +kernel
theorem dX10_letter_22 : decode cX10_letter 22 = .ok (.iadd, 1) := by decide +kernel
theorem dX10_letter_23 : decode cX10_letter 23 = .ok (.iaload, 1) := by decide +kernel
theorem dX10_letter_24 : decode cX10_letter 24 = .ok (.iconst 1, 1) := by decide +kernel
theorem dX10_letter_25 : decode cX10_letter 25 = .ok (.isub, 1) := by decide +kernel
theorem dX10_letter_26 : decode cX10_letter 26 = .ok (.i2l, 1) := by decide +kernel
theorem dX10_letter_27 : decode cX10_letter 27 = .ok (.invokestatic 183, 3) := by decide +kernel
theorem dX10_letter_30 : decode cX10_letter 30 = .ok (.ifCond .eq 15, 3) := by decide +kernel
theorem dX10_letter_33 : decode cX10_letter 33 = .ok (.iload_n 3, 1) := by decide +kernel
theorem dX10_letter_34 : decode cX10_letter 34 = .ok (.i2l, 1) := by decide +kernel
theorem dX10_letter_35 : decode cX10_letter 35 = .ok (.lconst 0, 1) := by decide +kernel
theorem dX10_letter_36 : decode cX10_letter 36 = .ok (.ldc2_w 416, 3) := by decide +kernel
theorem dX10_letter_39 : decode cX10_letter 39 = .ok (.invokestatic 183, 3) := by decide +kernel
theorem dX10_letter_42 : decode cX10_letter 42 = .ok (.ifCond .ne 5, 3) := by decide +kernel
theorem dX10_letter_45 : decode cX10_letter 45 = .ok (.iconst (-1), 1) := by decide +kernel
theorem dX10_letter_46 : decode cX10_letter 46 = .ok (.ireturn, 1) := by decide +kernel
theorem dX10_letter_47 : decode cX10_letter 47 = .ok (.aload_n 0, 1) := by decide +kernel
theorem dX10_letter_48 : decode cX10_letter 48 = .ok (.getfield 54, 3) := by decide +kernel
theorem dX10_letter_51 : decode cX10_letter 51 = .ok (.bipush 60, 2) := by decide +kernel
theorem dX10_letter_53 : decode cX10_letter 53 = .ok (.bipush 20, 2) := by decide +kernel
theorem dX10_letter_55 : decode cX10_letter 55 = .ok (.iload_n 1, 1) := by decide +kernel
theorem dX10_letter_56 : decode cX10_letter 56 = .ok (.imul, 1) := by decide +kernel
theorem dX10_letter_57 : decode cX10_letter 57 = .ok (.iadd, 1) := by decide +kernel
theorem dX10_letter_58 : decode cX10_letter 58 = .ok (.iload_n 2, 1) := by decide +kernel
theorem dX10_letter_59 : decode cX10_letter 59 = .ok (.iadd, 1) := by decide +kernel
theorem dX10_letter_60 : decode cX10_letter 60 = .ok (.laload, 1) := by decide +kernel
theorem dX10_letter_61 : decode cX10_letter 61 = .ok (.lstore 4, 2) := by decide +kernel
theorem dX10_letter_63 : decode cX10_letter 63 = .ok (.iconst 0, 1) := by decide +kernel
theorem dX10_letter_64 : decode cX10_letter 64 = .ok (.istore 6, 2) := by decide +kernel
theorem dX10_letter_66 : decode cX10_letter 66 = .ok (.lload 4, 2) := by decide +kernel
theorem dX10_letter_68 : decode cX10_letter 68 = .ok (.lstore 7, 2) := by decide +kernel
theorem dX10_letter_70 : decode cX10_letter 70 = .ok (.lload 7, 2) := by decide +kernel
theorem dX10_letter_72 : decode cX10_letter 72 = .ok (.lconst 0, 1) := by decide +kernel
theorem dX10_letter_73 : decode cX10_letter 73 = .ok (.lcmp, 1) := by decide +kernel
theorem dX10_letter_74 : decode cX10_letter 74 = .ok (.ifCond .le 17, 3) := by decide +kernel
theorem dX10_letter_77 : decode cX10_letter 77 = .ok (.iinc 6 1, 3) := by decide +kernel
theorem dX10_letter_80 : decode cX10_letter 80 = .ok (.lload 7, 2) := by decide +kernel
theorem dX10_letter_82 : decode cX10_letter 82 = .ok (.ldc2_w 194, 3) := by decide +kernel
theorem dX10_letter_85 : decode cX10_letter 85 = .ok (.ldiv, 1) := by decide +kernel
theorem dX10_letter_86 : decode cX10_letter 86 = .ok (.lstore 7, 2) := by decide +kernel
theorem dX10_letter_88 : decode cX10_letter 88 = .ok (.goto (-18), 3) := by decide +kernel
theorem dX10_letter_91 : decode cX10_letter 91 = .ok (.iload_n 3, 1) := by decide +kernel
theorem dX10_letter_92 : decode cX10_letter 92 = .ok (.iload 6, 2) := by decide +kernel
theorem dX10_letter_94 : decode cX10_letter 94 = .ok (.if_icmp .lt 5, 3) := by decide +kernel
theorem dX10_letter_97 : decode cX10_letter 97 = .ok (.iconst 0, 1) := by decide +kernel
theorem dX10_letter_98 : decode cX10_letter 98 = .ok (.ireturn, 1) := by decide +kernel
theorem dX10_letter_99 : decode cX10_letter 99 = .ok (.iload 6, 2) := by decide +kernel
theorem dX10_letter_101 : decode cX10_letter 101 = .ok (.iconst 1, 1) := by decide +kernel
theorem dX10_letter_102 : decode cX10_letter 102 = .ok (.isub, 1) := by decide +kernel
theorem dX10_letter_103 : decode cX10_letter 103 = .ok (.istore 7, 2) := by decide +kernel
theorem dX10_letter_105 : decode cX10_letter 105 = .ok (.iload 7, 2) := by decide +kernel
theorem dX10_letter_107 : decode cX10_letter 107 = .ok (.iload_n 3, 1) := by decide +kernel
theorem dX10_letter_108 : decode cX10_letter 108 = .ok (.if_icmp .le 17, 3) := by decide +kernel
theorem dX10_letter_111 : decode cX10_letter 111 = .ok (.lload 4, 2) := by decide +kernel
theorem dX10_letter_113 : decode cX10_letter 113 = .ok (.ldc2_w 194, 3) := by decide +kernel
theorem dX10_letter_116 : decode cX10_letter 116 = .ok (.ldiv, 1) := by decide +kernel
theorem dX10_letter_117 : decode cX10_letter 117 = .ok (.lstore 4, 2) := by decide +kernel
theorem dX10_letter_119 : decode cX10_letter 119 = .ok (.iinc 7 (-1), 3) := by decide +kernel
theorem dX10_letter_122 : decode cX10_letter 122 = .ok (.goto (-17), 3) := by decide +kernel
theorem dX10_letter_125 : decode cX10_letter 125 = .ok (.lload 4, 2) := by decide +kernel
theorem dX10_letter_127 : decode cX10_letter 127 = .ok (.ldc2_w 194, 3) := by decide +kernel
theorem dX10_letter_130 : decode cX10_letter 130 = .ok (.lrem, 1) := by decide +kernel
theorem dX10_letter_131 : decode cX10_letter 131 = .ok (.l2i, 1) := by decide +kernel
theorem dX10_letter_132 : decode cX10_letter 132 = .ok (.ireturn, 1) := by decide +kernel
theorem dX10_joins_0 : decode cX10_joins 0 = .ok (.aload_n 0, 1) := by decide +kernel
theorem dX10_joins_1 : decode cX10_joins 1 = .ok (.getfield 113, 3) := by decide +kernel
theorem dX10_joins_4 : decode cX10_joins 4 = .ok (.iload_n 1, 1) := by decide +kernel
theorem dX10_joins_5 : decode cX10_joins 5 = .ok (.iaload, 1) := by decide +kernel
theorem dX10_joins_6 : decode cX10_joins 6 = .ok (.istore_n 3, 1) := by decide +kernel
theorem dX10_joins_7 : decode cX10_joins 7 = .ok (.aload_n 0, 1) := by decide +kernel
theorem dX10_joins_8 : decode cX10_joins 8 = .ok (.getfield 113, 3) := by decide +kernel
theorem dX10_joins_11 : decode cX10_joins 11 = .ok (.iload_n 2, 1) := by decide +kernel
theorem dX10_joins_12 : decode cX10_joins 12 = .ok (.iaload, 1) := by decide +kernel
theorem dX10_joins_13 : decode cX10_joins 13 = .ok (.istore 4, 2) := by decide +kernel
theorem dX10_joins_15 : decode cX10_joins 15 = .ok (.iload_n 3, 1) := by decide +kernel
theorem dX10_joins_16 : decode cX10_joins 16 = .ok (.iload 4, 2) := by decide +kernel
theorem dX10_joins_18 : decode cX10_joins 18 = .ok (.if_icmp .ne 5, 3) := by decide +kernel
theorem dX10_joins_21 : decode cX10_joins 21 = .ok (.iconst 0, 1) := by decide +kernel
theorem dX10_joins_22 : decode cX10_joins 22 = .ok (.ireturn, 1) := by decide +kernel
theorem dX10_joins_23 : decode cX10_joins 23 = .ok (.iconst 0, 1) := by decide +kernel
theorem dX10_joins_24 : decode cX10_joins 24 = .ok (.istore 5, 2) := by decide +kernel
theorem dX10_joins_26 : decode cX10_joins 26 = .ok (.iload 5, 2) := by decide +kernel
theorem dX10_joins_28 : decode cX10_joins 28 = .ok (.bipush 32, 2) := by decide +kernel
theorem dX10_joins_30 : decode cX10_joins 30 = .ok (.if_icmp .ge 29, 3) := by decide +kernel
theorem dX10_joins_33 : decode cX10_joins 33 = .ok (.aload_n 0, 1) := by decide +kernel
theorem dX10_joins_34 : decode cX10_joins 34 = .ok (.getfield 113, 3) := by decide +kernel
theorem dX10_joins_37 : decode cX10_joins 37 = .ok (.iload 5, 2) := by decide +kernel
theorem dX10_joins_39 : decode cX10_joins 39 = .ok (.iaload, 1) := by decide +kernel
theorem dX10_joins_40 : decode cX10_joins 40 = .ok (.iload 4, 2) := by decide +kernel
theorem dX10_joins_42 : decode cX10_joins 42 = .ok (.if_icmp .ne 11, 3) := by decide +kernel
theorem dX10_joins_45 : decode cX10_joins 45 = .ok (.aload_n 0, 1) := by decide +kernel
theorem dX10_joins_46 : decode cX10_joins 46 = .ok (.getfield 113, 3) := by decide +kernel
theorem dX10_joins_49 : decode cX10_joins 49 = .ok (.iload 5, 2) := by decide +kernel
theorem dX10_joins_51 : decode cX10_joins 51 = .ok (.iload_n 3, 1) := by decide +kernel
theorem dX10_joins_52 : decode cX10_joins 52 = .ok (.iastore, 1) := by decide +kernel
theorem dX10_joins_53 : decode cX10_joins 53 = .ok (.iinc 5 1, 3) := by decide +kernel
theorem dX10_joins_56 : decode cX10_joins 56 = .ok (.goto (-30), 3) := by decide +kernel
theorem dX10_joins_59 : decode cX10_joins 59 = .ok (.iconst 1, 1) := by decide +kernel
theorem dX10_joins_60 : decode cX10_joins 60 = .ok (.ireturn, 1) := by decide +kernel
set_option maxRecDepth 20000 in
theorem ggX10_hangs_X10_rows : GoodIn wsX10_hangs wsX10_rows := goodIn_r _ [7, 8, 37, 38, 39, 40, 41, 42, 43, 44, 45, 46, 47, 48, 49, 50, 51, 52, 53, 54, 55, 56, 57, 58, 59, 60, 61, 62, 63, 64, 65, 66, 67, 68, 69, 70, 71, 72, 73, 74, 75, 76, 77, 78, 79, 80, 81, 82, 83, 84, 85, 86, 87, 88, 89, 90, 91, 92, 93] (by decide +kernel) (by decide +kernel)
set_option maxRecDepth 20000 in
theorem gX10_hangs_X10_rows : GoodIn wsX10_hangs (wsV RX10 265 RX10 yX10_rows wsX10_rows) := goodIn_app (goodIn_of _ (by decide +kernel)) ggX10_hangs_X10_rows
set_option maxRecDepth 20000 in
theorem ggX10_hangs_X10_pictureOf : GoodIn wsX10_hangs wsX10_pictureOf := goodIn_r _ [12, 13, 37, 38, 39, 40, 41, 42, 43, 44, 45, 46, 47, 48, 49, 50, 51, 52, 53, 54, 55, 56, 57, 58, 59, 60, 61, 62, 63, 64, 65, 66, 67, 68, 69, 70, 71, 72, 73, 74, 75, 76, 77, 78, 79, 80, 81, 82, 83, 84, 85, 86, 87, 88, 89, 90, 91, 92, 93] (by decide +kernel) (by decide +kernel)
set_option maxRecDepth 20000 in
theorem gX10_hangs_X10_pictureOf : GoodIn wsX10_hangs (wsV RX10 274 RX10 yX10_pictureOf wsX10_pictureOf) := goodIn_app (goodIn_of _ (by decide +kernel)) ggX10_hangs_X10_pictureOf
set_option maxRecDepth 20000 in
theorem ggX10_hangs_X10_pointOf : GoodIn wsX10_hangs wsX10_pointOf := goodIn_r _ [17, 18, 37, 38, 39, 40, 41, 42, 43, 44, 45, 46, 47, 48, 49, 50, 51, 52, 53, 54, 55, 56, 57, 58, 59, 60, 61, 62, 63, 64, 65, 66, 67, 68, 69, 70, 71, 72, 73, 74, 75, 76, 77, 78, 79, 80, 81, 82, 83, 84, 85, 86, 87, 88, 89, 90, 91, 92, 93] (by decide +kernel) (by decide +kernel)
set_option maxRecDepth 20000 in
theorem gX10_hangs_X10_pointOf : GoodIn wsX10_hangs (wsV RX10 281 RX10 yX10_pointOf wsX10_pointOf) := goodIn_app (goodIn_of _ (by decide +kernel)) ggX10_hangs_X10_pointOf
set_option maxRecDepth 20000 in
theorem ggX10_hangs_X10_joins : GoodIn wsX10_hangs wsX10_joins := goodIn_r _ [22, 1, 37, 38, 39, 40, 41, 42, 43, 44, 45, 46, 47, 48, 49, 50, 51, 52, 53, 54, 55, 56, 57, 58, 59, 60, 61, 62, 63, 64, 65, 66, 67, 68, 69, 70, 71, 72, 73, 74, 75, 76, 77, 78, 79, 80, 81, 82, 83, 84, 85, 86, 87, 88, 89, 90, 91, 92, 93] (by decide +kernel) (by decide +kernel)
set_option maxRecDepth 20000 in
theorem gX10_hangs_X10_joins : GoodIn wsX10_hangs (wsV RX10 418 RX10 yX10_joins wsX10_joins) := goodIn_app (goodIn_of _ (by decide +kernel)) ggX10_hangs_X10_joins
set_option maxRecDepth 20000 in
theorem ggX10_hangs_X10_pictures : GoodIn wsX10_hangs wsX10_pictures := goodIn_r _ [26, 8, 37, 38, 39, 40, 41, 42, 43, 44, 45, 46, 47, 48, 49, 50, 51, 52, 53, 54, 55, 56, 57, 58, 59, 60, 61, 62, 63, 64, 65, 66, 67, 68, 69, 70, 71, 72, 73, 74, 75, 76, 77, 78, 79, 80, 81, 82, 83, 84, 85, 86, 87, 88, 89, 90, 91, 92, 93] (by decide +kernel) (by decide +kernel)
set_option maxRecDepth 20000 in
theorem gX10_hangs_X10_pictures : GoodIn wsX10_hangs (wsV RX10 259 RX10 yX10_pictures wsX10_pictures) := goodIn_app (goodIn_of _ (by decide +kernel)) ggX10_hangs_X10_pictures
set_option maxRecDepth 20000 in
theorem ggX10_hangs_X10_centreOf : GoodIn wsX10_hangs wsX10_centreOf := goodIn_r _ [30, 31, 37, 38, 39, 40, 41, 42, 43, 44, 45, 46, 47, 48, 49, 50, 51, 52, 53, 54, 55, 56, 57, 58, 59, 60, 61, 62, 63, 64, 65, 66, 67, 68, 69, 70, 71, 72, 73, 74, 75, 76, 77, 78, 79, 80, 81, 82, 83, 84, 85, 86, 87, 88, 89, 90, 91, 92, 93] (by decide +kernel) (by decide +kernel)
set_option maxRecDepth 20000 in
theorem gX10_hangs_X10_centreOf : GoodIn wsX10_hangs (wsV RX10 271 RX10 yX10_centreOf wsX10_centreOf) := goodIn_app (goodIn_of _ (by decide +kernel)) ggX10_hangs_X10_centreOf
set_option maxRecDepth 20000 in
theorem ggX10_hangs_X10_strip : GoodIn wsX10_hangs wsX10_strip := goodIn_r _ [35, 36, 37, 38, 39, 40, 41, 42, 43, 44, 45, 46, 47, 48, 49, 50, 51, 52, 53, 54, 55, 56, 57, 58, 59, 60, 61, 62, 63, 64, 65, 66, 67, 68, 69, 70, 71, 72, 73, 74, 75, 76, 77, 78, 79, 80, 81, 82, 83, 84, 85, 86, 87, 88, 89, 90, 91, 92, 93] (by decide +kernel) (by decide +kernel)
set_option maxRecDepth 20000 in
theorem gX10_hangs_X10_strip : GoodIn wsX10_hangs (wsV RX10 268 RX10 yX10_strip wsX10_strip) := goodIn_app (goodIn_of _ (by decide +kernel)) ggX10_hangs_X10_strip
theorem dX10_hangs_0 : decode cX10_hangs 0 = .ok (.iconst 0, 1) := by decide +kernel
theorem dX10_hangs_1 : decode cX10_hangs 1 = .ok (.istore_n 1, 1) := by decide +kernel
theorem dX10_hangs_2 : decode cX10_hangs 2 = .ok (.iload_n 1, 1) := by decide +kernel
theorem dX10_hangs_3 : decode cX10_hangs 3 = .ok (.bipush 32, 2) := by decide +kernel
theorem dX10_hangs_5 : decode cX10_hangs 5 = .ok (.if_icmp .ge 16, 3) := by decide +kernel
theorem dX10_hangs_8 : decode cX10_hangs 8 = .ok (.aload_n 0, 1) := by decide +kernel
theorem dX10_hangs_9 : decode cX10_hangs 9 = .ok (.getfield 113, 3) := by decide +kernel
theorem dX10_hangs_12 : decode cX10_hangs 12 = .ok (.iload_n 1, 1) := by decide +kernel
theorem dX10_hangs_13 : decode cX10_hangs 13 = .ok (.iload_n 1, 1) := by decide +kernel
theorem dX10_hangs_14 : decode cX10_hangs 14 = .ok (.iastore, 1) := by decide +kernel
theorem dX10_hangs_15 : decode cX10_hangs 15 = .ok (.iinc 1 1, 3) := by decide +kernel
theorem dX10_hangs_18 : decode cX10_hangs 18 = .ok (.goto (-16), 3) := by decide +kernel
theorem dX10_hangs_21 : decode cX10_hangs 21 = .ok (.iconst 0, 1) := by decide +kernel
theorem dX10_hangs_22 : decode cX10_hangs 22 = .ok (.istore_n 1, 1) := by decide +kernel
theorem dX10_hangs_23 : decode cX10_hangs 23 = .ok (.iconst 0, 1) := by decide +kernel
theorem dX10_hangs_24 : decode cX10_hangs 24 = .ok (.istore_n 2, 1) := by decide +kernel
theorem dX10_hangs_25 : decode cX10_hangs 25 = .ok (.iload_n 2, 1) := by decide +kernel
theorem dX10_hangs_26 : decode cX10_hangs 26 = .ok (.aload_n 0, 1) := by decide +kernel
theorem dX10_hangs_27 : decode cX10_hangs 27 = .ok (.invokevirtual 265, 3) := by decide +kernel
theorem dX10_hangs_30 : decode cX10_hangs 30 = .ok (.if_icmp .ge 40, 3) := by decide +kernel
theorem dX10_hangs_33 : decode cX10_hangs 33 = .ok (.aload_n 0, 1) := by decide +kernel
theorem dX10_hangs_34 : decode cX10_hangs 34 = .ok (.getfield 91, 3) := by decide +kernel
theorem dX10_hangs_37 : decode cX10_hangs 37 = .ok (.iload_n 2, 1) := by decide +kernel
theorem dX10_hangs_38 : decode cX10_hangs 38 = .ok (.baload, 1) := by decide +kernel
theorem dX10_hangs_39 : decode cX10_hangs 39 = .ok (.ifCond .ne 25, 3) := by decide +kernel
theorem dX10_hangs_42 : decode cX10_hangs 42 = .ok (.aload_n 0, 1) := by decide +kernel
theorem dX10_hangs_43 : decode cX10_hangs 43 = .ok (.aload_n 0, 1) := by decide +kernel
theorem dX10_hangs_44 : decode cX10_hangs 44 = .ok (.iload_n 2, 1) := by decide +kernel
theorem dX10_hangs_45 : decode cX10_hangs 45 = .ok (.invokevirtual 274, 3) := by decide +kernel
theorem dX10_hangs_48 : decode cX10_hangs 48 = .ok (.bipush 12, 2) := by decide +kernel
theorem dX10_hangs_50 : decode cX10_hangs 50 = .ok (.aload_n 0, 1) := by decide +kernel
theorem dX10_hangs_51 : decode cX10_hangs 51 = .ok (.iload_n 2, 1) := by decide +kernel
theorem dX10_hangs_52 : decode cX10_hangs 52 = .ok (.invokevirtual 281, 3) := by decide +kernel
theorem dX10_hangs_55 : decode cX10_hangs 55 = .ok (.iadd, 1) := by decide +kernel
theorem dX10_hangs_56 : decode cX10_hangs 56 = .ok (.invokevirtual 418, 3) := by decide +kernel
theorem dX10_hangs_59 : decode cX10_hangs 59 = .ok (.ifCond .eq 5, 3) := by decide +kernel
theorem dX10_hangs_62 : decode cX10_hangs 62 = .ok (.iconst 1, 1) := by decide +kernel
theorem dX10_hangs_63 : decode cX10_hangs 63 = .ok (.istore_n 1, 1) := by decide +kernel
theorem dX10_hangs_64 : decode cX10_hangs 64 = .ok (.iinc 2 1, 3) := by decide +kernel
theorem dX10_hangs_67 : decode cX10_hangs 67 = .ok (.goto (-42), 3) := by decide +kernel
theorem dX10_hangs_70 : decode cX10_hangs 70 = .ok (.iconst 0, 1) := by decide +kernel
theorem dX10_hangs_71 : decode cX10_hangs 71 = .ok (.istore_n 2, 1) := by decide +kernel
theorem dX10_hangs_72 : decode cX10_hangs 72 = .ok (.iload_n 2, 1) := by decide +kernel
theorem dX10_hangs_73 : decode cX10_hangs 73 = .ok (.aload_n 0, 1) := by decide +kernel
theorem dX10_hangs_74 : decode cX10_hangs 74 = .ok (.invokevirtual 259, 3) := by decide +kernel
theorem dX10_hangs_77 : decode cX10_hangs 77 = .ok (.if_icmp .ge 62, 3) := by decide +kernel
theorem dX10_hangs_80 : decode cX10_hangs 80 = .ok (.iconst 0, 1) := by decide +kernel
theorem dX10_hangs_81 : decode cX10_hangs 81 = .ok (.istore_n 3, 1) := by decide +kernel
theorem dX10_hangs_82 : decode cX10_hangs 82 = .ok (.iload_n 3, 1) := by decide +kernel
theorem dX10_hangs_83 : decode cX10_hangs 83 = .ok (.iload_n 2, 1) := by decide +kernel
theorem dX10_hangs_84 : decode cX10_hangs 84 = .ok (.if_icmp .ge 49, 3) := by decide +kernel
theorem dX10_hangs_87 : decode cX10_hangs 87 = .ok (.aload_n 0, 1) := by decide +kernel
theorem dX10_hangs_88 : decode cX10_hangs 88 = .ok (.iload_n 2, 1) := by decide +kernel
theorem dX10_hangs_89 : decode cX10_hangs 89 = .ok (.invokevirtual 271, 3) := by decide +kernel
theorem dX10_hangs_92 : decode cX10_hangs 92 = .ok (.ifCond .le 35, 3) := by decide +kernel
theorem dX10_hangs_95 : decode cX10_hangs 95 = .ok (.aload_n 0, 1) := by decide +kernel
theorem dX10_hangs_96 : decode cX10_hangs 96 = .ok (.iload_n 3, 1) := by decide +kernel
theorem dX10_hangs_97 : decode cX10_hangs 97 = .ok (.invokevirtual 271, 3) := by decide +kernel
theorem dX10_hangs_100 : decode cX10_hangs 100 = .ok (.ifCond .le 27, 3) := by decide +kernel
theorem dX10_hangs_103 : decode cX10_hangs 103 = .ok (.aload_n 0, 1) := by decide +kernel
theorem dX10_hangs_104 : decode cX10_hangs 104 = .ok (.iload_n 2, 1) := by decide +kernel
theorem dX10_hangs_105 : decode cX10_hangs 105 = .ok (.invokevirtual 268, 3) := by decide +kernel
theorem dX10_hangs_108 : decode cX10_hangs 108 = .ok (.aload_n 0, 1) := by decide +kernel
theorem dX10_hangs_109 : decode cX10_hangs 109 = .ok (.iload_n 3, 1) := by decide +kernel
theorem dX10_hangs_110 : decode cX10_hangs 110 = .ok (.invokevirtual 268, 3) := by decide +kernel
theorem dX10_hangs_113 : decode cX10_hangs 113 = .ok (.if_icmp .ne 14, 3) := by decide +kernel
theorem dX10_hangs_116 : decode cX10_hangs 116 = .ok (.aload_n 0, 1) := by decide +kernel
theorem dX10_hangs_117 : decode cX10_hangs 117 = .ok (.iload_n 2, 1) := by decide +kernel
theorem dX10_hangs_118 : decode cX10_hangs 118 = .ok (.iload_n 3, 1) := by decide +kernel
theorem dX10_hangs_119 : decode cX10_hangs 119 = .ok (.invokevirtual 418, 3) := by decide +kernel
theorem dX10_hangs_122 : decode cX10_hangs 122 = .ok (.ifCond .eq 5, 3) := by decide +kernel
theorem dX10_hangs_125 : decode cX10_hangs 125 = .ok (.iconst 1, 1) := by decide +kernel
theorem dX10_hangs_126 : decode cX10_hangs 126 = .ok (.istore_n 1, 1) := by decide +kernel
theorem dX10_hangs_127 : decode cX10_hangs 127 = .ok (.iinc 3 1, 3) := by decide +kernel
theorem dX10_hangs_130 : decode cX10_hangs 130 = .ok (.goto (-48), 3) := by decide +kernel
theorem dX10_hangs_133 : decode cX10_hangs 133 = .ok (.iinc 2 1, 3) := by decide +kernel
theorem dX10_hangs_136 : decode cX10_hangs 136 = .ok (.goto (-64), 3) := by decide +kernel
theorem dX10_hangs_139 : decode cX10_hangs 139 = .ok (.return_, 1) := by decide +kernel
set_option maxRecDepth 20000 in
theorem ggX10_isLoose_X10_points : GoodIn wsX10_isLoose wsX10_points := goodIn_r _ [6, 7, 14, 15, 16, 17, 18, 19, 20, 21, 22, 23, 24, 25, 26, 27, 28, 29, 30, 31, 32, 33, 34, 35, 36, 37, 38, 39, 40, 41, 42, 43, 44, 45, 46, 47, 48, 49, 50, 51, 52, 53, 54, 55, 56, 57, 58, 59, 60, 61, 62, 63, 64, 65, 66, 67, 68, 69, 70] (by decide +kernel) (by decide +kernel)
set_option maxRecDepth 20000 in
theorem gX10_isLoose_X10_points : GoodIn wsX10_isLoose (wsV RX10 262 RX10 yX10_points wsX10_points) := goodIn_app (goodIn_of _ (by decide +kernel)) ggX10_isLoose_X10_points
set_option maxRecDepth 20000 in
theorem ggX10_isLoose_X10_isControl : GoodIn wsX10_isLoose wsX10_isControl := goodIn_r _ [11, 12, 13, 14, 15, 16, 17, 18, 19, 20, 21, 22, 23, 24, 25, 26, 27, 28, 29, 30, 31, 32, 33, 34, 35, 36, 37, 38, 39, 40, 41, 42, 43, 44, 45, 46, 47, 48, 49, 50, 51, 52, 53, 54, 55, 56, 57, 58, 59, 60, 61, 62, 63, 64, 65, 66, 67, 68, 69, 70] (by decide +kernel) (by decide +kernel)
set_option maxRecDepth 20000 in
theorem gX10_isLoose_X10_isControl : GoodIn wsX10_isLoose (wsV RX10 287 RX10 yX10_isControl wsX10_isControl) := goodIn_app (goodIn_of _ (by decide +kernel)) ggX10_isLoose_X10_isControl
theorem dX10_isLoose_0 : decode cX10_isLoose 0 = .ok (.iconst 0, 1) := by decide +kernel
theorem dX10_isLoose_1 : decode cX10_isLoose 1 = .ok (.istore_n 2, 1) := by decide +kernel
theorem dX10_isLoose_2 : decode cX10_isLoose 2 = .ok (.iload_n 2, 1) := by decide +kernel
theorem dX10_isLoose_3 : decode cX10_isLoose 3 = .ok (.aload_n 0, 1) := by decide +kernel
theorem dX10_isLoose_4 : decode cX10_isLoose 4 = .ok (.invokevirtual 262, 3) := by decide +kernel
theorem dX10_isLoose_7 : decode cX10_isLoose 7 = .ok (.if_icmp .ge 37, 3) := by decide +kernel
theorem dX10_isLoose_10 : decode cX10_isLoose 10 = .ok (.aload_n 0, 1) := by decide +kernel
theorem dX10_isLoose_11 : decode cX10_isLoose 11 = .ok (.iload_n 2, 1) := by decide +kernel
theorem dX10_isLoose_12 : decode cX10_isLoose 12 = .ok (.invokevirtual 287, 3) := by decide +kernel
theorem dX10_isLoose_15 : decode cX10_isLoose 15 = .ok (.ifCond .eq 23, 3) := by decide +kernel
theorem dX10_isLoose_18 : decode cX10_isLoose 18 = .ok (.aload_n 0, 1) := by decide +kernel
theorem dX10_isLoose_19 : decode cX10_isLoose 19 = .ok (.getfield 113, 3) := by decide +kernel
theorem dX10_isLoose_22 : decode cX10_isLoose 22 = .ok (.bipush 12, 2) := by decide +kernel
theorem dX10_isLoose_24 : decode cX10_isLoose 24 = .ok (.iload_n 2, 1) := by decide +kernel
theorem dX10_isLoose_25 : decode cX10_isLoose 25 = .ok (.iadd, 1) := by decide +kernel
theorem dX10_isLoose_26 : decode cX10_isLoose 26 = .ok (.iaload, 1) := by decide +kernel
theorem dX10_isLoose_27 : decode cX10_isLoose 27 = .ok (.aload_n 0, 1) := by decide +kernel
theorem dX10_isLoose_28 : decode cX10_isLoose 28 = .ok (.getfield 113, 3) := by decide +kernel
theorem dX10_isLoose_31 : decode cX10_isLoose 31 = .ok (.iload_n 1, 1) := by decide +kernel
theorem dX10_isLoose_32 : decode cX10_isLoose 32 = .ok (.iaload, 1) := by decide +kernel
theorem dX10_isLoose_33 : decode cX10_isLoose 33 = .ok (.if_icmp .ne 5, 3) := by decide +kernel
theorem dX10_isLoose_36 : decode cX10_isLoose 36 = .ok (.iconst 0, 1) := by decide +kernel
theorem dX10_isLoose_37 : decode cX10_isLoose 37 = .ok (.ireturn, 1) := by decide +kernel
theorem dX10_isLoose_38 : decode cX10_isLoose 38 = .ok (.iinc 2 1, 3) := by decide +kernel
theorem dX10_isLoose_41 : decode cX10_isLoose 41 = .ok (.goto (-39), 3) := by decide +kernel
theorem dX10_isLoose_44 : decode cX10_isLoose 44 = .ok (.iconst 1, 1) := by decide +kernel
theorem dX10_isLoose_45 : decode cX10_isLoose 45 = .ok (.ireturn, 1) := by decide +kernel
set_option maxRecDepth 20000 in
theorem ggX10_canShow_X10_hangs : GoodIn wsX10_canShow wsX10_hangs := goodIn_r _ [7, 2, 1, 8, 9, 10, 6, 11, 12, 13, 14, 15, 16, 17, 18, 19, 20, 21, 22, 23, 24, 25, 26, 27, 28, 29, 30, 31, 32, 33, 34, 35, 36, 37, 38, 39, 40, 55, 56, 57, 58, 59, 60, 61, 62, 63, 64, 65, 66, 67, 68, 69, 70, 71, 72, 73, 74, 75, 76, 77, 78, 79, 80, 81, 82, 83, 84, 85, 86, 87, 88, 89, 90, 91, 92, 93, 94, 95, 96, 97, 98, 99, 100, 101, 102, 103, 104, 105, 106, 107, 108, 109, 110, 111] (by decide +kernel) (by decide +kernel)
set_option maxRecDepth 20000 in
theorem gX10_canShow_X10_hangs : GoodIn wsX10_canShow (wsV RX10 421 RX10 yX10_hangs wsX10_hangs) := goodIn_app (goodIn_of _ (by decide +kernel)) ggX10_canShow_X10_hangs
set_option maxRecDepth 20000 in
theorem ggX10_canShow_X10_pictureOf : GoodIn wsX10_canShow wsX10_pictureOf := goodIn_r _ [16, 17, 55, 56, 57, 58, 59, 60, 61, 62, 63, 64, 65, 66, 67, 68, 69, 70, 71, 72, 73, 74, 75, 76, 77, 78, 79, 80, 81, 82, 83, 84, 85, 86, 87, 88, 89, 90, 91, 92, 93, 94, 95, 96, 97, 98, 99, 100, 101, 102, 103, 104, 105, 106, 107, 108, 109, 110, 111] (by decide +kernel) (by decide +kernel)
set_option maxRecDepth 20000 in
theorem gX10_canShow_X10_pictureOf : GoodIn wsX10_canShow (wsV RX10 274 RX10 yX10_pictureOf wsX10_pictureOf) := goodIn_app (goodIn_of _ (by decide +kernel)) ggX10_canShow_X10_pictureOf
set_option maxRecDepth 20000 in
theorem ggX10_canShow_X10_pointOf : GoodIn wsX10_canShow wsX10_pointOf := goodIn_r _ [21, 22, 55, 56, 57, 58, 59, 60, 61, 62, 63, 64, 65, 66, 67, 68, 69, 70, 71, 72, 73, 74, 75, 76, 77, 78, 79, 80, 81, 82, 83, 84, 85, 86, 87, 88, 89, 90, 91, 92, 93, 94, 95, 96, 97, 98, 99, 100, 101, 102, 103, 104, 105, 106, 107, 108, 109, 110, 111] (by decide +kernel) (by decide +kernel)
set_option maxRecDepth 20000 in
theorem gX10_canShow_X10_pointOf : GoodIn wsX10_canShow (wsV RX10 281 RX10 yX10_pointOf wsX10_pointOf) := goodIn_app (goodIn_of _ (by decide +kernel)) ggX10_canShow_X10_pointOf
set_option maxRecDepth 20000 in
theorem ggX10_canShow_X10_isLoose : GoodIn wsX10_canShow wsX10_isLoose := goodIn_r _ [44, 2, 45, 46, 47, 6, 48, 12, 49, 50, 51, 52, 53, 54, 55, 56, 57, 58, 59, 60, 61, 62, 63, 64, 65, 66, 67, 68, 69, 70, 71, 72, 73, 74, 75, 76, 77, 78, 79, 80, 81, 82, 83, 84, 85, 86, 87, 88, 89, 90, 91, 92, 93, 94, 95, 96, 97, 98, 99, 100, 101, 102, 103, 104, 105, 106, 107, 108, 109, 110, 111] (by decide +kernel) (by decide +kernel)
set_option maxRecDepth 20000 in
theorem gX10_canShow_X10_isLoose : GoodIn wsX10_canShow (wsV RX10 424 RX10 yX10_isLoose wsX10_isLoose) := goodIn_app (goodIn_of _ (by decide +kernel)) ggX10_canShow_X10_isLoose
theorem dX10_canShow_0 : decode cX10_canShow 0 = .ok (.aload_n 0, 1) := by decide +kernel
theorem dX10_canShow_1 : decode cX10_canShow 1 = .ok (.getfield 91, 3) := by decide +kernel
theorem dX10_canShow_4 : decode cX10_canShow 4 = .ok (.iload_n 1, 1) := by decide +kernel
theorem dX10_canShow_5 : decode cX10_canShow 5 = .ok (.baload, 1) := by decide +kernel
theorem dX10_canShow_6 : decode cX10_canShow 6 = .ok (.ifCond .eq 5, 3) := by decide +kernel
theorem dX10_canShow_9 : decode cX10_canShow 9 = .ok (.iconst 0, 1) := by decide +kernel
theorem dX10_canShow_10 : decode cX10_canShow 10 = .ok (.ireturn, 1) := by decide +kernel
theorem dX10_canShow_11 : decode cX10_canShow 11 = .ok (.aload_n 0, 1) := by decide +kernel
theorem dX10_canShow_12 : decode cX10_canShow 12 = .ok (.getfield 91, 3) := by decide +kernel
theorem dX10_canShow_15 : decode cX10_canShow 15 = .ok (.iload_n 1, 1) := by decide +kernel
theorem dX10_canShow_16 : decode cX10_canShow 16 = .ok (.iconst 1, 1) := by decide +kernel
theorem dX10_canShow_17 : decode cX10_canShow 17 = .ok (.bastore, 1) := by decide +kernel
theorem dX10_canShow_18 : decode cX10_canShow 18 = .ok (.aload_n 0, 1) := by decide +kernel
theorem dX10_canShow_19 : decode cX10_canShow 19 = .ok (.invokevirtual 421, 3) := by decide +kernel
theorem dX10_canShow_22 : decode cX10_canShow 22 = .ok (.aload_n 0, 1) := by decide +kernel
theorem dX10_canShow_23 : decode cX10_canShow 23 = .ok (.getfield 91, 3) := by decide +kernel
theorem dX10_canShow_26 : decode cX10_canShow 26 = .ok (.iload_n 1, 1) := by decide +kernel
theorem dX10_canShow_27 : decode cX10_canShow 27 = .ok (.iconst 0, 1) := by decide +kernel
theorem dX10_canShow_28 : decode cX10_canShow 28 = .ok (.bastore, 1) := by decide +kernel
theorem dX10_canShow_29 : decode cX10_canShow 29 = .ok (.aload_n 0, 1) := by decide +kernel
theorem dX10_canShow_30 : decode cX10_canShow 30 = .ok (.iload_n 1, 1) := by decide +kernel
theorem dX10_canShow_31 : decode cX10_canShow 31 = .ok (.invokevirtual 274, 3) := by decide +kernel
theorem dX10_canShow_34 : decode cX10_canShow 34 = .ok (.istore_n 2, 1) := by decide +kernel
theorem dX10_canShow_35 : decode cX10_canShow 35 = .ok (.bipush 12, 2) := by decide +kernel
theorem dX10_canShow_37 : decode cX10_canShow 37 = .ok (.aload_n 0, 1) := by decide +kernel
theorem dX10_canShow_38 : decode cX10_canShow 38 = .ok (.iload_n 1, 1) := by decide +kernel
theorem dX10_canShow_39 : decode cX10_canShow 39 = .ok (.invokevirtual 281, 3) := by decide +kernel
theorem dX10_canShow_42 : decode cX10_canShow 42 = .ok (.iadd, 1) := by decide +kernel
theorem dX10_canShow_43 : decode cX10_canShow 43 = .ok (.istore_n 3, 1) := by decide +kernel
theorem dX10_canShow_44 : decode cX10_canShow 44 = .ok (.aload_n 0, 1) := by decide +kernel
theorem dX10_canShow_45 : decode cX10_canShow 45 = .ok (.getfield 113, 3) := by decide +kernel
theorem dX10_canShow_48 : decode cX10_canShow 48 = .ok (.iload_n 2, 1) := by decide +kernel
theorem dX10_canShow_49 : decode cX10_canShow 49 = .ok (.iaload, 1) := by decide +kernel
theorem dX10_canShow_50 : decode cX10_canShow 50 = .ok (.aload_n 0, 1) := by decide +kernel
theorem dX10_canShow_51 : decode cX10_canShow 51 = .ok (.getfield 113, 3) := by decide +kernel
theorem dX10_canShow_54 : decode cX10_canShow 54 = .ok (.iload_n 3, 1) := by decide +kernel
theorem dX10_canShow_55 : decode cX10_canShow 55 = .ok (.iaload, 1) := by decide +kernel
theorem dX10_canShow_56 : decode cX10_canShow 56 = .ok (.if_icmp .eq 19, 3) := by decide +kernel
theorem dX10_canShow_59 : decode cX10_canShow 59 = .ok (.aload_n 0, 1) := by decide +kernel
theorem dX10_canShow_60 : decode cX10_canShow 60 = .ok (.iload_n 2, 1) := by decide +kernel
theorem dX10_canShow_61 : decode cX10_canShow 61 = .ok (.invokevirtual 424, 3) := by decide +kernel
theorem dX10_canShow_64 : decode cX10_canShow 64 = .ok (.ifCond .ne 15, 3) := by decide +kernel
theorem dX10_canShow_67 : decode cX10_canShow 67 = .ok (.aload_n 0, 1) := by decide +kernel
theorem dX10_canShow_68 : decode cX10_canShow 68 = .ok (.iload_n 3, 1) := by decide +kernel
theorem dX10_canShow_69 : decode cX10_canShow 69 = .ok (.invokevirtual 424, 3) := by decide +kernel
theorem dX10_canShow_72 : decode cX10_canShow 72 = .ok (.ifCond .ne 7, 3) := by decide +kernel
theorem dX10_canShow_75 : decode cX10_canShow 75 = .ok (.iconst 1, 1) := by decide +kernel
theorem dX10_canShow_76 : decode cX10_canShow 76 = .ok (.goto 4, 3) := by decide +kernel
theorem dX10_canShow_79 : decode cX10_canShow 79 = .ok (.iconst 0, 1) := by decide +kernel
theorem dX10_canShow_80 : decode cX10_canShow 80 = .ok (.ireturn, 1) := by decide +kernel
set_option maxRecDepth 20000 in
theorem ggX10_parts_X10_hangs : GoodIn wsX10_parts wsX10_hangs := goodIn_r _ [6, 1, 7, 8, 9, 10, 5, 11, 12, 13, 14, 15, 16, 17, 18, 19, 20, 21, 22, 23, 24, 25, 26, 27, 28, 29, 30, 31, 32, 33, 34, 35, 36, 37, 38, 39, 40, 41, 42, 43, 44, 45, 46, 47, 48, 49, 50, 51, 52, 53, 54, 55, 56, 57, 58, 59, 60, 61, 62, 63, 64, 65, 66, 67, 68, 69, 70, 71, 72, 73, 74, 75, 76, 77, 78, 79, 80, 81, 82, 83, 84, 85, 86, 87, 88, 89, 90, 91, 92, 93, 94, 95, 96, 97] (by decide +kernel) (by decide +kernel)
set_option maxRecDepth 20000 in
theorem gX10_parts_X10_hangs : GoodIn wsX10_parts (wsV RX10 421 RX10 yX10_hangs wsX10_hangs) := goodIn_app (goodIn_of _ (by decide +kernel)) ggX10_parts_X10_hangs
set_option maxRecDepth 20000 in
theorem ggX10_parts_X10_pictures : GoodIn wsX10_parts wsX10_pictures := goodIn_r _ [30, 12, 41, 42, 43, 44, 45, 46, 47, 48, 49, 50, 51, 52, 53, 54, 55, 56, 57, 58, 59, 60, 61, 62, 63, 64, 65, 66, 67, 68, 69, 70, 71, 72, 73, 74, 75, 76, 77, 78, 79, 80, 81, 82, 83, 84, 85, 86, 87, 88, 89, 90, 91, 92, 93, 94, 95, 96, 97] (by decide +kernel) (by decide +kernel)
set_option maxRecDepth 20000 in
theorem gX10_parts_X10_pictures : GoodIn wsX10_parts (wsV RX10 259 RX10 yX10_pictures wsX10_pictures) := goodIn_app (goodIn_of _ (by decide +kernel)) ggX10_parts_X10_pictures
theorem dX10_parts_0 : decode cX10_parts 0 = .ok (.aload_n 0, 1) := by decide +kernel
theorem dX10_parts_1 : decode cX10_parts 1 = .ok (.invokevirtual 421, 3) := by decide +kernel
theorem dX10_parts_4 : decode cX10_parts 4 = .ok (.iconst 0, 1) := by decide +kernel
theorem dX10_parts_5 : decode cX10_parts 5 = .ok (.istore_n 1, 1) := by decide +kernel
theorem dX10_parts_6 : decode cX10_parts 6 = .ok (.iconst 0, 1) := by decide +kernel
theorem dX10_parts_7 : decode cX10_parts 7 = .ok (.istore_n 2, 1) := by decide +kernel
theorem dX10_parts_8 : decode cX10_parts 8 = .ok (.iload_n 2, 1) := by decide +kernel
theorem dX10_parts_9 : decode cX10_parts 9 = .ok (.aload_n 0, 1) := by decide +kernel
theorem dX10_parts_10 : decode cX10_parts 10 = .ok (.invokevirtual 259, 3) := by decide +kernel
theorem dX10_parts_13 : decode cX10_parts 13 = .ok (.if_icmp .ge 59, 3) := by decide +kernel
theorem dX10_parts_16 : decode cX10_parts 16 = .ok (.iconst 1, 1) := by decide +kernel
theorem dX10_parts_17 : decode cX10_parts 17 = .ok (.istore_n 3, 1) := by decide +kernel
theorem dX10_parts_18 : decode cX10_parts 18 = .ok (.iconst 0, 1) := by decide +kernel
theorem dX10_parts_19 : decode cX10_parts 19 = .ok (.istore 4, 2) := by decide +kernel
theorem dX10_parts_21 : decode cX10_parts 21 = .ok (.iload 4, 2) := by decide +kernel
theorem dX10_parts_23 : decode cX10_parts 23 = .ok (.iload_n 2, 1) := by decide +kernel
theorem dX10_parts_24 : decode cX10_parts 24 = .ok (.if_icmp .ge 35, 3) := by decide +kernel
theorem dX10_parts_27 : decode cX10_parts 27 = .ok (.iload_n 3, 1) := by decide +kernel
theorem dX10_parts_28 : decode cX10_parts 28 = .ok (.ifCond .eq 23, 3) := by decide +kernel
theorem dX10_parts_31 : decode cX10_parts 31 = .ok (.aload_n 0, 1) := by decide +kernel
theorem dX10_parts_32 : decode cX10_parts 32 = .ok (.getfield 113, 3) := by decide +kernel
theorem dX10_parts_35 : decode cX10_parts 35 = .ok (.iload 4, 2) := by decide +kernel
theorem dX10_parts_37 : decode cX10_parts 37 = .ok (.iaload, 1) := by decide +kernel
theorem dX10_parts_38 : decode cX10_parts 38 = .ok (.aload_n 0, 1) := by decide +kernel
theorem dX10_parts_39 : decode cX10_parts 39 = .ok (.getfield 113, 3) := by decide +kernel
theorem dX10_parts_42 : decode cX10_parts 42 = .ok (.iload_n 2, 1) := by decide +kernel
theorem dX10_parts_43 : decode cX10_parts 43 = .ok (.iaload, 1) := by decide +kernel
theorem dX10_parts_44 : decode cX10_parts 44 = .ok (.if_icmp .eq 7, 3) := by decide +kernel
theorem dX10_parts_47 : decode cX10_parts 47 = .ok (.iconst 1, 1) := by decide +kernel
theorem dX10_parts_48 : decode cX10_parts 48 = .ok (.goto 4, 3) := by decide +kernel
theorem dX10_parts_51 : decode cX10_parts 51 = .ok (.iconst 0, 1) := by decide +kernel
theorem dX10_parts_52 : decode cX10_parts 52 = .ok (.istore_n 3, 1) := by decide +kernel
theorem dX10_parts_53 : decode cX10_parts 53 = .ok (.iinc 4 1, 3) := by decide +kernel
theorem dX10_parts_56 : decode cX10_parts 56 = .ok (.goto (-35), 3) := by decide +kernel
theorem dX10_parts_59 : decode cX10_parts 59 = .ok (.iload_n 3, 1) := by decide +kernel
theorem dX10_parts_60 : decode cX10_parts 60 = .ok (.ifCond .eq 6, 3) := by decide +kernel
theorem dX10_parts_63 : decode cX10_parts 63 = .ok (.iinc 1 1, 3) := by decide +kernel
theorem dX10_parts_66 : decode cX10_parts 66 = .ok (.iinc 2 1, 3) := by decide +kernel
theorem dX10_parts_69 : decode cX10_parts 69 = .ok (.goto (-61), 3) := by decide +kernel
theorem dX10_parts_72 : decode cX10_parts 72 = .ok (.iload_n 1, 1) := by decide +kernel
theorem dX10_parts_73 : decode cX10_parts 73 = .ok (.ireturn, 1) := by decide +kernel
set_option maxRecDepth 20000 in
theorem ggX10_hang_X10_isPicture : GoodIn wsX10_hang wsX10_isPicture := goodIn_r _ [6, 7, 8, 9, 5, 10, 11, 12, 13, 14, 48, 49, 50, 51, 52, 53, 54, 55, 56, 57, 58, 59, 60, 61, 62, 63, 64, 65, 66, 67, 68, 69, 70, 71, 72, 73, 74, 75, 76, 77, 78, 79, 80, 81, 82, 83, 84, 85, 86, 87, 88, 89, 90, 91, 92, 93, 94, 95, 96, 97, 98, 99, 100, 101, 102, 103, 104] (by decide +kernel) (by decide +kernel)
set_option maxRecDepth 20000 in
theorem gX10_hang_X10_isPicture : GoodIn wsX10_hang (wsV RX10 427 RX10 yX10_isPicture wsX10_isPicture) := goodIn_app (goodIn_of _ (by decide +kernel)) ggX10_hang_X10_isPicture
set_option maxRecDepth 20000 in
theorem ggX10_hang_X10_hangs : GoodIn wsX10_hang wsX10_hangs := goodIn_r _ [18, 1, 19, 20, 21, 22, 5, 23, 11, 24, 25, 26, 27, 28, 29, 30, 31, 32, 33, 34, 35, 36, 37, 7, 8, 9, 10, 38, 39, 40, 41, 42, 43, 44, 45, 46, 47, 48, 49, 50, 51, 52, 53, 54, 55, 56, 57, 58, 59, 60, 61, 62, 63, 64, 65, 66, 67, 68, 69, 70, 71, 72, 73, 74, 75, 76, 77, 78, 79, 80, 81, 82, 83, 84, 85, 86, 87, 88, 89, 90, 91, 92, 93, 94, 95, 96, 97, 98, 99, 100, 101, 102, 103, 104] (by decide +kernel) (by decide +kernel)
set_option maxRecDepth 20000 in
theorem gX10_hang_X10_hangs : GoodIn wsX10_hang (wsV RX10 421 RX10 yX10_hangs wsX10_hangs) := goodIn_app (goodIn_of _ (by decide +kernel)) ggX10_hang_X10_hangs
theorem dX10_hang_0 : decode cX10_hang 0 = .ok (.aload_n 0, 1) := by decide +kernel
theorem dX10_hang_1 : decode cX10_hang 1 = .ok (.iload_n 1, 1) := by decide +kernel
theorem dX10_hang_2 : decode cX10_hang 2 = .ok (.invokevirtual 427, 3) := by decide +kernel
theorem dX10_hang_5 : decode cX10_hang 5 = .ok (.ifCond .eq 11, 3) := by decide +kernel
theorem dX10_hang_8 : decode cX10_hang 8 = .ok (.aload_n 0, 1) := by decide +kernel
theorem dX10_hang_9 : decode cX10_hang 9 = .ok (.iload_n 2, 1) := by decide +kernel
theorem dX10_hang_10 : decode cX10_hang 10 = .ok (.invokevirtual 427, 3) := by decide +kernel
theorem dX10_hang_13 : decode cX10_hang 13 = .ok (.ifCond .ne 5, 3) := by decide +kernel
theorem dX10_hang_16 : decode cX10_hang 16 = .ok (.iconst (-1), 1) := by decide +kernel
theorem dX10_hang_17 : decode cX10_hang 17 = .ok (.ireturn, 1) := by decide +kernel
theorem dX10_hang_18 : decode cX10_hang 18 = .ok (.aload_n 0, 1) := by decide +kernel
theorem dX10_hang_19 : decode cX10_hang 19 = .ok (.invokevirtual 421, 3) := by decide +kernel
theorem dX10_hang_22 : decode cX10_hang 22 = .ok (.aload_n 0, 1) := by decide +kernel
theorem dX10_hang_23 : decode cX10_hang 23 = .ok (.getfield 113, 3) := by decide +kernel
theorem dX10_hang_26 : decode cX10_hang 26 = .ok (.iload_n 1, 1) := by decide +kernel
theorem dX10_hang_27 : decode cX10_hang 27 = .ok (.iaload, 1) := by decide +kernel
theorem dX10_hang_28 : decode cX10_hang 28 = .ok (.aload_n 0, 1) := by decide +kernel
theorem dX10_hang_29 : decode cX10_hang 29 = .ok (.getfield 113, 3) := by decide +kernel
theorem dX10_hang_32 : decode cX10_hang 32 = .ok (.iload_n 2, 1) := by decide +kernel
theorem dX10_hang_33 : decode cX10_hang 33 = .ok (.iaload, 1) := by decide +kernel
theorem dX10_hang_34 : decode cX10_hang 34 = .ok (.if_icmp .ne 7, 3) := by decide +kernel
theorem dX10_hang_37 : decode cX10_hang 37 = .ok (.iconst 1, 1) := by decide +kernel
theorem dX10_hang_38 : decode cX10_hang 38 = .ok (.goto 4, 3) := by decide +kernel
theorem dX10_hang_41 : decode cX10_hang 41 = .ok (.iconst 0, 1) := by decide +kernel
theorem dX10_hang_42 : decode cX10_hang 42 = .ok (.ireturn, 1) := by decide +kernel
set_option maxRecDepth 20000 in
theorem ggX10_blind_X10_rows : GoodIn wsX10_blind wsX10_rows := goodIn_r _ [6, 7, 59, 60, 61, 62, 63, 64, 65, 66, 67, 68, 69, 70, 71, 72, 73, 74, 75, 76, 77, 78, 79, 80, 81, 82, 83, 84, 85, 86, 87, 88, 89, 90, 91, 92, 93, 94, 95, 96, 97, 98, 99, 100, 101, 102, 103, 104, 105, 106, 107, 108, 109, 110, 111, 112, 113, 114, 115] (by decide +kernel) (by decide +kernel)
set_option maxRecDepth 20000 in
theorem gX10_blind_X10_rows : GoodIn wsX10_blind (wsV RX10 265 RX10 yX10_rows wsX10_rows) := goodIn_app (goodIn_of _ (by decide +kernel)) ggX10_blind_X10_rows
set_option maxRecDepth 20000 in
theorem ggX10_blind_X10_canShow : GoodIn wsX10_blind wsX10_canShow := goodIn_r _ [11, 1, 12, 13, 14, 15, 5, 16, 2, 3, 4, 6, 7, 17, 18, 19, 20, 21, 22, 23, 24, 25, 26, 27, 28, 29, 30, 31, 32, 33, 34, 35, 36, 37, 38, 39, 40, 41, 42, 43, 44, 45, 46, 47, 48, 49, 50, 51, 52, 53, 54, 55, 56, 57, 58, 59, 60, 61, 62, 63, 64, 65, 66, 67, 68, 69, 70, 71, 72, 73, 74, 75, 76, 77, 78, 79, 80, 81, 82, 83, 84, 85, 86, 87, 88, 89, 90, 91, 92, 93, 94, 95, 96, 97, 98, 99, 100, 101, 102, 103, 104, 105, 106, 107, 108, 109, 110, 111, 112, 113, 114, 115] (by decide +kernel) (by decide +kernel)
set_option maxRecDepth 20000 in
theorem gX10_blind_X10_canShow : GoodIn wsX10_blind (wsV RX10 430 RX10 yX10_canShow wsX10_canShow) := goodIn_app (goodIn_of _ (by decide +kernel)) ggX10_blind_X10_canShow
theorem dX10_blind_0 : decode cX10_blind 0 = .ok (.iconst 0, 1) := by decide +kernel
theorem dX10_blind_1 : decode cX10_blind 1 = .ok (.istore_n 1, 1) := by decide +kernel
theorem dX10_blind_2 : decode cX10_blind 2 = .ok (.iconst 0, 1) := by decide +kernel
theorem dX10_blind_3 : decode cX10_blind 3 = .ok (.istore_n 2, 1) := by decide +kernel
theorem dX10_blind_4 : decode cX10_blind 4 = .ok (.iload_n 2, 1) := by decide +kernel
theorem dX10_blind_5 : decode cX10_blind 5 = .ok (.aload_n 0, 1) := by decide +kernel
theorem dX10_blind_6 : decode cX10_blind 6 = .ok (.invokevirtual 265, 3) := by decide +kernel
theorem dX10_blind_9 : decode cX10_blind 9 = .ok (.if_icmp .ge 29, 3) := by decide +kernel
theorem dX10_blind_12 : decode cX10_blind 12 = .ok (.aload_n 0, 1) := by decide +kernel
theorem dX10_blind_13 : decode cX10_blind 13 = .ok (.getfield 91, 3) := by decide +kernel
theorem dX10_blind_16 : decode cX10_blind 16 = .ok (.iload_n 2, 1) := by decide +kernel
theorem dX10_blind_17 : decode cX10_blind 17 = .ok (.baload, 1) := by decide +kernel
theorem dX10_blind_18 : decode cX10_blind 18 = .ok (.ifCond .ne 14, 3) := by decide +kernel
theorem dX10_blind_21 : decode cX10_blind 21 = .ok (.aload_n 0, 1) := by decide +kernel
theorem dX10_blind_22 : decode cX10_blind 22 = .ok (.iload_n 2, 1) := by decide +kernel
theorem dX10_blind_23 : decode cX10_blind 23 = .ok (.invokevirtual 430, 3) := by decide +kernel
theorem dX10_blind_26 : decode cX10_blind 26 = .ok (.ifCond .ne 6, 3) := by decide +kernel
theorem dX10_blind_29 : decode cX10_blind 29 = .ok (.iinc 1 1, 3) := by decide +kernel
theorem dX10_blind_32 : decode cX10_blind 32 = .ok (.iinc 2 1, 3) := by decide +kernel
theorem dX10_blind_35 : decode cX10_blind 35 = .ok (.goto (-31), 3) := by decide +kernel
theorem dX10_blind_38 : decode cX10_blind 38 = .ok (.iload_n 1, 1) := by decide +kernel
theorem dX10_blind_39 : decode cX10_blind 39 = .ok (.ireturn, 1) := by decide +kernel
set_option maxRecDepth 20000 in
theorem ggX10_looseMany_X10_hangs : GoodIn wsX10_looseMany wsX10_hangs := goodIn_r _ [5, 6, 7, 8, 9, 10, 4, 11, 12, 13, 14, 15, 16, 17, 18, 19, 20, 21, 22, 23, 24, 25, 26, 27, 28, 29, 30, 31, 32, 33, 34, 35, 36, 37, 38, 39, 40, 55, 56, 57, 58, 59, 60, 61, 62, 63, 64, 65, 66, 67, 68, 69, 70, 71, 72, 73, 74, 75, 76, 77, 78, 79, 80, 81, 82, 83, 84, 85, 86, 87, 88, 89, 90, 91, 92, 93, 94, 95, 96, 97, 98, 99, 100, 101, 102, 103, 104, 105, 106, 107, 108, 109, 110, 111] (by decide +kernel) (by decide +kernel)
set_option maxRecDepth 20000 in
theorem gX10_looseMany_X10_hangs : GoodIn wsX10_looseMany (wsV RX10 421 RX10 yX10_hangs wsX10_hangs) := goodIn_app (goodIn_of _ (by decide +kernel)) ggX10_looseMany_X10_hangs
set_option maxRecDepth 20000 in
theorem ggX10_looseMany_X10_pictures : GoodIn wsX10_looseMany wsX10_pictures := goodIn_r _ [30, 12, 55, 56, 57, 58, 59, 60, 61, 62, 63, 64, 65, 66, 67, 68, 69, 70, 71, 72, 73, 74, 75, 76, 77, 78, 79, 80, 81, 82, 83, 84, 85, 86, 87, 88, 89, 90, 91, 92, 93, 94, 95, 96, 97, 98, 99, 100, 101, 102, 103, 104, 105, 106, 107, 108, 109, 110, 111] (by decide +kernel) (by decide +kernel)
set_option maxRecDepth 20000 in
theorem gX10_looseMany_X10_pictures : GoodIn wsX10_looseMany (wsV RX10 259 RX10 yX10_pictures wsX10_pictures) := goodIn_app (goodIn_of _ (by decide +kernel)) ggX10_looseMany_X10_pictures
set_option maxRecDepth 20000 in
theorem ggX10_looseMany_X10_isLoose : GoodIn wsX10_looseMany wsX10_isLoose := goodIn_r _ [44, 6, 45, 46, 47, 4, 48, 12, 49, 50, 51, 52, 53, 54, 55, 56, 57, 58, 59, 60, 61, 62, 63, 64, 65, 66, 67, 68, 69, 70, 71, 72, 73, 74, 75, 76, 77, 78, 79, 80, 81, 82, 83, 84, 85, 86, 87, 88, 89, 90, 91, 92, 93, 94, 95, 96, 97, 98, 99, 100, 101, 102, 103, 104, 105, 106, 107, 108, 109, 110, 111] (by decide +kernel) (by decide +kernel)
set_option maxRecDepth 20000 in
theorem gX10_looseMany_X10_isLoose : GoodIn wsX10_looseMany (wsV RX10 424 RX10 yX10_isLoose wsX10_isLoose) := goodIn_app (goodIn_of _ (by decide +kernel)) ggX10_looseMany_X10_isLoose
theorem dX10_looseMany_0 : decode cX10_looseMany 0 = .ok (.aload_n 0, 1) := by decide +kernel
theorem dX10_looseMany_1 : decode cX10_looseMany 1 = .ok (.invokevirtual 421, 3) := by decide +kernel
theorem dX10_looseMany_4 : decode cX10_looseMany 4 = .ok (.iconst 0, 1) := by decide +kernel
theorem dX10_looseMany_5 : decode cX10_looseMany 5 = .ok (.istore_n 1, 1) := by decide +kernel
theorem dX10_looseMany_6 : decode cX10_looseMany 6 = .ok (.iconst 0, 1) := by decide +kernel
theorem dX10_looseMany_7 : decode cX10_looseMany 7 = .ok (.istore_n 2, 1) := by decide +kernel
theorem dX10_looseMany_8 : decode cX10_looseMany 8 = .ok (.iload_n 2, 1) := by decide +kernel
theorem dX10_looseMany_9 : decode cX10_looseMany 9 = .ok (.aload_n 0, 1) := by decide +kernel
theorem dX10_looseMany_10 : decode cX10_looseMany 10 = .ok (.invokevirtual 259, 3) := by decide +kernel
theorem dX10_looseMany_13 : decode cX10_looseMany 13 = .ok (.if_icmp .ge 20, 3) := by decide +kernel
theorem dX10_looseMany_16 : decode cX10_looseMany 16 = .ok (.aload_n 0, 1) := by decide +kernel
theorem dX10_looseMany_17 : decode cX10_looseMany 17 = .ok (.iload_n 2, 1) := by decide +kernel
theorem dX10_looseMany_18 : decode cX10_looseMany 18 = .ok (.invokevirtual 424, 3) := by decide +kernel
theorem dX10_looseMany_21 : decode cX10_looseMany 21 = .ok (.ifCond .eq 6, 3) := by decide +kernel
theorem dX10_looseMany_24 : decode cX10_looseMany 24 = .ok (.iinc 1 1, 3) := by decide +kernel
theorem dX10_looseMany_27 : decode cX10_looseMany 27 = .ok (.iinc 2 1, 3) := by decide +kernel
theorem dX10_looseMany_30 : decode cX10_looseMany 30 = .ok (.goto (-22), 3) := by decide +kernel
theorem dX10_looseMany_33 : decode cX10_looseMany 33 = .ok (.iload_n 1, 1) := by decide +kernel
theorem dX10_looseMany_34 : decode cX10_looseMany 34 = .ok (.ireturn, 1) := by decide +kernel
set_option maxRecDepth 20000 in
theorem ggX10_needs_X10_isRow : GoodIn wsX10_needs wsX10_isRow := goodIn_r _ [6, 7, 8, 9, 5, 10, 11, 12, 13, 14, 66, 67, 68, 69, 70, 71, 72, 73, 74, 75, 76, 77, 78, 79, 80, 81, 82, 83, 84, 85, 86, 87, 88, 89, 90, 91, 92, 93, 94, 95, 96, 97, 98, 99, 100, 101, 102, 103, 104, 105, 106, 107, 108, 109, 110, 111, 112, 113, 114, 115, 116, 117, 118, 119, 120, 121, 122] (by decide +kernel) (by decide +kernel)
set_option maxRecDepth 20000 in
theorem gX10_needs_X10_isRow : GoodIn wsX10_needs (wsV RX10 433 RX10 yX10_isRow wsX10_isRow) := goodIn_app (goodIn_of _ (by decide +kernel)) ggX10_needs_X10_isRow
set_option maxRecDepth 20000 in
theorem ggX10_needs_X10_looseMany : GoodIn wsX10_needs wsX10_looseMany := goodIn_r _ [18, 19, 20, 21, 5, 22, 23, 1, 7, 8, 9, 10, 11, 24, 25, 26, 27, 28, 29, 30, 31, 32, 33, 34, 35, 36, 37, 38, 39, 40, 41, 42, 43, 44, 45, 46, 47, 48, 49, 50, 51, 52, 53, 54, 55, 56, 57, 58, 59, 60, 61, 62, 63, 64, 65, 66, 67, 68, 69, 70, 71, 72, 73, 74, 75, 76, 77, 78, 79, 80, 81, 82, 83, 84, 85, 86, 87, 88, 89, 90, 91, 92, 93, 94, 95, 96, 97, 98, 99, 100, 101, 102, 103, 104, 105, 106, 107, 108, 109, 110, 111, 112, 113, 114, 115, 116, 117, 118, 119, 120, 121, 122] (by decide +kernel) (by decide +kernel)
set_option maxRecDepth 20000 in
theorem gX10_needs_X10_looseMany : GoodIn wsX10_needs (wsV RX10 436 RX10 yX10_looseMany wsX10_looseMany) := goodIn_app (goodIn_of _ (by decide +kernel)) ggX10_needs_X10_looseMany
theorem dX10_needs_0 : decode cX10_needs 0 = .ok (.aload_n 0, 1) := by decide +kernel
theorem dX10_needs_1 : decode cX10_needs 1 = .ok (.iload_n 1, 1) := by decide +kernel
theorem dX10_needs_2 : decode cX10_needs 2 = .ok (.invokevirtual 433, 3) := by decide +kernel
theorem dX10_needs_5 : decode cX10_needs 5 = .ok (.ifCond .eq 12, 3) := by decide +kernel
theorem dX10_needs_8 : decode cX10_needs 8 = .ok (.aload_n 0, 1) := by decide +kernel
theorem dX10_needs_9 : decode cX10_needs 9 = .ok (.getfield 91, 3) := by decide +kernel
theorem dX10_needs_12 : decode cX10_needs 12 = .ok (.iload_n 1, 1) := by decide +kernel
theorem dX10_needs_13 : decode cX10_needs 13 = .ok (.baload, 1) := by decide +kernel
theorem dX10_needs_14 : decode cX10_needs 14 = .ok (.ifCond .eq 5, 3) := by decide +kernel
theorem dX10_needs_17 : decode cX10_needs 17 = .ok (.iconst (-1), 1) := by decide +kernel
theorem dX10_needs_18 : decode cX10_needs 18 = .ok (.ireturn, 1) := by decide +kernel
theorem dX10_needs_19 : decode cX10_needs 19 = .ok (.aload_n 0, 1) := by decide +kernel
theorem dX10_needs_20 : decode cX10_needs 20 = .ok (.invokevirtual 436, 3) := by decide +kernel
theorem dX10_needs_23 : decode cX10_needs 23 = .ok (.istore_n 2, 1) := by decide +kernel
theorem dX10_needs_24 : decode cX10_needs 24 = .ok (.aload_n 0, 1) := by decide +kernel
theorem dX10_needs_25 : decode cX10_needs 25 = .ok (.getfield 91, 3) := by decide +kernel
theorem dX10_needs_28 : decode cX10_needs 28 = .ok (.iload_n 1, 1) := by decide +kernel
theorem dX10_needs_29 : decode cX10_needs 29 = .ok (.iconst 1, 1) := by decide +kernel
theorem dX10_needs_30 : decode cX10_needs 30 = .ok (.bastore, 1) := by decide +kernel
theorem dX10_needs_31 : decode cX10_needs 31 = .ok (.aload_n 0, 1) := by decide +kernel
theorem dX10_needs_32 : decode cX10_needs 32 = .ok (.invokevirtual 436, 3) := by decide +kernel
theorem dX10_needs_35 : decode cX10_needs 35 = .ok (.istore_n 3, 1) := by decide +kernel
theorem dX10_needs_36 : decode cX10_needs 36 = .ok (.aload_n 0, 1) := by decide +kernel
theorem dX10_needs_37 : decode cX10_needs 37 = .ok (.getfield 91, 3) := by decide +kernel
theorem dX10_needs_40 : decode cX10_needs 40 = .ok (.iload_n 1, 1) := by decide +kernel
theorem dX10_needs_41 : decode cX10_needs 41 = .ok (.iconst 0, 1) := by decide +kernel
theorem dX10_needs_42 : decode cX10_needs 42 = .ok (.bastore, 1) := by decide +kernel
theorem dX10_needs_43 : decode cX10_needs 43 = .ok (.iload_n 3, 1) := by decide +kernel
theorem dX10_needs_44 : decode cX10_needs 44 = .ok (.iload_n 2, 1) := by decide +kernel
theorem dX10_needs_45 : decode cX10_needs 45 = .ok (.isub, 1) := by decide +kernel
theorem dX10_needs_46 : decode cX10_needs 46 = .ok (.ireturn, 1) := by decide +kernel
set_option maxRecDepth 20000 in
theorem ggX10_rowsOf_X10_rows : GoodIn wsX10_rowsOf wsX10_rows := goodIn_r _ [6, 7, 18, 19, 20, 21, 22, 23, 24, 25, 26, 27, 28, 29, 30, 31, 32, 33, 34, 35, 36, 37, 38, 39, 40, 41, 42, 43, 44, 45, 46, 47, 48, 49, 50, 51, 52, 53, 54, 55, 56, 57, 58, 59, 60, 61, 62, 63, 64, 65, 66, 67, 68, 69, 70, 71, 72, 73, 74] (by decide +kernel) (by decide +kernel)
set_option maxRecDepth 20000 in
theorem gX10_rowsOf_X10_rows : GoodIn wsX10_rowsOf (wsV RX10 265 RX10 yX10_rows wsX10_rows) := goodIn_app (goodIn_of _ (by decide +kernel)) ggX10_rowsOf_X10_rows
set_option maxRecDepth 20000 in
theorem ggX10_rowsOf_X10_pictureOf : GoodIn wsX10_rowsOf wsX10_pictureOf := goodIn_r _ [11, 12, 18, 19, 20, 21, 22, 23, 24, 25, 26, 27, 28, 29, 30, 31, 32, 33, 34, 35, 36, 37, 38, 39, 40, 41, 42, 43, 44, 45, 46, 47, 48, 49, 50, 51, 52, 53, 54, 55, 56, 57, 58, 59, 60, 61, 62, 63, 64, 65, 66, 67, 68, 69, 70, 71, 72, 73, 74] (by decide +kernel) (by decide +kernel)
set_option maxRecDepth 20000 in
theorem gX10_rowsOf_X10_pictureOf : GoodIn wsX10_rowsOf (wsV RX10 274 RX10 yX10_pictureOf wsX10_pictureOf) := goodIn_app (goodIn_of _ (by decide +kernel)) ggX10_rowsOf_X10_pictureOf
set_option maxRecDepth 20000 in
theorem ggX10_rowsOf_X10_pointOf : GoodIn wsX10_rowsOf wsX10_pointOf := goodIn_r _ [16, 17, 18, 19, 20, 21, 22, 23, 24, 25, 26, 27, 28, 29, 30, 31, 32, 33, 34, 35, 36, 37, 38, 39, 40, 41, 42, 43, 44, 45, 46, 47, 48, 49, 50, 51, 52, 53, 54, 55, 56, 57, 58, 59, 60, 61, 62, 63, 64, 65, 66, 67, 68, 69, 70, 71, 72, 73, 74] (by decide +kernel) (by decide +kernel)
set_option maxRecDepth 20000 in
theorem gX10_rowsOf_X10_pointOf : GoodIn wsX10_rowsOf (wsV RX10 281 RX10 yX10_pointOf wsX10_pointOf) := goodIn_app (goodIn_of _ (by decide +kernel)) ggX10_rowsOf_X10_pointOf
theorem dX10_rowsOf_0 : decode cX10_rowsOf 0 = .ok (.iconst 0, 1) := by decide +kernel
theorem dX10_rowsOf_1 : decode cX10_rowsOf 1 = .ok (.istore_n 3, 1) := by decide +kernel
theorem dX10_rowsOf_2 : decode cX10_rowsOf 2 = .ok (.iconst 0, 1) := by decide +kernel
theorem dX10_rowsOf_3 : decode cX10_rowsOf 3 = .ok (.istore 4, 2) := by decide +kernel
theorem dX10_rowsOf_5 : decode cX10_rowsOf 5 = .ok (.iload 4, 2) := by decide +kernel
theorem dX10_rowsOf_7 : decode cX10_rowsOf 7 = .ok (.aload_n 0, 1) := by decide +kernel
theorem dX10_rowsOf_8 : decode cX10_rowsOf 8 = .ok (.invokevirtual 265, 3) := by decide +kernel
theorem dX10_rowsOf_11 : decode cX10_rowsOf 11 = .ok (.if_icmp .ge 52, 3) := by decide +kernel
theorem dX10_rowsOf_14 : decode cX10_rowsOf 14 = .ok (.aload_n 0, 1) := by decide +kernel
theorem dX10_rowsOf_15 : decode cX10_rowsOf 15 = .ok (.getfield 91, 3) := by decide +kernel
theorem dX10_rowsOf_18 : decode cX10_rowsOf 18 = .ok (.iload 4, 2) := by decide +kernel
theorem dX10_rowsOf_20 : decode cX10_rowsOf 20 = .ok (.baload, 1) := by decide +kernel
theorem dX10_rowsOf_21 : decode cX10_rowsOf 21 = .ok (.ifCond .ne 36, 3) := by decide +kernel
theorem dX10_rowsOf_24 : decode cX10_rowsOf 24 = .ok (.iload_n 1, 1) := by decide +kernel
theorem dX10_rowsOf_25 : decode cX10_rowsOf 25 = .ok (.iconst (-1), 1) := by decide +kernel
theorem dX10_rowsOf_26 : decode cX10_rowsOf 26 = .ok (.if_icmp .eq 13, 3) := by decide +kernel
theorem dX10_rowsOf_29 : decode cX10_rowsOf 29 = .ok (.aload_n 0, 1) := by decide +kernel
theorem dX10_rowsOf_30 : decode cX10_rowsOf 30 = .ok (.iload 4, 2) := by decide +kernel
theorem dX10_rowsOf_32 : decode cX10_rowsOf 32 = .ok (.invokevirtual 274, 3) := by decide +kernel
theorem dX10_rowsOf_35 : decode cX10_rowsOf 35 = .ok (.iload_n 1, 1) := by decide +kernel
theorem dX10_rowsOf_36 : decode cX10_rowsOf 36 = .ok (.if_icmp .ne 21, 3) := by decide +kernel
theorem dX10_rowsOf_39 : decode cX10_rowsOf 39 = .ok (.iload_n 2, 1) := by decide +kernel
theorem dX10_rowsOf_40 : decode cX10_rowsOf 40 = .ok (.iconst (-1), 1) := by decide +kernel
theorem dX10_rowsOf_41 : decode cX10_rowsOf 41 = .ok (.if_icmp .eq 13, 3) := by decide +kernel
theorem dX10_rowsOf_44 : decode cX10_rowsOf 44 = .ok (.aload_n 0, 1) := by decide +kernel
theorem dX10_rowsOf_45 : decode cX10_rowsOf 45 = .ok (.iload 4, 2) := by decide +kernel
theorem dX10_rowsOf_47 : decode cX10_rowsOf 47 = .ok (.invokevirtual 281, 3) := by decide +kernel
theorem dX10_rowsOf_50 : decode cX10_rowsOf 50 = .ok (.iload_n 2, 1) := by decide +kernel
theorem dX10_rowsOf_51 : decode cX10_rowsOf 51 = .ok (.if_icmp .ne 6, 3) := by decide +kernel
theorem dX10_rowsOf_54 : decode cX10_rowsOf 54 = .ok (.iinc 3 1, 3) := by decide +kernel
theorem dX10_rowsOf_57 : decode cX10_rowsOf 57 = .ok (.iinc 4 1, 3) := by decide +kernel
theorem dX10_rowsOf_60 : decode cX10_rowsOf 60 = .ok (.goto (-55), 3) := by decide +kernel
theorem dX10_rowsOf_63 : decode cX10_rowsOf 63 = .ok (.iload_n 3, 1) := by decide +kernel
theorem dX10_rowsOf_64 : decode cX10_rowsOf 64 = .ok (.ireturn, 1) := by decide +kernel
set_option maxRecDepth 20000 in
theorem ggX10_picture_X10_isPicture : GoodIn wsX10_picture wsX10_isPicture := goodIn_r _ [9, 10, 11, 12, 8, 13, 14, 15, 16, 17, 70, 71, 72, 73, 74, 75, 76, 77, 78, 79, 80, 81, 82, 83, 84, 85, 86, 87, 88, 89, 90, 91, 92, 93, 94, 95, 96, 97, 98, 99, 100, 101, 102, 103, 104, 105, 106, 107, 108, 109, 110, 111, 112, 113, 114, 115, 116, 117, 118, 119, 120, 121, 122, 123, 124, 125, 126] (by decide +kernel) (by decide +kernel)
set_option maxRecDepth 20000 in
theorem gX10_picture_X10_isPicture : GoodIn wsX10_picture (wsV RX10 427 RX10 yX10_isPicture wsX10_isPicture) := goodIn_app (goodIn_of _ (by decide +kernel)) ggX10_picture_X10_isPicture
set_option maxRecDepth 20000 in
theorem ggX10_picture_X10_strip : GoodIn wsX10_picture wsX10_strip := goodIn_r _ [21, 22, 70, 71, 72, 73, 74, 75, 76, 77, 78, 79, 80, 81, 82, 83, 84, 85, 86, 87, 88, 89, 90, 91, 92, 93, 94, 95, 96, 97, 98, 99, 100, 101, 102, 103, 104, 105, 106, 107, 108, 109, 110, 111, 112, 113, 114, 115, 116, 117, 118, 119, 120, 121, 122, 123, 124, 125, 126] (by decide +kernel) (by decide +kernel)
set_option maxRecDepth 20000 in
theorem gX10_picture_X10_strip : GoodIn wsX10_picture (wsV RX10 268 RX10 yX10_strip wsX10_strip) := goodIn_app (goodIn_of _ (by decide +kernel)) ggX10_picture_X10_strip
set_option maxRecDepth 20000 in
theorem ggX10_picture_X10_rowsOf : GoodIn wsX10_picture wsX10_rowsOf := goodIn_r _ [26, 27, 28, 29, 30, 8, 31, 14, 32, 33, 34, 35, 36, 37, 38, 39, 40, 41, 70, 71, 72, 73, 74, 75, 76, 77, 78, 79, 80, 81, 82, 83, 84, 85, 86, 87, 88, 89, 90, 91, 92, 93, 94, 95, 96, 97, 98, 99, 100, 101, 102, 103, 104, 105, 106, 107, 108, 109, 110, 111, 112, 113, 114, 115, 116, 117, 118, 119, 120, 121, 122, 123, 124, 125, 126] (by decide +kernel) (by decide +kernel)
set_option maxRecDepth 20000 in
theorem gX10_picture_X10_rowsOf : GoodIn wsX10_picture (wsV RX10 440 RX10 yX10_rowsOf wsX10_rowsOf) := goodIn_app (goodIn_of _ (by decide +kernel)) ggX10_picture_X10_rowsOf
set_option maxRecDepth 20000 in
theorem ggX10_picture_X10_hangs : GoodIn wsX10_picture wsX10_hangs := goodIn_r _ [45, 46, 27, 28, 29, 30, 8, 31, 14, 32, 33, 34, 35, 36, 37, 38, 39, 40, 41, 47, 48, 49, 50, 10, 11, 12, 13, 51, 52, 53, 54, 55, 18, 19, 20, 21, 22, 70, 71, 72, 73, 74, 75, 76, 77, 78, 79, 80, 81, 82, 83, 84, 85, 86, 87, 88, 89, 90, 91, 92, 93, 94, 95, 96, 97, 98, 99, 100, 101, 102, 103, 104, 105, 106, 107, 108, 109, 110, 111, 112, 113, 114, 115, 116, 117, 118, 119, 120, 121, 122, 123, 124, 125, 126] (by decide +kernel) (by decide +kernel)
set_option maxRecDepth 20000 in
theorem gX10_picture_X10_hangs : GoodIn wsX10_picture (wsV RX10 421 RX10 yX10_hangs wsX10_hangs) := goodIn_app (goodIn_of _ (by decide +kernel)) ggX10_picture_X10_hangs
set_option maxRecDepth 20000 in
theorem ggX10_picture_X10_isLoose : GoodIn wsX10_picture wsX10_isLoose := goodIn_r _ [59, 46, 60, 61, 62, 8, 63, 14, 64, 65, 66, 67, 68, 69, 70, 71, 72, 73, 74, 75, 76, 77, 78, 79, 80, 81, 82, 83, 84, 85, 86, 87, 88, 89, 90, 91, 92, 93, 94, 95, 96, 97, 98, 99, 100, 101, 102, 103, 104, 105, 106, 107, 108, 109, 110, 111, 112, 113, 114, 115, 116, 117, 118, 119, 120, 121, 122, 123, 124, 125, 126] (by decide +kernel) (by decide +kernel)
set_option maxRecDepth 20000 in
theorem gX10_picture_X10_isLoose : GoodIn wsX10_picture (wsV RX10 424 RX10 yX10_isLoose wsX10_isLoose) := goodIn_app (goodIn_of _ (by decide +kernel)) ggX10_picture_X10_isLoose
set_option maxRecDepth 20000 in
theorem ggX10_picture_X10_centreOf : GoodIn wsX10_picture wsX10_centreOf := goodIn_r _ [54, 55, 70, 71, 72, 73, 74, 75, 76, 77, 78, 79, 80, 81, 82, 83, 84, 85, 86, 87, 88, 89, 90, 91, 92, 93, 94, 95, 96, 97, 98, 99, 100, 101, 102, 103, 104, 105, 106, 107, 108, 109, 110, 111, 112, 113, 114, 115, 116, 117, 118, 119, 120, 121, 122, 123, 124, 125, 126] (by decide +kernel) (by decide +kernel)
set_option maxRecDepth 20000 in
theorem gX10_picture_X10_centreOf : GoodIn wsX10_picture (wsV RX10 271 RX10 yX10_centreOf wsX10_centreOf) := goodIn_app (goodIn_of _ (by decide +kernel)) ggX10_picture_X10_centreOf
theorem dX10_picture_0 : decode cX10_picture 0 = .ok (.aload_n 0, 1) := by decide +kernel
theorem dX10_picture_1 : decode cX10_picture 1 = .ok (.iload_n 1, 1) := by decide +kernel
theorem dX10_picture_2 : decode cX10_picture 2 = .ok (.invokevirtual 427, 3) := by decide +kernel
theorem dX10_picture_5 : decode cX10_picture 5 = .ok (.ifCond .ne 7, 3) := by decide +kernel
theorem dX10_picture_8 : decode cX10_picture 8 = .ok (.ldc_w 439, 3) := by decide +kernel
theorem dX10_picture_11 : decode cX10_picture 11 = .ok (.ireturn, 1) := by decide +kernel
theorem dX10_picture_12 : decode cX10_picture 12 = .ok (.iload_n 2, 1) := by decide +kernel
theorem dX10_picture_13 : decode cX10_picture 13 = .ok (.tableswitch 135 0 7 #[47, 53, 60, 79, 86, 96, 103, 121], 47) := by decide +kernel
theorem dX10_picture_60 : decode cX10_picture 60 = .ok (.aload_n 0, 1) := by decide +kernel
theorem dX10_picture_61 : decode cX10_picture 61 = .ok (.iload_n 1, 1) := by decide +kernel
theorem dX10_picture_62 : decode cX10_picture 62 = .ok (.invokevirtual 268, 3) := by decide +kernel
theorem dX10_picture_65 : decode cX10_picture 65 = .ok (.ireturn, 1) := by decide +kernel
theorem dX10_picture_66 : decode cX10_picture 66 = .ok (.aload_n 0, 1) := by decide +kernel
theorem dX10_picture_67 : decode cX10_picture 67 = .ok (.getfield 98, 3) := by decide +kernel
theorem dX10_picture_70 : decode cX10_picture 70 = .ok (.iload_n 1, 1) := by decide +kernel
theorem dX10_picture_71 : decode cX10_picture 71 = .ok (.iaload, 1) := by decide +kernel
theorem dX10_picture_72 : decode cX10_picture 72 = .ok (.ireturn, 1) := by decide +kernel
theorem dX10_picture_73 : decode cX10_picture 73 = .ok (.aload_n 0, 1) := by decide +kernel
theorem dX10_picture_74 : decode cX10_picture 74 = .ok (.getfield 64, 3) := by decide +kernel
theorem dX10_picture_77 : decode cX10_picture 77 = .ok (.bipush 12, 2) := by decide +kernel
theorem dX10_picture_79 : decode cX10_picture 79 = .ok (.iload_n 1, 1) := by decide +kernel
theorem dX10_picture_80 : decode cX10_picture 80 = .ok (.iadd, 1) := by decide +kernel
theorem dX10_picture_81 : decode cX10_picture 81 = .ok (.iaload, 1) := by decide +kernel
theorem dX10_picture_82 : decode cX10_picture 82 = .ok (.iconst 4, 1) := by decide +kernel
theorem dX10_picture_83 : decode cX10_picture 83 = .ok (.if_icmp .ne 7, 3) := by decide +kernel
theorem dX10_picture_86 : decode cX10_picture 86 = .ok (.iconst 1, 1) := by decide +kernel
theorem dX10_picture_87 : decode cX10_picture 87 = .ok (.goto 4, 3) := by decide +kernel
theorem dX10_picture_90 : decode cX10_picture 90 = .ok (.iconst 0, 1) := by decide +kernel
theorem dX10_picture_91 : decode cX10_picture 91 = .ok (.ireturn, 1) := by decide +kernel
theorem dX10_picture_92 : decode cX10_picture 92 = .ok (.aload_n 0, 1) := by decide +kernel
theorem dX10_picture_93 : decode cX10_picture 93 = .ok (.getfield 101, 3) := by decide +kernel
theorem dX10_picture_96 : decode cX10_picture 96 = .ok (.iload_n 1, 1) := by decide +kernel
theorem dX10_picture_97 : decode cX10_picture 97 = .ok (.iaload, 1) := by decide +kernel
theorem dX10_picture_98 : decode cX10_picture 98 = .ok (.ireturn, 1) := by decide +kernel
theorem dX10_picture_99 : decode cX10_picture 99 = .ok (.aload_n 0, 1) := by decide +kernel
theorem dX10_picture_100 : decode cX10_picture 100 = .ok (.getfield 101, 3) := by decide +kernel
theorem dX10_picture_103 : decode cX10_picture 103 = .ok (.bipush 38, 2) := by decide +kernel
theorem dX10_picture_105 : decode cX10_picture 105 = .ok (.iload_n 1, 1) := by decide +kernel
theorem dX10_picture_106 : decode cX10_picture 106 = .ok (.iadd, 1) := by decide +kernel
theorem dX10_picture_107 : decode cX10_picture 107 = .ok (.iaload, 1) := by decide +kernel
theorem dX10_picture_108 : decode cX10_picture 108 = .ok (.ireturn, 1) := by decide +kernel
theorem dX10_picture_109 : decode cX10_picture 109 = .ok (.aload_n 0, 1) := by decide +kernel
theorem dX10_picture_110 : decode cX10_picture 110 = .ok (.iload_n 1, 1) := by decide +kernel
theorem dX10_picture_111 : decode cX10_picture 111 = .ok (.iconst (-1), 1) := by decide +kernel
theorem dX10_picture_112 : decode cX10_picture 112 = .ok (.invokevirtual 440, 3) := by decide +kernel
theorem dX10_picture_115 : decode cX10_picture 115 = .ok (.ireturn, 1) := by decide +kernel
theorem dX10_picture_116 : decode cX10_picture 116 = .ok (.aload_n 0, 1) := by decide +kernel
theorem dX10_picture_117 : decode cX10_picture 117 = .ok (.invokevirtual 421, 3) := by decide +kernel
theorem dX10_picture_120 : decode cX10_picture 120 = .ok (.aload_n 0, 1) := by decide +kernel
theorem dX10_picture_121 : decode cX10_picture 121 = .ok (.iload_n 1, 1) := by decide +kernel
theorem dX10_picture_122 : decode cX10_picture 122 = .ok (.invokevirtual 424, 3) := by decide +kernel
theorem dX10_picture_125 : decode cX10_picture 125 = .ok (.ifCond .eq 7, 3) := by decide +kernel
theorem dX10_picture_128 : decode cX10_picture 128 = .ok (.iconst 1, 1) := by decide +kernel
theorem dX10_picture_129 : decode cX10_picture 129 = .ok (.goto 4, 3) := by decide +kernel
theorem dX10_picture_132 : decode cX10_picture 132 = .ok (.iconst 0, 1) := by decide +kernel
theorem dX10_picture_133 : decode cX10_picture 133 = .ok (.ireturn, 1) := by decide +kernel
theorem dX10_picture_134 : decode cX10_picture 134 = .ok (.aload_n 0, 1) := by decide +kernel
theorem dX10_picture_135 : decode cX10_picture 135 = .ok (.iload_n 1, 1) := by decide +kernel
theorem dX10_picture_136 : decode cX10_picture 136 = .ok (.invokevirtual 271, 3) := by decide +kernel
theorem dX10_picture_139 : decode cX10_picture 139 = .ok (.ifCond .le 7, 3) := by decide +kernel
theorem dX10_picture_142 : decode cX10_picture 142 = .ok (.iconst 1, 1) := by decide +kernel
theorem dX10_picture_143 : decode cX10_picture 143 = .ok (.goto 4, 3) := by decide +kernel
theorem dX10_picture_146 : decode cX10_picture 146 = .ok (.iconst 0, 1) := by decide +kernel
theorem dX10_picture_147 : decode cX10_picture 147 = .ok (.ireturn, 1) := by decide +kernel
theorem dX10_picture_148 : decode cX10_picture 148 = .ok (.ldc_w 439, 3) := by decide +kernel
theorem dX10_picture_151 : decode cX10_picture 151 = .ok (.ireturn, 1) := by decide +kernel
set_option maxRecDepth 20000 in
theorem ggX10_point_X10_isPoint : GoodIn wsX10_point wsX10_isPoint := goodIn_r _ [8, 9, 10, 11, 7, 12, 13, 14, 15, 16, 68, 69, 70, 71, 72, 73, 74, 75, 76, 77, 78, 79, 80, 81, 82, 83, 84, 85, 86, 87, 88, 89, 90, 91, 92, 93, 94, 95, 96, 97, 98, 99, 100, 101, 102, 103, 104, 105, 106, 107, 108, 109, 110, 111, 112, 113, 114, 115, 116, 117, 118, 119, 120, 121, 122, 123, 124] (by decide +kernel) (by decide +kernel)
