set_option maxRecDepth 20000 in
theorem gX10_rowsOf_X10_pictureOf : GoodIn wsX10_rowsOf (wsV RX10 274 RX10 yX10_pictureOf wsX10_pictureOf) := goodIn_app (goodIn_of _ (by decide +kernel)) ggX10_rowsOf_X10_pictureOf
set_option maxRecDepth 20000 in
theorem ggX10_rowsOf_X10_pointOf : GoodIn wsX10_rowsOf wsX10_pointOf := goodIn_r _ [16, 17, 18, 19, 20, 21, 22, 23, 24, 25, 26, 27, 28, 29, 30, 31, 32, 33, 34, 35, 36, 37, 38, 39, 40, 41, 42, 43, 44, 45, 46, 47, 48, 49, 50, 51, 52, 53, 54, 55, 56, 57, 58, 59, 60, 61, 62, 63, 64, 65, 66, 67, 68, 69, 70, 71, 72, 73, 74] (by decide +kernel) (by decide +kernel)
set_option maxRecDepth 20000 in
theorem gX10_rowsOf_X10_pointOf : GoodIn wsX10_rowsOf (wsV RX10 281 RX10 yX10_pointOf wsX10_pointOf) := goodIn_app (goodIn_of _ (by decide +kernel)) ggX10_rowsOf_X10_pointOf
theorem dX10_rowsOf_0 : decode cX10_rowsOf 0 = .ok (.iconst 0, 1) := by decide +kernel
theorem dX10_rowsOf_1 : decode cX10_rowsOf 1 = .ok (.istore_n 3, 1) := by decide +kernel
theorem dX10_rowsOf_2 : decode cX10_rowsOf 2 = .ok (.iconst 0, 1) := by decide +kernel
theorem dX10_rowsOf_3 : decode cX10_rowsOf 3 = .ok (.istore 4, 2) := by decide +kernel
theorem dX10_rowsOf_5 : decode cX10_rowsOf 5 = .ok (.iload 4, 2) := by decide +kernel
theorem dX10_rowsOf_7 : decode cX10_rowsOf 7 = .ok (.aload_n 0, 1) := by decide +kernel
theorem dX10_rowsOf_8 : decode cX10_rowsOf 8 = .ok (.invokevirtual 265, 3) := by decide +kernel
theorem dX10_rowsOf_11 : decode cX10_rowsOf 11 = .ok (.if_icmp .ge 52, 3) := by decide +kernel
theorem dX10_rowsOf_14 : decode cX10_rowsOf 14 = .ok (.aload_n 0, 1) := by decide +kernel
theorem dX10_rowsOf_15 : decode cX10_rowsOf 15 = .ok (.getfield 91, 3) := by decide +kernel
theorem dX10_rowsOf_18 : decode cX10_rowsOf 18 = .ok (.iload 4, 2) := by decide +kernel
theorem dX10_rowsOf_20 : decode cX10_rowsOf 20 = .ok (.baload, 1) := by decide +kernel
theorem dX10_rowsOf_21 : decode cX10_rowsOf 21 = .ok (.ifCond .ne 36, 3) := by decide +kernel
theorem dX10_rowsOf_24 : decode cX10_rowsOf 24 = .ok (.iload_n 1, 1) := by decide +kernel
theorem dX10_rowsOf_25 : decode cX10_rowsOf 25 = .ok (.iconst (-1), 1) := by decide +kernel
theorem dX10_rowsOf_26 : decode cX10_rowsOf 26 = .ok (.if_icmp .eq 13, 3) := by decide +kernel
theorem dX10_rowsOf_29 : decode cX10_rowsOf 29 = .ok (.aload_n 0, 1) := by decide +kernel
theorem dX10_rowsOf_30 : decode cX10_rowsOf 30 = .ok (.iload 4, 2) := by decide +kernel
theorem dX10_rowsOf_32 : decode cX10_rowsOf 32 = .ok (.invokevirtual 274, 3) := by decide +kernel
theorem dX10_rowsOf_35 : decode cX10_rowsOf 35 = .ok (.iload_n 1, 1) := by decide +kernel
theorem dX10_rowsOf_36 : decode cX10_rowsOf 36 = .ok (.if_icmp .ne 21, 3) := by decide +kernel
theorem dX10_rowsOf_39 : decode cX10_rowsOf 39 = .ok (.iload_n 2, 1) := by decide +kernel
theorem dX10_rowsOf_40 : decode cX10_rowsOf 40 = .ok (.iconst (-1), 1) := by decide +kernel
theorem dX10_rowsOf_41 : decode cX10_rowsOf 41 = .ok (.if_icmp .eq 13, 3) := by decide +kernel
theorem dX10_rowsOf_44 : decode cX10_rowsOf 44 = .ok (.aload_n 0, 1) := by decide +kernel
theorem dX10_rowsOf_45 : decode cX10_rowsOf 45 = .ok (.iload 4, 2) := by decide +kernel
theorem dX10_rowsOf_47 : decode cX10_rowsOf 47 = .ok (.invokevirtual 281, 3) := by decide +kernel
theorem dX10_rowsOf_50 : decode cX10_rowsOf 50 = .ok (.iload_n 2, 1) := by decide +kernel
theorem dX10_rowsOf_51 : decode cX10_rowsOf 51 = .ok (.if_icmp .ne 6, 3) := by decide +kernel
theorem dX10_rowsOf_54 : decode cX10_rowsOf 54 = .ok (.iinc 3 1, 3) := by decide +kernel
theorem dX10_rowsOf_57 : decode cX10_rowsOf 57 = .ok (.iinc 4 1, 3) := by decide +kernel
theorem dX10_rowsOf_60 : decode cX10_rowsOf 60 = .ok (.goto (-55), 3) := by decide +kernel
theorem dX10_rowsOf_63 : decode cX10_rowsOf 63 = .ok (.iload_n 3, 1) := by decide +kernel
theorem dX10_rowsOf_64 : decode cX10_rowsOf 64 = .ok (.ireturn, 1) := by decide +kernel
set_option maxRecDepth 20000 in
theorem ggX10_picture_X10_isPicture : GoodIn wsX10_picture wsX10_isPicture := goodIn_r _ [9, 10, 11, 12, 8, 13, 14, 15, 16, 17, 70, 71, 72, 73, 74, 75, 76, 77, 78, 79, 80, 81, 82, 83, 84, 85, 86, 87, 88, 89, 90, 91, 92, 93, 94, 95, 96, 97, 98, 99, 100, 101, 102, 103, 104, 105, 106, 107, 108, 109, 110, 111, 112, 113, 114, 115, 116, 117, 118, 119, 120, 121, 122, 123, 124, 125, 126] (by decide +kernel) (by decide +kernel)
set_option maxRecDepth 20000 in
theorem gX10_picture_X10_isPicture : GoodIn wsX10_picture (wsV RX10 427 RX10 yX10_isPicture wsX10_isPicture) := goodIn_app (goodIn_of _ (by decide +kernel)) ggX10_picture_X10_isPicture
set_option maxRecDepth 20000 in
theorem ggX10_picture_X10_strip : GoodIn wsX10_picture wsX10_strip := goodIn_r _ [21, 22, 70, 71, 72, 73, 74, 75, 76, 77, 78, 79, 80, 81, 82, 83, 84, 85, 86, 87, 88, 89, 90, 91, 92, 93, 94, 95, 96, 97, 98, 99, 100, 101, 102, 103, 104, 105, 106, 107, 108, 109, 110, 111, 112, 113, 114, 115, 116, 117, 118, 119, 120, 121, 122, 123, 124, 125, 126] (by decide +kernel) (by decide +kernel)
set_option maxRecDepth 20000 in
theorem gX10_picture_X10_strip : GoodIn wsX10_picture (wsV RX10 268 RX10 yX10_strip wsX10_strip) := goodIn_app (goodIn_of _ (by decide +kernel)) ggX10_picture_X10_strip
set_option maxRecDepth 20000 in
theorem ggX10_picture_X10_rowsOf : GoodIn wsX10_picture wsX10_rowsOf := goodIn_r _ [26, 27, 28, 29, 30, 8, 31, 14, 32, 33, 34, 35, 36, 37, 38, 39, 40, 41, 70, 71, 72, 73, 74, 75, 76, 77, 78, 79, 80, 81, 82, 83, 84, 85, 86, 87, 88, 89, 90, 91, 92, 93, 94, 95, 96, 97, 98, 99, 100, 101, 102, 103, 104, 105, 106, 107, 108, 109, 110, 111, 112, 113, 114, 115, 116, 117, 118, 119, 120, 121, 122, 123, 124, 125, 126] (by decide +kernel) (by decide +kernel)
set_option maxRecDepth 20000 in
theorem gX10_picture_X10_rowsOf : GoodIn wsX10_picture (wsV RX10 440 RX10 yX10_rowsOf wsX10_rowsOf) := goodIn_app (goodIn_of _ (by decide +kernel)) ggX10_picture_X10_rowsOf
set_option maxRecDepth 20000 in
theorem ggX10_picture_X10_hangs : GoodIn wsX10_picture wsX10_hangs := goodIn_r _ [45, 46, 27, 28, 29, 30, 8, 31, 14, 32, 33, 34, 35, 36, 37, 38, 39, 40, 41, 47, 48, 49, 50, 10, 11, 12, 13, 51, 52, 53, 54, 55, 18, 19, 20, 21, 22, 70, 71, 72, 73, 74, 75, 76, 77, 78, 79, 80, 81, 82, 83, 84, 85, 86, 87, 88, 89, 90, 91, 92, 93, 94, 95, 96, 97, 98, 99, 100, 101, 102, 103, 104, 105, 106, 107, 108, 109, 110, 111, 112, 113, 114, 115, 116, 117, 118, 119, 120, 121, 122, 123, 124, 125, 126] (by decide +kernel) (by decide +kernel)
set_option maxRecDepth 20000 in
theorem gX10_picture_X10_hangs : GoodIn wsX10_picture (wsV RX10 421 RX10 yX10_hangs wsX10_hangs) := goodIn_app (goodIn_of _ (by decide +kernel)) ggX10_picture_X10_hangs
set_option maxRecDepth 20000 in
theorem ggX10_picture_X10_isLoose : GoodIn wsX10_picture wsX10_isLoose := goodIn_r _ [59, 46, 60, 61, 62, 8, 63, 14, 64, 65, 66, 67, 68, 69, 70, 71, 72, 73, 74, 75, 76, 77, 78, 79, 80, 81, 82, 83, 84, 85, 86, 87, 88, 89, 90, 91, 92, 93, 94, 95, 96, 97, 98, 99, 100, 101, 102, 103, 104, 105, 106, 107, 108, 109, 110, 111, 112, 113, 114, 115, 116, 117, 118, 119, 120, 121, 122, 123, 124, 125, 126] (by decide +kernel) (by decide +kernel)
set_option maxRecDepth 20000 in
theorem gX10_picture_X10_isLoose : GoodIn wsX10_picture (wsV RX10 424 RX10 yX10_isLoose wsX10_isLoose) := goodIn_app (goodIn_of _ (by decide +kernel)) ggX10_picture_X10_isLoose
set_option maxRecDepth 20000 in
theorem ggX10_picture_X10_centreOf : GoodIn wsX10_picture wsX10_centreOf := goodIn_r _ [54, 55, 70, 71, 72, 73, 74, 75, 76, 77, 78, 79, 80, 81, 82, 83, 84, 85, 86, 87, 88, 89, 90, 91, 92, 93, 94, 95, 96, 97, 98, 99, 100, 101, 102, 103, 104, 105, 106, 107, 108, 109, 110, 111, 112, 113, 114, 115, 116, 117, 118, 119, 120, 121, 122, 123, 124, 125, 126] (by decide +kernel) (by decide +kernel)
set_option maxRecDepth 20000 in
theorem gX10_picture_X10_centreOf : GoodIn wsX10_picture (wsV RX10 271 RX10 yX10_centreOf wsX10_centreOf) := goodIn_app (goodIn_of _ (by decide +kernel)) ggX10_picture_X10_centreOf
theorem dX10_picture_0 : decode cX10_picture 0 = .ok (.aload_n 0, 1) := by decide +kernel
theorem dX10_picture_1 : decode cX10_picture 1 = .ok (.iload_n 1, 1) := by decide +kernel
theorem dX10_picture_2 : decode cX10_picture 2 = .ok (.invokevirtual 427, 3) := by decide +kernel
theorem dX10_picture_5 : decode cX10_picture 5 = .ok (.ifCond .ne 7, 3) := by decide +kernel
theorem dX10_picture_8 : decode cX10_picture 8 = .ok (.ldc_w 439, 3) := by decide +kernel
theorem dX10_picture_11 : decode cX10_picture 11 = .ok (.ireturn, 1) := by decide +kernel
theorem dX10_picture_12 : decode cX10_picture 12 = .ok (.iload_n 2, 1) := by decide +kernel
theorem dX10_picture_13 : decode cX10_picture 13 = .ok (.tableswitch 135 0 7 #[47, 53, 60, 79, 86, 96, 103, 121], 47) := by decide +kernel
theorem dX10_picture_60 : decode cX10_picture 60 = .ok (.aload_n 0, 1) := by decide +kernel
theorem dX10_picture_61 : decode cX10_picture 61 = .ok (.iload_n 1, 1) := by decide +kernel
theorem dX10_picture_62 : decode cX10_picture 62 = .ok (.invokevirtual 268, 3) := by decide +kernel
theorem dX10_picture_65 : decode cX10_picture 65 = .ok (.ireturn, 1) := by decide +kernel
theorem dX10_picture_66 : decode cX10_picture 66 = .ok (.aload_n 0, 1) := by decide +kernel
theorem dX10_picture_67 : decode cX10_picture 67 = .ok (.getfield 98, 3) := by decide +kernel
theorem dX10_picture_70 : decode cX10_picture 70 = .ok (.iload_n 1, 1) := by decide +kernel
theorem dX10_picture_71 : decode cX10_picture 71 = .ok (.iaload, 1) := by decide +kernel
theorem dX10_picture_72 : decode cX10_picture 72 = .ok (.ireturn, 1) := by decide +kernel
theorem dX10_picture_73 : decode cX10_picture 73 = .ok (.aload_n 0, 1) := by decide +kernel
theorem dX10_picture_74 : decode cX10_picture 74 = .ok (.getfield 64, 3) := by decide +kernel
theorem dX10_picture_77 : decode cX10_picture 77 = .ok (.bipush 12, 2) := by decide +kernel
theorem dX10_picture_79 : decode cX10_picture 79 = .ok (.iload_n 1, 1) := by decide +kernel
theorem dX10_picture_80 : decode cX10_picture 80 = .ok (.iadd, 1) := by decide +kernel
theorem dX10_picture_81 : decode cX10_picture 81 = .ok (.iaload, 1) := by decide +kernel
theorem dX10_picture_82 : decode cX10_picture 82 = .ok (.iconst 4, 1) := by decide +kernel
theorem dX10_picture_83 : decode cX10_picture 83 = .ok (.if_icmp .ne 7, 3) := by decide +kernel
theorem dX10_picture_86 : decode cX10_picture 86 = .ok (.iconst 1, 1) := by decide +kernel
theorem dX10_picture_87 : decode cX10_picture 87 = .ok (.goto 4, 3) := by decide +kernel
theorem dX10_picture_90 : decode cX10_picture 90 = .ok (.iconst 0, 1) := by decide +kernel
theorem dX10_picture_91 : decode cX10_picture 91 = .ok (.ireturn, 1) := by decide +kernel
theorem dX10_picture_92 : decode cX10_picture 92 = .ok (.aload_n 0, 1) := by decide +kernel
theorem dX10_picture_93 : decode cX10_picture 93 = .ok (.getfield 101, 3) := by decide +kernel
theorem dX10_picture_96 : decode cX10_picture 96 = .ok (.iload_n 1, 1) := by decide +kernel
theorem dX10_picture_97 : decode cX10_picture 97 = .ok (.iaload, 1) := by decide +kernel
theorem dX10_picture_98 : decode cX10_picture 98 = .ok (.ireturn, 1) := by decide +kernel
theorem dX10_picture_99 : decode cX10_picture 99 = .ok (.aload_n 0, 1) := by decide +kernel
theorem dX10_picture_100 : decode cX10_picture 100 = .ok (.getfield 101, 3) := by decide +kernel
theorem dX10_picture_103 : decode cX10_picture 103 = .ok (.bipush 38, 2) := by decide +kernel
theorem dX10_picture_105 : decode cX10_picture 105 = .ok (.iload_n 1, 1) := by decide +kernel
theorem dX10_picture_106 : decode cX10_picture 106 = .ok (.iadd, 1) := by decide +kernel
theorem dX10_picture_107 : decode cX10_picture 107 = .ok (.iaload, 1) := by decide +kernel
theorem dX10_picture_108 : decode cX10_picture 108 = .ok (.ireturn, 1) := by decide +kernel
theorem dX10_picture_109 : decode cX10_picture 109 = .ok (.aload_n 0, 1) := by decide +kernel
theorem dX10_picture_110 : decode cX10_picture 110 = .ok (.iload_n 1, 1) := by decide +kernel
theorem dX10_picture_111 : decode cX10_picture 111 = .ok (.iconst (-1), 1) := by decide +kernel
theorem dX10_picture_112 : decode cX10_picture 112 = .ok (.invokevirtual 440, 3) := by decide +kernel
theorem dX10_picture_115 : decode cX10_picture 115 = .ok (.ireturn, 1) := by decide +kernel
theorem dX10_picture_116 : decode cX10_picture 116 = .ok (.aload_n 0, 1) := by decide +kernel
theorem dX10_picture_117 : decode cX10_picture 117 = .ok (.invokevirtual 421, 3) := by decide +kernel
theorem dX10_picture_120 : decode cX10_picture 120 = .ok (.aload_n 0, 1) := by decide +kernel
theorem dX10_picture_121 : decode cX10_picture 121 = .ok (.iload_n 1, 1) := by decide +kernel
theorem dX10_picture_122 : decode cX10_picture 122 = .ok (.invokevirtual 424, 3) := by decide +kernel
theorem dX10_picture_125 : decode cX10_picture 125 = .ok (.ifCond .eq 7, 3) := by decide +kernel
theorem dX10_picture_128 : decode cX10_picture 128 = .ok (.iconst 1, 1) := by decide +kernel
theorem dX10_picture_129 : decode cX10_picture 129 = .ok (.goto 4, 3) := by decide +kernel
theorem dX10_picture_132 : decode cX10_picture 132 = .ok (.iconst 0, 1) := by decide +kernel
theorem dX10_picture_133 : decode cX10_picture 133 = .ok (.ireturn, 1) := by decide +kernel
theorem dX10_picture_134 : decode cX10_picture 134 = .ok (.aload_n 0, 1) := by decide +kernel
theorem dX10_picture_135 : decode cX10_picture 135 = .ok (.iload_n 1, 1) := by decide +kernel
theorem dX10_picture_136 : decode cX10_picture 136 = .ok (.invokevirtual 271, 3) := by decide +kernel
theorem dX10_picture_139 : decode cX10_picture 139 = .ok (.ifCond .le 7, 3) := by decide +kernel
theorem dX10_picture_142 : decode cX10_picture 142 = .ok (.iconst 1, 1) := by decide +kernel
theorem dX10_picture_143 : decode cX10_picture 143 = .ok (.goto 4, 3) := by decide +kernel
theorem dX10_picture_146 : decode cX10_picture 146 = .ok (.iconst 0, 1) := by decide +kernel
theorem dX10_picture_147 : decode cX10_picture 147 = .ok (.ireturn, 1) := by decide +kernel
theorem dX10_picture_148 : decode cX10_picture 148 = .ok (.ldc_w 439, 3) := by decide +kernel
theorem dX10_picture_151 : decode cX10_picture 151 = .ok (.ireturn, 1) := by decide +kernel
set_option maxRecDepth 20000 in
theorem ggX10_point_X10_isPoint : GoodIn wsX10_point wsX10_isPoint := goodIn_r _ [8, 9, 10, 11, 7, 12, 13, 14, 15, 16, 68, 69, 70, 71, 72, 73, 74, 75, 76, 77, 78, 79, 80, 81, 82, 83, 84, 85, 86, 87, 88, 89, 90, 91, 92, 93, 94, 95, 96, 97, 98, 99, 100, 101, 102, 103, 104, 105, 106, 107, 108, 109, 110, 111, 112, 113, 114, 115, 116, 117, 118, 119, 120, 121, 122, 123, 124] (by decide +kernel) (by decide +kernel)
set_option maxRecDepth 20000 in
theorem gX10_point_X10_isPoint : GoodIn wsX10_point (wsV RX10 443 RX10 yX10_isPoint wsX10_isPoint) := goodIn_app (goodIn_of _ (by decide +kernel)) ggX10_point_X10_isPoint
set_option maxRecDepth 20000 in
theorem ggX10_point_X10_rowsOf : GoodIn wsX10_point wsX10_rowsOf := goodIn_r _ [20, 21, 22, 23, 24, 7, 25, 13, 26, 27, 28, 29, 30, 31, 32, 33, 34, 35, 68, 69, 70, 71, 72, 73, 74, 75, 76, 77, 78, 79, 80, 81, 82, 83, 84, 85, 86, 87, 88, 89, 90, 91, 92, 93, 94, 95, 96, 97, 98, 99, 100, 101, 102, 103, 104, 105, 106, 107, 108, 109, 110, 111, 112, 113, 114, 115, 116, 117, 118, 119, 120, 121, 122, 123, 124] (by decide +kernel) (by decide +kernel)
set_option maxRecDepth 20000 in
theorem gX10_point_X10_rowsOf : GoodIn wsX10_point (wsV RX10 440 RX10 yX10_rowsOf wsX10_rowsOf) := goodIn_app (goodIn_of _ (by decide +kernel)) ggX10_point_X10_rowsOf
set_option maxRecDepth 20000 in
theorem ggX10_point_X10_isControl : GoodIn wsX10_point wsX10_isControl := goodIn_r _ [39, 3, 40, 68, 69, 70, 71, 72, 73, 74, 75, 76, 77, 78, 79, 80, 81, 82, 83, 84, 85, 86, 87, 88, 89, 90, 91, 92, 93, 94, 95, 96, 97, 98, 99, 100, 101, 102, 103, 104, 105, 106, 107, 108, 109, 110, 111, 112, 113, 114, 115, 116, 117, 118, 119, 120, 121, 122, 123, 124] (by decide +kernel) (by decide +kernel)
set_option maxRecDepth 20000 in
theorem gX10_point_X10_isControl : GoodIn wsX10_point (wsV RX10 287 RX10 yX10_isControl wsX10_isControl) := goodIn_app (goodIn_of _ (by decide +kernel)) ggX10_point_X10_isControl
set_option maxRecDepth 20000 in
theorem ggX10_point_X10_hangs : GoodIn wsX10_point wsX10_hangs := goodIn_r _ [44, 45, 21, 22, 23, 24, 7, 25, 13, 26, 27, 28, 29, 30, 31, 32, 33, 34, 35, 46, 47, 48, 49, 50, 51, 52, 53, 54, 55, 56, 57, 58, 59, 60, 61, 62, 63, 68, 69, 70, 71, 72, 73, 74, 75, 76, 77, 78, 79, 80, 81, 82, 83, 84, 85, 86, 87, 88, 89, 90, 91, 92, 93, 94, 95, 96, 97, 98, 99, 100, 101, 102, 103, 104, 105, 106, 107, 108, 109, 110, 111, 112, 113, 114, 115, 116, 117, 118, 119, 120, 121, 122, 123, 124] (by decide +kernel) (by decide +kernel)
set_option maxRecDepth 20000 in
theorem gX10_point_X10_hangs : GoodIn wsX10_point (wsV RX10 421 RX10 yX10_hangs wsX10_hangs) := goodIn_app (goodIn_of _ (by decide +kernel)) ggX10_point_X10_hangs
set_option maxRecDepth 20000 in
theorem ggX10_point_X10_isLoose : GoodIn wsX10_point wsX10_isLoose := goodIn_r _ [67, 45, 9, 10, 11, 7, 12, 13, 36, 37, 38, 39, 3, 40, 68, 69, 70, 71, 72, 73, 74, 75, 76, 77, 78, 79, 80, 81, 82, 83, 84, 85, 86, 87, 88, 89, 90, 91, 92, 93, 94, 95, 96, 97, 98, 99, 100, 101, 102, 103, 104, 105, 106, 107, 108, 109, 110, 111, 112, 113, 114, 115, 116, 117, 118, 119, 120, 121, 122, 123, 124] (by decide +kernel) (by decide +kernel)
set_option maxRecDepth 20000 in
theorem gX10_point_X10_isLoose : GoodIn wsX10_point (wsV RX10 424 RX10 yX10_isLoose wsX10_isLoose) := goodIn_app (goodIn_of _ (by decide +kernel)) ggX10_point_X10_isLoose
theorem dX10_point_0 : decode cX10_point 0 = .ok (.aload_n 0, 1) := by decide +kernel
theorem dX10_point_1 : decode cX10_point 1 = .ok (.iload_n 1, 1) := by decide +kernel
theorem dX10_point_2 : decode cX10_point 2 = .ok (.invokevirtual 443, 3) := by decide +kernel
theorem dX10_point_5 : decode cX10_point 5 = .ok (.ifCond .ne 7, 3) := by decide +kernel
theorem dX10_point_8 : decode cX10_point 8 = .ok (.ldc_w 439, 3) := by decide +kernel
theorem dX10_point_11 : decode cX10_point 11 = .ok (.ireturn, 1) := by decide +kernel
theorem dX10_point_12 : decode cX10_point 12 = .ok (.iload_n 2, 1) := by decide +kernel
theorem dX10_point_13 : decode cX10_point 13 = .ok (.tableswitch 119 0 5 #[39, 49, 59, 66, 84, 98], 39) := by decide +kernel
theorem dX10_point_52 : decode cX10_point 52 = .ok (.aload_n 0, 1) := by decide +kernel
theorem dX10_point_53 : decode cX10_point 53 = .ok (.getfield 101, 3) := by decide +kernel
theorem dX10_point_56 : decode cX10_point 56 = .ok (.bipush 12, 2) := by decide +kernel
theorem dX10_point_58 : decode cX10_point 58 = .ok (.iload_n 1, 1) := by decide +kernel
theorem dX10_point_59 : decode cX10_point 59 = .ok (.iadd, 1) := by decide +kernel
theorem dX10_point_60 : decode cX10_point 60 = .ok (.iaload, 1) := by decide +kernel
theorem dX10_point_61 : decode cX10_point 61 = .ok (.ireturn, 1) := by decide +kernel
theorem dX10_point_62 : decode cX10_point 62 = .ok (.aload_n 0, 1) := by decide +kernel
theorem dX10_point_63 : decode cX10_point 63 = .ok (.getfield 101, 3) := by decide +kernel
theorem dX10_point_66 : decode cX10_point 66 = .ok (.bipush 50, 2) := by decide +kernel
theorem dX10_point_68 : decode cX10_point 68 = .ok (.iload_n 1, 1) := by decide +kernel
theorem dX10_point_69 : decode cX10_point 69 = .ok (.iadd, 1) := by decide +kernel
theorem dX10_point_70 : decode cX10_point 70 = .ok (.iaload, 1) := by decide +kernel
theorem dX10_point_71 : decode cX10_point 71 = .ok (.ireturn, 1) := by decide +kernel
theorem dX10_point_72 : decode cX10_point 72 = .ok (.aload_n 0, 1) := by decide +kernel
theorem dX10_point_73 : decode cX10_point 73 = .ok (.iconst (-1), 1) := by decide +kernel
theorem dX10_point_74 : decode cX10_point 74 = .ok (.iload_n 1, 1) := by decide +kernel
theorem dX10_point_75 : decode cX10_point 75 = .ok (.invokevirtual 440, 3) := by decide +kernel
theorem dX10_point_78 : decode cX10_point 78 = .ok (.ireturn, 1) := by decide +kernel
theorem dX10_point_79 : decode cX10_point 79 = .ok (.aload_n 0, 1) := by decide +kernel
theorem dX10_point_80 : decode cX10_point 80 = .ok (.getfield 73, 3) := by decide +kernel
theorem dX10_point_83 : decode cX10_point 83 = .ok (.bipush 20, 2) := by decide +kernel
theorem dX10_point_85 : decode cX10_point 85 = .ok (.iload_n 1, 1) := by decide +kernel
theorem dX10_point_86 : decode cX10_point 86 = .ok (.iadd, 1) := by decide +kernel
theorem dX10_point_87 : decode cX10_point 87 = .ok (.iaload, 1) := by decide +kernel
theorem dX10_point_88 : decode cX10_point 88 = .ok (.ifCond .eq 7, 3) := by decide +kernel
theorem dX10_point_91 : decode cX10_point 91 = .ok (.iconst 1, 1) := by decide +kernel
theorem dX10_point_92 : decode cX10_point 92 = .ok (.goto 4, 3) := by decide +kernel
theorem dX10_point_95 : decode cX10_point 95 = .ok (.iconst 0, 1) := by decide +kernel
theorem dX10_point_96 : decode cX10_point 96 = .ok (.ireturn, 1) := by decide +kernel
theorem dX10_point_97 : decode cX10_point 97 = .ok (.aload_n 0, 1) := by decide +kernel
theorem dX10_point_98 : decode cX10_point 98 = .ok (.iload_n 1, 1) := by decide +kernel
theorem dX10_point_99 : decode cX10_point 99 = .ok (.invokevirtual 287, 3) := by decide +kernel
theorem dX10_point_102 : decode cX10_point 102 = .ok (.ifCond .eq 7, 3) := by decide +kernel
theorem dX10_point_105 : decode cX10_point 105 = .ok (.iconst 1, 1) := by decide +kernel
theorem dX10_point_106 : decode cX10_point 106 = .ok (.goto 4, 3) := by decide +kernel
theorem dX10_point_109 : decode cX10_point 109 = .ok (.iconst 0, 1) := by decide +kernel
theorem dX10_point_110 : decode cX10_point 110 = .ok (.ireturn, 1) := by decide +kernel
theorem dX10_point_111 : decode cX10_point 111 = .ok (.aload_n 0, 1) := by decide +kernel
theorem dX10_point_112 : decode cX10_point 112 = .ok (.invokevirtual 421, 3) := by decide +kernel
theorem dX10_point_115 : decode cX10_point 115 = .ok (.aload_n 0, 1) := by decide +kernel
theorem dX10_point_116 : decode cX10_point 116 = .ok (.bipush 12, 2) := by decide +kernel
theorem dX10_point_118 : decode cX10_point 118 = .ok (.iload_n 1, 1) := by decide +kernel
theorem dX10_point_119 : decode cX10_point 119 = .ok (.iadd, 1) := by decide +kernel
theorem dX10_point_120 : decode cX10_point 120 = .ok (.invokevirtual 424, 3) := by decide +kernel
theorem dX10_point_123 : decode cX10_point 123 = .ok (.ifCond .eq 7, 3) := by decide +kernel
theorem dX10_point_126 : decode cX10_point 126 = .ok (.iconst 1, 1) := by decide +kernel
theorem dX10_point_127 : decode cX10_point 127 = .ok (.goto 4, 3) := by decide +kernel
theorem dX10_point_130 : decode cX10_point 130 = .ok (.iconst 0, 1) := by decide +kernel
theorem dX10_point_131 : decode cX10_point 131 = .ok (.ireturn, 1) := by decide +kernel
theorem dX10_point_132 : decode cX10_point 132 = .ok (.ldc_w 439, 3) := by decide +kernel
theorem dX10_point_135 : decode cX10_point 135 = .ok (.ireturn, 1) := by decide +kernel
set_option maxRecDepth 20000 in
theorem ggX10_row_X10_isRow : GoodIn wsX10_row wsX10_isRow := goodIn_r _ [8, 9, 10, 11, 7, 12, 13, 14, 15, 16, 91, 92, 93, 94, 95, 96, 97, 98, 99, 100, 101, 102, 103, 104, 105, 106, 107, 108, 109, 110, 111, 112, 113, 114, 115, 116, 117, 118, 119, 120, 121, 122, 123, 124, 125, 126, 127, 128, 129, 130, 131, 132, 133, 134, 135, 136, 137, 138, 139, 140, 141, 142, 143, 144, 145, 146, 147] (by decide +kernel) (by decide +kernel)
set_option maxRecDepth 20000 in
theorem gX10_row_X10_isRow : GoodIn wsX10_row (wsV RX10 433 RX10 yX10_isRow wsX10_isRow) := goodIn_app (goodIn_of _ (by decide +kernel)) ggX10_row_X10_isRow
set_option maxRecDepth 20000 in
theorem ggX10_row_X10_pictureOf : GoodIn wsX10_row wsX10_pictureOf := goodIn_r _ [20, 21, 91, 92, 93, 94, 95, 96, 97, 98, 99, 100, 101, 102, 103, 104, 105, 106, 107, 108, 109, 110, 111, 112, 113, 114, 115, 116, 117, 118, 119, 120, 121, 122, 123, 124, 125, 126, 127, 128, 129, 130, 131, 132, 133, 134, 135, 136, 137, 138, 139, 140, 141, 142, 143, 144, 145, 146, 147] (by decide +kernel) (by decide +kernel)
set_option maxRecDepth 20000 in
theorem gX10_row_X10_pictureOf : GoodIn wsX10_row (wsV RX10 274 RX10 yX10_pictureOf wsX10_pictureOf) := goodIn_app (goodIn_of _ (by decide +kernel)) ggX10_row_X10_pictureOf
set_option maxRecDepth 20000 in
theorem ggX10_row_X10_pointOf : GoodIn wsX10_row wsX10_pointOf := goodIn_r _ [25, 26, 91, 92, 93, 94, 95, 96, 97, 98, 99, 100, 101, 102, 103, 104, 105, 106, 107, 108, 109, 110, 111, 112, 113, 114, 115, 116, 117, 118, 119, 120, 121, 122, 123, 124, 125, 126, 127, 128, 129, 130, 131, 132, 133, 134, 135, 136, 137, 138, 139, 140, 141, 142, 143, 144, 145, 146, 147] (by decide +kernel) (by decide +kernel)
set_option maxRecDepth 20000 in
theorem gX10_row_X10_pointOf : GoodIn wsX10_row (wsV RX10 281 RX10 yX10_pointOf wsX10_pointOf) := goodIn_app (goodIn_of _ (by decide +kernel)) ggX10_row_X10_pointOf
set_option maxRecDepth 20000 in
theorem ggX10_row_X10_weightOf : GoodIn wsX10_row wsX10_weightOf := goodIn_r _ [30, 31, 91, 92, 93, 94, 95, 96, 97, 98, 99, 100, 101, 102, 103, 104, 105, 106, 107, 108, 109, 110, 111, 112, 113, 114, 115, 116, 117, 118, 119, 120, 121, 122, 123, 124, 125, 126, 127, 128, 129, 130, 131, 132, 133, 134, 135, 136, 137, 138, 139, 140, 141, 142, 143, 144, 145, 146, 147] (by decide +kernel) (by decide +kernel)
set_option maxRecDepth 20000 in
theorem gX10_row_X10_weightOf : GoodIn wsX10_row (wsV RX10 325 RX10 yX10_weightOf wsX10_weightOf) := goodIn_app (goodIn_of _ (by decide +kernel)) ggX10_row_X10_weightOf
set_option maxRecDepth 20000 in
theorem ggX10_row_X10_miss : GoodIn wsX10_row wsX10_miss := goodIn_r _ [35, 36, 22, 23, 24, 7, 25, 26, 37, 38, 39, 40, 17, 18, 19, 20, 21, 41, 42, 43, 44, 45, 46, 47, 48, 49, 2, 91, 92, 93, 94, 95, 96, 97, 98, 99, 100, 101, 102, 103, 104, 105, 106, 107, 108, 109, 110, 111, 112, 113, 114, 115, 116, 117, 118, 119, 120, 121, 122, 123, 124, 125, 126, 127, 128, 129, 130, 131, 132, 133, 134, 135, 136, 137, 138, 139, 140, 141, 142, 143, 144, 145, 146, 147] (by decide +kernel) (by decide +kernel)
set_option maxRecDepth 20000 in
theorem gX10_row_X10_miss : GoodIn wsX10_row (wsV RX10 322 RX10 yX10_miss wsX10_miss) := goodIn_app (goodIn_of _ (by decide +kernel)) ggX10_row_X10_miss
set_option maxRecDepth 20000 in
theorem ggX10_row_X10_canShow : GoodIn wsX10_row wsX10_canShow := goodIn_r _ [53, 3, 54, 55, 56, 57, 7, 58, 9, 10, 11, 12, 13, 17, 18, 19, 20, 21, 22, 23, 24, 25, 26, 59, 60, 61, 62, 63, 64, 65, 66, 67, 68, 69, 70, 71, 72, 73, 74, 75, 76, 77, 78, 79, 80, 81, 82, 83, 84, 85, 86, 87, 88, 89, 90, 91, 92, 93, 94, 95, 96, 97, 98, 99, 100, 101, 102, 103, 104, 105, 106, 107, 108, 109, 110, 111, 112, 113, 114, 115, 116, 117, 118, 119, 120, 121, 122, 123, 124, 125, 126, 127, 128, 129, 130, 131, 132, 133, 134, 135, 136, 137, 138, 139, 140, 141, 142, 143, 144, 145, 146, 147] (by decide +kernel) (by decide +kernel)
set_option maxRecDepth 20000 in
theorem gX10_row_X10_canShow : GoodIn wsX10_row (wsV RX10 430 RX10 yX10_canShow wsX10_canShow) := goodIn_app (goodIn_of _ (by decide +kernel)) ggX10_row_X10_canShow
theorem dX10_row_0 : decode cX10_row 0 = .ok (.aload_n 0, 1) := by decide +kernel
theorem dX10_row_1 : decode cX10_row 1 = .ok (.iload_n 1, 1) := by decide +kernel
theorem dX10_row_2 : decode cX10_row 2 = .ok (.invokevirtual 433, 3) := by decide +kernel
theorem dX10_row_5 : decode cX10_row 5 = .ok (.ifCond .ne 7, 3) := by decide +kernel
theorem dX10_row_8 : decode cX10_row 8 = .ok (.ldc_w 439, 3) := by decide +kernel
theorem dX10_row_11 : decode cX10_row 11 = .ok (.ireturn, 1) := by decide +kernel
theorem dX10_row_12 : decode cX10_row 12 = .ok (.iload_n 2, 1) := by decide +kernel
theorem dX10_row_13 : decode cX10_row 13 = .ok (.tableswitch 124 0 8 #[51, 57, 63, 63, 79, 85, 100, 100, 110], 51) := by decide +kernel
theorem dX10_row_64 : decode cX10_row 64 = .ok (.aload_n 0, 1) := by decide +kernel
theorem dX10_row_65 : decode cX10_row 65 = .ok (.iload_n 1, 1) := by decide +kernel
theorem dX10_row_66 : decode cX10_row 66 = .ok (.invokevirtual 274, 3) := by decide +kernel
theorem dX10_row_69 : decode cX10_row 69 = .ok (.ireturn, 1) := by decide +kernel
theorem dX10_row_70 : decode cX10_row 70 = .ok (.aload_n 0, 1) := by decide +kernel
theorem dX10_row_71 : decode cX10_row 71 = .ok (.iload_n 1, 1) := by decide +kernel
theorem dX10_row_72 : decode cX10_row 72 = .ok (.invokevirtual 281, 3) := by decide +kernel
theorem dX10_row_75 : decode cX10_row 75 = .ok (.ireturn, 1) := by decide +kernel
theorem dX10_row_76 : decode cX10_row 76 = .ok (.aload_n 0, 1) := by decide +kernel
theorem dX10_row_77 : decode cX10_row 77 = .ok (.getfield 85, 3) := by decide +kernel
theorem dX10_row_80 : decode cX10_row 80 = .ok (.bipush 120, 2) := by decide +kernel
theorem dX10_row_82 : decode cX10_row 82 = .ok (.iconst 2, 1) := by decide +kernel
theorem dX10_row_83 : decode cX10_row 83 = .ok (.iload_n 1, 1) := by decide +kernel
theorem dX10_row_84 : decode cX10_row 84 = .ok (.imul, 1) := by decide +kernel
theorem dX10_row_85 : decode cX10_row 85 = .ok (.iadd, 1) := by decide +kernel
theorem dX10_row_86 : decode cX10_row 86 = .ok (.iload_n 2, 1) := by decide +kernel
theorem dX10_row_87 : decode cX10_row 87 = .ok (.iadd, 1) := by decide +kernel
theorem dX10_row_88 : decode cX10_row 88 = .ok (.iconst 2, 1) := by decide +kernel
theorem dX10_row_89 : decode cX10_row 89 = .ok (.isub, 1) := by decide +kernel
theorem dX10_row_90 : decode cX10_row 90 = .ok (.iaload, 1) := by decide +kernel
theorem dX10_row_91 : decode cX10_row 91 = .ok (.ireturn, 1) := by decide +kernel
theorem dX10_row_92 : decode cX10_row 92 = .ok (.aload_n 0, 1) := by decide +kernel
theorem dX10_row_93 : decode cX10_row 93 = .ok (.iload_n 1, 1) := by decide +kernel
theorem dX10_row_94 : decode cX10_row 94 = .ok (.invokevirtual 325, 3) := by decide +kernel
theorem dX10_row_97 : decode cX10_row 97 = .ok (.ireturn, 1) := by decide +kernel
theorem dX10_row_98 : decode cX10_row 98 = .ok (.aload_n 0, 1) := by decide +kernel
theorem dX10_row_99 : decode cX10_row 99 = .ok (.getfield 91, 3) := by decide +kernel
theorem dX10_row_102 : decode cX10_row 102 = .ok (.iload_n 1, 1) := by decide +kernel
theorem dX10_row_103 : decode cX10_row 103 = .ok (.baload, 1) := by decide +kernel
theorem dX10_row_104 : decode cX10_row 104 = .ok (.ifCond .eq 7, 3) := by decide +kernel
theorem dX10_row_107 : decode cX10_row 107 = .ok (.iconst 1, 1) := by decide +kernel
theorem dX10_row_108 : decode cX10_row 108 = .ok (.goto 4, 3) := by decide +kernel
theorem dX10_row_111 : decode cX10_row 111 = .ok (.iconst 0, 1) := by decide +kernel
theorem dX10_row_112 : decode cX10_row 112 = .ok (.ireturn, 1) := by decide +kernel
theorem dX10_row_113 : decode cX10_row 113 = .ok (.aload_n 0, 1) := by decide +kernel
theorem dX10_row_114 : decode cX10_row 114 = .ok (.iload_n 1, 1) := by decide +kernel
theorem dX10_row_115 : decode cX10_row 115 = .ok (.iload_n 2, 1) := by decide +kernel
theorem dX10_row_116 : decode cX10_row 116 = .ok (.bipush 6, 2) := by decide +kernel
theorem dX10_row_118 : decode cX10_row 118 = .ok (.isub, 1) := by decide +kernel
theorem dX10_row_119 : decode cX10_row 119 = .ok (.invokevirtual 322, 3) := by decide +kernel
theorem dX10_row_122 : decode cX10_row 122 = .ok (.ireturn, 1) := by decide +kernel
theorem dX10_row_123 : decode cX10_row 123 = .ok (.aload_n 0, 1) := by decide +kernel
theorem dX10_row_124 : decode cX10_row 124 = .ok (.iload_n 1, 1) := by decide +kernel
theorem dX10_row_125 : decode cX10_row 125 = .ok (.invokevirtual 430, 3) := by decide +kernel
theorem dX10_row_128 : decode cX10_row 128 = .ok (.ifCond .eq 7, 3) := by decide +kernel
theorem dX10_row_131 : decode cX10_row 131 = .ok (.iconst 1, 1) := by decide +kernel
theorem dX10_row_132 : decode cX10_row 132 = .ok (.goto 4, 3) := by decide +kernel
theorem dX10_row_135 : decode cX10_row 135 = .ok (.iconst 0, 1) := by decide +kernel
theorem dX10_row_136 : decode cX10_row 136 = .ok (.ireturn, 1) := by decide +kernel
theorem dX10_row_137 : decode cX10_row 137 = .ok (.ldc_w 439, 3) := by decide +kernel
theorem dX10_row_140 : decode cX10_row 140 = .ok (.ireturn, 1) := by decide +kernel
set_option maxRecDepth 20000 in
theorem ggX10_drift_X10_isIn : GoodIn wsX10_drift wsX10_isIn := goodIn_r _ [7] (by decide +kernel) (by decide +kernel)
set_option maxRecDepth 20000 in
theorem gX10_drift_X10_isIn : GoodIn wsX10_drift (va_wsS RX10 183 yX10_isIn wsX10_isIn) := goodIn_app (goodIn_of _ (by decide +kernel)) ggX10_drift_X10_isIn
set_option maxRecDepth 20000 in
theorem ggX10_drift_X10_hasDrift : GoodIn wsX10_drift wsX10_hasDrift := goodIn_r _ [11, 12, 13, 14, 6, 15, 1, 16, 17, 18, 19, 20, 21, 22, 23, 24, 25, 26, 27, 28, 29, 30, 31, 32, 33, 34, 35, 36, 37, 38, 39, 40, 41, 42, 43, 44, 45, 46, 47, 48, 49, 50, 51, 52, 53, 54, 55, 56, 57, 58, 59, 60, 61, 62, 63, 64, 65, 66, 67, 68, 69, 70, 71, 72, 73, 74, 75, 76, 77, 78, 79, 80, 81, 82] (by decide +kernel) (by decide +kernel)
set_option maxRecDepth 20000 in
theorem gX10_drift_X10_hasDrift : GoodIn wsX10_drift (wsV RX10 368 RX10 yX10_hasDrift wsX10_hasDrift) := goodIn_app (goodIn_of _ (by decide +kernel)) ggX10_drift_X10_hasDrift
theorem dX10_drift_0 : decode cX10_drift 0 = .ok (.iload_n 1, 1) := by decide +kernel
theorem dX10_drift_1 : decode cX10_drift 1 = .ok (.i2l, 1) := by decide +kernel
theorem dX10_drift_2 : decode cX10_drift 2 = .ok (.lconst 0, 1) := by decide +kernel
theorem dX10_drift_3 : decode cX10_drift 3 = .ok (.aload_n 0, 1) := by decide +kernel
theorem dX10_drift_4 : decode cX10_drift 4 = .ok (.getfield 58, 3) := by decide +kernel
theorem dX10_drift_7 : decode cX10_drift 7 = .ok (.bipush 6, 2) := by decide +kernel
theorem dX10_drift_9 : decode cX10_drift 9 = .ok (.iaload, 1) := by decide +kernel
theorem dX10_drift_10 : decode cX10_drift 10 = .ok (.iconst 1, 1) := by decide +kernel
theorem dX10_drift_11 : decode cX10_drift 11 = .ok (.isub, 1) := by decide +kernel
theorem dX10_drift_12 : decode cX10_drift 12 = .ok (.i2l, 1) := by decide +kernel
theorem dX10_drift_13 : decode cX10_drift 13 = .ok (.invokestatic 183, 3) := by decide +kernel
theorem dX10_drift_16 : decode cX10_drift 16 = .ok (.ifCond .eq 38, 3) := by decide +kernel
theorem dX10_drift_19 : decode cX10_drift 19 = .ok (.iload_n 2, 1) := by decide +kernel
theorem dX10_drift_20 : decode cX10_drift 20 = .ok (.i2l, 1) := by decide +kernel
theorem dX10_drift_21 : decode cX10_drift 21 = .ok (.lconst 0, 1) := by decide +kernel
theorem dX10_drift_22 : decode cX10_drift 22 = .ok (.lconst 1, 1) := by decide +kernel
theorem dX10_drift_23 : decode cX10_drift 23 = .ok (.invokestatic 183, 3) := by decide +kernel
theorem dX10_drift_26 : decode cX10_drift 26 = .ok (.ifCond .eq 28, 3) := by decide +kernel
theorem dX10_drift_29 : decode cX10_drift 29 = .ok (.aload_n 0, 1) := by decide +kernel
theorem dX10_drift_30 : decode cX10_drift 30 = .ok (.iload_n 1, 1) := by decide +kernel
theorem dX10_drift_31 : decode cX10_drift 31 = .ok (.invokevirtual 368, 3) := by decide +kernel
theorem dX10_drift_34 : decode cX10_drift 34 = .ok (.ifCond .eq 20, 3) := by decide +kernel
theorem dX10_drift_37 : decode cX10_drift 37 = .ok (.aload_n 0, 1) := by decide +kernel
theorem dX10_drift_38 : decode cX10_drift 38 = .ok (.getfield 101, 3) := by decide +kernel
theorem dX10_drift_41 : decode cX10_drift 41 = .ok (.bipush 38, 2) := by decide +kernel
theorem dX10_drift_43 : decode cX10_drift 43 = .ok (.iload_n 2, 1) := by decide +kernel
theorem dX10_drift_44 : decode cX10_drift 44 = .ok (.imul, 1) := by decide +kernel
theorem dX10_drift_45 : decode cX10_drift 45 = .ok (.bipush 32, 2) := by decide +kernel
theorem dX10_drift_47 : decode cX10_drift 47 = .ok (.iadd, 1) := by decide +kernel
theorem dX10_drift_48 : decode cX10_drift 48 = .ok (.iload_n 1, 1) := by decide +kernel
theorem dX10_drift_49 : decode cX10_drift 49 = .ok (.iadd, 1) := by decide +kernel
theorem dX10_drift_50 : decode cX10_drift 50 = .ok (.iaload, 1) := by decide +kernel
theorem dX10_drift_51 : decode cX10_drift 51 = .ok (.goto 6, 3) := by decide +kernel
theorem dX10_drift_54 : decode cX10_drift 54 = .ok (.ldc_w 439, 3) := by decide +kernel
theorem dX10_drift_57 : decode cX10_drift 57 = .ok (.ireturn, 1) := by decide +kernel
set_option maxRecDepth 20000 in
theorem ggX10_doubt_X10_isRow : GoodIn wsX10_doubt wsX10_isRow := goodIn_r _ [6, 7, 8, 9, 5, 10, 11, 12, 13, 14, 53, 54, 55, 56, 57, 58, 59, 60, 61, 62, 63, 64, 65, 66, 67, 68, 69, 70, 71, 72, 73, 74, 75, 76, 77, 78, 79, 80, 81, 82, 83, 84, 85, 86, 87, 88, 89, 90, 91, 92, 93, 94, 95, 96, 97, 98, 99, 100, 101, 102, 103, 104, 105, 106, 107, 108, 109] (by decide +kernel) (by decide +kernel)
set_option maxRecDepth 20000 in
theorem gX10_doubt_X10_isRow : GoodIn wsX10_doubt (wsV RX10 433 RX10 yX10_isRow wsX10_isRow) := goodIn_app (goodIn_of _ (by decide +kernel)) ggX10_doubt_X10_isRow
set_option maxRecDepth 20000 in
theorem ggX10_doubt_X10_doubtOf : GoodIn wsX10_doubt wsX10_doubtOf := goodIn_r _ [18, 19, 20, 21, 5, 22, 23, 24, 25, 26, 27, 28, 29, 30, 31, 32, 33, 34, 35, 36, 37, 38, 39, 40, 41, 42, 43, 44, 45, 46, 47, 48, 49, 50, 51, 52, 53, 54, 55, 56, 57, 58, 59, 60, 61, 62, 63, 64, 65, 66, 67, 68, 69, 70, 71, 72, 73, 74, 75, 76, 77, 78, 79, 80, 81, 82, 83, 84, 85, 86, 87, 88, 89, 90, 91, 92, 93, 94, 95, 96, 97, 98, 99, 100, 101, 102, 103, 104, 105, 106, 107, 108, 109] (by decide +kernel) (by decide +kernel)
set_option maxRecDepth 20000 in
theorem gX10_doubt_X10_doubtOf : GoodIn wsX10_doubt (wsV RX10 328 RX10 yX10_doubtOf wsX10_doubtOf) := goodIn_app (goodIn_of _ (by decide +kernel)) ggX10_doubt_X10_doubtOf
theorem dX10_doubt_0 : decode cX10_doubt 0 = .ok (.aload_n 0, 1) := by decide +kernel
theorem dX10_doubt_1 : decode cX10_doubt 1 = .ok (.iload_n 1, 1) := by decide +kernel
theorem dX10_doubt_2 : decode cX10_doubt 2 = .ok (.invokevirtual 433, 3) := by decide +kernel
theorem dX10_doubt_5 : decode cX10_doubt 5 = .ok (.ifCond .eq 11, 3) := by decide +kernel
theorem dX10_doubt_8 : decode cX10_doubt 8 = .ok (.aload_n 0, 1) := by decide +kernel
theorem dX10_doubt_9 : decode cX10_doubt 9 = .ok (.iload_n 1, 1) := by decide +kernel
theorem dX10_doubt_10 : decode cX10_doubt 10 = .ok (.invokevirtual 328, 3) := by decide +kernel
theorem dX10_doubt_13 : decode cX10_doubt 13 = .ok (.goto 6, 3) := by decide +kernel
theorem dX10_doubt_16 : decode cX10_doubt 16 = .ok (.ldc2_w 446, 3) := by decide +kernel
theorem dX10_doubt_19 : decode cX10_doubt 19 = .ok (.lreturn, 1) := by decide +kernel
set_option maxRecDepth 20000 in
theorem ggX10_worstNow_X10_rows : GoodIn wsX10_worstNow wsX10_rows := goodIn_r _ [5, 6, 87, 88, 89, 90, 91, 92, 93, 94, 95, 96, 97, 98, 99, 100, 101, 102, 103, 104, 105, 106, 107, 108, 109, 110, 111, 112, 113, 114, 115, 116, 117, 118, 119, 120, 121, 122, 123, 124, 125, 126, 127, 128, 129, 130, 131, 132, 133, 134, 135, 136, 137, 138, 139, 140, 141, 142, 143] (by decide +kernel) (by decide +kernel)
set_option maxRecDepth 20000 in
theorem gX10_worstNow_X10_rows : GoodIn wsX10_worstNow (wsV RX10 265 RX10 yX10_rows wsX10_rows) := goodIn_app (goodIn_of _ (by decide +kernel)) ggX10_worstNow_X10_rows
set_option maxRecDepth 20000 in
theorem ggX10_worstNow_X10_canShow : GoodIn wsX10_worstNow wsX10_canShow := goodIn_r _ [10, 11, 12, 13, 14, 15, 4, 16, 1, 2, 3, 5, 6, 17, 18, 19, 20, 21, 22, 23, 24, 25, 26, 27, 28, 29, 30, 31, 32, 33, 34, 35, 36, 37, 38, 39, 40, 41, 42, 43, 44, 45, 46, 47, 48, 49, 50, 51, 52, 53, 54, 55, 56, 57, 58, 87, 88, 89, 90, 91, 92, 93, 94, 95, 96, 97, 98, 99, 100, 101, 102, 103, 104, 105, 106, 107, 108, 109, 110, 111, 112, 113, 114, 115, 116, 117, 118, 119, 120, 121, 122, 123, 124, 125, 126, 127, 128, 129, 130, 131, 132, 133, 134, 135, 136, 137, 138, 139, 140, 141, 142, 143] (by decide +kernel) (by decide +kernel)
set_option maxRecDepth 20000 in
theorem gX10_worstNow_X10_canShow : GoodIn wsX10_worstNow (wsV RX10 430 RX10 yX10_canShow wsX10_canShow) := goodIn_app (goodIn_of _ (by decide +kernel)) ggX10_worstNow_X10_canShow
set_option maxRecDepth 20000 in
theorem ggX10_worstNow_X10_doubtOf : GoodIn wsX10_worstNow wsX10_doubtOf := goodIn_r _ [62, 63, 64, 65, 4, 66, 67, 22, 23, 24, 25, 26, 68, 69, 70, 71, 17, 18, 19, 20, 21, 72, 73, 74, 75, 76, 77, 78, 79, 80, 81, 82, 83, 84, 85, 86, 87, 88, 89, 90, 91, 92, 93, 94, 95, 96, 97, 98, 99, 100, 101, 102, 103, 104, 105, 106, 107, 108, 109, 110, 111, 112, 113, 114, 115, 116, 117, 118, 119, 120, 121, 122, 123, 124, 125, 126, 127, 128, 129, 130, 131, 132, 133, 134, 135, 136, 137, 138, 139, 140, 141, 142, 143] (by decide +kernel) (by decide +kernel)
set_option maxRecDepth 20000 in
theorem gX10_worstNow_X10_doubtOf : GoodIn wsX10_worstNow (wsV RX10 328 RX10 yX10_doubtOf wsX10_doubtOf) := goodIn_app (goodIn_of _ (by decide +kernel)) ggX10_worstNow_X10_doubtOf
theorem dX10_worstNow_0 : decode cX10_worstNow 0 = .ok (.iconst (-1), 1) := by decide +kernel
theorem dX10_worstNow_1 : decode cX10_worstNow 1 = .ok (.istore_n 1, 1) := by decide +kernel
theorem dX10_worstNow_2 : decode cX10_worstNow 2 = .ok (.iconst 0, 1) := by decide +kernel
theorem dX10_worstNow_3 : decode cX10_worstNow 3 = .ok (.istore_n 2, 1) := by decide +kernel
theorem dX10_worstNow_4 : decode cX10_worstNow 4 = .ok (.iload_n 2, 1) := by decide +kernel
theorem dX10_worstNow_5 : decode cX10_worstNow 5 = .ok (.aload_n 0, 1) := by decide +kernel
theorem dX10_worstNow_6 : decode cX10_worstNow 6 = .ok (.invokevirtual 265, 3) := by decide +kernel
theorem dX10_worstNow_9 : decode cX10_worstNow 9 = .ok (.if_icmp .ge 38, 3) := by decide +kernel
theorem dX10_worstNow_12 : decode cX10_worstNow 12 = .ok (.aload_n 0, 1) := by decide +kernel
theorem dX10_worstNow_13 : decode cX10_worstNow 13 = .ok (.iload_n 2, 1) := by decide +kernel
theorem dX10_worstNow_14 : decode cX10_worstNow 14 = .ok (.invokevirtual 430, 3) := by decide +kernel
theorem dX10_worstNow_17 : decode cX10_worstNow 17 = .ok (.ifCond .eq 24, 3) := by decide +kernel
theorem dX10_worstNow_20 : decode cX10_worstNow 20 = .ok (.iload_n 1, 1) := by decide +kernel
theorem dX10_worstNow_21 : decode cX10_worstNow 21 = .ok (.iconst (-1), 1) := by decide +kernel
theorem dX10_worstNow_22 : decode cX10_worstNow 22 = .ok (.if_icmp .eq 17, 3) := by decide +kernel
theorem dX10_worstNow_25 : decode cX10_worstNow 25 = .ok (.aload_n 0, 1) := by decide +kernel
theorem dX10_worstNow_26 : decode cX10_worstNow 26 = .ok (.iload_n 2, 1) := by decide +kernel
theorem dX10_worstNow_27 : decode cX10_worstNow 27 = .ok (.invokevirtual 328, 3) := by decide +kernel
theorem dX10_worstNow_30 : decode cX10_worstNow 30 = .ok (.aload_n 0, 1) := by decide +kernel
theorem dX10_worstNow_31 : decode cX10_worstNow 31 = .ok (.iload_n 1, 1) := by decide +kernel
theorem dX10_worstNow_32 : decode cX10_worstNow 32 = .ok (.invokevirtual 328, 3) := by decide +kernel
theorem dX10_worstNow_35 : decode cX10_worstNow 35 = .ok (.lcmp, 1) := by decide +kernel
theorem dX10_worstNow_36 : decode cX10_worstNow 36 = .ok (.ifCond .le 5, 3) := by decide +kernel
theorem dX10_worstNow_39 : decode cX10_worstNow 39 = .ok (.iload_n 2, 1) := by decide +kernel
theorem dX10_worstNow_40 : decode cX10_worstNow 40 = .ok (.istore_n 1, 1) := by decide +kernel
theorem dX10_worstNow_41 : decode cX10_worstNow 41 = .ok (.iinc 2 1, 3) := by decide +kernel
theorem dX10_worstNow_44 : decode cX10_worstNow 44 = .ok (.goto (-40), 3) := by decide +kernel
theorem dX10_worstNow_47 : decode cX10_worstNow 47 = .ok (.iload_n 1, 1) := by decide +kernel
theorem dX10_worstNow_48 : decode cX10_worstNow 48 = .ok (.ireturn, 1) := by decide +kernel
set_option maxRecDepth 20000 in
theorem ggX10_worst_X10_worstNow : GoodIn wsX10_worst wsX10_worstNow := goodIn_r _ [5, 6, 7, 8, 4, 9, 10, 11, 12, 13, 14, 15, 16, 17, 18, 19, 20, 21, 22, 23, 24, 25, 26, 27, 28, 29, 30, 31, 32, 33, 34, 35, 36, 37, 38, 39, 40, 41, 42, 43, 44, 45, 46, 47, 48, 49, 50, 51, 52, 53, 54, 55, 56, 57, 58, 59, 60, 61, 62, 63, 64, 65, 66, 67, 68, 69, 70, 71, 72, 73, 74, 75, 76, 77, 78, 79, 80, 81, 82, 83, 84, 85, 86, 87, 88, 89, 90, 91, 92, 93, 94, 95, 96, 97, 98, 99, 100, 101, 102, 103, 104, 105, 106, 107, 108, 109, 110, 111, 112, 113, 114, 115, 116, 117, 118, 119, 120, 121, 122, 123, 124, 125, 126, 127, 128, 129, 130, 131, 132, 133, 134, 135, 136, 137, 138, 139, 140, 141, 142, 143, 144, 145, 146, 147] (by decide +kernel) (by decide +kernel)
set_option maxRecDepth 20000 in
theorem gX10_worst_X10_worstNow : GoodIn wsX10_worst (wsV RX10 448 RX10 yX10_worstNow wsX10_worstNow) := goodIn_app (goodIn_of _ (by decide +kernel)) ggX10_worst_X10_worstNow
theorem dX10_worst_0 : decode cX10_worst 0 = .ok (.aload_n 0, 1) := by decide +kernel
theorem dX10_worst_1 : decode cX10_worst 1 = .ok (.invokevirtual 448, 3) := by decide +kernel
theorem dX10_worst_4 : decode cX10_worst 4 = .ok (.ireturn, 1) := by decide +kernel
set_option maxRecDepth 20000 in
theorem ggX10_drop_X10_isRow : GoodIn wsX10_drop wsX10_isRow := goodIn_r _ [6, 7, 8, 9, 5, 10, 11, 12, 13, 14, 15, 16, 17, 18, 19, 20, 21, 22, 23, 24, 25, 26, 27, 28, 29, 30, 31, 32, 33, 34, 35, 36, 37, 38, 39, 40, 41, 42, 43, 44, 45, 46, 47, 48, 49, 50, 51, 52, 53, 54, 55, 56, 57, 58, 59, 60, 61, 62, 63, 64, 65, 66, 67, 68, 69, 70, 71] (by decide +kernel) (by decide +kernel)
set_option maxRecDepth 20000 in
theorem gX10_drop_X10_isRow : GoodIn wsX10_drop (wsV RX10 433 RX10 yX10_isRow wsX10_isRow) := goodIn_app (goodIn_of _ (by decide +kernel)) ggX10_drop_X10_isRow
theorem dX10_drop_0 : decode cX10_drop 0 = .ok (.aload_n 0, 1) := by decide +kernel
theorem dX10_drop_1 : decode cX10_drop 1 = .ok (.iload_n 1, 1) := by decide +kernel
theorem dX10_drop_2 : decode cX10_drop 2 = .ok (.invokevirtual 433, 3) := by decide +kernel
theorem dX10_drop_5 : decode cX10_drop 5 = .ok (.ifCond .eq 13, 3) := by decide +kernel
theorem dX10_drop_8 : decode cX10_drop 8 = .ok (.aload_n 0, 1) := by decide +kernel
theorem dX10_drop_9 : decode cX10_drop 9 = .ok (.getfield 91, 3) := by decide +kernel
theorem dX10_drop_12 : decode cX10_drop 12 = .ok (.iload_n 1, 1) := by decide +kernel
theorem dX10_drop_13 : decode cX10_drop 13 = .ok (.baload, 1) := by decide +kernel
theorem dX10_drop_14 : decode cX10_drop 14 = .ok (.iload_n 2, 1) := by decide +kernel
theorem dX10_drop_15 : decode cX10_drop 15 = .ok (.if_icmp .ne 5, 3) := by decide +kernel
theorem dX10_drop_18 : decode cX10_drop 18 = .ok (.iconst 0, 1) := by decide +kernel
theorem dX10_drop_19 : decode cX10_drop 19 = .ok (.ireturn, 1) := by decide +kernel
theorem dX10_drop_20 : decode cX10_drop 20 = .ok (.aload_n 0, 1) := by decide +kernel
theorem dX10_drop_21 : decode cX10_drop 21 = .ok (.getfield 91, 3) := by decide +kernel
theorem dX10_drop_24 : decode cX10_drop 24 = .ok (.iload_n 1, 1) := by decide +kernel
theorem dX10_drop_25 : decode cX10_drop 25 = .ok (.iload_n 2, 1) := by decide +kernel
theorem dX10_drop_26 : decode cX10_drop 26 = .ok (.bastore, 1) := by decide +kernel
theorem dX10_drop_27 : decode cX10_drop 27 = .ok (.iconst 1, 1) := by decide +kernel
theorem dX10_drop_28 : decode cX10_drop 28 = .ok (.ireturn, 1) := by decide +kernel
set_option maxRecDepth 20000 in
theorem ggX10_clean_X10_rows : GoodIn wsX10_clean wsX10_rows := goodIn_r _ [7, 8, 128, 129, 130, 131, 132, 133, 134, 135, 136, 137, 138, 139, 140, 141, 142, 143, 144, 145, 146, 147, 148, 149, 150, 151, 152, 153, 154, 155, 156, 157, 158, 159, 160, 161, 162, 163, 164, 165, 166, 167, 168, 169, 170, 171, 172, 173, 174, 175, 176, 177, 178, 179, 180, 181, 182, 183, 184] (by decide +kernel) (by decide +kernel)
set_option maxRecDepth 20000 in
theorem gX10_clean_X10_rows : GoodIn wsX10_clean (wsV RX10 265 RX10 yX10_rows wsX10_rows) := goodIn_app (goodIn_of _ (by decide +kernel)) ggX10_clean_X10_rows
set_option maxRecDepth 20000 in
theorem ggX10_clean_X10_rests : GoodIn wsX10_clean wsX10_rests := goodIn_r _ [12, 13, 14, 15, 6, 16, 8, 17, 18, 19, 20, 21, 22, 23, 24, 25, 26, 27, 28, 29, 30, 2, 31, 32, 33, 34, 35, 36, 3, 4, 5, 7, 37, 38, 39, 40, 41, 42, 43, 44, 45, 46, 47, 48, 49, 50, 51, 52, 53, 54, 55, 56, 57, 58, 59, 60, 61, 62, 63, 64, 65, 66, 67, 68, 69, 70, 71, 72, 73, 74, 75, 76, 77, 78, 79, 80, 81, 82, 83, 84, 85, 86, 87, 88, 89, 90, 91, 92, 93, 94, 95, 96, 97, 98, 128, 129, 130, 131, 132, 133, 134, 135, 136, 137, 138, 139, 140, 141, 142, 143, 144, 145, 146, 147, 148, 149, 150, 151, 152, 153, 154, 155, 156, 157, 158, 159, 160, 161, 162, 163, 164, 165, 166, 167, 168, 169, 170, 171, 172, 173, 174, 175, 176, 177, 178, 179, 180, 181, 182, 183, 184] (by decide +kernel) (by decide +kernel)
set_option maxRecDepth 20000 in
theorem gX10_clean_X10_rests : GoodIn wsX10_clean (wsV RX10 365 RX10 yX10_rests wsX10_rests) := goodIn_app (goodIn_of _ (by decide +kernel)) ggX10_clean_X10_rests
set_option maxRecDepth 20000 in
theorem ggX10_clean_X10_worstNow : GoodIn wsX10_clean wsX10_worstNow := goodIn_r _ [102, 3, 4, 5, 6, 7, 8, 103, 104, 105, 106, 2, 107, 108, 109, 110, 111, 52, 53, 54, 55, 56, 37, 38, 39, 40, 41, 112, 113, 114, 115, 76, 77, 78, 79, 85, 86, 87, 88, 89, 90, 91, 92, 93, 94, 116, 117, 118, 119, 17, 18, 19, 20, 21, 22, 23, 24, 25, 26, 120, 121, 122, 123, 124, 125, 126, 127, 51, 47, 48, 49, 50, 57, 58, 59, 60, 61, 62, 63, 64, 65, 66, 42, 43, 44, 45, 46, 128, 129, 130, 131, 132, 133, 134, 135, 136, 137, 138, 139, 140, 141, 142, 143, 144, 145, 146, 147, 148, 149, 150, 151, 152, 153, 154, 155, 156, 157, 158, 159, 160, 161, 162, 163, 164, 165, 166, 167, 168, 169, 170, 171, 172, 173, 174, 175, 176, 177, 178, 179, 180, 181, 182, 183, 184] (by decide +kernel) (by decide +kernel)
set_option maxRecDepth 20000 in
theorem gX10_clean_X10_worstNow : GoodIn wsX10_clean (wsV RX10 448 RX10 yX10_worstNow wsX10_worstNow) := goodIn_app (goodIn_of _ (by decide +kernel)) ggX10_clean_X10_worstNow
set_option maxRecDepth 20000 in
theorem ggX10_clean_X10_doubtOf : GoodIn wsX10_clean wsX10_doubtOf := goodIn_r _ [123, 124, 125, 126, 6, 127, 51, 37, 38, 39, 40, 41, 47, 48, 49, 50, 52, 53, 54, 55, 56, 57, 58, 59, 60, 61, 62, 63, 64, 65, 66, 42, 43, 44, 45, 46, 128, 129, 130, 131, 132, 133, 134, 135, 136, 137, 138, 139, 140, 141, 142, 143, 144, 145, 146, 147, 148, 149, 150, 151, 152, 153, 154, 155, 156, 157, 158, 159, 160, 161, 162, 163, 164, 165, 166, 167, 168, 169, 170, 171, 172, 173, 174, 175, 176, 177, 178, 179, 180, 181, 182, 183, 184] (by decide +kernel) (by decide +kernel)
set_option maxRecDepth 20000 in
theorem gX10_clean_X10_doubtOf : GoodIn wsX10_clean (wsV RX10 328 RX10 yX10_doubtOf wsX10_doubtOf) := goodIn_app (goodIn_of _ (by decide +kernel)) ggX10_clean_X10_doubtOf
theorem dX10_clean_0 : decode cX10_clean 0 = .ok (.lload_n 1, 1) := by decide +kernel
theorem dX10_clean_1 : decode cX10_clean 1 = .ok (.lconst 0, 1) := by decide +kernel
theorem dX10_clean_2 : decode cX10_clean 2 = .ok (.lcmp, 1) := by decide +kernel
theorem dX10_clean_3 : decode cX10_clean 3 = .ok (.ifCond .ge 5, 3) := by decide +kernel
theorem dX10_clean_6 : decode cX10_clean 6 = .ok (.iconst (-1), 1) := by decide +kernel
theorem dX10_clean_7 : decode cX10_clean 7 = .ok (.ireturn, 1) := by decide +kernel
theorem dX10_clean_8 : decode cX10_clean 8 = .ok (.iconst 0, 1) := by decide +kernel
theorem dX10_clean_9 : decode cX10_clean 9 = .ok (.istore_n 3, 1) := by decide +kernel
theorem dX10_clean_10 : decode cX10_clean 10 = .ok (.iload_n 3, 1) := by decide +kernel
theorem dX10_clean_11 : decode cX10_clean 11 = .ok (.aload_n 0, 1) := by decide +kernel
theorem dX10_clean_12 : decode cX10_clean 12 = .ok (.invokevirtual 265, 3) := by decide +kernel
theorem dX10_clean_15 : decode cX10_clean 15 = .ok (.if_icmp .ge 21, 3) := by decide +kernel
theorem dX10_clean_18 : decode cX10_clean 18 = .ok (.aload_n 0, 1) := by decide +kernel
theorem dX10_clean_19 : decode cX10_clean 19 = .ok (.getfield 116, 3) := by decide +kernel
theorem dX10_clean_22 : decode cX10_clean 22 = .ok (.iload_n 3, 1) := by decide +kernel
theorem dX10_clean_23 : decode cX10_clean 23 = .ok (.aload_n 0, 1) := by decide +kernel
theorem dX10_clean_24 : decode cX10_clean 24 = .ok (.getfield 91, 3) := by decide +kernel
theorem dX10_clean_27 : decode cX10_clean 27 = .ok (.iload_n 3, 1) := by decide +kernel
theorem dX10_clean_28 : decode cX10_clean 28 = .ok (.baload, 1) := by decide +kernel
theorem dX10_clean_29 : decode cX10_clean 29 = .ok (.bastore, 1) := by decide +kernel
theorem dX10_clean_30 : decode cX10_clean 30 = .ok (.iinc 3 1, 3) := by decide +kernel
theorem dX10_clean_33 : decode cX10_clean 33 = .ok (.goto (-23), 3) := by decide +kernel
theorem dX10_clean_36 : decode cX10_clean 36 = .ok (.iconst 0, 1) := by decide +kernel
theorem dX10_clean_37 : decode cX10_clean 37 = .ok (.istore_n 3, 1) := by decide +kernel
theorem dX10_clean_38 : decode cX10_clean 38 = .ok (.iconst 1, 1) := by decide +kernel
theorem dX10_clean_39 : decode cX10_clean 39 = .ok (.istore 4, 2) := by decide +kernel
theorem dX10_clean_41 : decode cX10_clean 41 = .ok (.iload 4, 2) := by decide +kernel
theorem dX10_clean_43 : decode cX10_clean 43 = .ok (.ifCond .eq 66, 3) := by decide +kernel
theorem dX10_clean_46 : decode cX10_clean 46 = .ok (.aload_n 0, 1) := by decide +kernel
theorem dX10_clean_47 : decode cX10_clean 47 = .ok (.bipush 50, 2) := by decide +kernel
theorem dX10_clean_49 : decode cX10_clean 49 = .ok (.invokevirtual 365, 3) := by decide +kernel
theorem dX10_clean_52 : decode cX10_clean 52 = .ok (.istore 5, 2) := by decide +kernel
theorem dX10_clean_54 : decode cX10_clean 54 = .ok (.aload_n 0, 1) := by decide +kernel
theorem dX10_clean_55 : decode cX10_clean 55 = .ok (.invokevirtual 448, 3) := by decide +kernel
theorem dX10_clean_58 : decode cX10_clean 58 = .ok (.istore 6, 2) := by decide +kernel
theorem dX10_clean_60 : decode cX10_clean 60 = .ok (.iload 6, 2) := by decide +kernel
theorem dX10_clean_62 : decode cX10_clean 62 = .ok (.iconst (-1), 1) := by decide +kernel
theorem dX10_clean_63 : decode cX10_clean 63 = .ok (.if_icmp .eq 24, 3) := by decide +kernel
theorem dX10_clean_66 : decode cX10_clean 66 = .ok (.aload_n 0, 1) := by decide +kernel
theorem dX10_clean_67 : decode cX10_clean 67 = .ok (.iload 6, 2) := by decide +kernel
theorem dX10_clean_69 : decode cX10_clean 69 = .ok (.invokevirtual 328, 3) := by decide +kernel
theorem dX10_clean_72 : decode cX10_clean 72 = .ok (.lload_n 1, 1) := by decide +kernel
theorem dX10_clean_73 : decode cX10_clean 73 = .ok (.lcmp, 1) := by decide +kernel
theorem dX10_clean_74 : decode cX10_clean 74 = .ok (.ifCond .le 13, 3) := by decide +kernel
theorem dX10_clean_77 : decode cX10_clean 77 = .ok (.iload_n 3, 1) := by decide +kernel
theorem dX10_clean_78 : decode cX10_clean 78 = .ok (.bipush 20, 2) := by decide +kernel
theorem dX10_clean_80 : decode cX10_clean 80 = .ok (.if_icmp .ge 7, 3) := by decide +kernel
theorem dX10_clean_83 : decode cX10_clean 83 = .ok (.iconst 1, 1) := by decide +kernel
theorem dX10_clean_84 : decode cX10_clean 84 = .ok (.goto 4, 3) := by decide +kernel
theorem dX10_clean_87 : decode cX10_clean 87 = .ok (.iconst 0, 1) := by decide +kernel
theorem dX10_clean_88 : decode cX10_clean 88 = .ok (.istore 4, 2) := by decide +kernel
theorem dX10_clean_90 : decode cX10_clean 90 = .ok (.iload 4, 2) := by decide +kernel
theorem dX10_clean_92 : decode cX10_clean 92 = .ok (.ifCond .eq 14, 3) := by decide +kernel
theorem dX10_clean_95 : decode cX10_clean 95 = .ok (.aload_n 0, 1) := by decide +kernel
theorem dX10_clean_96 : decode cX10_clean 96 = .ok (.getfield 91, 3) := by decide +kernel
theorem dX10_clean_99 : decode cX10_clean 99 = .ok (.iload 6, 2) := by decide +kernel
theorem dX10_clean_101 : decode cX10_clean 101 = .ok (.iconst 1, 1) := by decide +kernel
theorem dX10_clean_102 : decode cX10_clean 102 = .ok (.bastore, 1) := by decide +kernel
theorem dX10_clean_103 : decode cX10_clean 103 = .ok (.iinc 3 1, 3) := by decide +kernel
theorem dX10_clean_106 : decode cX10_clean 106 = .ok (.goto (-65), 3) := by decide +kernel
theorem dX10_clean_109 : decode cX10_clean 109 = .ok (.iconst 0, 1) := by decide +kernel
theorem dX10_clean_110 : decode cX10_clean 110 = .ok (.istore 5, 2) := by decide +kernel
theorem dX10_clean_112 : decode cX10_clean 112 = .ok (.iconst 0, 1) := by decide +kernel
theorem dX10_clean_113 : decode cX10_clean 113 = .ok (.istore 6, 2) := by decide +kernel
theorem dX10_clean_115 : decode cX10_clean 115 = .ok (.iload 6, 2) := by decide +kernel
theorem dX10_clean_117 : decode cX10_clean 117 = .ok (.aload_n 0, 1) := by decide +kernel
theorem dX10_clean_118 : decode cX10_clean 118 = .ok (.invokevirtual 265, 3) := by decide +kernel
theorem dX10_clean_121 : decode cX10_clean 121 = .ok (.if_icmp .ge 54, 3) := by decide +kernel
theorem dX10_clean_124 : decode cX10_clean 124 = .ok (.aload_n 0, 1) := by decide +kernel
theorem dX10_clean_125 : decode cX10_clean 125 = .ok (.getfield 91, 3) := by decide +kernel
theorem dX10_clean_128 : decode cX10_clean 128 = .ok (.iload 6, 2) := by decide +kernel
theorem dX10_clean_130 : decode cX10_clean 130 = .ok (.baload, 1) := by decide +kernel
theorem dX10_clean_131 : decode cX10_clean 131 = .ok (.ifCond .eq 38, 3) := by decide +kernel
theorem dX10_clean_134 : decode cX10_clean 134 = .ok (.aload_n 0, 1) := by decide +kernel
theorem dX10_clean_135 : decode cX10_clean 135 = .ok (.getfield 116, 3) := by decide +kernel
theorem dX10_clean_138 : decode cX10_clean 138 = .ok (.iload 6, 2) := by decide +kernel
theorem dX10_clean_140 : decode cX10_clean 140 = .ok (.baload, 1) := by decide +kernel
theorem dX10_clean_141 : decode cX10_clean 141 = .ok (.ifCond .ne 28, 3) := by decide +kernel
theorem dX10_clean_144 : decode cX10_clean 144 = .ok (.aload_n 0, 1) := by decide +kernel
theorem dX10_clean_145 : decode cX10_clean 145 = .ok (.iload 6, 2) := by decide +kernel
theorem dX10_clean_147 : decode cX10_clean 147 = .ok (.invokevirtual 328, 3) := by decide +kernel
theorem dX10_clean_150 : decode cX10_clean 150 = .ok (.lload_n 1, 1) := by decide +kernel
theorem dX10_clean_151 : decode cX10_clean 151 = .ok (.lcmp, 1) := by decide +kernel
theorem dX10_clean_152 : decode cX10_clean 152 = .ok (.ifCond .le 6, 3) := by decide +kernel
theorem dX10_clean_155 : decode cX10_clean 155 = .ok (.goto 14, 3) := by decide +kernel
theorem dX10_clean_158 : decode cX10_clean 158 = .ok (.aload_n 0, 1) := by decide +kernel
theorem dX10_clean_159 : decode cX10_clean 159 = .ok (.getfield 91, 3) := by decide +kernel
theorem dX10_clean_162 : decode cX10_clean 162 = .ok (.iload 6, 2) := by decide +kernel
theorem dX10_clean_164 : decode cX10_clean 164 = .ok (.iconst 0, 1) := by decide +kernel
theorem dX10_clean_165 : decode cX10_clean 165 = .ok (.bastore, 1) := by decide +kernel
theorem dX10_clean_166 : decode cX10_clean 166 = .ok (.iinc 5 1, 3) := by decide +kernel
theorem dX10_clean_169 : decode cX10_clean 169 = .ok (.iinc 6 1, 3) := by decide +kernel
theorem dX10_clean_172 : decode cX10_clean 172 = .ok (.goto (-57), 3) := by decide +kernel
theorem dX10_clean_175 : decode cX10_clean 175 = .ok (.iload 5, 2) := by decide +kernel
theorem dX10_clean_177 : decode cX10_clean 177 = .ok (.ifCond .le 12, 3) := by decide +kernel
theorem dX10_clean_180 : decode cX10_clean 180 = .ok (.aload_n 0, 1) := by decide +kernel
theorem dX10_clean_181 : decode cX10_clean 181 = .ok (.bipush 50, 2) := by decide +kernel
theorem dX10_clean_183 : decode cX10_clean 183 = .ok (.invokevirtual 365, 3) := by decide +kernel
theorem dX10_clean_186 : decode cX10_clean 186 = .ok (.goto 4, 3) := by decide +kernel
theorem dX10_clean_189 : decode cX10_clean 189 = .ok (.iconst 0, 1) := by decide +kernel
theorem dX10_clean_190 : decode cX10_clean 190 = .ok (.istore 6, 2) := by decide +kernel
theorem dX10_clean_192 : decode cX10_clean 192 = .ok (.iload_n 3, 1) := by decide +kernel
theorem dX10_clean_193 : decode cX10_clean 193 = .ok (.iload 5, 2) := by decide +kernel
theorem dX10_clean_195 : decode cX10_clean 195 = .ok (.isub, 1) := by decide +kernel
theorem dX10_clean_196 : decode cX10_clean 196 = .ok (.ireturn, 1) := by decide +kernel
set_option maxRecDepth 20000 in
theorem ggX10_tiePoints_X10_points : GoodIn wsX10_tiePoints wsX10_points := goodIn_r _ [5, 6, 26, 27, 28, 29, 30, 31, 32, 33, 34, 35, 36, 37, 38, 39, 40, 41, 42, 43, 44, 45, 46, 47, 48, 49, 50, 51, 52, 53, 54, 55, 56, 57, 58, 59, 60, 61, 62, 63, 64, 65, 66, 67, 68, 69, 70, 71, 72, 73, 74, 75, 76, 77, 78, 79, 80, 81, 82] (by decide +kernel) (by decide +kernel)
set_option maxRecDepth 20000 in
theorem gX10_tiePoints_X10_points : GoodIn wsX10_tiePoints (wsV RX10 262 RX10 yX10_points wsX10_points) := goodIn_app (goodIn_of _ (by decide +kernel)) ggX10_tiePoints_X10_points
set_option maxRecDepth 20000 in
theorem ggX10_tiePoints_X10_rowOf : GoodIn wsX10_tiePoints wsX10_rowOf := goodIn_r _ [10, 11, 12, 13, 14, 4, 15, 6, 16, 17, 18, 19, 20, 21, 22, 23, 24, 25, 26, 27, 28, 29, 30, 31, 32, 33, 34, 35, 36, 37, 38, 39, 40, 41, 42, 43, 44, 45, 46, 47, 48, 49, 50, 51, 52, 53, 54, 55, 56, 57, 58, 59, 60, 61, 62, 63, 64, 65, 66, 67, 68, 69, 70, 71, 72, 73, 74, 75, 76, 77, 78, 79, 80, 81, 82] (by decide +kernel) (by decide +kernel)
set_option maxRecDepth 20000 in
theorem gX10_tiePoints_X10_rowOf : GoodIn wsX10_tiePoints (wsV RX10 290 RX10 yX10_rowOf wsX10_rowOf) := goodIn_app (goodIn_of _ (by decide +kernel)) ggX10_tiePoints_X10_rowOf
theorem dX10_tiePoints_0 : decode cX10_tiePoints 0 = .ok (.iconst 0, 1) := by decide +kernel
theorem dX10_tiePoints_1 : decode cX10_tiePoints 1 = .ok (.istore_n 3, 1) := by decide +kernel
theorem dX10_tiePoints_2 : decode cX10_tiePoints 2 = .ok (.iconst 0, 1) := by decide +kernel
theorem dX10_tiePoints_3 : decode cX10_tiePoints 3 = .ok (.istore 4, 2) := by decide +kernel
theorem dX10_tiePoints_5 : decode cX10_tiePoints 5 = .ok (.iload 4, 2) := by decide +kernel
theorem dX10_tiePoints_7 : decode cX10_tiePoints 7 = .ok (.aload_n 0, 1) := by decide +kernel
theorem dX10_tiePoints_8 : decode cX10_tiePoints 8 = .ok (.invokevirtual 262, 3) := by decide +kernel
theorem dX10_tiePoints_11 : decode cX10_tiePoints 11 = .ok (.if_icmp .ge 34, 3) := by decide +kernel
theorem dX10_tiePoints_14 : decode cX10_tiePoints 14 = .ok (.aload_n 0, 1) := by decide +kernel
theorem dX10_tiePoints_15 : decode cX10_tiePoints 15 = .ok (.iload_n 1, 1) := by decide +kernel
theorem dX10_tiePoints_16 : decode cX10_tiePoints 16 = .ok (.iload 4, 2) := by decide +kernel
theorem dX10_tiePoints_18 : decode cX10_tiePoints 18 = .ok (.invokevirtual 290, 3) := by decide +kernel
theorem dX10_tiePoints_21 : decode cX10_tiePoints 21 = .ok (.iconst (-1), 1) := by decide +kernel
theorem dX10_tiePoints_22 : decode cX10_tiePoints 22 = .ok (.if_icmp .eq 17, 3) := by decide +kernel
theorem dX10_tiePoints_25 : decode cX10_tiePoints 25 = .ok (.aload_n 0, 1) := by decide +kernel
theorem dX10_tiePoints_26 : decode cX10_tiePoints 26 = .ok (.iload_n 2, 1) := by decide +kernel
theorem dX10_tiePoints_27 : decode cX10_tiePoints 27 = .ok (.iload 4, 2) := by decide +kernel
theorem dX10_tiePoints_29 : decode cX10_tiePoints 29 = .ok (.invokevirtual 290, 3) := by decide +kernel
theorem dX10_tiePoints_32 : decode cX10_tiePoints 32 = .ok (.iconst (-1), 1) := by decide +kernel
theorem dX10_tiePoints_33 : decode cX10_tiePoints 33 = .ok (.if_icmp .eq 6, 3) := by decide +kernel
theorem dX10_tiePoints_36 : decode cX10_tiePoints 36 = .ok (.iinc 3 1, 3) := by decide +kernel
theorem dX10_tiePoints_39 : decode cX10_tiePoints 39 = .ok (.iinc 4 1, 3) := by decide +kernel
theorem dX10_tiePoints_42 : decode cX10_tiePoints 42 = .ok (.goto (-37), 3) := by decide +kernel
theorem dX10_tiePoints_45 : decode cX10_tiePoints 45 = .ok (.iload_n 3, 1) := by decide +kernel
theorem dX10_tiePoints_46 : decode cX10_tiePoints 46 = .ok (.ireturn, 1) := by decide +kernel
set_option maxRecDepth 20000 in
theorem ggX10_step_X10_points : GoodIn wsX10_step wsX10_points := goodIn_r _ [5, 6, 36, 37, 38, 39, 40, 41, 42, 43, 44, 45, 46, 47, 48, 49, 50, 51, 52, 53, 54, 55, 56, 57, 58, 59, 60, 61, 62, 63, 64, 65, 66, 67, 68, 69, 70, 71, 72, 73, 74, 75, 76, 77, 78, 79, 80, 81, 82, 83, 84, 85, 86, 87, 88, 89, 90, 91, 92] (by decide +kernel) (by decide +kernel)
set_option maxRecDepth 20000 in
theorem gX10_step_X10_points : GoodIn wsX10_step (wsV RX10 262 RX10 yX10_points wsX10_points) := goodIn_app (goodIn_of _ (by decide +kernel)) ggX10_step_X10_points
set_option maxRecDepth 20000 in
theorem ggX10_step_X10_rowOf : GoodIn wsX10_step wsX10_rowOf := goodIn_r _ [10, 11, 12, 13, 14, 4, 15, 6, 16, 17, 18, 19, 20, 21, 22, 23, 24, 25, 36, 37, 38, 39, 40, 41, 42, 43, 44, 45, 46, 47, 48, 49, 50, 51, 52, 53, 54, 55, 56, 57, 58, 59, 60, 61, 62, 63, 64, 65, 66, 67, 68, 69, 70, 71, 72, 73, 74, 75, 76, 77, 78, 79, 80, 81, 82, 83, 84, 85, 86, 87, 88, 89, 90, 91, 92] (by decide +kernel) (by decide +kernel)
set_option maxRecDepth 20000 in
theorem gX10_step_X10_rowOf : GoodIn wsX10_step (wsV RX10 290 RX10 yX10_rowOf wsX10_rowOf) := goodIn_app (goodIn_of _ (by decide +kernel)) ggX10_step_X10_rowOf
set_option maxRecDepth 20000 in
theorem ggX10_step_X10_turned : GoodIn wsX10_step wsX10_turned := goodIn_r _ [29, 30, 16, 17, 18, 4, 19, 20, 31, 32, 33, 34, 35, 36, 37, 38, 39, 40, 41, 42, 43, 44, 45, 46, 47, 48, 49, 50, 51, 52, 53, 54, 55, 56, 57, 58, 59, 60, 61, 62, 63, 64, 65, 66, 67, 68, 69, 70, 71, 72, 73, 74, 75, 76, 77, 78, 79, 80, 81, 82, 83, 84, 85, 86, 87, 88, 89, 90, 91, 92] (by decide +kernel) (by decide +kernel)
set_option maxRecDepth 20000 in
theorem gX10_step_X10_turned : GoodIn wsX10_step (wsV RX10 284 RX10 yX10_turned wsX10_turned) := goodIn_app (goodIn_of _ (by decide +kernel)) ggX10_step_X10_turned
theorem dX10_step_0 : decode cX10_step 0 = .ok (.iconst 0, 1) := by decide +kernel
theorem dX10_step_1 : decode cX10_step 1 = .ok (.istore 4, 2) := by decide +kernel
theorem dX10_step_3 : decode cX10_step 3 = .ok (.lconst 0, 1) := by decide +kernel
theorem dX10_step_4 : decode cX10_step 4 = .ok (.lstore 5, 2) := by decide +kernel
theorem dX10_step_6 : decode cX10_step 6 = .ok (.iconst 0, 1) := by decide +kernel
theorem dX10_step_7 : decode cX10_step 7 = .ok (.istore 7, 2) := by decide +kernel
theorem dX10_step_9 : decode cX10_step 9 = .ok (.iload 7, 2) := by decide +kernel
theorem dX10_step_11 : decode cX10_step 11 = .ok (.aload_n 0, 1) := by decide +kernel
theorem dX10_step_12 : decode cX10_step 12 = .ok (.invokevirtual 262, 3) := by decide +kernel
theorem dX10_step_15 : decode cX10_step 15 = .ok (.if_icmp .ge 66, 3) := by decide +kernel
theorem dX10_step_18 : decode cX10_step 18 = .ok (.aload_n 0, 1) := by decide +kernel
theorem dX10_step_19 : decode cX10_step 19 = .ok (.iload_n 1, 1) := by decide +kernel
theorem dX10_step_20 : decode cX10_step 20 = .ok (.iload 7, 2) := by decide +kernel
theorem dX10_step_22 : decode cX10_step 22 = .ok (.invokevirtual 290, 3) := by decide +kernel
theorem dX10_step_25 : decode cX10_step 25 = .ok (.istore 8, 2) := by decide +kernel
theorem dX10_step_27 : decode cX10_step 27 = .ok (.aload_n 0, 1) := by decide +kernel
theorem dX10_step_28 : decode cX10_step 28 = .ok (.iload_n 2, 1) := by decide +kernel
theorem dX10_step_29 : decode cX10_step 29 = .ok (.iload 7, 2) := by decide +kernel
theorem dX10_step_31 : decode cX10_step 31 = .ok (.invokevirtual 290, 3) := by decide +kernel
theorem dX10_step_34 : decode cX10_step 34 = .ok (.istore 9, 2) := by decide +kernel
theorem dX10_step_36 : decode cX10_step 36 = .ok (.iload 8, 2) := by decide +kernel
theorem dX10_step_38 : decode cX10_step 38 = .ok (.iconst (-1), 1) := by decide +kernel
theorem dX10_step_39 : decode cX10_step 39 = .ok (.if_icmp .eq 36, 3) := by decide +kernel
theorem dX10_step_42 : decode cX10_step 42 = .ok (.iload 9, 2) := by decide +kernel
theorem dX10_step_44 : decode cX10_step 44 = .ok (.iconst (-1), 1) := by decide +kernel
theorem dX10_step_45 : decode cX10_step 45 = .ok (.if_icmp .ne 6, 3) := by decide +kernel
theorem dX10_step_48 : decode cX10_step 48 = .ok (.goto 27, 3) := by decide +kernel
theorem dX10_step_51 : decode cX10_step 51 = .ok (.lload 5, 2) := by decide +kernel
theorem dX10_step_53 : decode cX10_step 53 = .ok (.aload_n 0, 1) := by decide +kernel
theorem dX10_step_54 : decode cX10_step 54 = .ok (.iload 8, 2) := by decide +kernel
theorem dX10_step_56 : decode cX10_step 56 = .ok (.iload_n 3, 1) := by decide +kernel
theorem dX10_step_57 : decode cX10_step 57 = .ok (.invokevirtual 284, 3) := by decide +kernel
theorem dX10_step_60 : decode cX10_step 60 = .ok (.aload_n 0, 1) := by decide +kernel
theorem dX10_step_61 : decode cX10_step 61 = .ok (.iload 9, 2) := by decide +kernel
theorem dX10_step_63 : decode cX10_step 63 = .ok (.iload_n 3, 1) := by decide +kernel
theorem dX10_step_64 : decode cX10_step 64 = .ok (.invokevirtual 284, 3) := by decide +kernel
theorem dX10_step_67 : decode cX10_step 67 = .ok (.isub, 1) := by decide +kernel
theorem dX10_step_68 : decode cX10_step 68 = .ok (.i2l, 1) := by decide +kernel
theorem dX10_step_69 : decode cX10_step 69 = .ok (.ladd, 1) := by decide +kernel
theorem dX10_step_70 : decode cX10_step 70 = .ok (.lstore 5, 2) := by decide +kernel
theorem dX10_step_72 : decode cX10_step 72 = .ok (.iinc 4 1, 3) := by decide +kernel
theorem dX10_step_75 : decode cX10_step 75 = .ok (.iinc 7 1, 3) := by decide +kernel
theorem dX10_step_78 : decode cX10_step 78 = .ok (.goto (-69), 3) := by decide +kernel
theorem dX10_step_81 : decode cX10_step 81 = .ok (.lload 5, 2) := by decide +kernel
theorem dX10_step_83 : decode cX10_step 83 = .ok (.iload 4, 2) := by decide +kernel
theorem dX10_step_85 : decode cX10_step 85 = .ok (.i2l, 1) := by decide +kernel
theorem dX10_step_86 : decode cX10_step 86 = .ok (.ldiv, 1) := by decide +kernel
theorem dX10_step_87 : decode cX10_step 87 = .ok (.lstore 7, 2) := by decide +kernel
theorem dX10_step_89 : decode cX10_step 89 = .ok (.lload 5, 2) := by decide +kernel
theorem dX10_step_91 : decode cX10_step 91 = .ok (.iload 4, 2) := by decide +kernel
theorem dX10_step_93 : decode cX10_step 93 = .ok (.i2l, 1) := by decide +kernel
theorem dX10_step_94 : decode cX10_step 94 = .ok (.lrem, 1) := by decide +kernel
theorem dX10_step_95 : decode cX10_step 95 = .ok (.lconst 0, 1) := by decide +kernel
theorem dX10_step_96 : decode cX10_step 96 = .ok (.lcmp, 1) := by decide +kernel
theorem dX10_step_97 : decode cX10_step 97 = .ok (.ifCond .ge 10, 3) := by decide +kernel
theorem dX10_step_100 : decode cX10_step 100 = .ok (.lload 7, 2) := by decide +kernel
theorem dX10_step_102 : decode cX10_step 102 = .ok (.lconst 1, 1) := by decide +kernel
theorem dX10_step_103 : decode cX10_step 103 = .ok (.lsub, 1) := by decide +kernel
theorem dX10_step_104 : decode cX10_step 104 = .ok (.goto 5, 3) := by decide +kernel
theorem dX10_step_107 : decode cX10_step 107 = .ok (.lload 7, 2) := by decide +kernel
theorem dX10_step_109 : decode cX10_step 109 = .ok (.l2i, 1) := by decide +kernel
theorem dX10_step_110 : decode cX10_step 110 = .ok (.ireturn, 1) := by decide +kernel
set_option maxRecDepth 20000 in
theorem ggX10_areTwo_X10_isPicture : GoodIn wsX10_areTwo wsX10_isPicture := goodIn_r _ [5, 6, 7, 8, 4, 9, 10, 11, 12, 13, 14, 15, 16, 17, 18, 19, 20, 21, 22, 23, 24, 25, 26, 27, 28, 29, 30, 31, 32, 33, 34, 35, 36, 37, 38, 39, 40, 41, 42, 43, 44, 45, 46, 47, 48, 49, 50, 51, 52, 53, 54, 55, 56, 57, 58, 59, 60, 61, 62, 63, 64, 65, 66, 67, 68, 69, 70] (by decide +kernel) (by decide +kernel)
set_option maxRecDepth 20000 in
theorem gX10_areTwo_X10_isPicture : GoodIn wsX10_areTwo (wsV RX10 427 RX10 yX10_isPicture wsX10_isPicture) := goodIn_app (goodIn_of _ (by decide +kernel)) ggX10_areTwo_X10_isPicture
theorem dX10_areTwo_0 : decode cX10_areTwo 0 = .ok (.aload_n 0, 1) := by decide +kernel
theorem dX10_areTwo_1 : decode cX10_areTwo 1 = .ok (.iload_n 1, 1) := by decide +kernel
theorem dX10_areTwo_2 : decode cX10_areTwo 2 = .ok (.invokevirtual 427, 3) := by decide +kernel
theorem dX10_areTwo_5 : decode cX10_areTwo 5 = .ok (.ifCond .eq 20, 3) := by decide +kernel
theorem dX10_areTwo_8 : decode cX10_areTwo 8 = .ok (.aload_n 0, 1) := by decide +kernel
theorem dX10_areTwo_9 : decode cX10_areTwo 9 = .ok (.iload_n 2, 1) := by decide +kernel
theorem dX10_areTwo_10 : decode cX10_areTwo 10 = .ok (.invokevirtual 427, 3) := by decide +kernel
theorem dX10_areTwo_13 : decode cX10_areTwo 13 = .ok (.ifCond .eq 12, 3) := by decide +kernel
theorem dX10_areTwo_16 : decode cX10_areTwo 16 = .ok (.iload_n 1, 1) := by decide +kernel
theorem dX10_areTwo_17 : decode cX10_areTwo 17 = .ok (.iload_n 2, 1) := by decide +kernel
theorem dX10_areTwo_18 : decode cX10_areTwo 18 = .ok (.if_icmp .eq 7, 3) := by decide +kernel
theorem dX10_areTwo_21 : decode cX10_areTwo 21 = .ok (.iconst 1, 1) := by decide +kernel
theorem dX10_areTwo_22 : decode cX10_areTwo 22 = .ok (.goto 4, 3) := by decide +kernel
theorem dX10_areTwo_25 : decode cX10_areTwo 25 = .ok (.iconst 0, 1) := by decide +kernel
theorem dX10_areTwo_26 : decode cX10_areTwo 26 = .ok (.ireturn, 1) := by decide +kernel
set_option maxRecDepth 20000 in
theorem ggX10_tie_X10_areTwo : GoodIn wsX10_tie wsX10_areTwo := goodIn_r _ [7, 8, 9, 10, 6, 11, 12, 13, 14, 15, 16, 17, 18, 19, 61, 62, 63, 64, 65, 66, 67, 68, 69, 70, 71, 72, 73, 74, 75, 76, 77, 78, 79, 80, 81, 82, 83, 84, 85, 86, 87, 88, 89, 90, 91, 92, 93, 94, 95, 96, 97, 98, 99, 100, 101, 102, 103, 104, 105, 106, 107, 108, 109, 110, 111, 112, 113, 114, 115, 116, 117] (by decide +kernel) (by decide +kernel)
set_option maxRecDepth 20000 in
theorem gX10_tie_X10_areTwo : GoodIn wsX10_tie (wsV RX10 451 RX10 yX10_areTwo wsX10_areTwo) := goodIn_app (goodIn_of _ (by decide +kernel)) ggX10_tie_X10_areTwo
set_option maxRecDepth 20000 in
theorem ggX10_tie_X10_isIn : GoodIn wsX10_tie wsX10_isIn := goodIn_r _ [19] (by decide +kernel) (by decide +kernel)
set_option maxRecDepth 20000 in
theorem gX10_tie_X10_isIn : GoodIn wsX10_tie (va_wsS RX10 183 yX10_isIn wsX10_isIn) := goodIn_app (goodIn_of _ (by decide +kernel)) ggX10_tie_X10_isIn
set_option maxRecDepth 20000 in
theorem ggX10_tie_X10_tiePoints : GoodIn wsX10_tie wsX10_tiePoints := goodIn_r _ [23, 24, 25, 26, 6, 27, 16, 28, 29, 30, 31, 32, 33, 34, 35, 36, 37, 38, 39, 40, 41, 42, 43, 44, 45, 46, 61, 62, 63, 64, 65, 66, 67, 68, 69, 70, 71, 72, 73, 74, 75, 76, 77, 78, 79, 80, 81, 82, 83, 84, 85, 86, 87, 88, 89, 90, 91, 92, 93, 94, 95, 96, 97, 98, 99, 100, 101, 102, 103, 104, 105, 106, 107, 108, 109, 110, 111, 112, 113, 114, 115, 116, 117] (by decide +kernel) (by decide +kernel)
set_option maxRecDepth 20000 in
theorem gX10_tie_X10_tiePoints : GoodIn wsX10_tie (wsV RX10 454 RX10 yX10_tiePoints wsX10_tiePoints) := goodIn_app (goodIn_of _ (by decide +kernel)) ggX10_tie_X10_tiePoints
set_option maxRecDepth 20000 in
theorem ggX10_tie_X10_step : GoodIn wsX10_tie wsX10_step := goodIn_r _ [50, 24, 25, 26, 6, 27, 16, 28, 29, 30, 31, 32, 33, 34, 35, 36, 37, 38, 39, 40, 41, 42, 43, 44, 45, 46, 51, 52, 53, 54, 55, 56, 57, 58, 59, 60, 61, 62, 63, 64, 65, 66, 67, 68, 69, 70, 71, 72, 73, 74, 75, 76, 77, 78, 79, 80, 81, 82, 83, 84, 85, 86, 87, 88, 89, 90, 91, 92, 93, 94, 95, 96, 97, 98, 99, 100, 101, 102, 103, 104, 105, 106, 107, 108, 109, 110, 111, 112, 113, 114, 115, 116, 117] (by decide +kernel) (by decide +kernel)
set_option maxRecDepth 20000 in
theorem gX10_tie_X10_step : GoodIn wsX10_tie (wsV RX10 457 RX10 yX10_step wsX10_step) := goodIn_app (goodIn_of _ (by decide +kernel)) ggX10_tie_X10_step
theorem dX10_tie_0 : decode cX10_tie 0 = .ok (.aload_n 0, 1) := by decide +kernel
theorem dX10_tie_1 : decode cX10_tie 1 = .ok (.iload_n 1, 1) := by decide +kernel
theorem dX10_tie_2 : decode cX10_tie 2 = .ok (.iload_n 2, 1) := by decide +kernel
theorem dX10_tie_3 : decode cX10_tie 3 = .ok (.invokevirtual 451, 3) := by decide +kernel
theorem dX10_tie_6 : decode cX10_tie 6 = .ok (.ifCond .eq 15, 3) := by decide +kernel
theorem dX10_tie_9 : decode cX10_tie 9 = .ok (.iload_n 3, 1) := by decide +kernel
theorem dX10_tie_10 : decode cX10_tie 10 = .ok (.i2l, 1) := by decide +kernel
theorem dX10_tie_11 : decode cX10_tie 11 = .ok (.lconst 0, 1) := by decide +kernel
theorem dX10_tie_12 : decode cX10_tie 12 = .ok (.ldc2_w 339, 3) := by decide +kernel
theorem dX10_tie_15 : decode cX10_tie 15 = .ok (.invokestatic 183, 3) := by decide +kernel
theorem dX10_tie_18 : decode cX10_tie 18 = .ok (.ifCond .ne 7, 3) := by decide +kernel
theorem dX10_tie_21 : decode cX10_tie 21 = .ok (.ldc_w 439, 3) := by decide +kernel
theorem dX10_tie_24 : decode cX10_tie 24 = .ok (.ireturn, 1) := by decide +kernel
theorem dX10_tie_25 : decode cX10_tie 25 = .ok (.aload_n 0, 1) := by decide +kernel
theorem dX10_tie_26 : decode cX10_tie 26 = .ok (.iload_n 1, 1) := by decide +kernel
theorem dX10_tie_27 : decode cX10_tie 27 = .ok (.iload_n 2, 1) := by decide +kernel
theorem dX10_tie_28 : decode cX10_tie 28 = .ok (.invokevirtual 454, 3) := by decide +kernel
theorem dX10_tie_31 : decode cX10_tie 31 = .ok (.istore 4, 2) := by decide +kernel
theorem dX10_tie_33 : decode cX10_tie 33 = .ok (.iload_n 3, 1) := by decide +kernel
theorem dX10_tie_34 : decode cX10_tie 34 = .ok (.ifCond .ne 6, 3) := by decide +kernel
theorem dX10_tie_37 : decode cX10_tie 37 = .ok (.iload 4, 2) := by decide +kernel
theorem dX10_tie_39 : decode cX10_tie 39 = .ok (.ireturn, 1) := by decide +kernel
theorem dX10_tie_40 : decode cX10_tie 40 = .ok (.iload 4, 2) := by decide +kernel
theorem dX10_tie_42 : decode cX10_tie 42 = .ok (.ifCond .ne 9, 3) := by decide +kernel
theorem dX10_tie_45 : decode cX10_tie 45 = .ok (.ldc_w 439, 3) := by decide +kernel
theorem dX10_tie_48 : decode cX10_tie 48 = .ok (.goto 12, 3) := by decide +kernel
theorem dX10_tie_51 : decode cX10_tie 51 = .ok (.aload_n 0, 1) := by decide +kernel
theorem dX10_tie_52 : decode cX10_tie 52 = .ok (.iload_n 1, 1) := by decide +kernel
theorem dX10_tie_53 : decode cX10_tie 53 = .ok (.iload_n 2, 1) := by decide +kernel
theorem dX10_tie_54 : decode cX10_tie 54 = .ok (.iload_n 3, 1) := by decide +kernel
theorem dX10_tie_55 : decode cX10_tie 55 = .ok (.iconst 1, 1) := by decide +kernel
theorem dX10_tie_56 : decode cX10_tie 56 = .ok (.isub, 1) := by decide +kernel
theorem dX10_tie_57 : decode cX10_tie 57 = .ok (.invokevirtual 457, 3) := by decide +kernel
theorem dX10_tie_60 : decode cX10_tie 60 = .ok (.ireturn, 1) := by decide +kernel
set_option maxRecDepth 20000 in
theorem ggX10_isLoop_X10_areTwo : GoodIn wsX10_isLoop wsX10_areTwo := goodIn_r _ [5, 6, 7, 8, 4, 9, 10, 11, 12, 13, 14, 15, 16, 17, 45, 46, 47, 48, 49, 50, 51, 52, 53, 54, 55, 56, 57, 58, 59, 60, 61, 62, 63, 64, 65, 66, 67, 68, 69, 70, 71, 72, 73, 74, 75, 76, 77, 78, 79, 80, 81, 82, 83, 84, 85, 86, 87, 88, 89, 90, 91, 92, 93, 94, 95, 96, 97, 98, 99, 100, 101] (by decide +kernel) (by decide +kernel)
set_option maxRecDepth 20000 in
theorem gX10_isLoop_X10_areTwo : GoodIn wsX10_isLoop (wsV RX10 451 RX10 yX10_areTwo wsX10_areTwo) := goodIn_app (goodIn_of _ (by decide +kernel)) ggX10_isLoop_X10_areTwo
set_option maxRecDepth 20000 in
theorem ggX10_isLoop_X10_tiePoints : GoodIn wsX10_isLoop wsX10_tiePoints := goodIn_r _ [21, 22, 23, 24, 4, 25, 14, 26, 27, 28, 29, 30, 31, 32, 33, 34, 35, 36, 37, 38, 39, 40, 41, 42, 43, 44, 45, 46, 47, 48, 49, 50, 51, 52, 53, 54, 55, 56, 57, 58, 59, 60, 61, 62, 63, 64, 65, 66, 67, 68, 69, 70, 71, 72, 73, 74, 75, 76, 77, 78, 79, 80, 81, 82, 83, 84, 85, 86, 87, 88, 89, 90, 91, 92, 93, 94, 95, 96, 97, 98, 99, 100, 101] (by decide +kernel) (by decide +kernel)
set_option maxRecDepth 20000 in
theorem gX10_isLoop_X10_tiePoints : GoodIn wsX10_isLoop (wsV RX10 454 RX10 yX10_tiePoints wsX10_tiePoints) := goodIn_app (goodIn_of _ (by decide +kernel)) ggX10_isLoop_X10_tiePoints
theorem dX10_isLoop_0 : decode cX10_isLoop 0 = .ok (.aload_n 0, 1) := by decide +kernel
theorem dX10_isLoop_1 : decode cX10_isLoop 1 = .ok (.iload_n 1, 1) := by decide +kernel
theorem dX10_isLoop_2 : decode cX10_isLoop 2 = .ok (.iload_n 2, 1) := by decide +kernel
theorem dX10_isLoop_3 : decode cX10_isLoop 3 = .ok (.invokevirtual 451, 3) := by decide +kernel
theorem dX10_isLoop_6 : decode cX10_isLoop 6 = .ok (.ifCond .eq 52, 3) := by decide +kernel
theorem dX10_isLoop_9 : decode cX10_isLoop 9 = .ok (.aload_n 0, 1) := by decide +kernel
theorem dX10_isLoop_10 : decode cX10_isLoop 10 = .ok (.iload_n 2, 1) := by decide +kernel
theorem dX10_isLoop_11 : decode cX10_isLoop 11 = .ok (.iload_n 3, 1) := by decide +kernel
theorem dX10_isLoop_12 : decode cX10_isLoop 12 = .ok (.invokevirtual 451, 3) := by decide +kernel
theorem dX10_isLoop_15 : decode cX10_isLoop 15 = .ok (.ifCond .eq 43, 3) := by decide +kernel
theorem dX10_isLoop_18 : decode cX10_isLoop 18 = .ok (.aload_n 0, 1) := by decide +kernel
theorem dX10_isLoop_19 : decode cX10_isLoop 19 = .ok (.iload_n 3, 1) := by decide +kernel
theorem dX10_isLoop_20 : decode cX10_isLoop 20 = .ok (.iload_n 1, 1) := by decide +kernel
theorem dX10_isLoop_21 : decode cX10_isLoop 21 = .ok (.invokevirtual 451, 3) := by decide +kernel
theorem dX10_isLoop_24 : decode cX10_isLoop 24 = .ok (.ifCond .eq 34, 3) := by decide +kernel
theorem dX10_isLoop_27 : decode cX10_isLoop 27 = .ok (.aload_n 0, 1) := by decide +kernel
theorem dX10_isLoop_28 : decode cX10_isLoop 28 = .ok (.iload_n 1, 1) := by decide +kernel
theorem dX10_isLoop_29 : decode cX10_isLoop 29 = .ok (.iload_n 2, 1) := by decide +kernel
theorem dX10_isLoop_30 : decode cX10_isLoop 30 = .ok (.invokevirtual 454, 3) := by decide +kernel
theorem dX10_isLoop_33 : decode cX10_isLoop 33 = .ok (.ifCond .le 25, 3) := by decide +kernel
theorem dX10_isLoop_36 : decode cX10_isLoop 36 = .ok (.aload_n 0, 1) := by decide +kernel
theorem dX10_isLoop_37 : decode cX10_isLoop 37 = .ok (.iload_n 2, 1) := by decide +kernel
theorem dX10_isLoop_38 : decode cX10_isLoop 38 = .ok (.iload_n 3, 1) := by decide +kernel
theorem dX10_isLoop_39 : decode cX10_isLoop 39 = .ok (.invokevirtual 454, 3) := by decide +kernel
theorem dX10_isLoop_42 : decode cX10_isLoop 42 = .ok (.ifCond .le 16, 3) := by decide +kernel
theorem dX10_isLoop_45 : decode cX10_isLoop 45 = .ok (.aload_n 0, 1) := by decide +kernel
theorem dX10_isLoop_46 : decode cX10_isLoop 46 = .ok (.iload_n 3, 1) := by decide +kernel
theorem dX10_isLoop_47 : decode cX10_isLoop 47 = .ok (.iload_n 1, 1) := by decide +kernel
theorem dX10_isLoop_48 : decode cX10_isLoop 48 = .ok (.invokevirtual 454, 3) := by decide +kernel
theorem dX10_isLoop_51 : decode cX10_isLoop 51 = .ok (.ifCond .le 7, 3) := by decide +kernel
theorem dX10_isLoop_54 : decode cX10_isLoop 54 = .ok (.iconst 1, 1) := by decide +kernel
theorem dX10_isLoop_55 : decode cX10_isLoop 55 = .ok (.goto 4, 3) := by decide +kernel
theorem dX10_isLoop_58 : decode cX10_isLoop 58 = .ok (.iconst 0, 1) := by decide +kernel
theorem dX10_isLoop_59 : decode cX10_isLoop 59 = .ok (.ireturn, 1) := by decide +kernel
set_option maxRecDepth 20000 in
theorem ggX10_loopOf_X10_step : GoodIn wsX10_loopOf wsX10_step := goodIn_r _ [5, 6, 7, 8, 4, 9, 10, 11, 12, 13, 14, 15, 16, 17, 18, 19, 20, 21, 22, 23, 24, 25, 26, 27, 28, 29, 30, 31, 32, 33, 34, 35, 36, 37, 38, 39, 40, 41, 42, 43, 44, 45, 46, 47, 48, 49, 50, 51, 52, 53, 54, 55, 56, 57, 58, 59, 60, 61, 62, 63, 64, 65, 66, 67, 68, 69, 70, 71, 72, 73, 74, 75, 76, 77, 78, 79, 80, 81, 82, 83, 84, 85, 86, 87, 88, 89, 90, 91, 92, 93, 94, 95, 96] (by decide +kernel) (by decide +kernel)
set_option maxRecDepth 20000 in
theorem gX10_loopOf_X10_step : GoodIn wsX10_loopOf (wsV RX10 457 RX10 yX10_step wsX10_step) := goodIn_app (goodIn_of _ (by decide +kernel)) ggX10_loopOf_X10_step
theorem dX10_loopOf_0 : decode cX10_loopOf 0 = .ok (.aload_n 0, 1) := by decide +kernel
theorem dX10_loopOf_1 : decode cX10_loopOf 1 = .ok (.iload_n 1, 1) := by decide +kernel
theorem dX10_loopOf_2 : decode cX10_loopOf 2 = .ok (.iload_n 2, 1) := by decide +kernel
theorem dX10_loopOf_3 : decode cX10_loopOf 3 = .ok (.iload 4, 2) := by decide +kernel
theorem dX10_loopOf_5 : decode cX10_loopOf 5 = .ok (.invokevirtual 457, 3) := by decide +kernel
theorem dX10_loopOf_8 : decode cX10_loopOf 8 = .ok (.aload_n 0, 1) := by decide +kernel
theorem dX10_loopOf_9 : decode cX10_loopOf 9 = .ok (.iload_n 2, 1) := by decide +kernel
theorem dX10_loopOf_10 : decode cX10_loopOf 10 = .ok (.iload_n 3, 1) := by decide +kernel
theorem dX10_loopOf_11 : decode cX10_loopOf 11 = .ok (.iload 4, 2) := by decide +kernel
theorem dX10_loopOf_13 : decode cX10_loopOf 13 = .ok (.invokevirtual 457, 3) := by decide +kernel
theorem dX10_loopOf_16 : decode cX10_loopOf 16 = .ok (.iadd, 1) := by decide +kernel
theorem dX10_loopOf_17 : decode cX10_loopOf 17 = .ok (.aload_n 0, 1) := by decide +kernel
theorem dX10_loopOf_18 : decode cX10_loopOf 18 = .ok (.iload_n 3, 1) := by decide +kernel
theorem dX10_loopOf_19 : decode cX10_loopOf 19 = .ok (.iload_n 1, 1) := by decide +kernel
theorem dX10_loopOf_20 : decode cX10_loopOf 20 = .ok (.iload 4, 2) := by decide +kernel
theorem dX10_loopOf_22 : decode cX10_loopOf 22 = .ok (.invokevirtual 457, 3) := by decide +kernel
theorem dX10_loopOf_25 : decode cX10_loopOf 25 = .ok (.iadd, 1) := by decide +kernel
theorem dX10_loopOf_26 : decode cX10_loopOf 26 = .ok (.ireturn, 1) := by decide +kernel
set_option maxRecDepth 20000 in
theorem ggX10_loop_X10_isIn : GoodIn wsX10_loop wsX10_isIn := goodIn_r _ [5] (by decide +kernel) (by decide +kernel)
set_option maxRecDepth 20000 in
theorem gX10_loop_X10_isIn : GoodIn wsX10_loop (va_wsS RX10 183 yX10_isIn wsX10_isIn) := goodIn_app (goodIn_of _ (by decide +kernel)) ggX10_loop_X10_isIn
set_option maxRecDepth 20000 in
theorem ggX10_loop_X10_isLoop : GoodIn wsX10_loop wsX10_isLoop := goodIn_r _ [9, 10, 11, 12, 4, 13, 14, 15, 16, 17, 18, 19, 20, 21, 22, 2, 3, 5, 23, 24, 25, 26, 27, 28, 29, 30, 31, 32, 33, 34, 35, 36, 37, 38, 39, 40, 41, 42, 43, 44, 45, 46, 47, 48, 49, 68, 69, 70, 71, 72, 73, 74, 75, 76, 77, 78, 79, 80, 81, 82, 83, 84, 85, 86, 87, 88, 89, 90, 91, 92, 93, 94, 95, 96, 97, 98, 99, 100, 101, 102, 103, 104, 105, 106, 107, 108, 109, 110, 111, 112, 113, 114, 115, 116, 117, 118, 119, 120, 121, 122, 123, 124] (by decide +kernel) (by decide +kernel)
set_option maxRecDepth 20000 in
theorem gX10_loop_X10_isLoop : GoodIn wsX10_loop (wsV RX10 460 RX10 yX10_isLoop wsX10_isLoop) := goodIn_app (goodIn_of _ (by decide +kernel)) ggX10_loop_X10_isLoop
set_option maxRecDepth 20000 in
theorem ggX10_loop_X10_loopOf : GoodIn wsX10_loop wsX10_loopOf := goodIn_r _ [53, 54, 55, 56, 4, 57, 27, 28, 29, 30, 22, 31, 32, 33, 34, 35, 36, 37, 38, 39, 40, 41, 42, 43, 44, 45, 46, 47, 48, 49, 58, 59, 60, 61, 62, 63, 64, 65, 66, 67, 68, 69, 70, 71, 72, 73, 74, 75, 76, 77, 78, 79, 80, 81, 82, 83, 84, 85, 86, 87, 88, 89, 90, 91, 92, 93, 94, 95, 96, 97, 98, 99, 100, 101, 102, 103, 104, 105, 106, 107, 108, 109, 110, 111, 112, 113, 114, 115, 116, 117, 118, 119, 120, 121, 122, 123, 124] (by decide +kernel) (by decide +kernel)
set_option maxRecDepth 20000 in
theorem gX10_loop_X10_loopOf : GoodIn wsX10_loop (wsV RX10 463 RX10 yX10_loopOf wsX10_loopOf) := goodIn_app (goodIn_of _ (by decide +kernel)) ggX10_loop_X10_loopOf
theorem dX10_loop_0 : decode cX10_loop 0 = .ok (.iload 4, 2) := by decide +kernel
theorem dX10_loop_2 : decode cX10_loop 2 = .ok (.i2l, 1) := by decide +kernel
theorem dX10_loop_3 : decode cX10_loop 3 = .ok (.lconst 0, 1) := by decide +kernel
theorem dX10_loop_4 : decode cX10_loop 4 = .ok (.lconst 1, 1) := by decide +kernel
theorem dX10_loop_5 : decode cX10_loop 5 = .ok (.invokestatic 183, 3) := by decide +kernel
theorem dX10_loop_8 : decode cX10_loop 8 = .ok (.ifCond .eq 25, 3) := by decide +kernel
theorem dX10_loop_11 : decode cX10_loop 11 = .ok (.aload_n 0, 1) := by decide +kernel
theorem dX10_loop_12 : decode cX10_loop 12 = .ok (.iload_n 1, 1) := by decide +kernel
theorem dX10_loop_13 : decode cX10_loop 13 = .ok (.iload_n 2, 1) := by decide +kernel
theorem dX10_loop_14 : decode cX10_loop 14 = .ok (.iload_n 3, 1) := by decide +kernel
theorem dX10_loop_15 : decode cX10_loop 15 = .ok (.invokevirtual 460, 3) := by decide +kernel
theorem dX10_loop_18 : decode cX10_loop 18 = .ok (.ifCond .eq 15, 3) := by decide +kernel
theorem dX10_loop_21 : decode cX10_loop 21 = .ok (.aload_n 0, 1) := by decide +kernel
theorem dX10_loop_22 : decode cX10_loop 22 = .ok (.iload_n 1, 1) := by decide +kernel
theorem dX10_loop_23 : decode cX10_loop 23 = .ok (.iload_n 2, 1) := by decide +kernel
theorem dX10_loop_24 : decode cX10_loop 24 = .ok (.iload_n 3, 1) := by decide +kernel
theorem dX10_loop_25 : decode cX10_loop 25 = .ok (.iload 4, 2) := by decide +kernel
theorem dX10_loop_27 : decode cX10_loop 27 = .ok (.invokevirtual 463, 3) := by decide +kernel
theorem dX10_loop_30 : decode cX10_loop 30 = .ok (.goto 6, 3) := by decide +kernel
theorem dX10_loop_33 : decode cX10_loop 33 = .ok (.ldc_w 439, 3) := by decide +kernel
theorem dX10_loop_36 : decode cX10_loop 36 = .ok (.ireturn, 1) := by decide +kernel
set_option maxRecDepth 20000 in
theorem ggX10_gap_X10_isIn : GoodIn wsX10_gap wsX10_isIn := goodIn_r _ [5] (by decide +kernel) (by decide +kernel)
set_option maxRecDepth 20000 in
theorem gX10_gap_X10_isIn : GoodIn wsX10_gap (va_wsS RX10 183 yX10_isIn wsX10_isIn) := goodIn_app (goodIn_of _ (by decide +kernel)) ggX10_gap_X10_isIn
set_option maxRecDepth 20000 in
theorem ggX10_gap_X10_pictures : GoodIn wsX10_gap wsX10_pictures := goodIn_r _ [9, 10, 71, 72, 73, 74, 75, 76, 77, 78, 79, 80, 81, 82, 83, 84, 85, 86, 87, 88, 89, 90, 91, 92, 93, 94, 95, 96, 97, 98, 99, 100, 101, 102, 103, 104, 105, 106, 107, 108, 109, 110, 111, 112, 113, 114, 115, 116, 117, 118, 119, 120, 121, 122, 123, 124, 125, 126, 127] (by decide +kernel) (by decide +kernel)
set_option maxRecDepth 20000 in
theorem gX10_gap_X10_pictures : GoodIn wsX10_gap (wsV RX10 259 RX10 yX10_pictures wsX10_pictures) := goodIn_app (goodIn_of _ (by decide +kernel)) ggX10_gap_X10_pictures
set_option maxRecDepth 20000 in
theorem ggX10_gap_X10_isLoop : GoodIn wsX10_gap wsX10_isLoop := goodIn_r _ [14, 15, 16, 17, 4, 18, 19, 20, 21, 22, 6, 7, 8, 9, 10, 2, 3, 5, 23, 24, 25, 26, 27, 28, 29, 30, 31, 32, 33, 34, 35, 36, 37, 38, 39, 40, 41, 42, 43, 44, 45, 46, 47, 48, 49, 71, 72, 73, 74, 75, 76, 77, 78, 79, 80, 81, 82, 83, 84, 85, 86, 87, 88, 89, 90, 91, 92, 93, 94, 95, 96, 97, 98, 99, 100, 101, 102, 103, 104, 105, 106, 107, 108, 109, 110, 111, 112, 113, 114, 115, 116, 117, 118, 119, 120, 121, 122, 123, 124, 125, 126, 127] (by decide +kernel) (by decide +kernel)
set_option maxRecDepth 20000 in
theorem gX10_gap_X10_isLoop : GoodIn wsX10_gap (wsV RX10 460 RX10 yX10_isLoop wsX10_isLoop) := goodIn_app (goodIn_of _ (by decide +kernel)) ggX10_gap_X10_isLoop
set_option maxRecDepth 20000 in
theorem ggX10_gap_X10_loopOf : GoodIn wsX10_gap wsX10_loopOf := goodIn_r _ [53, 54, 55, 56, 4, 57, 27, 28, 29, 30, 10, 31, 32, 33, 34, 35, 36, 37, 38, 39, 40, 41, 42, 43, 44, 45, 46, 47, 48, 49, 58, 59, 60, 61, 62, 63, 64, 65, 66, 67, 71, 72, 73, 74, 75, 76, 77, 78, 79, 80, 81, 82, 83, 84, 85, 86, 87, 88, 89, 90, 91, 92, 93, 94, 95, 96, 97, 98, 99, 100, 101, 102, 103, 104, 105, 106, 107, 108, 109, 110, 111, 112, 113, 114, 115, 116, 117, 118, 119, 120, 121, 122, 123, 124, 125, 126, 127] (by decide +kernel) (by decide +kernel)
set_option maxRecDepth 20000 in
theorem gX10_gap_X10_loopOf : GoodIn wsX10_gap (wsV RX10 463 RX10 yX10_loopOf wsX10_loopOf) := goodIn_app (goodIn_of _ (by decide +kernel)) ggX10_gap_X10_loopOf
set_option maxRecDepth 20000 in
theorem ggX10_gap_X10_apart : GoodIn wsX10_gap wsX10_apart := goodIn_r _ [70] (by decide +kernel) (by decide +kernel)
set_option maxRecDepth 20000 in
theorem gX10_gap_X10_apart : GoodIn wsX10_gap (va_wsS RX10 299 yX10_apart wsX10_apart) := goodIn_app (goodIn_of _ (by decide +kernel)) ggX10_gap_X10_apart
theorem dX10_gap_0 : decode cX10_gap 0 = .ok (.iload_n 1, 1) := by decide +kernel
theorem dX10_gap_1 : decode cX10_gap 1 = .ok (.i2l, 1) := by decide +kernel
theorem dX10_gap_2 : decode cX10_gap 2 = .ok (.lconst 0, 1) := by decide +kernel
theorem dX10_gap_3 : decode cX10_gap 3 = .ok (.lconst 1, 1) := by decide +kernel
theorem dX10_gap_4 : decode cX10_gap 4 = .ok (.invokestatic 183, 3) := by decide +kernel
theorem dX10_gap_7 : decode cX10_gap 7 = .ok (.ifCond .ne 5, 3) := by decide +kernel
theorem dX10_gap_10 : decode cX10_gap 10 = .ok (.iconst (-1), 1) := by decide +kernel
theorem dX10_gap_11 : decode cX10_gap 11 = .ok (.ireturn, 1) := by decide +kernel
theorem dX10_gap_12 : decode cX10_gap 12 = .ok (.iconst (-1), 1) := by decide +kernel
theorem dX10_gap_13 : decode cX10_gap 13 = .ok (.istore_n 2, 1) := by decide +kernel
theorem dX10_gap_14 : decode cX10_gap 14 = .ok (.ldc2_w 446, 3) := by decide +kernel
theorem dX10_gap_17 : decode cX10_gap 17 = .ok (.lstore_n 3, 1) := by decide +kernel
theorem dX10_gap_18 : decode cX10_gap 18 = .ok (.iconst 0, 1) := by decide +kernel
theorem dX10_gap_19 : decode cX10_gap 19 = .ok (.istore 5, 2) := by decide +kernel
theorem dX10_gap_21 : decode cX10_gap 21 = .ok (.iload 5, 2) := by decide +kernel
theorem dX10_gap_23 : decode cX10_gap 23 = .ok (.aload_n 0, 1) := by decide +kernel
theorem dX10_gap_24 : decode cX10_gap 24 = .ok (.invokevirtual 259, 3) := by decide +kernel
theorem dX10_gap_27 : decode cX10_gap 27 = .ok (.if_icmp .ge 131, 3) := by decide +kernel
theorem dX10_gap_30 : decode cX10_gap 30 = .ok (.iload 5, 2) := by decide +kernel
theorem dX10_gap_32 : decode cX10_gap 32 = .ok (.iconst 1, 1) := by decide +kernel
theorem dX10_gap_33 : decode cX10_gap 33 = .ok (.iadd, 1) := by decide +kernel
theorem dX10_gap_34 : decode cX10_gap 34 = .ok (.istore 6, 2) := by decide +kernel
theorem dX10_gap_36 : decode cX10_gap 36 = .ok (.iload 6, 2) := by decide +kernel
theorem dX10_gap_38 : decode cX10_gap 38 = .ok (.aload_n 0, 1) := by decide +kernel
theorem dX10_gap_39 : decode cX10_gap 39 = .ok (.invokevirtual 259, 3) := by decide +kernel
theorem dX10_gap_42 : decode cX10_gap 42 = .ok (.if_icmp .ge 110, 3) := by decide +kernel
theorem dX10_gap_45 : decode cX10_gap 45 = .ok (.iload 6, 2) := by decide +kernel
theorem dX10_gap_47 : decode cX10_gap 47 = .ok (.iconst 1, 1) := by decide +kernel
theorem dX10_gap_48 : decode cX10_gap 48 = .ok (.iadd, 1) := by decide +kernel
theorem dX10_gap_49 : decode cX10_gap 49 = .ok (.istore 7, 2) := by decide +kernel
theorem dX10_gap_51 : decode cX10_gap 51 = .ok (.iload 7, 2) := by decide +kernel
theorem dX10_gap_53 : decode cX10_gap 53 = .ok (.aload_n 0, 1) := by decide +kernel
theorem dX10_gap_54 : decode cX10_gap 54 = .ok (.invokevirtual 259, 3) := by decide +kernel
theorem dX10_gap_57 : decode cX10_gap 57 = .ok (.if_icmp .ge 89, 3) := by decide +kernel
theorem dX10_gap_60 : decode cX10_gap 60 = .ok (.aload_n 0, 1) := by decide +kernel
theorem dX10_gap_61 : decode cX10_gap 61 = .ok (.iload 5, 2) := by decide +kernel
theorem dX10_gap_63 : decode cX10_gap 63 = .ok (.iload 6, 2) := by decide +kernel
theorem dX10_gap_65 : decode cX10_gap 65 = .ok (.iload 7, 2) := by decide +kernel
theorem dX10_gap_67 : decode cX10_gap 67 = .ok (.invokevirtual 460, 3) := by decide +kernel
theorem dX10_gap_70 : decode cX10_gap 70 = .ok (.ifCond .ne 6, 3) := by decide +kernel
theorem dX10_gap_73 : decode cX10_gap 73 = .ok (.goto 67, 3) := by decide +kernel
theorem dX10_gap_76 : decode cX10_gap 76 = .ok (.aload_n 0, 1) := by decide +kernel
theorem dX10_gap_77 : decode cX10_gap 77 = .ok (.iload 5, 2) := by decide +kernel
theorem dX10_gap_79 : decode cX10_gap 79 = .ok (.iload 6, 2) := by decide +kernel
theorem dX10_gap_81 : decode cX10_gap 81 = .ok (.iload 7, 2) := by decide +kernel
theorem dX10_gap_83 : decode cX10_gap 83 = .ok (.iconst 0, 1) := by decide +kernel
theorem dX10_gap_84 : decode cX10_gap 84 = .ok (.invokevirtual 463, 3) := by decide +kernel
theorem dX10_gap_87 : decode cX10_gap 87 = .ok (.i2l, 1) := by decide +kernel
theorem dX10_gap_88 : decode cX10_gap 88 = .ok (.lconst 0, 1) := by decide +kernel
theorem dX10_gap_89 : decode cX10_gap 89 = .ok (.invokestatic 299, 3) := by decide +kernel
theorem dX10_gap_92 : decode cX10_gap 92 = .ok (.aload_n 0, 1) := by decide +kernel
theorem dX10_gap_93 : decode cX10_gap 93 = .ok (.iload 5, 2) := by decide +kernel
theorem dX10_gap_95 : decode cX10_gap 95 = .ok (.iload 6, 2) := by decide +kernel
theorem dX10_gap_97 : decode cX10_gap 97 = .ok (.iload 7, 2) := by decide +kernel
theorem dX10_gap_99 : decode cX10_gap 99 = .ok (.iconst 1, 1) := by decide +kernel
theorem dX10_gap_100 : decode cX10_gap 100 = .ok (.invokevirtual 463, 3) := by decide +kernel
theorem dX10_gap_103 : decode cX10_gap 103 = .ok (.i2l, 1) := by decide +kernel
theorem dX10_gap_104 : decode cX10_gap 104 = .ok (.lconst 0, 1) := by decide +kernel
theorem dX10_gap_105 : decode cX10_gap 105 = .ok (.invokestatic 299, 3) := by decide +kernel
theorem dX10_gap_108 : decode cX10_gap 108 = .ok (.ladd, 1) := by decide +kernel
theorem dX10_gap_109 : decode cX10_gap 109 = .ok (.lstore 8, 2) := by decide +kernel
theorem dX10_gap_111 : decode cX10_gap 111 = .ok (.lload 8, 2) := by decide +kernel
theorem dX10_gap_113 : decode cX10_gap 113 = .ok (.lload_n 3, 1) := by decide +kernel
theorem dX10_gap_114 : decode cX10_gap 114 = .ok (.lcmp, 1) := by decide +kernel
theorem dX10_gap_115 : decode cX10_gap 115 = .ok (.ifCond .gt 6, 3) := by decide +kernel
theorem dX10_gap_118 : decode cX10_gap 118 = .ok (.goto 22, 3) := by decide +kernel
theorem dX10_gap_121 : decode cX10_gap 121 = .ok (.sipush 10000, 3) := by decide +kernel
theorem dX10_gap_124 : decode cX10_gap 124 = .ok (.iload 5, 2) := by decide +kernel
theorem dX10_gap_126 : decode cX10_gap 126 = .ok (.imul, 1) := by decide +kernel
theorem dX10_gap_127 : decode cX10_gap 127 = .ok (.bipush 100, 2) := by decide +kernel
theorem dX10_gap_129 : decode cX10_gap 129 = .ok (.iload 6, 2) := by decide +kernel
theorem dX10_gap_131 : decode cX10_gap 131 = .ok (.imul, 1) := by decide +kernel
theorem dX10_gap_132 : decode cX10_gap 132 = .ok (.iadd, 1) := by decide +kernel
theorem dX10_gap_133 : decode cX10_gap 133 = .ok (.iload 7, 2) := by decide +kernel
theorem dX10_gap_135 : decode cX10_gap 135 = .ok (.iadd, 1) := by decide +kernel
theorem dX10_gap_136 : decode cX10_gap 136 = .ok (.istore_n 2, 1) := by decide +kernel
theorem dX10_gap_137 : decode cX10_gap 137 = .ok (.lload 8, 2) := by decide +kernel
theorem dX10_gap_139 : decode cX10_gap 139 = .ok (.lstore_n 3, 1) := by decide +kernel
theorem dX10_gap_140 : decode cX10_gap 140 = .ok (.iinc 7 1, 3) := by decide +kernel
theorem dX10_gap_143 : decode cX10_gap 143 = .ok (.goto (-92), 3) := by decide +kernel
theorem dX10_gap_146 : decode cX10_gap 146 = .ok (.iinc 6 1, 3) := by decide +kernel
theorem dX10_gap_149 : decode cX10_gap 149 = .ok (.goto (-113), 3) := by decide +kernel
theorem dX10_gap_152 : decode cX10_gap 152 = .ok (.iinc 5 1, 3) := by decide +kernel
theorem dX10_gap_155 : decode cX10_gap 155 = .ok (.goto (-134), 3) := by decide +kernel
theorem dX10_gap_158 : decode cX10_gap 158 = .ok (.iload_n 1, 1) := by decide +kernel
theorem dX10_gap_159 : decode cX10_gap 159 = .ok (.ifCond .ne 7, 3) := by decide +kernel
theorem dX10_gap_162 : decode cX10_gap 162 = .ok (.iload_n 2, 1) := by decide +kernel
theorem dX10_gap_163 : decode cX10_gap 163 = .ok (.goto 5, 3) := by decide +kernel
theorem dX10_gap_166 : decode cX10_gap 166 = .ok (.lload_n 3, 1) := by decide +kernel
theorem dX10_gap_167 : decode cX10_gap 167 = .ok (.l2i, 1) := by decide +kernel
theorem dX10_gap_168 : decode cX10_gap 168 = .ok (.ireturn, 1) := by decide +kernel
set_option maxRecDepth 20000 in
theorem ggX10_treeOf_X10_pictures : GoodIn wsX10_treeOf wsX10_pictures := goodIn_r _ [7, 8, 36, 37, 38, 39, 40, 41, 42, 43, 44, 45, 46, 47, 48, 49, 50, 51, 52, 53, 54, 55, 56, 57, 58, 59, 60, 61, 62, 63, 64, 65, 66, 67, 68, 69, 70, 71, 72, 73, 74, 75, 76, 77, 78, 79, 80, 81, 82, 83, 84, 85, 86, 87, 88, 89, 90, 91, 92] (by decide +kernel) (by decide +kernel)
set_option maxRecDepth 20000 in
theorem gX10_treeOf_X10_pictures : GoodIn wsX10_treeOf (wsV RX10 259 RX10 yX10_pictures wsX10_pictures) := goodIn_app (goodIn_of _ (by decide +kernel)) ggX10_treeOf_X10_pictures
set_option maxRecDepth 20000 in
theorem ggX10_treeOf_X10_tiePoints : GoodIn wsX10_treeOf wsX10_tiePoints := goodIn_r _ [12, 13, 14, 15, 6, 16, 8, 17, 18, 19, 20, 21, 22, 23, 24, 25, 26, 27, 28, 29, 30, 31, 32, 33, 34, 35, 36, 37, 38, 39, 40, 41, 42, 43, 44, 45, 46, 47, 48, 49, 50, 51, 52, 53, 54, 55, 56, 57, 58, 59, 60, 61, 62, 63, 64, 65, 66, 67, 68, 69, 70, 71, 72, 73, 74, 75, 76, 77, 78, 79, 80, 81, 82, 83, 84, 85, 86, 87, 88, 89, 90, 91, 92] (by decide +kernel) (by decide +kernel)
set_option maxRecDepth 20000 in
theorem gX10_treeOf_X10_tiePoints : GoodIn wsX10_treeOf (wsV RX10 454 RX10 yX10_tiePoints wsX10_tiePoints) := goodIn_app (goodIn_of _ (by decide +kernel)) ggX10_treeOf_X10_tiePoints
theorem dX10_treeOf_0 : decode cX10_treeOf 0 = .ok (.iconst 0, 1) := by decide +kernel
theorem dX10_treeOf_1 : decode cX10_treeOf 1 = .ok (.istore_n 1, 1) := by decide +kernel
theorem dX10_treeOf_2 : decode cX10_treeOf 2 = .ok (.iload_n 1, 1) := by decide +kernel
theorem dX10_treeOf_3 : decode cX10_treeOf 3 = .ok (.bipush 12, 2) := by decide +kernel
theorem dX10_treeOf_5 : decode cX10_treeOf 5 = .ok (.if_icmp .ge 16, 3) := by decide +kernel
theorem dX10_treeOf_8 : decode cX10_treeOf 8 = .ok (.aload_n 0, 1) := by decide +kernel
theorem dX10_treeOf_9 : decode cX10_treeOf 9 = .ok (.getfield 122, 3) := by decide +kernel
theorem dX10_treeOf_12 : decode cX10_treeOf 12 = .ok (.iload_n 1, 1) := by decide +kernel
theorem dX10_treeOf_13 : decode cX10_treeOf 13 = .ok (.iload_n 1, 1) := by decide +kernel
theorem dX10_treeOf_14 : decode cX10_treeOf 14 = .ok (.iastore, 1) := by decide +kernel
theorem dX10_treeOf_15 : decode cX10_treeOf 15 = .ok (.iinc 1 1, 3) := by decide +kernel
theorem dX10_treeOf_18 : decode cX10_treeOf 18 = .ok (.goto (-16), 3) := by decide +kernel
theorem dX10_treeOf_21 : decode cX10_treeOf 21 = .ok (.iconst 0, 1) := by decide +kernel
theorem dX10_treeOf_22 : decode cX10_treeOf 22 = .ok (.istore_n 1, 1) := by decide +kernel
theorem dX10_treeOf_23 : decode cX10_treeOf 23 = .ok (.iconst 1, 1) := by decide +kernel
theorem dX10_treeOf_24 : decode cX10_treeOf 24 = .ok (.istore_n 2, 1) := by decide +kernel
theorem dX10_treeOf_25 : decode cX10_treeOf 25 = .ok (.iload_n 2, 1) := by decide +kernel
theorem dX10_treeOf_26 : decode cX10_treeOf 26 = .ok (.ifCond .eq 195, 3) := by decide +kernel
theorem dX10_treeOf_29 : decode cX10_treeOf 29 = .ok (.iconst (-1), 1) := by decide +kernel
theorem dX10_treeOf_30 : decode cX10_treeOf 30 = .ok (.istore_n 3, 1) := by decide +kernel
theorem dX10_treeOf_31 : decode cX10_treeOf 31 = .ok (.iconst (-1), 1) := by decide +kernel
theorem dX10_treeOf_32 : decode cX10_treeOf 32 = .ok (.istore 4, 2) := by decide +kernel
theorem dX10_treeOf_34 : decode cX10_treeOf 34 = .ok (.iconst 0, 1) := by decide +kernel
theorem dX10_treeOf_35 : decode cX10_treeOf 35 = .ok (.istore 5, 2) := by decide +kernel
theorem dX10_treeOf_37 : decode cX10_treeOf 37 = .ok (.iload 5, 2) := by decide +kernel
theorem dX10_treeOf_39 : decode cX10_treeOf 39 = .ok (.aload_n 0, 1) := by decide +kernel
theorem dX10_treeOf_40 : decode cX10_treeOf 40 = .ok (.invokevirtual 259, 3) := by decide +kernel
theorem dX10_treeOf_43 : decode cX10_treeOf 43 = .ok (.if_icmp .ge 91, 3) := by decide +kernel
theorem dX10_treeOf_46 : decode cX10_treeOf 46 = .ok (.iload 5, 2) := by decide +kernel
theorem dX10_treeOf_48 : decode cX10_treeOf 48 = .ok (.iconst 1, 1) := by decide +kernel
theorem dX10_treeOf_49 : decode cX10_treeOf 49 = .ok (.iadd, 1) := by decide +kernel
theorem dX10_treeOf_50 : decode cX10_treeOf 50 = .ok (.istore 6, 2) := by decide +kernel
theorem dX10_treeOf_52 : decode cX10_treeOf 52 = .ok (.iload 6, 2) := by decide +kernel
theorem dX10_treeOf_54 : decode cX10_treeOf 54 = .ok (.aload_n 0, 1) := by decide +kernel
theorem dX10_treeOf_55 : decode cX10_treeOf 55 = .ok (.invokevirtual 259, 3) := by decide +kernel
theorem dX10_treeOf_58 : decode cX10_treeOf 58 = .ok (.if_icmp .ge 70, 3) := by decide +kernel
theorem dX10_treeOf_61 : decode cX10_treeOf 61 = .ok (.aload_n 0, 1) := by decide +kernel
theorem dX10_treeOf_62 : decode cX10_treeOf 62 = .ok (.getfield 122, 3) := by decide +kernel
theorem dX10_treeOf_65 : decode cX10_treeOf 65 = .ok (.iload 5, 2) := by decide +kernel
theorem dX10_treeOf_67 : decode cX10_treeOf 67 = .ok (.iaload, 1) := by decide +kernel
theorem dX10_treeOf_68 : decode cX10_treeOf 68 = .ok (.aload_n 0, 1) := by decide +kernel
theorem dX10_treeOf_69 : decode cX10_treeOf 69 = .ok (.getfield 122, 3) := by decide +kernel
theorem dX10_treeOf_72 : decode cX10_treeOf 72 = .ok (.iload 6, 2) := by decide +kernel
theorem dX10_treeOf_74 : decode cX10_treeOf 74 = .ok (.iaload, 1) := by decide +kernel
theorem dX10_treeOf_75 : decode cX10_treeOf 75 = .ok (.if_icmp .eq 47, 3) := by decide +kernel
theorem dX10_treeOf_78 : decode cX10_treeOf 78 = .ok (.aload_n 0, 1) := by decide +kernel
theorem dX10_treeOf_79 : decode cX10_treeOf 79 = .ok (.iload 5, 2) := by decide +kernel
theorem dX10_treeOf_81 : decode cX10_treeOf 81 = .ok (.iload 6, 2) := by decide +kernel
theorem dX10_treeOf_83 : decode cX10_treeOf 83 = .ok (.invokevirtual 454, 3) := by decide +kernel
theorem dX10_treeOf_86 : decode cX10_treeOf 86 = .ok (.ifCond .eq 36, 3) := by decide +kernel
theorem dX10_treeOf_89 : decode cX10_treeOf 89 = .ok (.iload_n 3, 1) := by decide +kernel
theorem dX10_treeOf_90 : decode cX10_treeOf 90 = .ok (.iconst (-1), 1) := by decide +kernel
theorem dX10_treeOf_91 : decode cX10_treeOf 91 = .ok (.if_icmp .eq 24, 3) := by decide +kernel
theorem dX10_treeOf_94 : decode cX10_treeOf 94 = .ok (.aload_n 0, 1) := by decide +kernel
theorem dX10_treeOf_95 : decode cX10_treeOf 95 = .ok (.iload 5, 2) := by decide +kernel
theorem dX10_treeOf_97 : decode cX10_treeOf 97 = .ok (.iload 6, 2) := by decide +kernel
theorem dX10_treeOf_99 : decode cX10_treeOf 99 = .ok (.invokevirtual 454, 3) := by decide +kernel
theorem dX10_treeOf_102 : decode cX10_treeOf 102 = .ok (.aload_n 0, 1) := by decide +kernel
theorem dX10_treeOf_103 : decode cX10_treeOf 103 = .ok (.iload_n 3, 1) := by decide +kernel
theorem dX10_treeOf_104 : decode cX10_treeOf 104 = .ok (.iload 4, 2) := by decide +kernel
theorem dX10_treeOf_106 : decode cX10_treeOf 106 = .ok (.invokevirtual 454, 3) := by decide +kernel
theorem dX10_treeOf_109 : decode cX10_treeOf 109 = .ok (.if_icmp .gt 6, 3) := by decide +kernel
theorem dX10_treeOf_112 : decode cX10_treeOf 112 = .ok (.goto 10, 3) := by decide +kernel
theorem dX10_treeOf_115 : decode cX10_treeOf 115 = .ok (.iload 5, 2) := by decide +kernel
theorem dX10_treeOf_117 : decode cX10_treeOf 117 = .ok (.istore_n 3, 1) := by decide +kernel
theorem dX10_treeOf_118 : decode cX10_treeOf 118 = .ok (.iload 6, 2) := by decide +kernel
theorem dX10_treeOf_120 : decode cX10_treeOf 120 = .ok (.istore 4, 2) := by decide +kernel
theorem dX10_treeOf_122 : decode cX10_treeOf 122 = .ok (.iinc 6 1, 3) := by decide +kernel
theorem dX10_treeOf_125 : decode cX10_treeOf 125 = .ok (.goto (-73), 3) := by decide +kernel
theorem dX10_treeOf_128 : decode cX10_treeOf 128 = .ok (.iinc 5 1, 3) := by decide +kernel
theorem dX10_treeOf_131 : decode cX10_treeOf 131 = .ok (.goto (-94), 3) := by decide +kernel
theorem dX10_treeOf_134 : decode cX10_treeOf 134 = .ok (.iload_n 3, 1) := by decide +kernel
theorem dX10_treeOf_135 : decode cX10_treeOf 135 = .ok (.iconst (-1), 1) := by decide +kernel
theorem dX10_treeOf_136 : decode cX10_treeOf 136 = .ok (.if_icmp .eq 7, 3) := by decide +kernel
theorem dX10_treeOf_139 : decode cX10_treeOf 139 = .ok (.iconst 1, 1) := by decide +kernel
theorem dX10_treeOf_140 : decode cX10_treeOf 140 = .ok (.goto 4, 3) := by decide +kernel
theorem dX10_treeOf_143 : decode cX10_treeOf 143 = .ok (.iconst 0, 1) := by decide +kernel
theorem dX10_treeOf_144 : decode cX10_treeOf 144 = .ok (.istore_n 2, 1) := by decide +kernel
theorem dX10_treeOf_145 : decode cX10_treeOf 145 = .ok (.iload_n 2, 1) := by decide +kernel
theorem dX10_treeOf_146 : decode cX10_treeOf 146 = .ok (.ifCond .ne 6, 3) := by decide +kernel
theorem dX10_treeOf_149 : decode cX10_treeOf 149 = .ok (.goto (-124), 3) := by decide +kernel
theorem dX10_treeOf_152 : decode cX10_treeOf 152 = .ok (.aload_n 0, 1) := by decide +kernel
theorem dX10_treeOf_153 : decode cX10_treeOf 153 = .ok (.getfield 119, 3) := by decide +kernel
theorem dX10_treeOf_156 : decode cX10_treeOf 156 = .ok (.iload_n 1, 1) := by decide +kernel
theorem dX10_treeOf_157 : decode cX10_treeOf 157 = .ok (.bipush 100, 2) := by decide +kernel
theorem dX10_treeOf_159 : decode cX10_treeOf 159 = .ok (.iload_n 3, 1) := by decide +kernel
theorem dX10_treeOf_160 : decode cX10_treeOf 160 = .ok (.imul, 1) := by decide +kernel
theorem dX10_treeOf_161 : decode cX10_treeOf 161 = .ok (.iload 4, 2) := by decide +kernel
theorem dX10_treeOf_163 : decode cX10_treeOf 163 = .ok (.iadd, 1) := by decide +kernel
theorem dX10_treeOf_164 : decode cX10_treeOf 164 = .ok (.iastore, 1) := by decide +kernel
theorem dX10_treeOf_165 : decode cX10_treeOf 165 = .ok (.iinc 1 1, 3) := by decide +kernel
theorem dX10_treeOf_168 : decode cX10_treeOf 168 = .ok (.aload_n 0, 1) := by decide +kernel
theorem dX10_treeOf_169 : decode cX10_treeOf 169 = .ok (.getfield 122, 3) := by decide +kernel
theorem dX10_treeOf_172 : decode cX10_treeOf 172 = .ok (.iload 4, 2) := by decide +kernel
theorem dX10_treeOf_174 : decode cX10_treeOf 174 = .ok (.iaload, 1) := by decide +kernel
theorem dX10_treeOf_175 : decode cX10_treeOf 175 = .ok (.istore 5, 2) := by decide +kernel
theorem dX10_treeOf_177 : decode cX10_treeOf 177 = .ok (.iconst 0, 1) := by decide +kernel
theorem dX10_treeOf_178 : decode cX10_treeOf 178 = .ok (.istore 6, 2) := by decide +kernel
theorem dX10_treeOf_180 : decode cX10_treeOf 180 = .ok (.iload 6, 2) := by decide +kernel
theorem dX10_treeOf_182 : decode cX10_treeOf 182 = .ok (.bipush 12, 2) := by decide +kernel
theorem dX10_treeOf_184 : decode cX10_treeOf 184 = .ok (.if_icmp .ge 34, 3) := by decide +kernel
theorem dX10_treeOf_187 : decode cX10_treeOf 187 = .ok (.aload_n 0, 1) := by decide +kernel
theorem dX10_treeOf_188 : decode cX10_treeOf 188 = .ok (.getfield 122, 3) := by decide +kernel
theorem dX10_treeOf_191 : decode cX10_treeOf 191 = .ok (.iload 6, 2) := by decide +kernel
theorem dX10_treeOf_193 : decode cX10_treeOf 193 = .ok (.iaload, 1) := by decide +kernel
theorem dX10_treeOf_194 : decode cX10_treeOf 194 = .ok (.iload 5, 2) := by decide +kernel
theorem dX10_treeOf_196 : decode cX10_treeOf 196 = .ok (.if_icmp .ne 16, 3) := by decide +kernel
theorem dX10_treeOf_199 : decode cX10_treeOf 199 = .ok (.aload_n 0, 1) := by decide +kernel
theorem dX10_treeOf_200 : decode cX10_treeOf 200 = .ok (.getfield 122, 3) := by decide +kernel
theorem dX10_treeOf_203 : decode cX10_treeOf 203 = .ok (.iload 6, 2) := by decide +kernel
theorem dX10_treeOf_205 : decode cX10_treeOf 205 = .ok (.aload_n 0, 1) := by decide +kernel
theorem dX10_treeOf_206 : decode cX10_treeOf 206 = .ok (.getfield 122, 3) := by decide +kernel
theorem dX10_treeOf_209 : decode cX10_treeOf 209 = .ok (.iload_n 3, 1) := by decide +kernel
theorem dX10_treeOf_210 : decode cX10_treeOf 210 = .ok (.iaload, 1) := by decide +kernel
theorem dX10_treeOf_211 : decode cX10_treeOf 211 = .ok (.iastore, 1) := by decide +kernel
theorem dX10_treeOf_212 : decode cX10_treeOf 212 = .ok (.iinc 6 1, 3) := by decide +kernel
theorem dX10_treeOf_215 : decode cX10_treeOf 215 = .ok (.goto (-35), 3) := by decide +kernel
theorem dX10_treeOf_218 : decode cX10_treeOf 218 = .ok (.goto (-193), 3) := by decide +kernel
theorem dX10_treeOf_221 : decode cX10_treeOf 221 = .ok (.iload_n 1, 1) := by decide +kernel
theorem dX10_treeOf_222 : decode cX10_treeOf 222 = .ok (.ireturn, 1) := by decide +kernel
set_option maxRecDepth 20000 in
theorem ggX10_tree_X10_treeOf : GoodIn wsX10_tree wsX10_treeOf := goodIn_r _ [6, 7, 1, 8, 9, 10, 5, 11, 12, 13, 14, 15, 16, 17, 18, 19, 20, 21, 22, 23, 24, 25, 26, 27, 28, 29, 30, 31, 32, 33, 34, 35, 36, 37, 38, 39, 43, 44, 45, 46, 47, 48, 49, 50, 51, 52, 53, 54, 55, 56, 57, 58, 59, 60, 61, 62, 63, 64, 65, 66, 67, 68, 69, 70, 71, 72, 73, 74, 75, 76, 77, 78, 79, 80, 81, 82, 83, 84, 85, 86, 87, 88, 89, 90, 91, 92, 93, 94, 95, 96, 97, 98, 99] (by decide +kernel) (by decide +kernel)
set_option maxRecDepth 20000 in
theorem gX10_tree_X10_treeOf : GoodIn wsX10_tree (wsV RX10 467 RX10 yX10_treeOf wsX10_treeOf) := goodIn_app (goodIn_of _ (by decide +kernel)) ggX10_tree_X10_treeOf
set_option maxRecDepth 20000 in
theorem ggX10_tree_X10_isIn : GoodIn wsX10_tree wsX10_isIn := goodIn_r _ [42] (by decide +kernel) (by decide +kernel)
set_option maxRecDepth 20000 in
theorem gX10_tree_X10_isIn : GoodIn wsX10_tree (va_wsS RX10 183 yX10_isIn wsX10_isIn) := goodIn_app (goodIn_of _ (by decide +kernel)) ggX10_tree_X10_isIn
theorem dX10_tree_0 : decode cX10_tree 0 = .ok (.aload_n 0, 1) := by decide +kernel
theorem dX10_tree_1 : decode cX10_tree 1 = .ok (.invokevirtual 467, 3) := by decide +kernel
theorem dX10_tree_4 : decode cX10_tree 4 = .ok (.istore_n 2, 1) := by decide +kernel
theorem dX10_tree_5 : decode cX10_tree 5 = .ok (.iload_n 1, 1) := by decide +kernel
theorem dX10_tree_6 : decode cX10_tree 6 = .ok (.iconst (-1), 1) := by decide +kernel
theorem dX10_tree_7 : decode cX10_tree 7 = .ok (.if_icmp .ne 7, 3) := by decide +kernel
theorem dX10_tree_10 : decode cX10_tree 10 = .ok (.iload_n 2, 1) := by decide +kernel
theorem dX10_tree_11 : decode cX10_tree 11 = .ok (.goto 26, 3) := by decide +kernel
theorem dX10_tree_14 : decode cX10_tree 14 = .ok (.iload_n 1, 1) := by decide +kernel
theorem dX10_tree_15 : decode cX10_tree 15 = .ok (.i2l, 1) := by decide +kernel
theorem dX10_tree_16 : decode cX10_tree 16 = .ok (.lconst 0, 1) := by decide +kernel
theorem dX10_tree_17 : decode cX10_tree 17 = .ok (.iload_n 2, 1) := by decide +kernel
theorem dX10_tree_18 : decode cX10_tree 18 = .ok (.iconst 1, 1) := by decide +kernel
theorem dX10_tree_19 : decode cX10_tree 19 = .ok (.isub, 1) := by decide +kernel
theorem dX10_tree_20 : decode cX10_tree 20 = .ok (.i2l, 1) := by decide +kernel
theorem dX10_tree_21 : decode cX10_tree 21 = .ok (.invokestatic 183, 3) := by decide +kernel
theorem dX10_tree_24 : decode cX10_tree 24 = .ok (.ifCond .eq 12, 3) := by decide +kernel
theorem dX10_tree_27 : decode cX10_tree 27 = .ok (.aload_n 0, 1) := by decide +kernel
theorem dX10_tree_28 : decode cX10_tree 28 = .ok (.getfield 119, 3) := by decide +kernel
theorem dX10_tree_31 : decode cX10_tree 31 = .ok (.iload_n 1, 1) := by decide +kernel
theorem dX10_tree_32 : decode cX10_tree 32 = .ok (.iaload, 1) := by decide +kernel
theorem dX10_tree_33 : decode cX10_tree 33 = .ok (.goto 4, 3) := by decide +kernel
theorem dX10_tree_36 : decode cX10_tree 36 = .ok (.iconst (-1), 1) := by decide +kernel
theorem dX10_tree_37 : decode cX10_tree 37 = .ok (.ireturn, 1) := by decide +kernel
set_option maxRecDepth 20000 in
theorem ggX10_plan_X10_isIn : GoodIn wsX10_plan wsX10_isIn := goodIn_r _ [7] (by decide +kernel) (by decide +kernel)
set_option maxRecDepth 20000 in
theorem gX10_plan_X10_isIn : GoodIn wsX10_plan (va_wsS RX10 183 yX10_isIn wsX10_isIn) := goodIn_app (goodIn_of _ (by decide +kernel)) ggX10_plan_X10_isIn
set_option maxRecDepth 20000 in
theorem ggX10_plan_X10_treeOf : GoodIn wsX10_plan wsX10_treeOf := goodIn_r _ [11, 12, 3, 13, 14, 15, 6, 16, 17, 18, 19, 20, 21, 22, 23, 24, 25, 26, 27, 28, 29, 30, 31, 32, 33, 34, 35, 36, 37, 38, 39, 40, 41, 42, 43, 44, 45, 46, 47, 48, 49, 50, 51, 52, 53, 54, 55, 56, 57, 58, 59, 60, 61, 62, 63, 64, 65, 66, 67, 68, 69, 70, 71, 72, 73, 74, 75, 76, 77, 78, 79, 80, 81, 82, 83, 84, 85, 86, 87, 88, 89, 90, 91, 92, 93, 94, 95, 96, 97, 98, 99, 100, 101] (by decide +kernel) (by decide +kernel)
set_option maxRecDepth 20000 in
theorem gX10_plan_X10_treeOf : GoodIn wsX10_plan (wsV RX10 467 RX10 yX10_treeOf wsX10_treeOf) := goodIn_app (goodIn_of _ (by decide +kernel)) ggX10_plan_X10_treeOf
set_option maxRecDepth 20000 in
theorem ggX10_plan_X10_points : GoodIn wsX10_plan wsX10_points := goodIn_r _ [25, 17, 45, 46, 47, 48, 49, 50, 51, 52, 53, 54, 55, 56, 57, 58, 59, 60, 61, 62, 63, 64, 65, 66, 67, 68, 69, 70, 71, 72, 73, 74, 75, 76, 77, 78, 79, 80, 81, 82, 83, 84, 85, 86, 87, 88, 89, 90, 91, 92, 93, 94, 95, 96, 97, 98, 99, 100, 101] (by decide +kernel) (by decide +kernel)
set_option maxRecDepth 20000 in
theorem gX10_plan_X10_points : GoodIn wsX10_plan (wsV RX10 262 RX10 yX10_points wsX10_points) := goodIn_app (goodIn_of _ (by decide +kernel)) ggX10_plan_X10_points
set_option maxRecDepth 20000 in
theorem ggX10_plan_X10_rowOf : GoodIn wsX10_plan wsX10_rowOf := goodIn_r _ [29, 30, 31, 32, 33, 6, 34, 17, 35, 36, 37, 38, 39, 40, 41, 42, 43, 44, 45, 46, 47, 48, 49, 50, 51, 52, 53, 54, 55, 56, 57, 58, 59, 60, 61, 62, 63, 64, 65, 66, 67, 68, 69, 70, 71, 72, 73, 74, 75, 76, 77, 78, 79, 80, 81, 82, 83, 84, 85, 86, 87, 88, 89, 90, 91, 92, 93, 94, 95, 96, 97, 98, 99, 100, 101] (by decide +kernel) (by decide +kernel)
set_option maxRecDepth 20000 in
theorem gX10_plan_X10_rowOf : GoodIn wsX10_plan (wsV RX10 290 RX10 yX10_rowOf wsX10_rowOf) := goodIn_app (goodIn_of _ (by decide +kernel)) ggX10_plan_X10_rowOf
theorem dX10_plan_0 : decode cX10_plan 0 = .ok (.iload_n 1, 1) := by decide +kernel
theorem dX10_plan_1 : decode cX10_plan 1 = .ok (.i2l, 1) := by decide +kernel
theorem dX10_plan_2 : decode cX10_plan 2 = .ok (.lconst 1, 1) := by decide +kernel
theorem dX10_plan_3 : decode cX10_plan 3 = .ok (.ldc2_w 470, 3) := by decide +kernel
theorem dX10_plan_6 : decode cX10_plan 6 = .ok (.invokestatic 183, 3) := by decide +kernel
theorem dX10_plan_9 : decode cX10_plan 9 = .ok (.ifCond .ne 5, 3) := by decide +kernel
theorem dX10_plan_12 : decode cX10_plan 12 = .ok (.iconst (-1), 1) := by decide +kernel
theorem dX10_plan_13 : decode cX10_plan 13 = .ok (.ireturn, 1) := by decide +kernel
theorem dX10_plan_14 : decode cX10_plan 14 = .ok (.iconst 0, 1) := by decide +kernel
theorem dX10_plan_15 : decode cX10_plan 15 = .ok (.istore_n 2, 1) := by decide +kernel
theorem dX10_plan_16 : decode cX10_plan 16 = .ok (.iload_n 2, 1) := by decide +kernel
theorem dX10_plan_17 : decode cX10_plan 17 = .ok (.bipush 60, 2) := by decide +kernel
theorem dX10_plan_19 : decode cX10_plan 19 = .ok (.if_icmp .ge 16, 3) := by decide +kernel
theorem dX10_plan_22 : decode cX10_plan 22 = .ok (.aload_n 0, 1) := by decide +kernel
theorem dX10_plan_23 : decode cX10_plan 23 = .ok (.getfield 125, 3) := by decide +kernel
theorem dX10_plan_26 : decode cX10_plan 26 = .ok (.iload_n 2, 1) := by decide +kernel
theorem dX10_plan_27 : decode cX10_plan 27 = .ok (.iconst 0, 1) := by decide +kernel
theorem dX10_plan_28 : decode cX10_plan 28 = .ok (.bastore, 1) := by decide +kernel
theorem dX10_plan_29 : decode cX10_plan 29 = .ok (.iinc 2 1, 3) := by decide +kernel
theorem dX10_plan_32 : decode cX10_plan 32 = .ok (.goto (-16), 3) := by decide +kernel
theorem dX10_plan_35 : decode cX10_plan 35 = .ok (.aload_n 0, 1) := by decide +kernel
theorem dX10_plan_36 : decode cX10_plan 36 = .ok (.invokevirtual 467, 3) := by decide +kernel
theorem dX10_plan_39 : decode cX10_plan 39 = .ok (.istore_n 2, 1) := by decide +kernel
theorem dX10_plan_40 : decode cX10_plan 40 = .ok (.iconst 0, 1) := by decide +kernel
theorem dX10_plan_41 : decode cX10_plan 41 = .ok (.istore_n 3, 1) := by decide +kernel
theorem dX10_plan_42 : decode cX10_plan 42 = .ok (.iload_n 3, 1) := by decide +kernel
theorem dX10_plan_43 : decode cX10_plan 43 = .ok (.iload_n 2, 1) := by decide +kernel
theorem dX10_plan_44 : decode cX10_plan 44 = .ok (.if_icmp .ge 104, 3) := by decide +kernel
theorem dX10_plan_47 : decode cX10_plan 47 = .ok (.iconst 0, 1) := by decide +kernel
theorem dX10_plan_48 : decode cX10_plan 48 = .ok (.istore 4, 2) := by decide +kernel
theorem dX10_plan_50 : decode cX10_plan 50 = .ok (.iconst 0, 1) := by decide +kernel
theorem dX10_plan_51 : decode cX10_plan 51 = .ok (.istore 5, 2) := by decide +kernel
theorem dX10_plan_53 : decode cX10_plan 53 = .ok (.iload 5, 2) := by decide +kernel
theorem dX10_plan_55 : decode cX10_plan 55 = .ok (.aload_n 0, 1) := by decide +kernel
theorem dX10_plan_56 : decode cX10_plan 56 = .ok (.invokevirtual 262, 3) := by decide +kernel
theorem dX10_plan_59 : decode cX10_plan 59 = .ok (.if_icmp .ge 83, 3) := by decide +kernel
theorem dX10_plan_62 : decode cX10_plan 62 = .ok (.iload 4, 2) := by decide +kernel
theorem dX10_plan_64 : decode cX10_plan 64 = .ok (.iload_n 1, 1) := by decide +kernel
theorem dX10_plan_65 : decode cX10_plan 65 = .ok (.if_icmp .ge 77, 3) := by decide +kernel
theorem dX10_plan_68 : decode cX10_plan 68 = .ok (.aload_n 0, 1) := by decide +kernel
theorem dX10_plan_69 : decode cX10_plan 69 = .ok (.aload_n 0, 1) := by decide +kernel
theorem dX10_plan_70 : decode cX10_plan 70 = .ok (.getfield 119, 3) := by decide +kernel
theorem dX10_plan_73 : decode cX10_plan 73 = .ok (.iload_n 3, 1) := by decide +kernel
theorem dX10_plan_74 : decode cX10_plan 74 = .ok (.iaload, 1) := by decide +kernel
theorem dX10_plan_75 : decode cX10_plan 75 = .ok (.bipush 100, 2) := by decide +kernel
theorem dX10_plan_77 : decode cX10_plan 77 = .ok (.idiv, 1) := by decide +kernel
theorem dX10_plan_78 : decode cX10_plan 78 = .ok (.iload 5, 2) := by decide +kernel
theorem dX10_plan_80 : decode cX10_plan 80 = .ok (.invokevirtual 290, 3) := by decide +kernel
theorem dX10_plan_83 : decode cX10_plan 83 = .ok (.istore 6, 2) := by decide +kernel
theorem dX10_plan_85 : decode cX10_plan 85 = .ok (.aload_n 0, 1) := by decide +kernel
theorem dX10_plan_86 : decode cX10_plan 86 = .ok (.aload_n 0, 1) := by decide +kernel
theorem dX10_plan_87 : decode cX10_plan 87 = .ok (.getfield 119, 3) := by decide +kernel
theorem dX10_plan_90 : decode cX10_plan 90 = .ok (.iload_n 3, 1) := by decide +kernel
theorem dX10_plan_91 : decode cX10_plan 91 = .ok (.iaload, 1) := by decide +kernel
theorem dX10_plan_92 : decode cX10_plan 92 = .ok (.bipush 100, 2) := by decide +kernel
theorem dX10_plan_94 : decode cX10_plan 94 = .ok (.irem, 1) := by decide +kernel
theorem dX10_plan_95 : decode cX10_plan 95 = .ok (.iload 5, 2) := by decide +kernel
theorem dX10_plan_97 : decode cX10_plan 97 = .ok (.invokevirtual 290, 3) := by decide +kernel
theorem dX10_plan_100 : decode cX10_plan 100 = .ok (.istore 7, 2) := by decide +kernel
theorem dX10_plan_102 : decode cX10_plan 102 = .ok (.iload 6, 2) := by decide +kernel
theorem dX10_plan_104 : decode cX10_plan 104 = .ok (.iconst (-1), 1) := by decide +kernel
theorem dX10_plan_105 : decode cX10_plan 105 = .ok (.if_icmp .eq 31, 3) := by decide +kernel
theorem dX10_plan_108 : decode cX10_plan 108 = .ok (.iload 7, 2) := by decide +kernel
theorem dX10_plan_110 : decode cX10_plan 110 = .ok (.iconst (-1), 1) := by decide +kernel
theorem dX10_plan_111 : decode cX10_plan 111 = .ok (.if_icmp .ne 6, 3) := by decide +kernel
theorem dX10_plan_114 : decode cX10_plan 114 = .ok (.goto 22, 3) := by decide +kernel
theorem dX10_plan_117 : decode cX10_plan 117 = .ok (.aload_n 0, 1) := by decide +kernel
theorem dX10_plan_118 : decode cX10_plan 118 = .ok (.getfield 125, 3) := by decide +kernel
theorem dX10_plan_121 : decode cX10_plan 121 = .ok (.iload 6, 2) := by decide +kernel
theorem dX10_plan_123 : decode cX10_plan 123 = .ok (.iconst 1, 1) := by decide +kernel
theorem dX10_plan_124 : decode cX10_plan 124 = .ok (.bastore, 1) := by decide +kernel
theorem dX10_plan_125 : decode cX10_plan 125 = .ok (.aload_n 0, 1) := by decide +kernel
theorem dX10_plan_126 : decode cX10_plan 126 = .ok (.getfield 125, 3) := by decide +kernel
theorem dX10_plan_129 : decode cX10_plan 129 = .ok (.iload 7, 2) := by decide +kernel
theorem dX10_plan_131 : decode cX10_plan 131 = .ok (.iconst 1, 1) := by decide +kernel
theorem dX10_plan_132 : decode cX10_plan 132 = .ok (.bastore, 1) := by decide +kernel
theorem dX10_plan_133 : decode cX10_plan 133 = .ok (.iinc 4 1, 3) := by decide +kernel
theorem dX10_plan_136 : decode cX10_plan 136 = .ok (.iinc 5 1, 3) := by decide +kernel
theorem dX10_plan_139 : decode cX10_plan 139 = .ok (.goto (-86), 3) := by decide +kernel
theorem dX10_plan_142 : decode cX10_plan 142 = .ok (.iinc 3 1, 3) := by decide +kernel
theorem dX10_plan_145 : decode cX10_plan 145 = .ok (.goto (-103), 3) := by decide +kernel
theorem dX10_plan_148 : decode cX10_plan 148 = .ok (.iconst 0, 1) := by decide +kernel
theorem dX10_plan_149 : decode cX10_plan 149 = .ok (.istore_n 3, 1) := by decide +kernel
theorem dX10_plan_150 : decode cX10_plan 150 = .ok (.iconst 0, 1) := by decide +kernel
theorem dX10_plan_151 : decode cX10_plan 151 = .ok (.istore 4, 2) := by decide +kernel
theorem dX10_plan_153 : decode cX10_plan 153 = .ok (.iload 4, 2) := by decide +kernel
theorem dX10_plan_155 : decode cX10_plan 155 = .ok (.bipush 60, 2) := by decide +kernel
theorem dX10_plan_157 : decode cX10_plan 157 = .ok (.if_icmp .ge 22, 3) := by decide +kernel
theorem dX10_plan_160 : decode cX10_plan 160 = .ok (.aload_n 0, 1) := by decide +kernel
theorem dX10_plan_161 : decode cX10_plan 161 = .ok (.getfield 125, 3) := by decide +kernel
theorem dX10_plan_164 : decode cX10_plan 164 = .ok (.iload 4, 2) := by decide +kernel
theorem dX10_plan_166 : decode cX10_plan 166 = .ok (.baload, 1) := by decide +kernel
theorem dX10_plan_167 : decode cX10_plan 167 = .ok (.ifCond .eq 6, 3) := by decide +kernel
theorem dX10_plan_170 : decode cX10_plan 170 = .ok (.iinc 3 1, 3) := by decide +kernel
theorem dX10_plan_173 : decode cX10_plan 173 = .ok (.iinc 4 1, 3) := by decide +kernel
theorem dX10_plan_176 : decode cX10_plan 176 = .ok (.goto (-23), 3) := by decide +kernel
theorem dX10_plan_179 : decode cX10_plan 179 = .ok (.iload_n 3, 1) := by decide +kernel
theorem dX10_plan_180 : decode cX10_plan 180 = .ok (.ireturn, 1) := by decide +kernel
theorem dX10_putsAside_0 : decode cX10_putsAside 0 = .ok (.iconst 0, 1) := by decide +kernel
theorem dX10_putsAside_1 : decode cX10_putsAside 1 = .ok (.istore_n 1, 1) := by decide +kernel
theorem dX10_putsAside_2 : decode cX10_putsAside 2 = .ok (.iload_n 1, 1) := by decide +kernel
theorem dX10_putsAside_3 : decode cX10_putsAside 3 = .ok (.bipush 76, 2) := by decide +kernel
theorem dX10_putsAside_5 : decode cX10_putsAside 5 = .ok (.if_icmp .ge 21, 3) := by decide +kernel
theorem dX10_putsAside_8 : decode cX10_putsAside 8 = .ok (.aload_n 0, 1) := by decide +kernel
theorem dX10_putsAside_9 : decode cX10_putsAside 9 = .ok (.getfield 128, 3) := by decide +kernel
theorem dX10_putsAside_12 : decode cX10_putsAside 12 = .ok (.iload_n 1, 1) := by decide +kernel
theorem dX10_putsAside_13 : decode cX10_putsAside 13 = .ok (.aload_n 0, 1) := by decide +kernel
theorem dX10_putsAside_14 : decode cX10_putsAside 14 = .ok (.getfield 101, 3) := by decide +kernel
theorem dX10_putsAside_17 : decode cX10_putsAside 17 = .ok (.iload_n 1, 1) := by decide +kernel
theorem dX10_putsAside_18 : decode cX10_putsAside 18 = .ok (.iaload, 1) := by decide +kernel
theorem dX10_putsAside_19 : decode cX10_putsAside 19 = .ok (.iastore, 1) := by decide +kernel
theorem dX10_putsAside_20 : decode cX10_putsAside 20 = .ok (.iinc 1 1, 3) := by decide +kernel
theorem dX10_putsAside_23 : decode cX10_putsAside 23 = .ok (.goto (-21), 3) := by decide +kernel
theorem dX10_putsAside_26 : decode cX10_putsAside 26 = .ok (.iconst 0, 1) := by decide +kernel
theorem dX10_putsAside_27 : decode cX10_putsAside 27 = .ok (.istore_n 1, 1) := by decide +kernel
theorem dX10_putsAside_28 : decode cX10_putsAside 28 = .ok (.iload_n 1, 1) := by decide +kernel
theorem dX10_putsAside_29 : decode cX10_putsAside 29 = .ok (.bipush 12, 2) := by decide +kernel
theorem dX10_putsAside_31 : decode cX10_putsAside 31 = .ok (.if_icmp .ge 21, 3) := by decide +kernel
theorem dX10_putsAside_34 : decode cX10_putsAside 34 = .ok (.aload_n 0, 1) := by decide +kernel
theorem dX10_putsAside_35 : decode cX10_putsAside 35 = .ok (.getfield 131, 3) := by decide +kernel
theorem dX10_putsAside_38 : decode cX10_putsAside 38 = .ok (.iload_n 1, 1) := by decide +kernel
theorem dX10_putsAside_39 : decode cX10_putsAside 39 = .ok (.aload_n 0, 1) := by decide +kernel
theorem dX10_putsAside_40 : decode cX10_putsAside 40 = .ok (.getfield 98, 3) := by decide +kernel
theorem dX10_putsAside_43 : decode cX10_putsAside 43 = .ok (.iload_n 1, 1) := by decide +kernel
theorem dX10_putsAside_44 : decode cX10_putsAside 44 = .ok (.iaload, 1) := by decide +kernel
theorem dX10_putsAside_45 : decode cX10_putsAside 45 = .ok (.iastore, 1) := by decide +kernel
theorem dX10_putsAside_46 : decode cX10_putsAside 46 = .ok (.iinc 1 1, 3) := by decide +kernel
theorem dX10_putsAside_49 : decode cX10_putsAside 49 = .ok (.goto (-21), 3) := by decide +kernel
theorem dX10_putsAside_52 : decode cX10_putsAside 52 = .ok (.aload_n 0, 1) := by decide +kernel
theorem dX10_putsAside_53 : decode cX10_putsAside 53 = .ok (.aload_n 0, 1) := by decide +kernel
theorem dX10_putsAside_54 : decode cX10_putsAside 54 = .ok (.getfield 95, 3) := by decide +kernel
theorem dX10_putsAside_57 : decode cX10_putsAside 57 = .ok (.putfield 472, 3) := by decide +kernel
theorem dX10_putsAside_60 : decode cX10_putsAside 60 = .ok (.return_, 1) := by decide +kernel
theorem dX10_takesBack_0 : decode cX10_takesBack 0 = .ok (.iconst 0, 1) := by decide +kernel
theorem dX10_takesBack_1 : decode cX10_takesBack 1 = .ok (.istore_n 1, 1) := by decide +kernel
theorem dX10_takesBack_2 : decode cX10_takesBack 2 = .ok (.iload_n 1, 1) := by decide +kernel
theorem dX10_takesBack_3 : decode cX10_takesBack 3 = .ok (.bipush 76, 2) := by decide +kernel
theorem dX10_takesBack_5 : decode cX10_takesBack 5 = .ok (.if_icmp .ge 21, 3) := by decide +kernel
theorem dX10_takesBack_8 : decode cX10_takesBack 8 = .ok (.aload_n 0, 1) := by decide +kernel
theorem dX10_takesBack_9 : decode cX10_takesBack 9 = .ok (.getfield 101, 3) := by decide +kernel
theorem dX10_takesBack_12 : decode cX10_takesBack 12 = .ok (.iload_n 1, 1) := by decide +kernel
theorem dX10_takesBack_13 : decode cX10_takesBack 13 = .ok (.aload_n 0, 1) := by decide +kernel
theorem dX10_takesBack_14 : decode cX10_takesBack 14 = .ok (.getfield 128, 3) := by decide +kernel
theorem dX10_takesBack_17 : decode cX10_takesBack 17 = .ok (.iload_n 1, 1) := by decide +kernel
theorem dX10_takesBack_18 : decode cX10_takesBack 18 = .ok (.iaload, 1) := by decide +kernel
theorem dX10_takesBack_19 : decode cX10_takesBack 19 = .ok (.iastore, 1) := by decide +kernel
theorem dX10_takesBack_20 : decode cX10_takesBack 20 = .ok (.iinc 1 1, 3) := by decide +kernel
theorem dX10_takesBack_23 : decode cX10_takesBack 23 = .ok (.goto (-21), 3) := by decide +kernel
theorem dX10_takesBack_26 : decode cX10_takesBack 26 = .ok (.iconst 0, 1) := by decide +kernel
theorem dX10_takesBack_27 : decode cX10_takesBack 27 = .ok (.istore_n 1, 1) := by decide +kernel
theorem dX10_takesBack_28 : decode cX10_takesBack 28 = .ok (.iload_n 1, 1) := by decide +kernel
theorem dX10_takesBack_29 : decode cX10_takesBack 29 = .ok (.bipush 12, 2) := by decide +kernel
theorem dX10_takesBack_31 : decode cX10_takesBack 31 = .ok (.if_icmp .ge 21, 3) := by decide +kernel
theorem dX10_takesBack_34 : decode cX10_takesBack 34 = .ok (.aload_n 0, 1) := by decide +kernel
theorem dX10_takesBack_35 : decode cX10_takesBack 35 = .ok (.getfield 98, 3) := by decide +kernel
theorem dX10_takesBack_38 : decode cX10_takesBack 38 = .ok (.iload_n 1, 1) := by decide +kernel
theorem dX10_takesBack_39 : decode cX10_takesBack 39 = .ok (.aload_n 0, 1) := by decide +kernel
theorem dX10_takesBack_40 : decode cX10_takesBack 40 = .ok (.getfield 131, 3) := by decide +kernel
theorem dX10_takesBack_43 : decode cX10_takesBack 43 = .ok (.iload_n 1, 1) := by decide +kernel
theorem dX10_takesBack_44 : decode cX10_takesBack 44 = .ok (.iaload, 1) := by decide +kernel
theorem dX10_takesBack_45 : decode cX10_takesBack 45 = .ok (.iastore, 1) := by decide +kernel
theorem dX10_takesBack_46 : decode cX10_takesBack 46 = .ok (.iinc 1 1, 3) := by decide +kernel
theorem dX10_takesBack_49 : decode cX10_takesBack 49 = .ok (.goto (-21), 3) := by decide +kernel
theorem dX10_takesBack_52 : decode cX10_takesBack 52 = .ok (.aload_n 0, 1) := by decide +kernel
theorem dX10_takesBack_53 : decode cX10_takesBack 53 = .ok (.aload_n 0, 1) := by decide +kernel
theorem dX10_takesBack_54 : decode cX10_takesBack 54 = .ok (.getfield 472, 3) := by decide +kernel
theorem dX10_takesBack_57 : decode cX10_takesBack 57 = .ok (.putfield 95, 3) := by decide +kernel
theorem dX10_takesBack_60 : decode cX10_takesBack 60 = .ok (.return_, 1) := by decide +kernel
set_option maxRecDepth 20000 in
theorem ggX10_placeBy_X10_putsAside : GoodIn wsX10_placeBy wsX10_putsAside := goodIn_r _ [7, 8, 2, 9, 10, 1, 11, 151, 152, 153, 154, 155, 156, 157, 158, 159, 160, 161, 162, 163, 164, 165, 166, 167, 168, 169, 170, 171, 172, 173, 174, 175, 176, 177, 178, 179, 180, 181, 182, 183, 184, 185, 186, 187, 188, 189, 190, 191, 192, 193, 194, 195, 196, 197, 198, 199, 200, 201, 202, 203, 204, 205, 206, 207] (by decide +kernel) (by decide +kernel)
set_option maxRecDepth 20000 in
theorem gX10_placeBy_X10_putsAside : GoodIn wsX10_placeBy (wsV RX10 475 RX10 yX10_putsAside wsX10_putsAside) := goodIn_app (goodIn_of _ (by decide +kernel)) ggX10_placeBy_X10_putsAside
set_option maxRecDepth 20000 in
theorem ggX10_placeBy_X10_starts : GoodIn wsX10_placeBy wsX10_starts := goodIn_r _ [15, 2, 16, 10, 17, 18, 19, 20, 6, 21, 22, 23, 24, 25, 26, 27, 28, 29, 30, 31, 32, 33, 34, 35, 36, 37, 38, 39, 40, 41, 42, 43, 44, 45, 46, 47, 48, 49, 50, 51, 52, 53, 54, 55, 56, 57, 58, 59, 60, 61, 62, 63, 64, 65, 66, 67, 68, 69, 70, 71, 72, 73, 74, 75, 76, 77, 78, 79, 80, 81, 82, 83, 84, 85, 86, 87, 88, 89, 90, 91, 92, 93, 94, 95, 1, 151, 152, 153, 154, 155, 156, 157, 158, 159, 160, 161, 162, 163, 164, 165, 166, 167, 168, 169, 170, 171, 172, 173, 174, 175, 176, 177, 178, 179, 180, 181, 182, 183, 184, 185, 186, 187, 188, 189, 190, 191, 192, 193, 194, 195, 196, 197, 198, 199, 200, 201, 202, 203, 204, 205, 206, 207] (by decide +kernel) (by decide +kernel)
set_option maxRecDepth 20000 in
theorem gX10_placeBy_X10_starts : GoodIn wsX10_placeBy (wsV RX10 256 RX10 yX10_starts wsX10_starts) := goodIn_app (goodIn_of _ (by decide +kernel)) ggX10_placeBy_X10_starts
set_option maxRecDepth 20000 in
theorem ggX10_placeBy_X10_rests : GoodIn wsX10_placeBy wsX10_rests := goodIn_r _ [99, 100, 101, 102, 6, 103, 22, 35, 36, 37, 38, 91, 92, 93, 94, 95, 1, 104, 105, 106, 107, 43, 108, 109, 110, 111, 112, 113, 44, 45, 46, 47, 53, 54, 55, 56, 57, 114, 115, 116, 117, 118, 75, 76, 77, 78, 2, 48, 49, 50, 51, 52, 79, 80, 81, 82, 10, 70, 71, 72, 73, 74, 119, 120, 121, 122, 123, 124, 125, 126, 127, 18, 19, 20, 21, 128, 129, 130, 131, 132, 133, 134, 135, 136, 137, 138, 139, 140, 141, 142, 143, 144, 145, 146, 151, 152, 153, 154, 155, 156, 157, 158, 159, 160, 161, 162, 163, 164, 165, 166, 167, 168, 169, 170, 171, 172, 173, 174, 175, 176, 177, 178, 179, 180, 181, 182, 183, 184, 185, 186, 187, 188, 189, 190, 191, 192, 193, 194, 195, 196, 197, 198, 199, 200, 201, 202, 203, 204, 205, 206, 207] (by decide +kernel) (by decide +kernel)
set_option maxRecDepth 20000 in
theorem gX10_placeBy_X10_rests : GoodIn wsX10_placeBy (wsV RX10 365 RX10 yX10_rests wsX10_rests) := goodIn_app (goodIn_of _ (by decide +kernel)) ggX10_placeBy_X10_rests
set_option maxRecDepth 20000 in
theorem ggX10_placeBy_X10_takesBack : GoodIn wsX10_placeBy wsX10_takesBack := goodIn_r _ [150, 2, 8, 10, 9, 11, 1, 151, 152, 153, 154, 155, 156, 157, 158, 159, 160, 161, 162, 163, 164, 165, 166, 167, 168, 169, 170, 171, 172, 173, 174, 175, 176, 177, 178, 179, 180, 181, 182, 183, 184, 185, 186, 187, 188, 189, 190, 191, 192, 193, 194, 195, 196, 197, 198, 199, 200, 201, 202, 203, 204, 205, 206, 207] (by decide +kernel) (by decide +kernel)
set_option maxRecDepth 20000 in
theorem gX10_placeBy_X10_takesBack : GoodIn wsX10_placeBy (wsV RX10 478 RX10 yX10_takesBack wsX10_takesBack) := goodIn_app (goodIn_of _ (by decide +kernel)) ggX10_placeBy_X10_takesBack
theorem dX10_placeBy_0 : decode cX10_placeBy 0 = .ok (.aload_n 0, 1) := by decide +kernel
theorem dX10_placeBy_1 : decode cX10_placeBy 1 = .ok (.invokevirtual 475, 3) := by decide +kernel
theorem dX10_placeBy_4 : decode cX10_placeBy 4 = .ok (.aload_n 0, 1) := by decide +kernel
theorem dX10_placeBy_5 : decode cX10_placeBy 5 = .ok (.iload_n 1, 1) := by decide +kernel
theorem dX10_placeBy_6 : decode cX10_placeBy 6 = .ok (.putfield 95, 3) := by decide +kernel
theorem dX10_placeBy_9 : decode cX10_placeBy 9 = .ok (.aload_n 0, 1) := by decide +kernel
theorem dX10_placeBy_10 : decode cX10_placeBy 10 = .ok (.invokevirtual 256, 3) := by decide +kernel
theorem dX10_placeBy_13 : decode cX10_placeBy 13 = .ok (.istore 4, 2) := by decide +kernel
theorem dX10_placeBy_15 : decode cX10_placeBy 15 = .ok (.aload_n 0, 1) := by decide +kernel
theorem dX10_placeBy_16 : decode cX10_placeBy 16 = .ok (.sipush 200, 3) := by decide +kernel
theorem dX10_placeBy_19 : decode cX10_placeBy 19 = .ok (.invokevirtual 365, 3) := by decide +kernel
theorem dX10_placeBy_22 : decode cX10_placeBy 22 = .ok (.istore 5, 2) := by decide +kernel
theorem dX10_placeBy_24 : decode cX10_placeBy 24 = .ok (.aload_n 0, 1) := by decide +kernel
theorem dX10_placeBy_25 : decode cX10_placeBy 25 = .ok (.getfield 101, 3) := by decide +kernel
theorem dX10_placeBy_28 : decode cX10_placeBy 28 = .ok (.bipush 38, 2) := by decide +kernel
theorem dX10_placeBy_30 : decode cX10_placeBy 30 = .ok (.iload_n 3, 1) := by decide +kernel
theorem dX10_placeBy_31 : decode cX10_placeBy 31 = .ok (.imul, 1) := by decide +kernel
theorem dX10_placeBy_32 : decode cX10_placeBy 32 = .ok (.iload_n 2, 1) := by decide +kernel
theorem dX10_placeBy_33 : decode cX10_placeBy 33 = .ok (.iadd, 1) := by decide +kernel
theorem dX10_placeBy_34 : decode cX10_placeBy 34 = .ok (.iaload, 1) := by decide +kernel
theorem dX10_placeBy_35 : decode cX10_placeBy 35 = .ok (.istore 6, 2) := by decide +kernel
theorem dX10_placeBy_37 : decode cX10_placeBy 37 = .ok (.aload_n 0, 1) := by decide +kernel
theorem dX10_placeBy_38 : decode cX10_placeBy 38 = .ok (.invokevirtual 478, 3) := by decide +kernel
theorem dX10_placeBy_41 : decode cX10_placeBy 41 = .ok (.iload 6, 2) := by decide +kernel
theorem dX10_placeBy_43 : decode cX10_placeBy 43 = .ok (.ireturn, 1) := by decide +kernel
set_option maxRecDepth 20000 in
theorem ggX10_differ_X10_isPicture : GoodIn wsX10_differ wsX10_isPicture := goodIn_r _ [6, 7, 8, 9, 5, 10, 11, 12, 13, 14, 163, 164, 165, 166, 167, 168, 169, 170, 171, 172, 173, 174, 175, 176, 177, 178, 179, 180, 181, 182, 183, 184, 185, 186, 187, 188, 189, 190, 191, 192, 193, 194, 195, 196, 197, 198, 199, 200, 201, 202, 203, 204, 205, 206, 207, 208, 209, 210, 211, 212, 213, 214, 215, 216, 217, 218, 219] (by decide +kernel) (by decide +kernel)
set_option maxRecDepth 20000 in
theorem gX10_differ_X10_isPicture : GoodIn wsX10_differ (wsV RX10 427 RX10 yX10_isPicture wsX10_isPicture) := goodIn_app (goodIn_of _ (by decide +kernel)) ggX10_differ_X10_isPicture
set_option maxRecDepth 20000 in
theorem ggX10_differ_X10_isIn : GoodIn wsX10_differ wsX10_isIn := goodIn_r _ [14] (by decide +kernel) (by decide +kernel)
set_option maxRecDepth 20000 in
theorem gX10_differ_X10_isIn : GoodIn wsX10_differ (va_wsS RX10 183 yX10_isIn wsX10_isIn) := goodIn_app (goodIn_of _ (by decide +kernel)) ggX10_differ_X10_isIn
set_option maxRecDepth 20000 in
theorem ggX10_differ_X10_placeBy : GoodIn wsX10_differ wsX10_placeBy := goodIn_r _ [18, 19, 20, 21, 22, 23, 5, 24, 25, 26, 27, 28, 29, 30, 31, 32, 33, 34, 7, 8, 9, 10, 11, 35, 36, 37, 38, 39, 40, 41, 42, 43, 44, 45, 46, 47, 48, 49, 50, 51, 52, 53, 54, 55, 56, 57, 58, 59, 60, 61, 62, 63, 64, 65, 66, 67, 68, 69, 70, 71, 72, 73, 74, 75, 76, 77, 78, 79, 80, 81, 82, 83, 84, 85, 86, 87, 88, 89, 90, 91, 92, 93, 94, 95, 96, 97, 98, 99, 100, 101, 102, 103, 104, 105, 106, 107, 108, 109, 110, 111, 112, 113, 114, 115, 116, 117, 118, 119, 120, 121, 122, 123, 124, 125, 126, 127, 128, 129, 130, 131, 132, 133, 134, 135, 136, 137, 138, 139, 140, 141, 142, 143, 144, 145, 146, 147, 148, 149, 150, 151, 152, 153, 154, 155, 156, 157, 158, 159, 160, 161, 162, 163, 164, 165, 166, 167, 168, 169, 170, 171, 172, 173, 174, 175, 176, 177, 178, 179, 180, 181, 182, 183, 184, 185, 186, 187, 188, 189, 190, 191, 192, 193, 194, 195, 196, 197, 198, 199, 200, 201, 202, 203, 204, 205, 206, 207, 208, 209, 210, 211, 212, 213, 214, 215, 216, 217, 218, 219] (by decide +kernel) (by decide +kernel)
set_option maxRecDepth 20000 in
theorem gX10_differ_X10_placeBy : GoodIn wsX10_differ (wsV RX10 481 RX10 yX10_placeBy wsX10_placeBy) := goodIn_app (goodIn_of _ (by decide +kernel)) ggX10_differ_X10_placeBy
theorem dX10_differ_0 : decode cX10_differ 0 = .ok (.aload_n 0, 1) := by decide +kernel
theorem dX10_differ_1 : decode cX10_differ 1 = .ok (.iload_n 1, 1) := by decide +kernel
theorem dX10_differ_2 : decode cX10_differ 2 = .ok (.invokevirtual 427, 3) := by decide +kernel
theorem dX10_differ_5 : decode cX10_differ 5 = .ok (.ifCond .eq 31, 3) := by decide +kernel
theorem dX10_differ_8 : decode cX10_differ 8 = .ok (.iload_n 2, 1) := by decide +kernel
theorem dX10_differ_9 : decode cX10_differ 9 = .ok (.i2l, 1) := by decide +kernel
theorem dX10_differ_10 : decode cX10_differ 10 = .ok (.lconst 0, 1) := by decide +kernel
theorem dX10_differ_11 : decode cX10_differ 11 = .ok (.lconst 1, 1) := by decide +kernel
theorem dX10_differ_12 : decode cX10_differ 12 = .ok (.invokestatic 183, 3) := by decide +kernel
theorem dX10_differ_15 : decode cX10_differ 15 = .ok (.ifCond .eq 21, 3) := by decide +kernel
theorem dX10_differ_18 : decode cX10_differ 18 = .ok (.aload_n 0, 1) := by decide +kernel
theorem dX10_differ_19 : decode cX10_differ 19 = .ok (.iconst 1, 1) := by decide +kernel
theorem dX10_differ_20 : decode cX10_differ 20 = .ok (.iload_n 1, 1) := by decide +kernel
theorem dX10_differ_21 : decode cX10_differ 21 = .ok (.iload_n 2, 1) := by decide +kernel
theorem dX10_differ_22 : decode cX10_differ 22 = .ok (.invokevirtual 481, 3) := by decide +kernel
theorem dX10_differ_25 : decode cX10_differ 25 = .ok (.aload_n 0, 1) := by decide +kernel
theorem dX10_differ_26 : decode cX10_differ 26 = .ok (.iconst 2, 1) := by decide +kernel
theorem dX10_differ_27 : decode cX10_differ 27 = .ok (.iload_n 1, 1) := by decide +kernel
theorem dX10_differ_28 : decode cX10_differ 28 = .ok (.iload_n 2, 1) := by decide +kernel
theorem dX10_differ_29 : decode cX10_differ 29 = .ok (.invokevirtual 481, 3) := by decide +kernel
theorem dX10_differ_32 : decode cX10_differ 32 = .ok (.isub, 1) := by decide +kernel
theorem dX10_differ_33 : decode cX10_differ 33 = .ok (.goto 6, 3) := by decide +kernel
theorem dX10_differ_36 : decode cX10_differ 36 = .ok (.ldc_w 439, 3) := by decide +kernel
theorem dX10_differ_39 : decode cX10_differ 39 = .ok (.ireturn, 1) := by decide +kernel
theorem dX10_measures_0 : decode cX10_measures 0 = .ok (.aload_n 0, 1) := by decide +kernel
theorem dX10_measures_1 : decode cX10_measures 1 = .ok (.getfield 85, 3) := by decide +kernel
theorem dX10_measures_4 : decode cX10_measures 4 = .ok (.bipush 120, 2) := by decide +kernel
theorem dX10_measures_6 : decode cX10_measures 6 = .ok (.iconst 2, 1) := by decide +kernel
theorem dX10_measures_7 : decode cX10_measures 7 = .ok (.iload_n 1, 1) := by decide +kernel
theorem dX10_measures_8 : decode cX10_measures 8 = .ok (.imul, 1) := by decide +kernel
theorem dX10_measures_9 : decode cX10_measures 9 = .ok (.iadd, 1) := by decide +kernel
theorem dX10_measures_10 : decode cX10_measures 10 = .ok (.iload_n 2, 1) := by decide +kernel
theorem dX10_measures_11 : decode cX10_measures 11 = .ok (.iastore, 1) := by decide +kernel
theorem dX10_measures_12 : decode cX10_measures 12 = .ok (.aload_n 0, 1) := by decide +kernel
theorem dX10_measures_13 : decode cX10_measures 13 = .ok (.getfield 85, 3) := by decide +kernel
theorem dX10_measures_16 : decode cX10_measures 16 = .ok (.bipush 120, 2) := by decide +kernel
theorem dX10_measures_18 : decode cX10_measures 18 = .ok (.iconst 2, 1) := by decide +kernel
theorem dX10_measures_19 : decode cX10_measures 19 = .ok (.iload_n 1, 1) := by decide +kernel
theorem dX10_measures_20 : decode cX10_measures 20 = .ok (.imul, 1) := by decide +kernel
theorem dX10_measures_21 : decode cX10_measures 21 = .ok (.iadd, 1) := by decide +kernel
theorem dX10_measures_22 : decode cX10_measures 22 = .ok (.iconst 1, 1) := by decide +kernel
theorem dX10_measures_23 : decode cX10_measures 23 = .ok (.iadd, 1) := by decide +kernel
theorem dX10_measures_24 : decode cX10_measures 24 = .ok (.iload_n 3, 1) := by decide +kernel
theorem dX10_measures_25 : decode cX10_measures 25 = .ok (.iastore, 1) := by decide +kernel
theorem dX10_measures_26 : decode cX10_measures 26 = .ok (.return_, 1) := by decide +kernel
set_option maxRecDepth 20000 in
theorem ggX10_canMeasure_X10_isRow : GoodIn wsX10_canMeasure wsX10_isRow := goodIn_r _ [6, 7, 8, 9, 5, 10, 11, 12, 13, 14, 15, 16, 17, 18, 19, 20, 21, 22, 23, 24, 25, 26, 27, 28, 29, 30, 31, 32, 33, 34, 35, 36, 37, 38, 39, 40, 41, 42, 43, 44, 45, 46, 47, 48, 49, 50, 51, 52, 53, 54, 55, 56, 57, 58, 59, 60, 61, 62, 63, 64, 65, 66, 67, 68, 69, 70, 71] (by decide +kernel) (by decide +kernel)
set_option maxRecDepth 20000 in
theorem gX10_canMeasure_X10_isRow : GoodIn wsX10_canMeasure (wsV RX10 433 RX10 yX10_isRow wsX10_isRow) := goodIn_app (goodIn_of _ (by decide +kernel)) ggX10_canMeasure_X10_isRow
set_option maxRecDepth 20000 in
theorem ggX10_canMeasure_X10_isIn : GoodIn wsX10_canMeasure wsX10_isIn := goodIn_r _ [14] (by decide +kernel) (by decide +kernel)
set_option maxRecDepth 20000 in
theorem gX10_canMeasure_X10_isIn : GoodIn wsX10_canMeasure (va_wsS RX10 183 yX10_isIn wsX10_isIn) := goodIn_app (goodIn_of _ (by decide +kernel)) ggX10_canMeasure_X10_isIn
theorem dX10_canMeasure_0 : decode cX10_canMeasure 0 = .ok (.aload_n 0, 1) := by decide +kernel
theorem dX10_canMeasure_1 : decode cX10_canMeasure 1 = .ok (.iload_n 1, 1) := by decide +kernel
theorem dX10_canMeasure_2 : decode cX10_canMeasure 2 = .ok (.invokevirtual 433, 3) := by decide +kernel
theorem dX10_canMeasure_5 : decode cX10_canMeasure 5 = .ok (.ifCond .eq 31, 3) := by decide +kernel
theorem dX10_canMeasure_8 : decode cX10_canMeasure 8 = .ok (.iload_n 2, 1) := by decide +kernel
theorem dX10_canMeasure_9 : decode cX10_canMeasure 9 = .ok (.i2l, 1) := by decide +kernel
theorem dX10_canMeasure_10 : decode cX10_canMeasure 10 = .ok (.lconst 0, 1) := by decide +kernel
theorem dX10_canMeasure_11 : decode cX10_canMeasure 11 = .ok (.ldc2_w 484, 3) := by decide +kernel
theorem dX10_canMeasure_14 : decode cX10_canMeasure 14 = .ok (.invokestatic 183, 3) := by decide +kernel
theorem dX10_canMeasure_17 : decode cX10_canMeasure 17 = .ok (.ifCond .eq 19, 3) := by decide +kernel
theorem dX10_canMeasure_20 : decode cX10_canMeasure 20 = .ok (.iload_n 3, 1) := by decide +kernel
theorem dX10_canMeasure_21 : decode cX10_canMeasure 21 = .ok (.i2l, 1) := by decide +kernel
theorem dX10_canMeasure_22 : decode cX10_canMeasure 22 = .ok (.lconst 0, 1) := by decide +kernel
theorem dX10_canMeasure_23 : decode cX10_canMeasure 23 = .ok (.ldc2_w 484, 3) := by decide +kernel
theorem dX10_canMeasure_26 : decode cX10_canMeasure 26 = .ok (.invokestatic 183, 3) := by decide +kernel
theorem dX10_canMeasure_29 : decode cX10_canMeasure 29 = .ok (.ifCond .eq 7, 3) := by decide +kernel
theorem dX10_canMeasure_32 : decode cX10_canMeasure 32 = .ok (.iconst 1, 1) := by decide +kernel
theorem dX10_canMeasure_33 : decode cX10_canMeasure 33 = .ok (.goto 4, 3) := by decide +kernel
theorem dX10_canMeasure_36 : decode cX10_canMeasure 36 = .ok (.iconst 0, 1) := by decide +kernel
theorem dX10_canMeasure_37 : decode cX10_canMeasure 37 = .ok (.ireturn, 1) := by decide +kernel
set_option maxRecDepth 20000 in
theorem ggX10_alters_X10_canMeasure : GoodIn wsX10_alters wsX10_canMeasure := goodIn_r _ [8, 9, 10, 11, 12, 7, 13, 14, 15, 16, 17, 18, 19, 20, 21, 129, 130, 131, 132, 133, 134, 135, 136, 137, 138, 139, 140, 141, 142, 143, 144, 145, 146, 147, 148, 149, 150, 151, 152, 153, 154, 155, 156, 157, 158, 159, 160, 161, 162, 163, 164, 165, 166, 167, 168, 169, 170, 171, 172, 173, 174, 175, 176, 177, 178, 179, 180, 181, 182, 183, 184, 185] (by decide +kernel) (by decide +kernel)
set_option maxRecDepth 20000 in
theorem gX10_alters_X10_canMeasure : GoodIn wsX10_alters (wsV RX10 486 RX10 yX10_canMeasure wsX10_canMeasure) := goodIn_app (goodIn_of _ (by decide +kernel)) ggX10_alters_X10_canMeasure
set_option maxRecDepth 20000 in
theorem ggX10_alters_X10_putsAside : GoodIn wsX10_alters wsX10_putsAside := goodIn_r _ [25, 26, 3, 27, 28, 29, 30, 129, 130, 131, 132, 133, 134, 135, 136, 137, 138, 139, 140, 141, 142, 143, 144, 145, 146, 147, 148, 149, 150, 151, 152, 153, 154, 155, 156, 157, 158, 159, 160, 161, 162, 163, 164, 165, 166, 167, 168, 169, 170, 171, 172, 173, 174, 175, 176, 177, 178, 179, 180, 181, 182, 183, 184, 185] (by decide +kernel) (by decide +kernel)
set_option maxRecDepth 20000 in
theorem gX10_alters_X10_putsAside : GoodIn wsX10_alters (wsV RX10 475 RX10 yX10_putsAside wsX10_putsAside) := goodIn_app (goodIn_of _ (by decide +kernel)) ggX10_alters_X10_putsAside
set_option maxRecDepth 20000 in
theorem ggX10_alters_X10_rests : GoodIn wsX10_alters wsX10_rests := goodIn_r _ [34, 35, 36, 37, 7, 38, 18, 39, 40, 41, 42, 43, 44, 45, 46, 47, 29, 48, 49, 50, 51, 52, 53, 54, 55, 56, 57, 58, 14, 15, 16, 17, 59, 60, 61, 62, 63, 64, 65, 66, 67, 68, 69, 70, 71, 72, 3, 73, 74, 75, 76, 77, 78, 79, 80, 81, 28, 82, 83, 84, 85, 1, 86, 87, 88, 89, 90, 91, 92, 93, 94, 95, 96, 97, 98, 99, 100, 101, 102, 103, 104, 105, 106, 107, 108, 109, 110, 111, 112, 113, 114, 115, 116, 117, 129, 130, 131, 132, 133, 134, 135, 136, 137, 138, 139, 140, 141, 142, 143, 144, 145, 146, 147, 148, 149, 150, 151, 152, 153, 154, 155, 156, 157, 158, 159, 160, 161, 162, 163, 164, 165, 166, 167, 168, 169, 170, 171, 172, 173, 174, 175, 176, 177, 178, 179, 180, 181, 182, 183, 184, 185] (by decide +kernel) (by decide +kernel)
set_option maxRecDepth 20000 in
theorem gX10_alters_X10_rests : GoodIn wsX10_alters (wsV RX10 365 RX10 yX10_rests wsX10_rests) := goodIn_app (goodIn_of _ (by decide +kernel)) ggX10_alters_X10_rests
set_option maxRecDepth 20000 in
theorem ggX10_alters_X10_pictures : GoodIn wsX10_alters wsX10_pictures := goodIn_r _ [98, 18, 129, 130, 131, 132, 133, 134, 135, 136, 137, 138, 139, 140, 141, 142, 143, 144, 145, 146, 147, 148, 149, 150, 151, 152, 153, 154, 155, 156, 157, 158, 159, 160, 161, 162, 163, 164, 165, 166, 167, 168, 169, 170, 171, 172, 173, 174, 175, 176, 177, 178, 179, 180, 181, 182, 183, 184, 185] (by decide +kernel) (by decide +kernel)
set_option maxRecDepth 20000 in
theorem gX10_alters_X10_pictures : GoodIn wsX10_alters (wsV RX10 259 RX10 yX10_pictures wsX10_pictures) := goodIn_app (goodIn_of _ (by decide +kernel)) ggX10_alters_X10_pictures
set_option maxRecDepth 20000 in
theorem ggX10_alters_X10_takesBack : GoodIn wsX10_alters wsX10_takesBack := goodIn_r _ [121, 3, 26, 28, 27, 30, 29, 129, 130, 131, 132, 133, 134, 135, 136, 137, 138, 139, 140, 141, 142, 143, 144, 145, 146, 147, 148, 149, 150, 151, 152, 153, 154, 155, 156, 157, 158, 159, 160, 161, 162, 163, 164, 165, 166, 167, 168, 169, 170, 171, 172, 173, 174, 175, 176, 177, 178, 179, 180, 181, 182, 183, 184, 185] (by decide +kernel) (by decide +kernel)
set_option maxRecDepth 20000 in
theorem gX10_alters_X10_takesBack : GoodIn wsX10_alters (wsV RX10 478 RX10 yX10_takesBack wsX10_takesBack) := goodIn_app (goodIn_of _ (by decide +kernel)) ggX10_alters_X10_takesBack
set_option maxRecDepth 20000 in
theorem ggX10_alters_X10_measures : GoodIn wsX10_alters wsX10_measures := goodIn_r _ [125, 1, 129, 130, 131, 132, 133, 134, 135, 136, 137, 138, 139, 140, 141, 142, 143, 144, 145, 146, 147, 148, 149, 150, 151, 152, 153, 154, 155, 156, 157, 158, 159, 160, 161, 162, 163, 164, 165, 166, 167, 168, 169, 170, 171, 172, 173, 174, 175, 176, 177, 178, 179, 180, 181, 182, 183, 184, 185] (by decide +kernel) (by decide +kernel)
set_option maxRecDepth 20000 in
theorem gX10_alters_X10_measures : GoodIn wsX10_alters (wsV RX10 489 RX10 yX10_measures wsX10_measures) := goodIn_app (goodIn_of _ (by decide +kernel)) ggX10_alters_X10_measures
set_option maxRecDepth 20000 in
theorem ggX10_alters_X10_apart : GoodIn wsX10_alters wsX10_apart := goodIn_r _ [128] (by decide +kernel) (by decide +kernel)
set_option maxRecDepth 20000 in
theorem gX10_alters_X10_apart : GoodIn wsX10_alters (va_wsS RX10 299 yX10_apart wsX10_apart) := goodIn_app (goodIn_of _ (by decide +kernel)) ggX10_alters_X10_apart
theorem dX10_alters_0 : decode cX10_alters 0 = .ok (.aload_n 0, 1) := by decide +kernel
theorem dX10_alters_1 : decode cX10_alters 1 = .ok (.iload_n 1, 1) := by decide +kernel
theorem dX10_alters_2 : decode cX10_alters 2 = .ok (.iload_n 2, 1) := by decide +kernel
theorem dX10_alters_3 : decode cX10_alters 3 = .ok (.iload_n 3, 1) := by decide +kernel
theorem dX10_alters_4 : decode cX10_alters 4 = .ok (.invokevirtual 486, 3) := by decide +kernel
theorem dX10_alters_7 : decode cX10_alters 7 = .ok (.ifCond .eq 8, 3) := by decide +kernel
theorem dX10_alters_10 : decode cX10_alters 10 = .ok (.iload 4, 2) := by decide +kernel
theorem dX10_alters_12 : decode cX10_alters 12 = .ok (.ifCond .ge 5, 3) := by decide +kernel
theorem dX10_alters_15 : decode cX10_alters 15 = .ok (.iconst (-1), 1) := by decide +kernel
theorem dX10_alters_16 : decode cX10_alters 16 = .ok (.ireturn, 1) := by decide +kernel
theorem dX10_alters_17 : decode cX10_alters 17 = .ok (.aload_n 0, 1) := by decide +kernel
theorem dX10_alters_18 : decode cX10_alters 18 = .ok (.getfield 85, 3) := by decide +kernel
theorem dX10_alters_21 : decode cX10_alters 21 = .ok (.bipush 120, 2) := by decide +kernel
theorem dX10_alters_23 : decode cX10_alters 23 = .ok (.iconst 2, 1) := by decide +kernel
theorem dX10_alters_24 : decode cX10_alters 24 = .ok (.iload_n 1, 1) := by decide +kernel
theorem dX10_alters_25 : decode cX10_alters 25 = .ok (.imul, 1) := by decide +kernel
theorem dX10_alters_26 : decode cX10_alters 26 = .ok (.iadd, 1) := by decide +kernel
theorem dX10_alters_27 : decode cX10_alters 27 = .ok (.iaload, 1) := by decide +kernel
theorem dX10_alters_28 : decode cX10_alters 28 = .ok (.istore 5, 2) := by decide +kernel
theorem dX10_alters_30 : decode cX10_alters 30 = .ok (.aload_n 0, 1) := by decide +kernel
theorem dX10_alters_31 : decode cX10_alters 31 = .ok (.getfield 85, 3) := by decide +kernel
theorem dX10_alters_34 : decode cX10_alters 34 = .ok (.bipush 120, 2) := by decide +kernel
theorem dX10_alters_36 : decode cX10_alters 36 = .ok (.iconst 2, 1) := by decide +kernel
theorem dX10_alters_37 : decode cX10_alters 37 = .ok (.iload_n 1, 1) := by decide +kernel
theorem dX10_alters_38 : decode cX10_alters 38 = .ok (.imul, 1) := by decide +kernel
theorem dX10_alters_39 : decode cX10_alters 39 = .ok (.iadd, 1) := by decide +kernel
theorem dX10_alters_40 : decode cX10_alters 40 = .ok (.iconst 1, 1) := by decide +kernel
theorem dX10_alters_41 : decode cX10_alters 41 = .ok (.iadd, 1) := by decide +kernel
theorem dX10_alters_42 : decode cX10_alters 42 = .ok (.iaload, 1) := by decide +kernel
theorem dX10_alters_43 : decode cX10_alters 43 = .ok (.istore 6, 2) := by decide +kernel
theorem dX10_alters_45 : decode cX10_alters 45 = .ok (.aload_n 0, 1) := by decide +kernel
theorem dX10_alters_46 : decode cX10_alters 46 = .ok (.invokevirtual 475, 3) := by decide +kernel
theorem dX10_alters_49 : decode cX10_alters 49 = .ok (.aload_n 0, 1) := by decide +kernel
theorem dX10_alters_50 : decode cX10_alters 50 = .ok (.sipush 200, 3) := by decide +kernel
theorem dX10_alters_53 : decode cX10_alters 53 = .ok (.invokevirtual 365, 3) := by decide +kernel
theorem dX10_alters_56 : decode cX10_alters 56 = .ok (.istore 7, 2) := by decide +kernel
theorem dX10_alters_58 : decode cX10_alters 58 = .ok (.iconst 0, 1) := by decide +kernel
theorem dX10_alters_59 : decode cX10_alters 59 = .ok (.istore 8, 2) := by decide +kernel
theorem dX10_alters_61 : decode cX10_alters 61 = .ok (.iload 8, 2) := by decide +kernel
theorem dX10_alters_63 : decode cX10_alters 63 = .ok (.aload_n 0, 1) := by decide +kernel
theorem dX10_alters_64 : decode cX10_alters 64 = .ok (.invokevirtual 259, 3) := by decide +kernel
theorem dX10_alters_67 : decode cX10_alters 67 = .ok (.if_icmp .ge 50, 3) := by decide +kernel
theorem dX10_alters_70 : decode cX10_alters 70 = .ok (.iconst 0, 1) := by decide +kernel
theorem dX10_alters_71 : decode cX10_alters 71 = .ok (.istore 9, 2) := by decide +kernel
theorem dX10_alters_73 : decode cX10_alters 73 = .ok (.iload 9, 2) := by decide +kernel
theorem dX10_alters_75 : decode cX10_alters 75 = .ok (.iconst 2, 1) := by decide +kernel
theorem dX10_alters_76 : decode cX10_alters 76 = .ok (.if_icmp .ge 35, 3) := by decide +kernel
theorem dX10_alters_79 : decode cX10_alters 79 = .ok (.aload_n 0, 1) := by decide +kernel
theorem dX10_alters_80 : decode cX10_alters 80 = .ok (.getfield 134, 3) := by decide +kernel
theorem dX10_alters_83 : decode cX10_alters 83 = .ok (.bipush 12, 2) := by decide +kernel
theorem dX10_alters_85 : decode cX10_alters 85 = .ok (.iload 9, 2) := by decide +kernel
theorem dX10_alters_87 : decode cX10_alters 87 = .ok (.imul, 1) := by decide +kernel
theorem dX10_alters_88 : decode cX10_alters 88 = .ok (.iload 8, 2) := by decide +kernel
theorem dX10_alters_90 : decode cX10_alters 90 = .ok (.iadd, 1) := by decide +kernel
theorem dX10_alters_91 : decode cX10_alters 91 = .ok (.aload_n 0, 1) := by decide +kernel
theorem dX10_alters_92 : decode cX10_alters 92 = .ok (.getfield 101, 3) := by decide +kernel
theorem dX10_alters_95 : decode cX10_alters 95 = .ok (.bipush 38, 2) := by decide +kernel
theorem dX10_alters_97 : decode cX10_alters 97 = .ok (.iload 9, 2) := by decide +kernel
theorem dX10_alters_99 : decode cX10_alters 99 = .ok (.imul, 1) := by decide +kernel
theorem dX10_alters_100 : decode cX10_alters 100 = .ok (.iload 8, 2) := by decide +kernel
theorem dX10_alters_102 : decode cX10_alters 102 = .ok (.iadd, 1) := by decide +kernel
theorem dX10_alters_103 : decode cX10_alters 103 = .ok (.iaload, 1) := by decide +kernel
theorem dX10_alters_104 : decode cX10_alters 104 = .ok (.iastore, 1) := by decide +kernel
theorem dX10_alters_105 : decode cX10_alters 105 = .ok (.iinc 9 1, 3) := by decide +kernel
theorem dX10_alters_108 : decode cX10_alters 108 = .ok (.goto (-35), 3) := by decide +kernel
theorem dX10_alters_111 : decode cX10_alters 111 = .ok (.iinc 8 1, 3) := by decide +kernel
theorem dX10_alters_114 : decode cX10_alters 114 = .ok (.goto (-53), 3) := by decide +kernel
theorem dX10_alters_117 : decode cX10_alters 117 = .ok (.aload_n 0, 1) := by decide +kernel
theorem dX10_alters_118 : decode cX10_alters 118 = .ok (.invokevirtual 478, 3) := by decide +kernel
theorem dX10_alters_121 : decode cX10_alters 121 = .ok (.aload_n 0, 1) := by decide +kernel
theorem dX10_alters_122 : decode cX10_alters 122 = .ok (.iload_n 1, 1) := by decide +kernel
theorem dX10_alters_123 : decode cX10_alters 123 = .ok (.iload_n 2, 1) := by decide +kernel
theorem dX10_alters_124 : decode cX10_alters 124 = .ok (.iload_n 3, 1) := by decide +kernel
theorem dX10_alters_125 : decode cX10_alters 125 = .ok (.invokevirtual 489, 3) := by decide +kernel
theorem dX10_alters_128 : decode cX10_alters 128 = .ok (.aload_n 0, 1) := by decide +kernel
theorem dX10_alters_129 : decode cX10_alters 129 = .ok (.sipush 200, 3) := by decide +kernel
theorem dX10_alters_132 : decode cX10_alters 132 = .ok (.invokevirtual 365, 3) := by decide +kernel
theorem dX10_alters_135 : decode cX10_alters 135 = .ok (.istore 7, 2) := by decide +kernel
theorem dX10_alters_137 : decode cX10_alters 137 = .ok (.iconst 0, 1) := by decide +kernel
theorem dX10_alters_138 : decode cX10_alters 138 = .ok (.istore 8, 2) := by decide +kernel
theorem dX10_alters_140 : decode cX10_alters 140 = .ok (.iconst 0, 1) := by decide +kernel
theorem dX10_alters_141 : decode cX10_alters 141 = .ok (.istore 9, 2) := by decide +kernel
theorem dX10_alters_143 : decode cX10_alters 143 = .ok (.iload 9, 2) := by decide +kernel
theorem dX10_alters_145 : decode cX10_alters 145 = .ok (.aload_n 0, 1) := by decide +kernel
theorem dX10_alters_146 : decode cX10_alters 146 = .ok (.invokevirtual 259, 3) := by decide +kernel
theorem dX10_alters_149 : decode cX10_alters 149 = .ok (.if_icmp .ge 70, 3) := by decide +kernel
theorem dX10_alters_152 : decode cX10_alters 152 = .ok (.aload_n 0, 1) := by decide +kernel
theorem dX10_alters_153 : decode cX10_alters 153 = .ok (.getfield 101, 3) := by decide +kernel
theorem dX10_alters_156 : decode cX10_alters 156 = .ok (.iload 9, 2) := by decide +kernel
theorem dX10_alters_158 : decode cX10_alters 158 = .ok (.iaload, 1) := by decide +kernel
theorem dX10_alters_159 : decode cX10_alters 159 = .ok (.i2l, 1) := by decide +kernel
theorem dX10_alters_160 : decode cX10_alters 160 = .ok (.aload_n 0, 1) := by decide +kernel
theorem dX10_alters_161 : decode cX10_alters 161 = .ok (.getfield 134, 3) := by decide +kernel
theorem dX10_alters_164 : decode cX10_alters 164 = .ok (.iload 9, 2) := by decide +kernel
theorem dX10_alters_166 : decode cX10_alters 166 = .ok (.iaload, 1) := by decide +kernel
theorem dX10_alters_167 : decode cX10_alters 167 = .ok (.i2l, 1) := by decide +kernel
theorem dX10_alters_168 : decode cX10_alters 168 = .ok (.invokestatic 299, 3) := by decide +kernel
theorem dX10_alters_171 : decode cX10_alters 171 = .ok (.iload 4, 2) := by decide +kernel
theorem dX10_alters_173 : decode cX10_alters 173 = .ok (.i2l, 1) := by decide +kernel
theorem dX10_alters_174 : decode cX10_alters 174 = .ok (.lcmp, 1) := by decide +kernel
theorem dX10_alters_175 : decode cX10_alters 175 = .ok (.ifCond .gt 35, 3) := by decide +kernel
theorem dX10_alters_178 : decode cX10_alters 178 = .ok (.aload_n 0, 1) := by decide +kernel
theorem dX10_alters_179 : decode cX10_alters 179 = .ok (.getfield 101, 3) := by decide +kernel
theorem dX10_alters_182 : decode cX10_alters 182 = .ok (.bipush 38, 2) := by decide +kernel
theorem dX10_alters_184 : decode cX10_alters 184 = .ok (.iload 9, 2) := by decide +kernel
theorem dX10_alters_186 : decode cX10_alters 186 = .ok (.iadd, 1) := by decide +kernel
theorem dX10_alters_187 : decode cX10_alters 187 = .ok (.iaload, 1) := by decide +kernel
theorem dX10_alters_188 : decode cX10_alters 188 = .ok (.i2l, 1) := by decide +kernel
theorem dX10_alters_189 : decode cX10_alters 189 = .ok (.aload_n 0, 1) := by decide +kernel
theorem dX10_alters_190 : decode cX10_alters 190 = .ok (.getfield 134, 3) := by decide +kernel
theorem dX10_alters_193 : decode cX10_alters 193 = .ok (.bipush 12, 2) := by decide +kernel
theorem dX10_alters_195 : decode cX10_alters 195 = .ok (.iload 9, 2) := by decide +kernel
theorem dX10_alters_197 : decode cX10_alters 197 = .ok (.iadd, 1) := by decide +kernel
theorem dX10_alters_198 : decode cX10_alters 198 = .ok (.iaload, 1) := by decide +kernel
theorem dX10_alters_199 : decode cX10_alters 199 = .ok (.i2l, 1) := by decide +kernel
theorem dX10_alters_200 : decode cX10_alters 200 = .ok (.invokestatic 299, 3) := by decide +kernel
theorem dX10_alters_203 : decode cX10_alters 203 = .ok (.iload 4, 2) := by decide +kernel
theorem dX10_alters_205 : decode cX10_alters 205 = .ok (.i2l, 1) := by decide +kernel
theorem dX10_alters_206 : decode cX10_alters 206 = .ok (.lcmp, 1) := by decide +kernel
theorem dX10_alters_207 : decode cX10_alters 207 = .ok (.ifCond .le 6, 3) := by decide +kernel
theorem dX10_alters_210 : decode cX10_alters 210 = .ok (.iinc 8 1, 3) := by decide +kernel
theorem dX10_alters_213 : decode cX10_alters 213 = .ok (.iinc 9 1, 3) := by decide +kernel
theorem dX10_alters_216 : decode cX10_alters 216 = .ok (.goto (-73), 3) := by decide +kernel
theorem dX10_alters_219 : decode cX10_alters 219 = .ok (.aload_n 0, 1) := by decide +kernel
theorem dX10_alters_220 : decode cX10_alters 220 = .ok (.iload_n 1, 1) := by decide +kernel
theorem dX10_alters_221 : decode cX10_alters 221 = .ok (.iload 5, 2) := by decide +kernel
theorem dX10_alters_223 : decode cX10_alters 223 = .ok (.iload 6, 2) := by decide +kernel
theorem dX10_alters_225 : decode cX10_alters 225 = .ok (.invokevirtual 489, 3) := by decide +kernel
theorem dX10_alters_228 : decode cX10_alters 228 = .ok (.aload_n 0, 1) := by decide +kernel
theorem dX10_alters_229 : decode cX10_alters 229 = .ok (.invokevirtual 478, 3) := by decide +kernel
theorem dX10_alters_232 : decode cX10_alters 232 = .ok (.iload 8, 2) := by decide +kernel
theorem dX10_alters_234 : decode cX10_alters 234 = .ok (.ireturn, 1) := by decide +kernel
set_option maxRecDepth 20000 in
theorem ggX10_measure_X10_canMeasure : GoodIn wsX10_measure wsX10_canMeasure := goodIn_r _ [5, 6, 7, 8, 9, 4, 10, 11, 12, 13, 14, 15, 16, 17, 18, 24, 25, 26, 27, 28, 29, 30, 31, 32, 33, 34, 35, 36, 37, 38, 39, 40, 41, 42, 43, 44, 45, 46, 47, 48, 49, 50, 51, 52, 53, 54, 55, 56, 57, 58, 59, 60, 61, 62, 63, 64, 65, 66, 67, 68, 69, 70, 71, 72, 73, 74, 75, 76, 77, 78, 79, 80] (by decide +kernel) (by decide +kernel)
set_option maxRecDepth 20000 in
theorem gX10_measure_X10_canMeasure : GoodIn wsX10_measure (wsV RX10 486 RX10 yX10_canMeasure wsX10_canMeasure) := goodIn_app (goodIn_of _ (by decide +kernel)) ggX10_measure_X10_canMeasure
set_option maxRecDepth 20000 in
theorem ggX10_measure_X10_measures : GoodIn wsX10_measure wsX10_measures := goodIn_r _ [22, 23, 24, 25, 26, 27, 28, 29, 30, 31, 32, 33, 34, 35, 36, 37, 38, 39, 40, 41, 42, 43, 44, 45, 46, 47, 48, 49, 50, 51, 52, 53, 54, 55, 56, 57, 58, 59, 60, 61, 62, 63, 64, 65, 66, 67, 68, 69, 70, 71, 72, 73, 74, 75, 76, 77, 78, 79, 80] (by decide +kernel) (by decide +kernel)
set_option maxRecDepth 20000 in
theorem gX10_measure_X10_measures : GoodIn wsX10_measure (wsV RX10 489 RX10 yX10_measures wsX10_measures) := goodIn_app (goodIn_of _ (by decide +kernel)) ggX10_measure_X10_measures
theorem dX10_measure_0 : decode cX10_measure 0 = .ok (.aload_n 0, 1) := by decide +kernel
theorem dX10_measure_1 : decode cX10_measure 1 = .ok (.iload_n 1, 1) := by decide +kernel
theorem dX10_measure_2 : decode cX10_measure 2 = .ok (.iload_n 2, 1) := by decide +kernel
theorem dX10_measure_3 : decode cX10_measure 3 = .ok (.iload_n 3, 1) := by decide +kernel
theorem dX10_measure_4 : decode cX10_measure 4 = .ok (.invokevirtual 486, 3) := by decide +kernel
theorem dX10_measure_7 : decode cX10_measure 7 = .ok (.ifCond .ne 5, 3) := by decide +kernel
theorem dX10_measure_10 : decode cX10_measure 10 = .ok (.iconst 0, 1) := by decide +kernel
theorem dX10_measure_11 : decode cX10_measure 11 = .ok (.ireturn, 1) := by decide +kernel
theorem dX10_measure_12 : decode cX10_measure 12 = .ok (.aload_n 0, 1) := by decide +kernel
theorem dX10_measure_13 : decode cX10_measure 13 = .ok (.iload_n 1, 1) := by decide +kernel
theorem dX10_measure_14 : decode cX10_measure 14 = .ok (.iload_n 2, 1) := by decide +kernel
theorem dX10_measure_15 : decode cX10_measure 15 = .ok (.iload_n 3, 1) := by decide +kernel
theorem dX10_measure_16 : decode cX10_measure 16 = .ok (.invokevirtual 489, 3) := by decide +kernel
theorem dX10_measure_19 : decode cX10_measure 19 = .ok (.iconst 1, 1) := by decide +kernel
theorem dX10_measure_20 : decode cX10_measure 20 = .ok (.ireturn, 1) := by decide +kernel
theorem dX10_drawOf_0 : decode cX10_drawOf 0 = .ok (.aload_n 0, 1) := by decide +kernel
theorem dX10_drawOf_1 : decode cX10_drawOf 1 = .ok (.ldc2_w 493, 3) := by decide +kernel
theorem dX10_drawOf_4 : decode cX10_drawOf 4 = .ok (.aload_n 0, 1) := by decide +kernel
theorem dX10_drawOf_5 : decode cX10_drawOf 5 = .ok (.getfield 495, 3) := by decide +kernel
theorem dX10_drawOf_8 : decode cX10_drawOf 8 = .ok (.lmul, 1) := by decide +kernel
theorem dX10_drawOf_9 : decode cX10_drawOf 9 = .ok (.ldc2_w 498, 3) := by decide +kernel
theorem dX10_drawOf_12 : decode cX10_drawOf 12 = .ok (.ladd, 1) := by decide +kernel
theorem dX10_drawOf_13 : decode cX10_drawOf 13 = .ok (.ldc2_w 500, 3) := by decide +kernel
theorem dX10_drawOf_16 : decode cX10_drawOf 16 = .ok (.lrem, 1) := by decide +kernel
theorem dX10_drawOf_17 : decode cX10_drawOf 17 = .ok (.putfield 495, 3) := by decide +kernel
theorem dX10_drawOf_20 : decode cX10_drawOf 20 = .ok (.aload_n 0, 1) := by decide +kernel
theorem dX10_drawOf_21 : decode cX10_drawOf 21 = .ok (.getfield 495, 3) := by decide +kernel
theorem dX10_drawOf_24 : decode cX10_drawOf 24 = .ok (.ldc2_w 502, 3) := by decide +kernel
theorem dX10_drawOf_27 : decode cX10_drawOf 27 = .ok (.ldiv, 1) := by decide +kernel
theorem dX10_drawOf_28 : decode cX10_drawOf 28 = .ok (.iload_n 1, 1) := by decide +kernel
theorem dX10_drawOf_29 : decode cX10_drawOf 29 = .ok (.i2l, 1) := by decide +kernel
theorem dX10_drawOf_30 : decode cX10_drawOf 30 = .ok (.lrem, 1) := by decide +kernel
theorem dX10_drawOf_31 : decode cX10_drawOf 31 = .ok (.l2i, 1) := by decide +kernel
theorem dX10_drawOf_32 : decode cX10_drawOf 32 = .ok (.ireturn, 1) := by decide +kernel
theorem dX10_within_0 : decode cX10_within 0 = .ok (.iload_n 0, 1) := by decide +kernel
theorem dX10_within_1 : decode cX10_within 1 = .ok (.ifCond .ge 7, 3) := by decide +kernel
theorem dX10_within_4 : decode cX10_within 4 = .ok (.iconst 0, 1) := by decide +kernel
theorem dX10_within_5 : decode cX10_within 5 = .ok (.goto 17, 3) := by decide +kernel
theorem dX10_within_8 : decode cX10_within 8 = .ok (.iload_n 0, 1) := by decide +kernel
theorem dX10_within_9 : decode cX10_within 9 = .ok (.sipush 9999, 3) := by decide +kernel
theorem dX10_within_12 : decode cX10_within 12 = .ok (.if_icmp .le 9, 3) := by decide +kernel
theorem dX10_within_15 : decode cX10_within 15 = .ok (.sipush 9999, 3) := by decide +kernel
theorem dX10_within_18 : decode cX10_within 18 = .ok (.goto 4, 3) := by decide +kernel
theorem dX10_within_21 : decode cX10_within 21 = .ok (.iload_n 0, 1) := by decide +kernel
theorem dX10_within_22 : decode cX10_within 22 = .ok (.ireturn, 1) := by decide +kernel
set_option maxRecDepth 20000 in
theorem ggX10_slips_X10_isIn : GoodIn wsX10_slips wsX10_isIn := goodIn_r _ [8] (by decide +kernel) (by decide +kernel)
set_option maxRecDepth 20000 in
theorem gX10_slips_X10_isIn : GoodIn wsX10_slips (va_wsS RX10 183 yX10_isIn wsX10_isIn) := goodIn_app (goodIn_of _ (by decide +kernel)) ggX10_slips_X10_isIn
set_option maxRecDepth 20000 in
theorem ggX10_slips_X10_rows : GoodIn wsX10_slips wsX10_rows := goodIn_r _ [12, 13, 29, 30, 31, 32, 33, 34, 35, 36, 37, 38, 39, 40, 41, 42, 43, 44, 45, 46, 47, 48, 49, 50, 51, 52, 53, 54, 55, 56, 57, 58, 59, 60, 61, 62, 63, 64, 65, 66, 67, 68, 69, 70, 71, 72, 73, 74, 75, 76, 77, 78, 79, 80, 81, 82, 83, 84, 85] (by decide +kernel) (by decide +kernel)
set_option maxRecDepth 20000 in
theorem gX10_slips_X10_rows : GoodIn wsX10_slips (wsV RX10 265 RX10 yX10_rows wsX10_rows) := goodIn_app (goodIn_of _ (by decide +kernel)) ggX10_slips_X10_rows
set_option maxRecDepth 20000 in
theorem ggX10_slips_X10_drawOf : GoodIn wsX10_slips wsX10_drawOf := goodIn_r _ [17, 18, 3, 19, 20, 21, 29, 30, 31, 32, 33, 34, 35, 36, 37, 38, 39, 40, 41, 42, 43, 44, 45, 46, 47, 48, 49, 50, 51, 52, 53, 54, 55, 56, 57, 58, 59, 60, 61, 62, 63, 64, 65, 66, 67, 68, 69, 70, 71, 72, 73, 74, 75, 76, 77, 78, 79, 80, 81, 82, 83, 84, 85] (by decide +kernel) (by decide +kernel)
set_option maxRecDepth 20000 in
theorem gX10_slips_X10_drawOf : GoodIn wsX10_slips (wsV RX10 508 RX10 yX10_drawOf wsX10_drawOf) := goodIn_app (goodIn_of _ (by decide +kernel)) ggX10_slips_X10_drawOf
set_option maxRecDepth 20000 in
theorem ggX10_slips_X10_within : GoodIn wsX10_slips wsX10_within := goodIn_r _ [24] (by decide +kernel) (by decide +kernel)
set_option maxRecDepth 20000 in
theorem gX10_slips_X10_within : GoodIn wsX10_slips (va_wsS RX10 511 yX10_within wsX10_within) := goodIn_app (goodIn_of _ (by decide +kernel)) ggX10_slips_X10_within
set_option maxRecDepth 20000 in
theorem ggX10_slips_X10_measures : GoodIn wsX10_slips wsX10_measures := goodIn_r _ [28, 4, 29, 30, 31, 32, 33, 34, 35, 36, 37, 38, 39, 40, 41, 42, 43, 44, 45, 46, 47, 48, 49, 50, 51, 52, 53, 54, 55, 56, 57, 58, 59, 60, 61, 62, 63, 64, 65, 66, 67, 68, 69, 70, 71, 72, 73, 74, 75, 76, 77, 78, 79, 80, 81, 82, 83, 84, 85] (by decide +kernel) (by decide +kernel)
set_option maxRecDepth 20000 in
theorem gX10_slips_X10_measures : GoodIn wsX10_slips (wsV RX10 489 RX10 yX10_measures wsX10_measures) := goodIn_app (goodIn_of _ (by decide +kernel)) ggX10_slips_X10_measures
theorem dX10_slips_0 : decode cX10_slips 0 = .ok (.iload_n 1, 1) := by decide +kernel
theorem dX10_slips_1 : decode cX10_slips 1 = .ok (.i2l, 1) := by decide +kernel
theorem dX10_slips_2 : decode cX10_slips 2 = .ok (.lconst 1, 1) := by decide +kernel
theorem dX10_slips_3 : decode cX10_slips 3 = .ok (.ldc2_w 504, 3) := by decide +kernel
theorem dX10_slips_6 : decode cX10_slips 6 = .ok (.invokestatic 183, 3) := by decide +kernel
theorem dX10_slips_9 : decode cX10_slips 9 = .ok (.ifCond .eq 26, 3) := by decide +kernel
theorem dX10_slips_12 : decode cX10_slips 12 = .ok (.iload_n 2, 1) := by decide +kernel
theorem dX10_slips_13 : decode cX10_slips 13 = .ok (.i2l, 1) := by decide +kernel
theorem dX10_slips_14 : decode cX10_slips 14 = .ok (.lconst 0, 1) := by decide +kernel
theorem dX10_slips_15 : decode cX10_slips 15 = .ok (.ldc2_w 506, 3) := by decide +kernel
theorem dX10_slips_18 : decode cX10_slips 18 = .ok (.invokestatic 183, 3) := by decide +kernel
theorem dX10_slips_21 : decode cX10_slips 21 = .ok (.ifCond .eq 14, 3) := by decide +kernel
theorem dX10_slips_24 : decode cX10_slips 24 = .ok (.iload_n 3, 1) := by decide +kernel
theorem dX10_slips_25 : decode cX10_slips 25 = .ok (.ifCond .lt 10, 3) := by decide +kernel
theorem dX10_slips_28 : decode cX10_slips 28 = .ok (.aload_n 0, 1) := by decide +kernel
theorem dX10_slips_29 : decode cX10_slips 29 = .ok (.invokevirtual 265, 3) := by decide +kernel
theorem dX10_slips_32 : decode cX10_slips 32 = .ok (.ifCond .ne 5, 3) := by decide +kernel
theorem dX10_slips_35 : decode cX10_slips 35 = .ok (.iconst (-1), 1) := by decide +kernel
theorem dX10_slips_36 : decode cX10_slips 36 = .ok (.ireturn, 1) := by decide +kernel
theorem dX10_slips_37 : decode cX10_slips 37 = .ok (.aload_n 0, 1) := by decide +kernel
theorem dX10_slips_38 : decode cX10_slips 38 = .ok (.iload_n 3, 1) := by decide +kernel
theorem dX10_slips_39 : decode cX10_slips 39 = .ok (.i2l, 1) := by decide +kernel
theorem dX10_slips_40 : decode cX10_slips 40 = .ok (.putfield 495, 3) := by decide +kernel
theorem dX10_slips_43 : decode cX10_slips 43 = .ok (.iconst 0, 1) := by decide +kernel
theorem dX10_slips_44 : decode cX10_slips 44 = .ok (.istore 4, 2) := by decide +kernel
theorem dX10_slips_46 : decode cX10_slips 46 = .ok (.iload 4, 2) := by decide +kernel
theorem dX10_slips_48 : decode cX10_slips 48 = .ok (.iload_n 1, 1) := by decide +kernel
theorem dX10_slips_49 : decode cX10_slips 49 = .ok (.if_icmp .ge 89, 3) := by decide +kernel
theorem dX10_slips_52 : decode cX10_slips 52 = .ok (.aload_n 0, 1) := by decide +kernel
theorem dX10_slips_53 : decode cX10_slips 53 = .ok (.aload_n 0, 1) := by decide +kernel
theorem dX10_slips_54 : decode cX10_slips 54 = .ok (.invokevirtual 265, 3) := by decide +kernel
theorem dX10_slips_57 : decode cX10_slips 57 = .ok (.invokevirtual 508, 3) := by decide +kernel
theorem dX10_slips_60 : decode cX10_slips 60 = .ok (.istore 5, 2) := by decide +kernel
theorem dX10_slips_62 : decode cX10_slips 62 = .ok (.aload_n 0, 1) := by decide +kernel
theorem dX10_slips_63 : decode cX10_slips 63 = .ok (.getfield 85, 3) := by decide +kernel
theorem dX10_slips_66 : decode cX10_slips 66 = .ok (.bipush 120, 2) := by decide +kernel
theorem dX10_slips_68 : decode cX10_slips 68 = .ok (.iconst 2, 1) := by decide +kernel
theorem dX10_slips_69 : decode cX10_slips 69 = .ok (.iload 5, 2) := by decide +kernel
theorem dX10_slips_71 : decode cX10_slips 71 = .ok (.imul, 1) := by decide +kernel
theorem dX10_slips_72 : decode cX10_slips 72 = .ok (.iadd, 1) := by decide +kernel
theorem dX10_slips_73 : decode cX10_slips 73 = .ok (.iaload, 1) := by decide +kernel
theorem dX10_slips_74 : decode cX10_slips 74 = .ok (.aload_n 0, 1) := by decide +kernel
theorem dX10_slips_75 : decode cX10_slips 75 = .ok (.iconst 2, 1) := by decide +kernel
theorem dX10_slips_76 : decode cX10_slips 76 = .ok (.iload_n 2, 1) := by decide +kernel
theorem dX10_slips_77 : decode cX10_slips 77 = .ok (.imul, 1) := by decide +kernel
theorem dX10_slips_78 : decode cX10_slips 78 = .ok (.iconst 1, 1) := by decide +kernel
theorem dX10_slips_79 : decode cX10_slips 79 = .ok (.iadd, 1) := by decide +kernel
theorem dX10_slips_80 : decode cX10_slips 80 = .ok (.invokevirtual 508, 3) := by decide +kernel
theorem dX10_slips_83 : decode cX10_slips 83 = .ok (.iadd, 1) := by decide +kernel
theorem dX10_slips_84 : decode cX10_slips 84 = .ok (.iload_n 2, 1) := by decide +kernel
theorem dX10_slips_85 : decode cX10_slips 85 = .ok (.isub, 1) := by decide +kernel
theorem dX10_slips_86 : decode cX10_slips 86 = .ok (.istore 6, 2) := by decide +kernel
theorem dX10_slips_88 : decode cX10_slips 88 = .ok (.aload_n 0, 1) := by decide +kernel
theorem dX10_slips_89 : decode cX10_slips 89 = .ok (.getfield 85, 3) := by decide +kernel
theorem dX10_slips_92 : decode cX10_slips 92 = .ok (.bipush 120, 2) := by decide +kernel
theorem dX10_slips_94 : decode cX10_slips 94 = .ok (.iconst 2, 1) := by decide +kernel
theorem dX10_slips_95 : decode cX10_slips 95 = .ok (.iload 5, 2) := by decide +kernel
theorem dX10_slips_97 : decode cX10_slips 97 = .ok (.imul, 1) := by decide +kernel
theorem dX10_slips_98 : decode cX10_slips 98 = .ok (.iadd, 1) := by decide +kernel
theorem dX10_slips_99 : decode cX10_slips 99 = .ok (.iconst 1, 1) := by decide +kernel
theorem dX10_slips_100 : decode cX10_slips 100 = .ok (.iadd, 1) := by decide +kernel
theorem dX10_slips_101 : decode cX10_slips 101 = .ok (.iaload, 1) := by decide +kernel
theorem dX10_slips_102 : decode cX10_slips 102 = .ok (.aload_n 0, 1) := by decide +kernel
theorem dX10_slips_103 : decode cX10_slips 103 = .ok (.iconst 2, 1) := by decide +kernel
theorem dX10_slips_104 : decode cX10_slips 104 = .ok (.iload_n 2, 1) := by decide +kernel
theorem dX10_slips_105 : decode cX10_slips 105 = .ok (.imul, 1) := by decide +kernel
theorem dX10_slips_106 : decode cX10_slips 106 = .ok (.iconst 1, 1) := by decide +kernel
theorem dX10_slips_107 : decode cX10_slips 107 = .ok (.iadd, 1) := by decide +kernel
theorem dX10_slips_108 : decode cX10_slips 108 = .ok (.invokevirtual 508, 3) := by decide +kernel
theorem dX10_slips_111 : decode cX10_slips 111 = .ok (.iadd, 1) := by decide +kernel
theorem dX10_slips_112 : decode cX10_slips 112 = .ok (.iload_n 2, 1) := by decide +kernel
theorem dX10_slips_113 : decode cX10_slips 113 = .ok (.isub, 1) := by decide +kernel
theorem dX10_slips_114 : decode cX10_slips 114 = .ok (.istore 7, 2) := by decide +kernel
theorem dX10_slips_116 : decode cX10_slips 116 = .ok (.aload_n 0, 1) := by decide +kernel
theorem dX10_slips_117 : decode cX10_slips 117 = .ok (.iload 5, 2) := by decide +kernel
theorem dX10_slips_119 : decode cX10_slips 119 = .ok (.iload 6, 2) := by decide +kernel
theorem dX10_slips_121 : decode cX10_slips 121 = .ok (.invokestatic 511, 3) := by decide +kernel
theorem dX10_slips_124 : decode cX10_slips 124 = .ok (.iload 7, 2) := by decide +kernel
theorem dX10_slips_126 : decode cX10_slips 126 = .ok (.invokestatic 511, 3) := by decide +kernel
theorem dX10_slips_129 : decode cX10_slips 129 = .ok (.invokevirtual 489, 3) := by decide +kernel
theorem dX10_slips_132 : decode cX10_slips 132 = .ok (.iinc 4 1, 3) := by decide +kernel
theorem dX10_slips_135 : decode cX10_slips 135 = .ok (.goto (-89), 3) := by decide +kernel
theorem dX10_slips_138 : decode cX10_slips 138 = .ok (.iconst 3, 1) := by decide +kernel
theorem dX10_slips_139 : decode cX10_slips 139 = .ok (.iload_n 1, 1) := by decide +kernel
theorem dX10_slips_140 : decode cX10_slips 140 = .ok (.imul, 1) := by decide +kernel
theorem dX10_slips_141 : decode cX10_slips 141 = .ok (.ireturn, 1) := by decide +kernel
theorem dX10_writes_0 : decode cX10_writes 0 = .ok (.aload_n 0, 1) := by decide +kernel
theorem dX10_writes_1 : decode cX10_writes 1 = .ok (.getfield 137, 3) := by decide +kernel
theorem dX10_writes_4 : decode cX10_writes 4 = .ok (.aload_n 0, 1) := by decide +kernel
theorem dX10_writes_5 : decode cX10_writes 5 = .ok (.getfield 514, 3) := by decide +kernel
theorem dX10_writes_8 : decode cX10_writes 8 = .ok (.iload_n 1, 1) := by decide +kernel
theorem dX10_writes_9 : decode cX10_writes 9 = .ok (.iastore, 1) := by decide +kernel
theorem dX10_writes_10 : decode cX10_writes 10 = .ok (.aload_n 0, 1) := by decide +kernel
theorem dX10_writes_11 : decode cX10_writes 11 = .ok (.dup, 1) := by decide +kernel
theorem dX10_writes_12 : decode cX10_writes 12 = .ok (.getfield 514, 3) := by decide +kernel
theorem dX10_writes_15 : decode cX10_writes 15 = .ok (.iconst 1, 1) := by decide +kernel
theorem dX10_writes_16 : decode cX10_writes 16 = .ok (.iadd, 1) := by decide +kernel
theorem dX10_writes_17 : decode cX10_writes 17 = .ok (.putfield 514, 3) := by decide +kernel
theorem dX10_writes_20 : decode cX10_writes 20 = .ok (.return_, 1) := by decide +kernel
set_option maxRecDepth 20000 in
theorem ggX10_writesFour_X10_writes : GoodIn wsX10_writesFour wsX10_writes := goodIn_r _ [5, 6, 7, 8, 9, 10, 11, 12, 13, 14, 15, 16, 17, 18, 19, 20, 21, 22, 23, 24, 25, 26, 27, 28, 29, 30, 31, 32, 33, 34, 35, 36, 37, 38, 39, 40, 41, 42, 43, 44, 45, 46, 47, 48, 49, 50, 51, 52, 53, 54, 55, 56, 57, 58, 59, 60, 61, 62, 63, 64] (by decide +kernel) (by decide +kernel)
set_option maxRecDepth 20000 in
theorem gX10_writesFour_X10_writes : GoodIn wsX10_writesFour (wsV RX10 517 RX10 yX10_writes wsX10_writes) := goodIn_app (goodIn_of _ (by decide +kernel)) ggX10_writesFour_X10_writes
theorem dX10_writesFour_0 : decode cX10_writesFour 0 = .ok (.bipush 24, 2) := by decide +kernel
theorem dX10_writesFour_2 : decode cX10_writesFour 2 = .ok (.istore_n 2, 1) := by decide +kernel
theorem dX10_writesFour_3 : decode cX10_writesFour 3 = .ok (.iload_n 2, 1) := by decide +kernel
theorem dX10_writesFour_4 : decode cX10_writesFour 4 = .ok (.ifCond .lt 20, 3) := by decide +kernel
theorem dX10_writesFour_7 : decode cX10_writesFour 7 = .ok (.aload_n 0, 1) := by decide +kernel
theorem dX10_writesFour_8 : decode cX10_writesFour 8 = .ok (.iload_n 1, 1) := by decide +kernel
theorem dX10_writesFour_9 : decode cX10_writesFour 9 = .ok (.iload_n 2, 1) := by decide +kernel
theorem dX10_writesFour_10 : decode cX10_writesFour 10 = .ok (.ishr, 1) := by decide +kernel
theorem dX10_writesFour_11 : decode cX10_writesFour 11 = .ok (.sipush 255, 3) := by decide +kernel
theorem dX10_writesFour_14 : decode cX10_writesFour 14 = .ok (.iand, 1) := by decide +kernel
theorem dX10_writesFour_15 : decode cX10_writesFour 15 = .ok (.invokevirtual 517, 3) := by decide +kernel
theorem dX10_writesFour_18 : decode cX10_writesFour 18 = .ok (.iinc 2 (-8), 3) := by decide +kernel
theorem dX10_writesFour_21 : decode cX10_writesFour 21 = .ok (.goto (-18), 3) := by decide +kernel
theorem dX10_writesFour_24 : decode cX10_writesFour 24 = .ok (.return_, 1) := by decide +kernel
theorem dX10_checked_0 : decode cX10_checked 0 = .ok (.bipush 45, 2) := by decide +kernel
theorem dX10_checked_2 : decode cX10_checked 2 = .ok (.istore_n 2, 1) := by decide +kernel
theorem dX10_checked_3 : decode cX10_checked 3 = .ok (.iconst 0, 1) := by decide +kernel
theorem dX10_checked_4 : decode cX10_checked 4 = .ok (.istore_n 3, 1) := by decide +kernel
theorem dX10_checked_5 : decode cX10_checked 5 = .ok (.iload_n 3, 1) := by decide +kernel
theorem dX10_checked_6 : decode cX10_checked 6 = .ok (.iload_n 1, 1) := by decide +kernel
theorem dX10_checked_7 : decode cX10_checked 7 = .ok (.if_icmp .ge 21, 3) := by decide +kernel
theorem dX10_checked_10 : decode cX10_checked 10 = .ok (.iconst 5, 1) := by decide +kernel
theorem dX10_checked_11 : decode cX10_checked 11 = .ok (.iload_n 2, 1) := by decide +kernel
theorem dX10_checked_12 : decode cX10_checked 12 = .ok (.imul, 1) := by decide +kernel
theorem dX10_checked_13 : decode cX10_checked 13 = .ok (.aload_n 0, 1) := by decide +kernel
theorem dX10_checked_14 : decode cX10_checked 14 = .ok (.iload_n 3, 1) := by decide +kernel
theorem dX10_checked_15 : decode cX10_checked 15 = .ok (.iaload, 1) := by decide +kernel
theorem dX10_checked_16 : decode cX10_checked 16 = .ok (.iadd, 1) := by decide +kernel
theorem dX10_checked_17 : decode cX10_checked 17 = .ok (.sipush 241, 3) := by decide +kernel
theorem dX10_checked_20 : decode cX10_checked 20 = .ok (.irem, 1) := by decide +kernel
theorem dX10_checked_21 : decode cX10_checked 21 = .ok (.istore_n 2, 1) := by decide +kernel
theorem dX10_checked_22 : decode cX10_checked 22 = .ok (.iinc 3 1, 3) := by decide +kernel
theorem dX10_checked_25 : decode cX10_checked 25 = .ok (.goto (-20), 3) := by decide +kernel
theorem dX10_checked_28 : decode cX10_checked 28 = .ok (.iload_n 2, 1) := by decide +kernel
theorem dX10_checked_29 : decode cX10_checked 29 = .ok (.ireturn, 1) := by decide +kernel
set_option maxRecDepth 20000 in
theorem ggX10_writesPlace_X10_writesFour : GoodIn wsX10_writesPlace wsX10_writesFour := goodIn_r _ [6, 7, 8, 9, 5, 10, 11, 12, 13, 14, 15, 16, 17, 18, 19, 20, 21, 22, 23, 24, 25, 26, 27, 28, 29, 30, 31, 32, 33, 34, 35, 36, 37, 38, 39, 40, 41, 42, 43, 44, 45, 46, 47, 48, 49, 50, 51, 52, 53, 54, 55, 56, 57, 58, 59, 60, 61, 62, 63, 64, 65, 66, 67, 68, 69] (by decide +kernel) (by decide +kernel)
set_option maxRecDepth 20000 in
theorem gX10_writesPlace_X10_writesFour : GoodIn wsX10_writesPlace (wsV RX10 520 RX10 yX10_writesFour wsX10_writesFour) := goodIn_app (goodIn_of _ (by decide +kernel)) ggX10_writesPlace_X10_writesFour
theorem dX10_writesPlace_0 : decode cX10_writesPlace 0 = .ok (.aload_n 0, 1) := by decide +kernel
theorem dX10_writesPlace_1 : decode cX10_writesPlace 1 = .ok (.aload_n 0, 1) := by decide +kernel
theorem dX10_writesPlace_2 : decode cX10_writesPlace 2 = .ok (.getfield 101, 3) := by decide +kernel
theorem dX10_writesPlace_5 : decode cX10_writesPlace 5 = .ok (.iload_n 1, 1) := by decide +kernel
theorem dX10_writesPlace_6 : decode cX10_writesPlace 6 = .ok (.iaload, 1) := by decide +kernel
theorem dX10_writesPlace_7 : decode cX10_writesPlace 7 = .ok (.invokevirtual 520, 3) := by decide +kernel
theorem dX10_writesPlace_10 : decode cX10_writesPlace 10 = .ok (.aload_n 0, 1) := by decide +kernel
theorem dX10_writesPlace_11 : decode cX10_writesPlace 11 = .ok (.aload_n 0, 1) := by decide +kernel
theorem dX10_writesPlace_12 : decode cX10_writesPlace 12 = .ok (.getfield 101, 3) := by decide +kernel
theorem dX10_writesPlace_15 : decode cX10_writesPlace 15 = .ok (.bipush 38, 2) := by decide +kernel
theorem dX10_writesPlace_17 : decode cX10_writesPlace 17 = .ok (.iload_n 1, 1) := by decide +kernel
theorem dX10_writesPlace_18 : decode cX10_writesPlace 18 = .ok (.iadd, 1) := by decide +kernel
theorem dX10_writesPlace_19 : decode cX10_writesPlace 19 = .ok (.iaload, 1) := by decide +kernel
theorem dX10_writesPlace_20 : decode cX10_writesPlace 20 = .ok (.invokevirtual 520, 3) := by decide +kernel
theorem dX10_writesPlace_23 : decode cX10_writesPlace 23 = .ok (.return_, 1) := by decide +kernel
set_option maxRecDepth 20000 in
theorem ggX10_image_X10_writes : GoodIn wsX10_image wsX10_writes := goodIn_r _ [11, 6, 1, 36, 37, 38, 39, 40, 41, 42, 43, 44, 45, 46, 47, 48, 49, 50, 51, 52, 53, 54, 55, 56, 57, 58, 59, 60, 61, 62, 63, 64, 65, 66, 67, 68, 69, 70, 71, 72, 73, 74, 75, 76, 77, 78, 79, 80, 81, 82, 83, 84, 85, 86, 87, 88, 89, 90, 91, 92] (by decide +kernel) (by decide +kernel)
set_option maxRecDepth 20000 in
theorem gX10_image_X10_writes : GoodIn wsX10_image (wsV RX10 517 RX10 yX10_writes wsX10_writes) := goodIn_app (goodIn_of _ (by decide +kernel)) ggX10_image_X10_writes
set_option maxRecDepth 20000 in
theorem ggX10_image_X10_pictures : GoodIn wsX10_image wsX10_pictures := goodIn_r _ [15, 4, 36, 37, 38, 39, 40, 41, 42, 43, 44, 45, 46, 47, 48, 49, 50, 51, 52, 53, 54, 55, 56, 57, 58, 59, 60, 61, 62, 63, 64, 65, 66, 67, 68, 69, 70, 71, 72, 73, 74, 75, 76, 77, 78, 79, 80, 81, 82, 83, 84, 85, 86, 87, 88, 89, 90, 91, 92] (by decide +kernel) (by decide +kernel)
set_option maxRecDepth 20000 in
theorem gX10_image_X10_pictures : GoodIn wsX10_image (wsV RX10 259 RX10 yX10_pictures wsX10_pictures) := goodIn_app (goodIn_of _ (by decide +kernel)) ggX10_image_X10_pictures
set_option maxRecDepth 20000 in
theorem ggX10_image_X10_writesPlace : GoodIn wsX10_image wsX10_writesPlace := goodIn_r _ [19, 20, 21, 22, 23, 10, 24, 7, 8, 9, 11, 6, 1, 36, 37, 38, 39, 40, 41, 42, 43, 44, 45, 46, 47, 48, 49, 50, 51, 52, 53, 54, 55, 56, 57, 58, 59, 60, 61, 62, 63, 64, 65, 66, 67, 68, 69, 70, 71, 72, 73, 74, 75, 76, 77, 78, 79, 80, 81, 82, 83, 84, 85, 86, 87, 88, 89, 90, 91, 92] (by decide +kernel) (by decide +kernel)
set_option maxRecDepth 20000 in
theorem gX10_image_X10_writesPlace : GoodIn wsX10_image (wsV RX10 523 RX10 yX10_writesPlace wsX10_writesPlace) := goodIn_app (goodIn_of _ (by decide +kernel)) ggX10_image_X10_writesPlace
set_option maxRecDepth 20000 in
theorem ggX10_image_X10_points : GoodIn wsX10_image wsX10_points := goodIn_r _ [28, 4, 36, 37, 38, 39, 40, 41, 42, 43, 44, 45, 46, 47, 48, 49, 50, 51, 52, 53, 54, 55, 56, 57, 58, 59, 60, 61, 62, 63, 64, 65, 66, 67, 68, 69, 70, 71, 72, 73, 74, 75, 76, 77, 78, 79, 80, 81, 82, 83, 84, 85, 86, 87, 88, 89, 90, 91, 92] (by decide +kernel) (by decide +kernel)
set_option maxRecDepth 20000 in
theorem gX10_image_X10_points : GoodIn wsX10_image (wsV RX10 262 RX10 yX10_points wsX10_points) := goodIn_app (goodIn_of _ (by decide +kernel)) ggX10_image_X10_points
set_option maxRecDepth 20000 in
theorem ggX10_image_X10_rows : GoodIn wsX10_image wsX10_rows := goodIn_r _ [32, 4, 36, 37, 38, 39, 40, 41, 42, 43, 44, 45, 46, 47, 48, 49, 50, 51, 52, 53, 54, 55, 56, 57, 58, 59, 60, 61, 62, 63, 64, 65, 66, 67, 68, 69, 70, 71, 72, 73, 74, 75, 76, 77, 78, 79, 80, 81, 82, 83, 84, 85, 86, 87, 88, 89, 90, 91, 92] (by decide +kernel) (by decide +kernel)
set_option maxRecDepth 20000 in
theorem gX10_image_X10_rows : GoodIn wsX10_image (wsV RX10 265 RX10 yX10_rows wsX10_rows) := goodIn_app (goodIn_of _ (by decide +kernel)) ggX10_image_X10_rows
set_option maxRecDepth 20000 in
theorem ggX10_image_X10_checked : GoodIn wsX10_image wsX10_checked := goodIn_r _ [35] (by decide +kernel) (by decide +kernel)
set_option maxRecDepth 20000 in
theorem gX10_image_X10_checked : GoodIn wsX10_image (va_wsS RX10 526 yX10_checked wsX10_checked) := goodIn_app (goodIn_of _ (by decide +kernel)) ggX10_image_X10_checked
theorem dX10_image_0 : decode cX10_image 0 = .ok (.aload_n 0, 1) := by decide +kernel
theorem dX10_image_1 : decode cX10_image 1 = .ok (.iconst 0, 1) := by decide +kernel
theorem dX10_image_2 : decode cX10_image 2 = .ok (.putfield 514, 3) := by decide +kernel
theorem dX10_image_5 : decode cX10_image 5 = .ok (.aload_n 0, 1) := by decide +kernel
theorem dX10_image_6 : decode cX10_image 6 = .ok (.aload_n 0, 1) := by decide +kernel
theorem dX10_image_7 : decode cX10_image 7 = .ok (.getfield 95, 3) := by decide +kernel
theorem dX10_image_10 : decode cX10_image 10 = .ok (.invokevirtual 517, 3) := by decide +kernel
theorem dX10_image_13 : decode cX10_image 13 = .ok (.iconst 0, 1) := by decide +kernel
theorem dX10_image_14 : decode cX10_image 14 = .ok (.istore_n 1, 1) := by decide +kernel
theorem dX10_image_15 : decode cX10_image 15 = .ok (.iload_n 1, 1) := by decide +kernel
theorem dX10_image_16 : decode cX10_image 16 = .ok (.aload_n 0, 1) := by decide +kernel
theorem dX10_image_17 : decode cX10_image 17 = .ok (.invokevirtual 259, 3) := by decide +kernel
theorem dX10_image_20 : decode cX10_image 20 = .ok (.if_icmp .ge 24, 3) := by decide +kernel
theorem dX10_image_23 : decode cX10_image 23 = .ok (.aload_n 0, 1) := by decide +kernel
theorem dX10_image_24 : decode cX10_image 24 = .ok (.aload_n 0, 1) := by decide +kernel
theorem dX10_image_25 : decode cX10_image 25 = .ok (.getfield 98, 3) := by decide +kernel
theorem dX10_image_28 : decode cX10_image 28 = .ok (.iload_n 1, 1) := by decide +kernel
theorem dX10_image_29 : decode cX10_image 29 = .ok (.iaload, 1) := by decide +kernel
theorem dX10_image_30 : decode cX10_image 30 = .ok (.invokevirtual 517, 3) := by decide +kernel
theorem dX10_image_33 : decode cX10_image 33 = .ok (.aload_n 0, 1) := by decide +kernel
theorem dX10_image_34 : decode cX10_image 34 = .ok (.iload_n 1, 1) := by decide +kernel
theorem dX10_image_35 : decode cX10_image 35 = .ok (.invokevirtual 523, 3) := by decide +kernel
theorem dX10_image_38 : decode cX10_image 38 = .ok (.iinc 1 1, 3) := by decide +kernel
theorem dX10_image_41 : decode cX10_image 41 = .ok (.goto (-26), 3) := by decide +kernel
theorem dX10_image_44 : decode cX10_image 44 = .ok (.iconst 0, 1) := by decide +kernel
theorem dX10_image_45 : decode cX10_image 45 = .ok (.istore_n 1, 1) := by decide +kernel
theorem dX10_image_46 : decode cX10_image 46 = .ok (.iload_n 1, 1) := by decide +kernel
theorem dX10_image_47 : decode cX10_image 47 = .ok (.aload_n 0, 1) := by decide +kernel
theorem dX10_image_48 : decode cX10_image 48 = .ok (.invokevirtual 262, 3) := by decide +kernel
theorem dX10_image_51 : decode cX10_image 51 = .ok (.if_icmp .ge 17, 3) := by decide +kernel
theorem dX10_image_54 : decode cX10_image 54 = .ok (.aload_n 0, 1) := by decide +kernel
theorem dX10_image_55 : decode cX10_image 55 = .ok (.bipush 12, 2) := by decide +kernel
theorem dX10_image_57 : decode cX10_image 57 = .ok (.iload_n 1, 1) := by decide +kernel
theorem dX10_image_58 : decode cX10_image 58 = .ok (.iadd, 1) := by decide +kernel
theorem dX10_image_59 : decode cX10_image 59 = .ok (.invokevirtual 523, 3) := by decide +kernel
theorem dX10_image_62 : decode cX10_image 62 = .ok (.iinc 1 1, 3) := by decide +kernel
theorem dX10_image_65 : decode cX10_image 65 = .ok (.goto (-19), 3) := by decide +kernel
theorem dX10_image_68 : decode cX10_image 68 = .ok (.iconst 0, 1) := by decide +kernel
theorem dX10_image_69 : decode cX10_image 69 = .ok (.istore_n 1, 1) := by decide +kernel
theorem dX10_image_70 : decode cX10_image 70 = .ok (.iload_n 1, 1) := by decide +kernel
theorem dX10_image_71 : decode cX10_image 71 = .ok (.aload_n 0, 1) := by decide +kernel
theorem dX10_image_72 : decode cX10_image 72 = .ok (.getfield 58, 3) := by decide +kernel
theorem dX10_image_75 : decode cX10_image 75 = .ok (.bipush 6, 2) := by decide +kernel
theorem dX10_image_77 : decode cX10_image 77 = .ok (.iaload, 1) := by decide +kernel
theorem dX10_image_78 : decode cX10_image 78 = .ok (.if_icmp .ge 17, 3) := by decide +kernel
theorem dX10_image_81 : decode cX10_image 81 = .ok (.aload_n 0, 1) := by decide +kernel
theorem dX10_image_82 : decode cX10_image 82 = .ok (.bipush 32, 2) := by decide +kernel
theorem dX10_image_84 : decode cX10_image 84 = .ok (.iload_n 1, 1) := by decide +kernel
theorem dX10_image_85 : decode cX10_image 85 = .ok (.iadd, 1) := by decide +kernel
theorem dX10_image_86 : decode cX10_image 86 = .ok (.invokevirtual 523, 3) := by decide +kernel
theorem dX10_image_89 : decode cX10_image 89 = .ok (.iinc 1 1, 3) := by decide +kernel
theorem dX10_image_92 : decode cX10_image 92 = .ok (.goto (-22), 3) := by decide +kernel
theorem dX10_image_95 : decode cX10_image 95 = .ok (.iconst 0, 1) := by decide +kernel
theorem dX10_image_96 : decode cX10_image 96 = .ok (.istore_n 1, 1) := by decide +kernel
theorem dX10_image_97 : decode cX10_image 97 = .ok (.iload_n 1, 1) := by decide +kernel
theorem dX10_image_98 : decode cX10_image 98 = .ok (.aload_n 0, 1) := by decide +kernel
theorem dX10_image_99 : decode cX10_image 99 = .ok (.invokevirtual 265, 3) := by decide +kernel
theorem dX10_image_102 : decode cX10_image 102 = .ok (.if_icmp .ge 27, 3) := by decide +kernel
theorem dX10_image_105 : decode cX10_image 105 = .ok (.aload_n 0, 1) := by decide +kernel
theorem dX10_image_106 : decode cX10_image 106 = .ok (.aload_n 0, 1) := by decide +kernel
theorem dX10_image_107 : decode cX10_image 107 = .ok (.getfield 91, 3) := by decide +kernel
theorem dX10_image_110 : decode cX10_image 110 = .ok (.iload_n 1, 1) := by decide +kernel
theorem dX10_image_111 : decode cX10_image 111 = .ok (.baload, 1) := by decide +kernel
theorem dX10_image_112 : decode cX10_image 112 = .ok (.ifCond .eq 7, 3) := by decide +kernel
theorem dX10_image_115 : decode cX10_image 115 = .ok (.iconst 1, 1) := by decide +kernel
theorem dX10_image_116 : decode cX10_image 116 = .ok (.goto 4, 3) := by decide +kernel
theorem dX10_image_119 : decode cX10_image 119 = .ok (.iconst 0, 1) := by decide +kernel
theorem dX10_image_120 : decode cX10_image 120 = .ok (.invokevirtual 517, 3) := by decide +kernel
theorem dX10_image_123 : decode cX10_image 123 = .ok (.iinc 1 1, 3) := by decide +kernel
theorem dX10_image_126 : decode cX10_image 126 = .ok (.goto (-29), 3) := by decide +kernel
theorem dX10_image_129 : decode cX10_image 129 = .ok (.aload_n 0, 1) := by decide +kernel
theorem dX10_image_130 : decode cX10_image 130 = .ok (.aload_n 0, 1) := by decide +kernel
theorem dX10_image_131 : decode cX10_image 131 = .ok (.getfield 137, 3) := by decide +kernel
theorem dX10_image_134 : decode cX10_image 134 = .ok (.aload_n 0, 1) := by decide +kernel
theorem dX10_image_135 : decode cX10_image 135 = .ok (.getfield 514, 3) := by decide +kernel
theorem dX10_image_138 : decode cX10_image 138 = .ok (.invokestatic 526, 3) := by decide +kernel
theorem dX10_image_141 : decode cX10_image 141 = .ok (.invokevirtual 517, 3) := by decide +kernel
theorem dX10_image_144 : decode cX10_image 144 = .ok (.aload_n 0, 1) := by decide +kernel
theorem dX10_image_145 : decode cX10_image 145 = .ok (.getfield 514, 3) := by decide +kernel
theorem dX10_image_148 : decode cX10_image 148 = .ok (.ireturn, 1) := by decide +kernel
theorem dX10_octet_0 : decode cX10_octet 0 = .ok (.iload_n 1, 1) := by decide +kernel
theorem dX10_octet_1 : decode cX10_octet 1 = .ok (.ifCond .lt 20, 3) := by decide +kernel
theorem dX10_octet_4 : decode cX10_octet 4 = .ok (.iload_n 1, 1) := by decide +kernel
theorem dX10_octet_5 : decode cX10_octet 5 = .ok (.aload_n 0, 1) := by decide +kernel
theorem dX10_octet_6 : decode cX10_octet 6 = .ok (.getfield 514, 3) := by decide +kernel
theorem dX10_octet_9 : decode cX10_octet 9 = .ok (.if_icmp .ge 12, 3) := by decide +kernel
theorem dX10_octet_12 : decode cX10_octet 12 = .ok (.aload_n 0, 1) := by decide +kernel
theorem dX10_octet_13 : decode cX10_octet 13 = .ok (.getfield 137, 3) := by decide +kernel
theorem dX10_octet_16 : decode cX10_octet 16 = .ok (.iload_n 1, 1) := by decide +kernel
theorem dX10_octet_17 : decode cX10_octet 17 = .ok (.iaload, 1) := by decide +kernel
theorem dX10_octet_18 : decode cX10_octet 18 = .ok (.goto 4, 3) := by decide +kernel
theorem dX10_octet_21 : decode cX10_octet 21 = .ok (.iconst (-1), 1) := by decide +kernel
theorem dX10_octet_22 : decode cX10_octet 22 = .ok (.ireturn, 1) := by decide +kernel
theorem dX10_fourAt_0 : decode cX10_fourAt 0 = .ok (.aload_n 0, 1) := by decide +kernel
theorem dX10_fourAt_1 : decode cX10_fourAt 1 = .ok (.getfield 7, 3) := by decide +kernel
theorem dX10_fourAt_4 : decode cX10_fourAt 4 = .ok (.iload_n 1, 1) := by decide +kernel
theorem dX10_fourAt_5 : decode cX10_fourAt 5 = .ok (.iaload, 1) := by decide +kernel
theorem dX10_fourAt_6 : decode cX10_fourAt 6 = .ok (.bipush 24, 2) := by decide +kernel
theorem dX10_fourAt_8 : decode cX10_fourAt 8 = .ok (.ishl, 1) := by decide +kernel
theorem dX10_fourAt_9 : decode cX10_fourAt 9 = .ok (.aload_n 0, 1) := by decide +kernel
theorem dX10_fourAt_10 : decode cX10_fourAt 10 = .ok (.getfield 7, 3) := by decide +kernel
theorem dX10_fourAt_13 : decode cX10_fourAt 13 = .ok (.iload_n 1, 1) := by decide +kernel
theorem dX10_fourAt_14 : decode cX10_fourAt 14 = .ok (.iconst 1, 1) := by decide +kernel
theorem dX10_fourAt_15 : decode cX10_fourAt 15 = .ok (.iadd, 1) := by decide +kernel
theorem dX10_fourAt_16 : decode cX10_fourAt 16 = .ok (.iaload, 1) := by decide +kernel
theorem dX10_fourAt_17 : decode cX10_fourAt 17 = .ok (.bipush 16, 2) := by decide +kernel
theorem dX10_fourAt_19 : decode cX10_fourAt 19 = .ok (.ishl, 1) := by decide +kernel
theorem dX10_fourAt_20 : decode cX10_fourAt 20 = .ok (.iadd, 1) := by decide +kernel
theorem dX10_fourAt_21 : decode cX10_fourAt 21 = .ok (.aload_n 0, 1) := by decide +kernel
theorem dX10_fourAt_22 : decode cX10_fourAt 22 = .ok (.getfield 7, 3) := by decide +kernel
theorem dX10_fourAt_25 : decode cX10_fourAt 25 = .ok (.iload_n 1, 1) := by decide +kernel
theorem dX10_fourAt_26 : decode cX10_fourAt 26 = .ok (.iconst 2, 1) := by decide +kernel
theorem dX10_fourAt_27 : decode cX10_fourAt 27 = .ok (.iadd, 1) := by decide +kernel
theorem dX10_fourAt_28 : decode cX10_fourAt 28 = .ok (.iaload, 1) := by decide +kernel
theorem dX10_fourAt_29 : decode cX10_fourAt 29 = .ok (.bipush 8, 2) := by decide +kernel
theorem dX10_fourAt_31 : decode cX10_fourAt 31 = .ok (.ishl, 1) := by decide +kernel
theorem dX10_fourAt_32 : decode cX10_fourAt 32 = .ok (.iadd, 1) := by decide +kernel
theorem dX10_fourAt_33 : decode cX10_fourAt 33 = .ok (.aload_n 0, 1) := by decide +kernel
theorem dX10_fourAt_34 : decode cX10_fourAt 34 = .ok (.getfield 7, 3) := by decide +kernel
theorem dX10_fourAt_37 : decode cX10_fourAt 37 = .ok (.iload_n 1, 1) := by decide +kernel
theorem dX10_fourAt_38 : decode cX10_fourAt 38 = .ok (.iconst 3, 1) := by decide +kernel
theorem dX10_fourAt_39 : decode cX10_fourAt 39 = .ok (.iadd, 1) := by decide +kernel
theorem dX10_fourAt_40 : decode cX10_fourAt 40 = .ok (.iaload, 1) := by decide +kernel
theorem dX10_fourAt_41 : decode cX10_fourAt 41 = .ok (.iadd, 1) := by decide +kernel
theorem dX10_fourAt_42 : decode cX10_fourAt 42 = .ok (.ireturn, 1) := by decide +kernel
set_option maxRecDepth 20000 in
theorem ggX10_canBe_X10_fourAt : GoodIn wsX10_canBe wsX10_fourAt := goodIn_r _ [7, 8, 12, 13, 14, 15, 16, 17, 18, 19, 20, 21, 22, 23, 24, 25, 26, 27, 28, 29, 30, 31, 32, 33, 34, 35, 36, 37, 38, 39, 40, 41, 42, 43, 44, 45, 46, 47, 48, 49, 50, 51, 52, 53, 54, 55, 56, 57, 58, 59, 60, 61, 62, 63, 64, 65, 66, 67, 68] (by decide +kernel) (by decide +kernel)
set_option maxRecDepth 20000 in
theorem gX10_canBe_X10_fourAt : GoodIn wsX10_canBe (wsV RX10 530 RX10 yX10_fourAt wsX10_fourAt) := goodIn_app (goodIn_of _ (by decide +kernel)) ggX10_canBe_X10_fourAt
set_option maxRecDepth 20000 in
theorem ggX10_canBe_X10_isIn : GoodIn wsX10_canBe wsX10_isIn := goodIn_r _ [11] (by decide +kernel) (by decide +kernel)
set_option maxRecDepth 20000 in
theorem gX10_canBe_X10_isIn : GoodIn wsX10_canBe (va_wsS RX10 183 yX10_isIn wsX10_isIn) := goodIn_app (goodIn_of _ (by decide +kernel)) ggX10_canBe_X10_isIn
theorem dX10_canBe_0 : decode cX10_canBe 0 = .ok (.aload_n 0, 1) := by decide +kernel
theorem dX10_canBe_1 : decode cX10_canBe 1 = .ok (.iload_n 1, 1) := by decide +kernel
theorem dX10_canBe_2 : decode cX10_canBe 2 = .ok (.invokevirtual 530, 3) := by decide +kernel
theorem dX10_canBe_5 : decode cX10_canBe 5 = .ok (.istore 5, 2) := by decide +kernel
theorem dX10_canBe_7 : decode cX10_canBe 7 = .ok (.aload_n 0, 1) := by decide +kernel
theorem dX10_canBe_8 : decode cX10_canBe 8 = .ok (.iload_n 1, 1) := by decide +kernel
theorem dX10_canBe_9 : decode cX10_canBe 9 = .ok (.iconst 4, 1) := by decide +kernel
theorem dX10_canBe_10 : decode cX10_canBe 10 = .ok (.iadd, 1) := by decide +kernel
theorem dX10_canBe_11 : decode cX10_canBe 11 = .ok (.invokevirtual 530, 3) := by decide +kernel
theorem dX10_canBe_14 : decode cX10_canBe 14 = .ok (.istore 6, 2) := by decide +kernel
theorem dX10_canBe_16 : decode cX10_canBe 16 = .ok (.iload_n 2, 1) := by decide +kernel
theorem dX10_canBe_17 : decode cX10_canBe 17 = .ok (.ifCond .eq 22, 3) := by decide +kernel
theorem dX10_canBe_20 : decode cX10_canBe 20 = .ok (.iload 5, 2) := by decide +kernel
theorem dX10_canBe_22 : decode cX10_canBe 22 = .ok (.iload_n 3, 1) := by decide +kernel
theorem dX10_canBe_23 : decode cX10_canBe 23 = .ok (.if_icmp .ne 14, 3) := by decide +kernel
theorem dX10_canBe_26 : decode cX10_canBe 26 = .ok (.iload 6, 2) := by decide +kernel
theorem dX10_canBe_28 : decode cX10_canBe 28 = .ok (.iload 4, 2) := by decide +kernel
theorem dX10_canBe_30 : decode cX10_canBe 30 = .ok (.if_icmp .ne 7, 3) := by decide +kernel
theorem dX10_canBe_33 : decode cX10_canBe 33 = .ok (.iconst 1, 1) := by decide +kernel
theorem dX10_canBe_34 : decode cX10_canBe 34 = .ok (.goto 4, 3) := by decide +kernel
theorem dX10_canBe_37 : decode cX10_canBe 37 = .ok (.iconst 0, 1) := by decide +kernel
theorem dX10_canBe_38 : decode cX10_canBe 38 = .ok (.ireturn, 1) := by decide +kernel
theorem dX10_canBe_39 : decode cX10_canBe 39 = .ok (.iload 5, 2) := by decide +kernel
theorem dX10_canBe_41 : decode cX10_canBe 41 = .ok (.i2l, 1) := by decide +kernel
theorem dX10_canBe_42 : decode cX10_canBe 42 = .ok (.ldc2_w 533, 3) := by decide +kernel
theorem dX10_canBe_45 : decode cX10_canBe 45 = .ok (.ldc2_w 535, 3) := by decide +kernel
theorem dX10_canBe_48 : decode cX10_canBe 48 = .ok (.invokestatic 183, 3) := by decide +kernel
theorem dX10_canBe_51 : decode cX10_canBe 51 = .ok (.ifCond .eq 22, 3) := by decide +kernel
theorem dX10_canBe_54 : decode cX10_canBe 54 = .ok (.iload 6, 2) := by decide +kernel
theorem dX10_canBe_56 : decode cX10_canBe 56 = .ok (.i2l, 1) := by decide +kernel
theorem dX10_canBe_57 : decode cX10_canBe 57 = .ok (.ldc2_w 533, 3) := by decide +kernel
theorem dX10_canBe_60 : decode cX10_canBe 60 = .ok (.ldc2_w 535, 3) := by decide +kernel
theorem dX10_canBe_63 : decode cX10_canBe 63 = .ok (.invokestatic 183, 3) := by decide +kernel
theorem dX10_canBe_66 : decode cX10_canBe 66 = .ok (.ifCond .eq 7, 3) := by decide +kernel
theorem dX10_canBe_69 : decode cX10_canBe 69 = .ok (.iconst 1, 1) := by decide +kernel
theorem dX10_canBe_70 : decode cX10_canBe 70 = .ok (.goto 4, 3) := by decide +kernel
theorem dX10_canBe_73 : decode cX10_canBe 73 = .ok (.iconst 0, 1) := by decide +kernel
theorem dX10_canBe_74 : decode cX10_canBe 74 = .ok (.ireturn, 1) := by decide +kernel
set_option maxRecDepth 20000 in
theorem ggX10_isTold_X10_pictures : GoodIn wsX10_isTold wsX10_pictures := goodIn_r _ [10, 1, 49, 50, 51, 52, 53, 54, 55, 56, 57, 58, 59, 60, 61, 62, 63, 64, 65, 66, 67, 68, 69, 70, 71, 72, 73, 74, 75, 76, 77, 78, 79, 80, 81, 82, 83, 84, 85, 86, 87, 88, 89, 90, 91, 92, 93, 94, 95, 96, 97, 98, 99, 100, 101, 102, 103, 104, 105] (by decide +kernel) (by decide +kernel)
set_option maxRecDepth 20000 in
theorem gX10_isTold_X10_pictures : GoodIn wsX10_isTold (wsV RX10 259 RX10 yX10_pictures wsX10_pictures) := goodIn_app (goodIn_of _ (by decide +kernel)) ggX10_isTold_X10_pictures
set_option maxRecDepth 20000 in
theorem ggX10_isTold_X10_points : GoodIn wsX10_isTold wsX10_points := goodIn_r _ [14, 1, 49, 50, 51, 52, 53, 54, 55, 56, 57, 58, 59, 60, 61, 62, 63, 64, 65, 66, 67, 68, 69, 70, 71, 72, 73, 74, 75, 76, 77, 78, 79, 80, 81, 82, 83, 84, 85, 86, 87, 88, 89, 90, 91, 92, 93, 94, 95, 96, 97, 98, 99, 100, 101, 102, 103, 104, 105] (by decide +kernel) (by decide +kernel)
set_option maxRecDepth 20000 in
theorem gX10_isTold_X10_points : GoodIn wsX10_isTold (wsV RX10 262 RX10 yX10_points wsX10_points) := goodIn_app (goodIn_of _ (by decide +kernel)) ggX10_isTold_X10_points
set_option maxRecDepth 20000 in
theorem ggX10_isTold_X10_rows : GoodIn wsX10_isTold wsX10_rows := goodIn_r _ [18, 1, 49, 50, 51, 52, 53, 54, 55, 56, 57, 58, 59, 60, 61, 62, 63, 64, 65, 66, 67, 68, 69, 70, 71, 72, 73, 74, 75, 76, 77, 78, 79, 80, 81, 82, 83, 84, 85, 86, 87, 88, 89, 90, 91, 92, 93, 94, 95, 96, 97, 98, 99, 100, 101, 102, 103, 104, 105] (by decide +kernel) (by decide +kernel)
set_option maxRecDepth 20000 in
theorem gX10_isTold_X10_rows : GoodIn wsX10_isTold (wsV RX10 265 RX10 yX10_rows wsX10_rows) := goodIn_app (goodIn_of _ (by decide +kernel)) ggX10_isTold_X10_rows
set_option maxRecDepth 20000 in
theorem ggX10_isTold_X10_checked : GoodIn wsX10_isTold wsX10_checked := goodIn_r _ [21] (by decide +kernel) (by decide +kernel)
set_option maxRecDepth 20000 in
theorem gX10_isTold_X10_checked : GoodIn wsX10_isTold (va_wsS RX10 526 yX10_checked wsX10_checked) := goodIn_app (goodIn_of _ (by decide +kernel)) ggX10_isTold_X10_checked
set_option maxRecDepth 20000 in
theorem ggX10_isTold_X10_canBe : GoodIn wsX10_isTold wsX10_canBe := goodIn_r _ [25, 26, 27, 28, 29, 30, 9, 31, 2, 32, 33, 34, 49, 50, 51, 52, 53, 54, 55, 56, 57, 58, 59, 60, 61, 62, 63, 64, 65, 66, 67, 68, 69, 70, 71, 72, 73, 74, 75, 76, 77, 78, 79, 80, 81, 82, 83, 84, 85, 86, 87, 88, 89, 90, 91, 92, 93, 94, 95, 96, 97, 98, 99, 100, 101, 102, 103, 104, 105] (by decide +kernel) (by decide +kernel)
set_option maxRecDepth 20000 in
theorem gX10_isTold_X10_canBe : GoodIn wsX10_isTold (wsV RX10 537 RX10 yX10_canBe wsX10_canBe) := goodIn_app (goodIn_of _ (by decide +kernel)) ggX10_isTold_X10_canBe
set_option maxRecDepth 20000 in
theorem ggX10_isTold_X10_hasDrift : GoodIn wsX10_isTold wsX10_hasDrift := goodIn_r _ [38, 6, 7, 8, 9, 10, 1, 39, 40, 41, 42, 43, 44, 45, 46, 47, 48, 49, 50, 51, 52, 53, 54, 55, 56, 57, 58, 59, 60, 61, 62, 63, 64, 65, 66, 67, 68, 69, 70, 71, 72, 73, 74, 75, 76, 77, 78, 79, 80, 81, 82, 83, 84, 85, 86, 87, 88, 89, 90, 91, 92, 93, 94, 95, 96, 97, 98, 99, 100, 101, 102, 103, 104, 105] (by decide +kernel) (by decide +kernel)
set_option maxRecDepth 20000 in
theorem gX10_isTold_X10_hasDrift : GoodIn wsX10_isTold (wsV RX10 368 RX10 yX10_hasDrift wsX10_hasDrift) := goodIn_app (goodIn_of _ (by decide +kernel)) ggX10_isTold_X10_hasDrift
theorem dX10_isTold_0 : decode cX10_isTold 0 = .ok (.aload_n 0, 1) := by decide +kernel
theorem dX10_isTold_1 : decode cX10_isTold 1 = .ok (.getfield 58, 3) := by decide +kernel
theorem dX10_isTold_4 : decode cX10_isTold 4 = .ok (.bipush 6, 2) := by decide +kernel
theorem dX10_isTold_6 : decode cX10_isTold 6 = .ok (.iaload, 1) := by decide +kernel
theorem dX10_isTold_7 : decode cX10_isTold 7 = .ok (.istore_n 2, 1) := by decide +kernel
theorem dX10_isTold_8 : decode cX10_isTold 8 = .ok (.iload_n 1, 1) := by decide +kernel
theorem dX10_isTold_9 : decode cX10_isTold 9 = .ok (.iconst 2, 1) := by decide +kernel
theorem dX10_isTold_10 : decode cX10_isTold 10 = .ok (.bipush 9, 2) := by decide +kernel
theorem dX10_isTold_12 : decode cX10_isTold 12 = .ok (.aload_n 0, 1) := by decide +kernel
theorem dX10_isTold_13 : decode cX10_isTold 13 = .ok (.invokevirtual 259, 3) := by decide +kernel
theorem dX10_isTold_16 : decode cX10_isTold 16 = .ok (.imul, 1) := by decide +kernel
theorem dX10_isTold_17 : decode cX10_isTold 17 = .ok (.iadd, 1) := by decide +kernel
theorem dX10_isTold_18 : decode cX10_isTold 18 = .ok (.bipush 8, 2) := by decide +kernel
theorem dX10_isTold_20 : decode cX10_isTold 20 = .ok (.aload_n 0, 1) := by decide +kernel
theorem dX10_isTold_21 : decode cX10_isTold 21 = .ok (.invokevirtual 262, 3) := by decide +kernel
theorem dX10_isTold_24 : decode cX10_isTold 24 = .ok (.imul, 1) := by decide +kernel
theorem dX10_isTold_25 : decode cX10_isTold 25 = .ok (.iadd, 1) := by decide +kernel
theorem dX10_isTold_26 : decode cX10_isTold 26 = .ok (.bipush 8, 2) := by decide +kernel
theorem dX10_isTold_28 : decode cX10_isTold 28 = .ok (.iload_n 2, 1) := by decide +kernel
theorem dX10_isTold_29 : decode cX10_isTold 29 = .ok (.imul, 1) := by decide +kernel
theorem dX10_isTold_30 : decode cX10_isTold 30 = .ok (.iadd, 1) := by decide +kernel
theorem dX10_isTold_31 : decode cX10_isTold 31 = .ok (.aload_n 0, 1) := by decide +kernel
theorem dX10_isTold_32 : decode cX10_isTold 32 = .ok (.invokevirtual 265, 3) := by decide +kernel
theorem dX10_isTold_35 : decode cX10_isTold 35 = .ok (.iadd, 1) := by decide +kernel
theorem dX10_isTold_36 : decode cX10_isTold 36 = .ok (.if_icmp .ne 34, 3) := by decide +kernel
theorem dX10_isTold_39 : decode cX10_isTold 39 = .ok (.aload_n 0, 1) := by decide +kernel
theorem dX10_isTold_40 : decode cX10_isTold 40 = .ok (.getfield 7, 3) := by decide +kernel
theorem dX10_isTold_43 : decode cX10_isTold 43 = .ok (.iload_n 1, 1) := by decide +kernel
theorem dX10_isTold_44 : decode cX10_isTold 44 = .ok (.iconst 1, 1) := by decide +kernel
theorem dX10_isTold_45 : decode cX10_isTold 45 = .ok (.isub, 1) := by decide +kernel
theorem dX10_isTold_46 : decode cX10_isTold 46 = .ok (.iaload, 1) := by decide +kernel
theorem dX10_isTold_47 : decode cX10_isTold 47 = .ok (.aload_n 0, 1) := by decide +kernel
theorem dX10_isTold_48 : decode cX10_isTold 48 = .ok (.getfield 7, 3) := by decide +kernel
theorem dX10_isTold_51 : decode cX10_isTold 51 = .ok (.iload_n 1, 1) := by decide +kernel
theorem dX10_isTold_52 : decode cX10_isTold 52 = .ok (.iconst 1, 1) := by decide +kernel
theorem dX10_isTold_53 : decode cX10_isTold 53 = .ok (.isub, 1) := by decide +kernel
theorem dX10_isTold_54 : decode cX10_isTold 54 = .ok (.invokestatic 526, 3) := by decide +kernel
theorem dX10_isTold_57 : decode cX10_isTold 57 = .ok (.if_icmp .ne 13, 3) := by decide +kernel
theorem dX10_isTold_60 : decode cX10_isTold 60 = .ok (.aload_n 0, 1) := by decide +kernel
theorem dX10_isTold_61 : decode cX10_isTold 61 = .ok (.getfield 7, 3) := by decide +kernel
theorem dX10_isTold_64 : decode cX10_isTold 64 = .ok (.iconst 0, 1) := by decide +kernel
theorem dX10_isTold_65 : decode cX10_isTold 65 = .ok (.iaload, 1) := by decide +kernel
theorem dX10_isTold_66 : decode cX10_isTold 66 = .ok (.iconst 3, 1) := by decide +kernel
theorem dX10_isTold_67 : decode cX10_isTold 67 = .ok (.if_icmp .le 5, 3) := by decide +kernel
theorem dX10_isTold_70 : decode cX10_isTold 70 = .ok (.iconst 0, 1) := by decide +kernel
theorem dX10_isTold_71 : decode cX10_isTold 71 = .ok (.ireturn, 1) := by decide +kernel
theorem dX10_isTold_72 : decode cX10_isTold 72 = .ok (.iconst 1, 1) := by decide +kernel
theorem dX10_isTold_73 : decode cX10_isTold 73 = .ok (.istore_n 3, 1) := by decide +kernel
theorem dX10_isTold_74 : decode cX10_isTold 74 = .ok (.iconst 0, 1) := by decide +kernel
theorem dX10_isTold_75 : decode cX10_isTold 75 = .ok (.istore 4, 2) := by decide +kernel
theorem dX10_isTold_77 : decode cX10_isTold 77 = .ok (.iload 4, 2) := by decide +kernel
theorem dX10_isTold_79 : decode cX10_isTold 79 = .ok (.aload_n 0, 1) := by decide +kernel
theorem dX10_isTold_80 : decode cX10_isTold 80 = .ok (.invokevirtual 259, 3) := by decide +kernel
theorem dX10_isTold_83 : decode cX10_isTold 83 = .ok (.if_icmp .ge 66, 3) := by decide +kernel
theorem dX10_isTold_86 : decode cX10_isTold 86 = .ok (.aload_n 0, 1) := by decide +kernel
theorem dX10_isTold_87 : decode cX10_isTold 87 = .ok (.getfield 64, 3) := by decide +kernel
theorem dX10_isTold_90 : decode cX10_isTold 90 = .ok (.bipush 12, 2) := by decide +kernel
theorem dX10_isTold_92 : decode cX10_isTold 92 = .ok (.iload 4, 2) := by decide +kernel
theorem dX10_isTold_94 : decode cX10_isTold 94 = .ok (.iadd, 1) := by decide +kernel
theorem dX10_isTold_95 : decode cX10_isTold 95 = .ok (.iaload, 1) := by decide +kernel
theorem dX10_isTold_96 : decode cX10_isTold 96 = .ok (.istore 5, 2) := by decide +kernel
theorem dX10_isTold_98 : decode cX10_isTold 98 = .ok (.aload_n 0, 1) := by decide +kernel
theorem dX10_isTold_99 : decode cX10_isTold 99 = .ok (.getfield 7, 3) := by decide +kernel
theorem dX10_isTold_102 : decode cX10_isTold 102 = .ok (.iload_n 3, 1) := by decide +kernel
theorem dX10_isTold_103 : decode cX10_isTold 103 = .ok (.iaload, 1) := by decide +kernel
theorem dX10_isTold_104 : decode cX10_isTold 104 = .ok (.iconst 3, 1) := by decide +kernel
theorem dX10_isTold_105 : decode cX10_isTold 105 = .ok (.if_icmp .gt 33, 3) := by decide +kernel
theorem dX10_isTold_108 : decode cX10_isTold 108 = .ok (.iload 5, 2) := by decide +kernel
theorem dX10_isTold_110 : decode cX10_isTold 110 = .ok (.iconst 4, 1) := by decide +kernel
theorem dX10_isTold_111 : decode cX10_isTold 111 = .ok (.if_icmp .eq 14, 3) := by decide +kernel
theorem dX10_isTold_114 : decode cX10_isTold 114 = .ok (.aload_n 0, 1) := by decide +kernel
theorem dX10_isTold_115 : decode cX10_isTold 115 = .ok (.getfield 7, 3) := by decide +kernel
theorem dX10_isTold_118 : decode cX10_isTold 118 = .ok (.iload_n 3, 1) := by decide +kernel
theorem dX10_isTold_119 : decode cX10_isTold 119 = .ok (.iaload, 1) := by decide +kernel
theorem dX10_isTold_120 : decode cX10_isTold 120 = .ok (.iload 5, 2) := by decide +kernel
theorem dX10_isTold_122 : decode cX10_isTold 122 = .ok (.if_icmp .ne 16, 3) := by decide +kernel
theorem dX10_isTold_125 : decode cX10_isTold 125 = .ok (.aload_n 0, 1) := by decide +kernel
theorem dX10_isTold_126 : decode cX10_isTold 126 = .ok (.iload_n 3, 1) := by decide +kernel
theorem dX10_isTold_127 : decode cX10_isTold 127 = .ok (.iconst 1, 1) := by decide +kernel
theorem dX10_isTold_128 : decode cX10_isTold 128 = .ok (.iadd, 1) := by decide +kernel
theorem dX10_isTold_129 : decode cX10_isTold 129 = .ok (.iconst 0, 1) := by decide +kernel
theorem dX10_isTold_130 : decode cX10_isTold 130 = .ok (.iconst 0, 1) := by decide +kernel
theorem dX10_isTold_131 : decode cX10_isTold 131 = .ok (.iconst 0, 1) := by decide +kernel
theorem dX10_isTold_132 : decode cX10_isTold 132 = .ok (.invokevirtual 537, 3) := by decide +kernel
theorem dX10_isTold_135 : decode cX10_isTold 135 = .ok (.ifCond .ne 5, 3) := by decide +kernel
theorem dX10_isTold_138 : decode cX10_isTold 138 = .ok (.iconst 0, 1) := by decide +kernel
theorem dX10_isTold_139 : decode cX10_isTold 139 = .ok (.ireturn, 1) := by decide +kernel
theorem dX10_isTold_140 : decode cX10_isTold 140 = .ok (.iinc 3 9, 3) := by decide +kernel
theorem dX10_isTold_143 : decode cX10_isTold 143 = .ok (.iinc 4 1, 3) := by decide +kernel
theorem dX10_isTold_146 : decode cX10_isTold 146 = .ok (.goto (-69), 3) := by decide +kernel
theorem dX10_isTold_149 : decode cX10_isTold 149 = .ok (.iconst 0, 1) := by decide +kernel
theorem dX10_isTold_150 : decode cX10_isTold 150 = .ok (.istore 4, 2) := by decide +kernel
theorem dX10_isTold_152 : decode cX10_isTold 152 = .ok (.iload 4, 2) := by decide +kernel
theorem dX10_isTold_154 : decode cX10_isTold 154 = .ok (.aload_n 0, 1) := by decide +kernel
theorem dX10_isTold_155 : decode cX10_isTold 155 = .ok (.invokevirtual 262, 3) := by decide +kernel
theorem dX10_isTold_158 : decode cX10_isTold 158 = .ok (.if_icmp .ge 95, 3) := by decide +kernel
theorem dX10_isTold_161 : decode cX10_isTold 161 = .ok (.aload_n 0, 1) := by decide +kernel
theorem dX10_isTold_162 : decode cX10_isTold 162 = .ok (.getfield 73, 3) := by decide +kernel
theorem dX10_isTold_165 : decode cX10_isTold 165 = .ok (.bipush 20, 2) := by decide +kernel
theorem dX10_isTold_167 : decode cX10_isTold 167 = .ok (.iload 4, 2) := by decide +kernel
theorem dX10_isTold_169 : decode cX10_isTold 169 = .ok (.iadd, 1) := by decide +kernel
theorem dX10_isTold_170 : decode cX10_isTold 170 = .ok (.iaload, 1) := by decide +kernel
theorem dX10_isTold_171 : decode cX10_isTold 171 = .ok (.istore 5, 2) := by decide +kernel
theorem dX10_isTold_173 : decode cX10_isTold 173 = .ok (.iload 5, 2) := by decide +kernel
theorem dX10_isTold_175 : decode cX10_isTold 175 = .ok (.ifCond .eq 24, 3) := by decide +kernel
theorem dX10_isTold_178 : decode cX10_isTold 178 = .ok (.aload_n 0, 1) := by decide +kernel
theorem dX10_isTold_179 : decode cX10_isTold 179 = .ok (.getfield 7, 3) := by decide +kernel
theorem dX10_isTold_182 : decode cX10_isTold 182 = .ok (.iconst 0, 1) := by decide +kernel
theorem dX10_isTold_183 : decode cX10_isTold 183 = .ok (.iaload, 1) := by decide +kernel
theorem dX10_isTold_184 : decode cX10_isTold 184 = .ok (.iload 5, 2) := by decide +kernel
theorem dX10_isTold_186 : decode cX10_isTold 186 = .ok (.iconst 1, 1) := by decide +kernel
theorem dX10_isTold_187 : decode cX10_isTold 187 = .ok (.isub, 1) := by decide +kernel
theorem dX10_isTold_188 : decode cX10_isTold 188 = .ok (.ishr, 1) := by decide +kernel
theorem dX10_isTold_189 : decode cX10_isTold 189 = .ok (.iconst 1, 1) := by decide +kernel
theorem dX10_isTold_190 : decode cX10_isTold 190 = .ok (.iand, 1) := by decide +kernel
theorem dX10_isTold_191 : decode cX10_isTold 191 = .ok (.iconst 1, 1) := by decide +kernel
theorem dX10_isTold_192 : decode cX10_isTold 192 = .ok (.if_icmp .ne 7, 3) := by decide +kernel
theorem dX10_isTold_195 : decode cX10_isTold 195 = .ok (.iconst 1, 1) := by decide +kernel
theorem dX10_isTold_196 : decode cX10_isTold 196 = .ok (.goto 4, 3) := by decide +kernel
theorem dX10_isTold_199 : decode cX10_isTold 199 = .ok (.iconst 0, 1) := by decide +kernel
theorem dX10_isTold_200 : decode cX10_isTold 200 = .ok (.istore 6, 2) := by decide +kernel
theorem dX10_isTold_202 : decode cX10_isTold 202 = .ok (.aload_n 0, 1) := by decide +kernel
theorem dX10_isTold_203 : decode cX10_isTold 203 = .ok (.iload_n 3, 1) := by decide +kernel
theorem dX10_isTold_204 : decode cX10_isTold 204 = .ok (.iload 6, 2) := by decide +kernel
theorem dX10_isTold_206 : decode cX10_isTold 206 = .ok (.bipush 100, 2) := by decide +kernel
theorem dX10_isTold_208 : decode cX10_isTold 208 = .ok (.aload_n 0, 1) := by decide +kernel
theorem dX10_isTold_209 : decode cX10_isTold 209 = .ok (.getfield 76, 3) := by decide +kernel
theorem dX10_isTold_212 : decode cX10_isTold 212 = .ok (.bipush 40, 2) := by decide +kernel
theorem dX10_isTold_214 : decode cX10_isTold 214 = .ok (.iconst 2, 1) := by decide +kernel
theorem dX10_isTold_215 : decode cX10_isTold 215 = .ok (.iload 4, 2) := by decide +kernel
theorem dX10_isTold_217 : decode cX10_isTold 217 = .ok (.imul, 1) := by decide +kernel
theorem dX10_isTold_218 : decode cX10_isTold 218 = .ok (.iadd, 1) := by decide +kernel
theorem dX10_isTold_219 : decode cX10_isTold 219 = .ok (.iaload, 1) := by decide +kernel
theorem dX10_isTold_220 : decode cX10_isTold 220 = .ok (.imul, 1) := by decide +kernel
theorem dX10_isTold_221 : decode cX10_isTold 221 = .ok (.bipush 100, 2) := by decide +kernel
theorem dX10_isTold_223 : decode cX10_isTold 223 = .ok (.aload_n 0, 1) := by decide +kernel
theorem dX10_isTold_224 : decode cX10_isTold 224 = .ok (.getfield 76, 3) := by decide +kernel
theorem dX10_isTold_227 : decode cX10_isTold 227 = .ok (.bipush 41, 2) := by decide +kernel
theorem dX10_isTold_229 : decode cX10_isTold 229 = .ok (.iconst 2, 1) := by decide +kernel
theorem dX10_isTold_230 : decode cX10_isTold 230 = .ok (.iload 4, 2) := by decide +kernel
theorem dX10_isTold_232 : decode cX10_isTold 232 = .ok (.imul, 1) := by decide +kernel
theorem dX10_isTold_233 : decode cX10_isTold 233 = .ok (.iadd, 1) := by decide +kernel
theorem dX10_isTold_234 : decode cX10_isTold 234 = .ok (.iaload, 1) := by decide +kernel
theorem dX10_isTold_235 : decode cX10_isTold 235 = .ok (.imul, 1) := by decide +kernel
theorem dX10_isTold_236 : decode cX10_isTold 236 = .ok (.invokevirtual 537, 3) := by decide +kernel
theorem dX10_isTold_239 : decode cX10_isTold 239 = .ok (.ifCond .ne 5, 3) := by decide +kernel
theorem dX10_isTold_242 : decode cX10_isTold 242 = .ok (.iconst 0, 1) := by decide +kernel
theorem dX10_isTold_243 : decode cX10_isTold 243 = .ok (.ireturn, 1) := by decide +kernel
theorem dX10_isTold_244 : decode cX10_isTold 244 = .ok (.iinc 3 8, 3) := by decide +kernel
theorem dX10_isTold_247 : decode cX10_isTold 247 = .ok (.iinc 4 1, 3) := by decide +kernel
theorem dX10_isTold_250 : decode cX10_isTold 250 = .ok (.goto (-98), 3) := by decide +kernel
theorem dX10_isTold_253 : decode cX10_isTold 253 = .ok (.iconst 0, 1) := by decide +kernel
theorem dX10_isTold_254 : decode cX10_isTold 254 = .ok (.istore 4, 2) := by decide +kernel
theorem dX10_isTold_256 : decode cX10_isTold 256 = .ok (.iload 4, 2) := by decide +kernel
theorem dX10_isTold_258 : decode cX10_isTold 258 = .ok (.iload_n 2, 1) := by decide +kernel
theorem dX10_isTold_259 : decode cX10_isTold 259 = .ok (.if_icmp .ge 38, 3) := by decide +kernel
theorem dX10_isTold_262 : decode cX10_isTold 262 = .ok (.aload_n 0, 1) := by decide +kernel
theorem dX10_isTold_263 : decode cX10_isTold 263 = .ok (.iload_n 3, 1) := by decide +kernel
theorem dX10_isTold_264 : decode cX10_isTold 264 = .ok (.aload_n 0, 1) := by decide +kernel
theorem dX10_isTold_265 : decode cX10_isTold 265 = .ok (.iload 4, 2) := by decide +kernel
theorem dX10_isTold_267 : decode cX10_isTold 267 = .ok (.invokevirtual 368, 3) := by decide +kernel
theorem dX10_isTold_270 : decode cX10_isTold 270 = .ok (.ifCond .ne 7, 3) := by decide +kernel
theorem dX10_isTold_273 : decode cX10_isTold 273 = .ok (.iconst 1, 1) := by decide +kernel
theorem dX10_isTold_274 : decode cX10_isTold 274 = .ok (.goto 4, 3) := by decide +kernel
theorem dX10_isTold_277 : decode cX10_isTold 277 = .ok (.iconst 0, 1) := by decide +kernel
theorem dX10_isTold_278 : decode cX10_isTold 278 = .ok (.iconst 0, 1) := by decide +kernel
theorem dX10_isTold_279 : decode cX10_isTold 279 = .ok (.iconst 0, 1) := by decide +kernel
theorem dX10_isTold_280 : decode cX10_isTold 280 = .ok (.invokevirtual 537, 3) := by decide +kernel
theorem dX10_isTold_283 : decode cX10_isTold 283 = .ok (.ifCond .ne 5, 3) := by decide +kernel
theorem dX10_isTold_286 : decode cX10_isTold 286 = .ok (.iconst 0, 1) := by decide +kernel
theorem dX10_isTold_287 : decode cX10_isTold 287 = .ok (.ireturn, 1) := by decide +kernel
theorem dX10_isTold_288 : decode cX10_isTold 288 = .ok (.iinc 3 8, 3) := by decide +kernel
theorem dX10_isTold_291 : decode cX10_isTold 291 = .ok (.iinc 4 1, 3) := by decide +kernel
theorem dX10_isTold_294 : decode cX10_isTold 294 = .ok (.goto (-38), 3) := by decide +kernel
theorem dX10_isTold_297 : decode cX10_isTold 297 = .ok (.iconst 0, 1) := by decide +kernel
theorem dX10_isTold_298 : decode cX10_isTold 298 = .ok (.istore 4, 2) := by decide +kernel
theorem dX10_isTold_300 : decode cX10_isTold 300 = .ok (.iload 4, 2) := by decide +kernel
theorem dX10_isTold_302 : decode cX10_isTold 302 = .ok (.aload_n 0, 1) := by decide +kernel
theorem dX10_isTold_303 : decode cX10_isTold 303 = .ok (.invokevirtual 265, 3) := by decide +kernel
theorem dX10_isTold_306 : decode cX10_isTold 306 = .ok (.if_icmp .ge 24, 3) := by decide +kernel
theorem dX10_isTold_309 : decode cX10_isTold 309 = .ok (.aload_n 0, 1) := by decide +kernel
theorem dX10_isTold_310 : decode cX10_isTold 310 = .ok (.getfield 7, 3) := by decide +kernel
theorem dX10_isTold_313 : decode cX10_isTold 313 = .ok (.iload_n 3, 1) := by decide +kernel
theorem dX10_isTold_314 : decode cX10_isTold 314 = .ok (.iload 4, 2) := by decide +kernel
theorem dX10_isTold_316 : decode cX10_isTold 316 = .ok (.iadd, 1) := by decide +kernel
theorem dX10_isTold_317 : decode cX10_isTold 317 = .ok (.iaload, 1) := by decide +kernel
theorem dX10_isTold_318 : decode cX10_isTold 318 = .ok (.iconst 1, 1) := by decide +kernel
theorem dX10_isTold_319 : decode cX10_isTold 319 = .ok (.if_icmp .le 5, 3) := by decide +kernel
theorem dX10_isTold_322 : decode cX10_isTold 322 = .ok (.iconst 0, 1) := by decide +kernel
theorem dX10_isTold_323 : decode cX10_isTold 323 = .ok (.ireturn, 1) := by decide +kernel
theorem dX10_isTold_324 : decode cX10_isTold 324 = .ok (.iinc 4 1, 3) := by decide +kernel
theorem dX10_isTold_327 : decode cX10_isTold 327 = .ok (.goto (-27), 3) := by decide +kernel
theorem dX10_isTold_330 : decode cX10_isTold 330 = .ok (.iconst 1, 1) := by decide +kernel
theorem dX10_isTold_331 : decode cX10_isTold 331 = .ok (.ireturn, 1) := by decide +kernel
set_option maxRecDepth 20000 in
theorem ggX10_tells_X10_fourAt : GoodIn wsX10_tells wsX10_fourAt := goodIn_r _ [6, 7, 8, 9, 10, 11, 12, 13, 14, 15, 16, 17, 18, 19, 20, 21, 22, 23, 24, 25, 26, 27, 28, 29, 30, 31, 32, 33, 34, 35, 36, 37, 38, 39, 40, 41, 42, 43, 44, 45, 46, 47, 48, 49, 50, 51, 52, 53, 54, 55, 56, 57, 58, 59, 60, 61, 62, 63, 64] (by decide +kernel) (by decide +kernel)
set_option maxRecDepth 20000 in
theorem gX10_tells_X10_fourAt : GoodIn wsX10_tells (wsV RX10 530 RX10 yX10_fourAt wsX10_fourAt) := goodIn_app (goodIn_of _ (by decide +kernel)) ggX10_tells_X10_fourAt
theorem dX10_tells_0 : decode cX10_tells 0 = .ok (.aload_n 0, 1) := by decide +kernel
theorem dX10_tells_1 : decode cX10_tells 1 = .ok (.getfield 101, 3) := by decide +kernel
theorem dX10_tells_4 : decode cX10_tells 4 = .ok (.iload_n 2, 1) := by decide +kernel
theorem dX10_tells_5 : decode cX10_tells 5 = .ok (.aload_n 0, 1) := by decide +kernel
theorem dX10_tells_6 : decode cX10_tells 6 = .ok (.iload_n 1, 1) := by decide +kernel
theorem dX10_tells_7 : decode cX10_tells 7 = .ok (.invokevirtual 530, 3) := by decide +kernel
theorem dX10_tells_10 : decode cX10_tells 10 = .ok (.iastore, 1) := by decide +kernel
theorem dX10_tells_11 : decode cX10_tells 11 = .ok (.aload_n 0, 1) := by decide +kernel
theorem dX10_tells_12 : decode cX10_tells 12 = .ok (.getfield 101, 3) := by decide +kernel
theorem dX10_tells_15 : decode cX10_tells 15 = .ok (.bipush 38, 2) := by decide +kernel
theorem dX10_tells_17 : decode cX10_tells 17 = .ok (.iload_n 2, 1) := by decide +kernel
theorem dX10_tells_18 : decode cX10_tells 18 = .ok (.iadd, 1) := by decide +kernel
theorem dX10_tells_19 : decode cX10_tells 19 = .ok (.aload_n 0, 1) := by decide +kernel
theorem dX10_tells_20 : decode cX10_tells 20 = .ok (.iload_n 1, 1) := by decide +kernel
theorem dX10_tells_21 : decode cX10_tells 21 = .ok (.iconst 4, 1) := by decide +kernel
theorem dX10_tells_22 : decode cX10_tells 22 = .ok (.iadd, 1) := by decide +kernel
theorem dX10_tells_23 : decode cX10_tells 23 = .ok (.invokevirtual 530, 3) := by decide +kernel
theorem dX10_tells_26 : decode cX10_tells 26 = .ok (.iastore, 1) := by decide +kernel
theorem dX10_tells_27 : decode cX10_tells 27 = .ok (.iload_n 1, 1) := by decide +kernel
theorem dX10_tells_28 : decode cX10_tells 28 = .ok (.bipush 8, 2) := by decide +kernel
theorem dX10_tells_30 : decode cX10_tells 30 = .ok (.iadd, 1) := by decide +kernel
theorem dX10_tells_31 : decode cX10_tells 31 = .ok (.ireturn, 1) := by decide +kernel
set_option maxRecDepth 20000 in
theorem ggX10_on_X10_isTold : GoodIn wsX10_on wsX10_isTold := goodIn_r _ [11, 5, 2, 12, 13, 14, 15, 16, 17, 10, 18, 19, 20, 21, 22, 23, 24, 25, 26, 27, 28, 29, 30, 31, 32, 33, 34, 35, 36, 37, 38, 39, 40, 41, 42, 43, 44, 45, 46, 47, 48, 49, 50, 51, 52, 53, 54, 55, 56, 62, 63, 64, 65, 66, 67, 68, 69, 70, 71, 72, 73, 74, 75, 76, 77, 78, 79, 80, 81, 82, 83, 84, 85, 86, 87, 88, 89, 90, 91, 92, 93, 94, 95, 96, 97, 98, 99, 100, 101, 102, 103, 104, 105, 106, 107, 108, 109, 110, 111, 112, 113, 114, 115, 116, 117, 118] (by decide +kernel) (by decide +kernel)
set_option maxRecDepth 20000 in
theorem gX10_on_X10_isTold : GoodIn wsX10_on (wsV RX10 541 RX10 yX10_isTold wsX10_isTold) := goodIn_app (goodIn_of _ (by decide +kernel)) ggX10_on_X10_isTold
set_option maxRecDepth 20000 in
theorem ggX10_on_X10_pictures : GoodIn wsX10_on wsX10_pictures := goodIn_r _ [18, 5, 62, 63, 64, 65, 66, 67, 68, 69, 70, 71, 72, 73, 74, 75, 76, 77, 78, 79, 80, 81, 82, 83, 84, 85, 86, 87, 88, 89, 90, 91, 92, 93, 94, 95, 96, 97, 98, 99, 100, 101, 102, 103, 104, 105, 106, 107, 108, 109, 110, 111, 112, 113, 114, 115, 116, 117, 118] (by decide +kernel) (by decide +kernel)
set_option maxRecDepth 20000 in
theorem gX10_on_X10_pictures : GoodIn wsX10_on (wsV RX10 259 RX10 yX10_pictures wsX10_pictures) := goodIn_app (goodIn_of _ (by decide +kernel)) ggX10_on_X10_pictures
set_option maxRecDepth 20000 in
theorem ggX10_on_X10_tells : GoodIn wsX10_on wsX10_tells := goodIn_r _ [60, 61, 36, 37, 38, 10, 39, 2, 62, 63, 64, 65, 66, 67, 68, 69, 70, 71, 72, 73, 74, 75, 76, 77, 78, 79, 80, 81, 82, 83, 84, 85, 86, 87, 88, 89, 90, 91, 92, 93, 94, 95, 96, 97, 98, 99, 100, 101, 102, 103, 104, 105, 106, 107, 108, 109, 110, 111, 112, 113, 114, 115, 116, 117, 118] (by decide +kernel) (by decide +kernel)
set_option maxRecDepth 20000 in
theorem gX10_on_X10_tells : GoodIn wsX10_on (wsV RX10 544 RX10 yX10_tells wsX10_tells) := goodIn_app (goodIn_of _ (by decide +kernel)) ggX10_on_X10_tells
set_option maxRecDepth 20000 in
theorem ggX10_on_X10_points : GoodIn wsX10_on wsX10_points := goodIn_r _ [22, 5, 62, 63, 64, 65, 66, 67, 68, 69, 70, 71, 72, 73, 74, 75, 76, 77, 78, 79, 80, 81, 82, 83, 84, 85, 86, 87, 88, 89, 90, 91, 92, 93, 94, 95, 96, 97, 98, 99, 100, 101, 102, 103, 104, 105, 106, 107, 108, 109, 110, 111, 112, 113, 114, 115, 116, 117, 118] (by decide +kernel) (by decide +kernel)
set_option maxRecDepth 20000 in
theorem gX10_on_X10_points : GoodIn wsX10_on (wsV RX10 262 RX10 yX10_points wsX10_points) := goodIn_app (goodIn_of _ (by decide +kernel)) ggX10_on_X10_points
set_option maxRecDepth 20000 in
theorem ggX10_on_X10_rows : GoodIn wsX10_on wsX10_rows := goodIn_r _ [26, 5, 62, 63, 64, 65, 66, 67, 68, 69, 70, 71, 72, 73, 74, 75, 76, 77, 78, 79, 80, 81, 82, 83, 84, 85, 86, 87, 88, 89, 90, 91, 92, 93, 94, 95, 96, 97, 98, 99, 100, 101, 102, 103, 104, 105, 106, 107, 108, 109, 110, 111, 112, 113, 114, 115, 116, 117, 118] (by decide +kernel) (by decide +kernel)
set_option maxRecDepth 20000 in
theorem gX10_on_X10_rows : GoodIn wsX10_on (wsV RX10 265 RX10 yX10_rows wsX10_rows) := goodIn_app (goodIn_of _ (by decide +kernel)) ggX10_on_X10_rows
theorem dX10_on_0 : decode cX10_on 0 = .ok (.aload_n 0, 1) := by decide +kernel
theorem dX10_on_1 : decode cX10_on 1 = .ok (.getfield 140, 3) := by decide +kernel
theorem dX10_on_4 : decode cX10_on 4 = .ok (.istore_n 1, 1) := by decide +kernel
theorem dX10_on_5 : decode cX10_on 5 = .ok (.aload_n 0, 1) := by decide +kernel
theorem dX10_on_6 : decode cX10_on 6 = .ok (.iconst 0, 1) := by decide +kernel
theorem dX10_on_7 : decode cX10_on 7 = .ok (.putfield 140, 3) := by decide +kernel
theorem dX10_on_10 : decode cX10_on 10 = .ok (.aload_n 0, 1) := by decide +kernel
theorem dX10_on_11 : decode cX10_on 11 = .ok (.iload_n 1, 1) := by decide +kernel
theorem dX10_on_12 : decode cX10_on 12 = .ok (.invokevirtual 541, 3) := by decide +kernel
theorem dX10_on_15 : decode cX10_on 15 = .ok (.ifCond .ne 5, 3) := by decide +kernel
theorem dX10_on_18 : decode cX10_on 18 = .ok (.iconst 0, 1) := by decide +kernel
theorem dX10_on_19 : decode cX10_on 19 = .ok (.ireturn, 1) := by decide +kernel
theorem dX10_on_20 : decode cX10_on 20 = .ok (.aload_n 0, 1) := by decide +kernel
theorem dX10_on_21 : decode cX10_on 21 = .ok (.aload_n 0, 1) := by decide +kernel
theorem dX10_on_22 : decode cX10_on 22 = .ok (.getfield 7, 3) := by decide +kernel
theorem dX10_on_25 : decode cX10_on 25 = .ok (.iconst 0, 1) := by decide +kernel
theorem dX10_on_26 : decode cX10_on 26 = .ok (.iaload, 1) := by decide +kernel
theorem dX10_on_27 : decode cX10_on 27 = .ok (.putfield 95, 3) := by decide +kernel
theorem dX10_on_30 : decode cX10_on 30 = .ok (.iconst 1, 1) := by decide +kernel
theorem dX10_on_31 : decode cX10_on 31 = .ok (.istore_n 2, 1) := by decide +kernel
theorem dX10_on_32 : decode cX10_on 32 = .ok (.iconst 0, 1) := by decide +kernel
theorem dX10_on_33 : decode cX10_on 33 = .ok (.istore_n 3, 1) := by decide +kernel
theorem dX10_on_34 : decode cX10_on 34 = .ok (.iload_n 3, 1) := by decide +kernel
theorem dX10_on_35 : decode cX10_on 35 = .ok (.aload_n 0, 1) := by decide +kernel
theorem dX10_on_36 : decode cX10_on 36 = .ok (.invokevirtual 259, 3) := by decide +kernel
theorem dX10_on_39 : decode cX10_on 39 = .ok (.if_icmp .ge 30, 3) := by decide +kernel
theorem dX10_on_42 : decode cX10_on 42 = .ok (.aload_n 0, 1) := by decide +kernel
theorem dX10_on_43 : decode cX10_on 43 = .ok (.getfield 98, 3) := by decide +kernel
theorem dX10_on_46 : decode cX10_on 46 = .ok (.iload_n 3, 1) := by decide +kernel
theorem dX10_on_47 : decode cX10_on 47 = .ok (.aload_n 0, 1) := by decide +kernel
theorem dX10_on_48 : decode cX10_on 48 = .ok (.getfield 7, 3) := by decide +kernel
theorem dX10_on_51 : decode cX10_on 51 = .ok (.iload_n 2, 1) := by decide +kernel
theorem dX10_on_52 : decode cX10_on 52 = .ok (.iaload, 1) := by decide +kernel
theorem dX10_on_53 : decode cX10_on 53 = .ok (.iastore, 1) := by decide +kernel
theorem dX10_on_54 : decode cX10_on 54 = .ok (.aload_n 0, 1) := by decide +kernel
theorem dX10_on_55 : decode cX10_on 55 = .ok (.iload_n 2, 1) := by decide +kernel
theorem dX10_on_56 : decode cX10_on 56 = .ok (.iconst 1, 1) := by decide +kernel
theorem dX10_on_57 : decode cX10_on 57 = .ok (.iadd, 1) := by decide +kernel
theorem dX10_on_58 : decode cX10_on 58 = .ok (.iload_n 3, 1) := by decide +kernel
theorem dX10_on_59 : decode cX10_on 59 = .ok (.invokevirtual 544, 3) := by decide +kernel
theorem dX10_on_62 : decode cX10_on 62 = .ok (.istore_n 2, 1) := by decide +kernel
theorem dX10_on_63 : decode cX10_on 63 = .ok (.iinc 3 1, 3) := by decide +kernel
theorem dX10_on_66 : decode cX10_on 66 = .ok (.goto (-32), 3) := by decide +kernel
theorem dX10_on_69 : decode cX10_on 69 = .ok (.iconst 0, 1) := by decide +kernel
theorem dX10_on_70 : decode cX10_on 70 = .ok (.istore_n 3, 1) := by decide +kernel
theorem dX10_on_71 : decode cX10_on 71 = .ok (.iload_n 3, 1) := by decide +kernel
theorem dX10_on_72 : decode cX10_on 72 = .ok (.aload_n 0, 1) := by decide +kernel
theorem dX10_on_73 : decode cX10_on 73 = .ok (.invokevirtual 262, 3) := by decide +kernel
theorem dX10_on_76 : decode cX10_on 76 = .ok (.if_icmp .ge 19, 3) := by decide +kernel
theorem dX10_on_79 : decode cX10_on 79 = .ok (.aload_n 0, 1) := by decide +kernel
theorem dX10_on_80 : decode cX10_on 80 = .ok (.iload_n 2, 1) := by decide +kernel
theorem dX10_on_81 : decode cX10_on 81 = .ok (.bipush 12, 2) := by decide +kernel
theorem dX10_on_83 : decode cX10_on 83 = .ok (.iload_n 3, 1) := by decide +kernel
theorem dX10_on_84 : decode cX10_on 84 = .ok (.iadd, 1) := by decide +kernel
theorem dX10_on_85 : decode cX10_on 85 = .ok (.invokevirtual 544, 3) := by decide +kernel
theorem dX10_on_88 : decode cX10_on 88 = .ok (.istore_n 2, 1) := by decide +kernel
theorem dX10_on_89 : decode cX10_on 89 = .ok (.iinc 3 1, 3) := by decide +kernel
theorem dX10_on_92 : decode cX10_on 92 = .ok (.goto (-21), 3) := by decide +kernel
theorem dX10_on_95 : decode cX10_on 95 = .ok (.iconst 0, 1) := by decide +kernel
theorem dX10_on_96 : decode cX10_on 96 = .ok (.istore_n 3, 1) := by decide +kernel
theorem dX10_on_97 : decode cX10_on 97 = .ok (.iload_n 3, 1) := by decide +kernel
theorem dX10_on_98 : decode cX10_on 98 = .ok (.aload_n 0, 1) := by decide +kernel
theorem dX10_on_99 : decode cX10_on 99 = .ok (.getfield 58, 3) := by decide +kernel
theorem dX10_on_102 : decode cX10_on 102 = .ok (.bipush 6, 2) := by decide +kernel
theorem dX10_on_104 : decode cX10_on 104 = .ok (.iaload, 1) := by decide +kernel
theorem dX10_on_105 : decode cX10_on 105 = .ok (.if_icmp .ge 19, 3) := by decide +kernel
theorem dX10_on_108 : decode cX10_on 108 = .ok (.aload_n 0, 1) := by decide +kernel
theorem dX10_on_109 : decode cX10_on 109 = .ok (.iload_n 2, 1) := by decide +kernel
theorem dX10_on_110 : decode cX10_on 110 = .ok (.bipush 32, 2) := by decide +kernel
theorem dX10_on_112 : decode cX10_on 112 = .ok (.iload_n 3, 1) := by decide +kernel
theorem dX10_on_113 : decode cX10_on 113 = .ok (.iadd, 1) := by decide +kernel
theorem dX10_on_114 : decode cX10_on 114 = .ok (.invokevirtual 544, 3) := by decide +kernel
theorem dX10_on_117 : decode cX10_on 117 = .ok (.istore_n 2, 1) := by decide +kernel
theorem dX10_on_118 : decode cX10_on 118 = .ok (.iinc 3 1, 3) := by decide +kernel
theorem dX10_on_121 : decode cX10_on 121 = .ok (.goto (-24), 3) := by decide +kernel
theorem dX10_on_124 : decode cX10_on 124 = .ok (.iconst 0, 1) := by decide +kernel
theorem dX10_on_125 : decode cX10_on 125 = .ok (.istore_n 3, 1) := by decide +kernel
theorem dX10_on_126 : decode cX10_on 126 = .ok (.iload_n 3, 1) := by decide +kernel
theorem dX10_on_127 : decode cX10_on 127 = .ok (.aload_n 0, 1) := by decide +kernel
theorem dX10_on_128 : decode cX10_on 128 = .ok (.invokevirtual 265, 3) := by decide +kernel
theorem dX10_on_131 : decode cX10_on 131 = .ok (.if_icmp .ge 32, 3) := by decide +kernel
theorem dX10_on_134 : decode cX10_on 134 = .ok (.aload_n 0, 1) := by decide +kernel
theorem dX10_on_135 : decode cX10_on 135 = .ok (.getfield 91, 3) := by decide +kernel
theorem dX10_on_138 : decode cX10_on 138 = .ok (.iload_n 3, 1) := by decide +kernel
theorem dX10_on_139 : decode cX10_on 139 = .ok (.aload_n 0, 1) := by decide +kernel
theorem dX10_on_140 : decode cX10_on 140 = .ok (.getfield 7, 3) := by decide +kernel
theorem dX10_on_143 : decode cX10_on 143 = .ok (.iload_n 2, 1) := by decide +kernel
theorem dX10_on_144 : decode cX10_on 144 = .ok (.iload_n 3, 1) := by decide +kernel
theorem dX10_on_145 : decode cX10_on 145 = .ok (.iadd, 1) := by decide +kernel
theorem dX10_on_146 : decode cX10_on 146 = .ok (.iaload, 1) := by decide +kernel
theorem dX10_on_147 : decode cX10_on 147 = .ok (.iconst 1, 1) := by decide +kernel
theorem dX10_on_148 : decode cX10_on 148 = .ok (.if_icmp .ne 7, 3) := by decide +kernel
theorem dX10_on_151 : decode cX10_on 151 = .ok (.iconst 1, 1) := by decide +kernel
theorem dX10_on_152 : decode cX10_on 152 = .ok (.goto 4, 3) := by decide +kernel
theorem dX10_on_155 : decode cX10_on 155 = .ok (.iconst 0, 1) := by decide +kernel
theorem dX10_on_156 : decode cX10_on 156 = .ok (.bastore, 1) := by decide +kernel
theorem dX10_on_157 : decode cX10_on 157 = .ok (.iinc 3 1, 3) := by decide +kernel
theorem dX10_on_160 : decode cX10_on 160 = .ok (.goto (-34), 3) := by decide +kernel
theorem dX10_on_163 : decode cX10_on 163 = .ok (.iconst 1, 1) := by decide +kernel
theorem dX10_on_164 : decode cX10_on 164 = .ok (.ireturn, 1) := by decide +kernel
theorem dJ9_floorDiv_f86c9_0 : decode cJ9_floorDiv_f86c9 0 = .ok (.lload_n 0, 1) := by decide +kernel
theorem dJ9_floorDiv_f86c9_1 : decode cJ9_floorDiv_f86c9 1 = .ok (.lload_n 2, 1) := by decide +kernel
theorem dJ9_floorDiv_f86c9_2 : decode cJ9_floorDiv_f86c9 2 = .ok (.ldiv, 1) := by decide +kernel
theorem dJ9_floorDiv_f86c9_3 : decode cJ9_floorDiv_f86c9 3 = .ok (.lstore 4, 2) := by decide +kernel
theorem dJ9_floorDiv_f86c9_5 : decode cJ9_floorDiv_f86c9 5 = .ok (.lload_n 0, 1) := by decide +kernel
theorem dJ9_floorDiv_f86c9_6 : decode cJ9_floorDiv_f86c9 6 = .ok (.lload_n 2, 1) := by decide +kernel
theorem dJ9_floorDiv_f86c9_7 : decode cJ9_floorDiv_f86c9 7 = .ok (.lxor, 1) := by decide +kernel
theorem dJ9_floorDiv_f86c9_8 : decode cJ9_floorDiv_f86c9 8 = .ok (.lconst 0, 1) := by decide +kernel
theorem dJ9_floorDiv_f86c9_9 : decode cJ9_floorDiv_f86c9 9 = .ok (.lcmp, 1) := by decide +kernel
theorem dJ9_floorDiv_f86c9_10 : decode cJ9_floorDiv_f86c9 10 = .ok (.ifCond .ge 17, 3) := by decide +kernel
theorem dJ9_floorDiv_f86c9_13 : decode cJ9_floorDiv_f86c9 13 = .ok (.lload 4, 2) := by decide +kernel
theorem dJ9_floorDiv_f86c9_15 : decode cJ9_floorDiv_f86c9 15 = .ok (.lload_n 2, 1) := by decide +kernel
theorem dJ9_floorDiv_f86c9_16 : decode cJ9_floorDiv_f86c9 16 = .ok (.lmul, 1) := by decide +kernel
theorem dJ9_floorDiv_f86c9_17 : decode cJ9_floorDiv_f86c9 17 = .ok (.lload_n 0, 1) := by decide +kernel
theorem dJ9_floorDiv_f86c9_18 : decode cJ9_floorDiv_f86c9 18 = .ok (.lcmp, 1) := by decide +kernel
theorem dJ9_floorDiv_f86c9_19 : decode cJ9_floorDiv_f86c9 19 = .ok (.ifCond .eq 8, 3) := by decide +kernel
theorem dJ9_floorDiv_f86c9_22 : decode cJ9_floorDiv_f86c9 22 = .ok (.lload 4, 2) := by decide +kernel
theorem dJ9_floorDiv_f86c9_24 : decode cJ9_floorDiv_f86c9 24 = .ok (.lconst 1, 1) := by decide +kernel
theorem dJ9_floorDiv_f86c9_25 : decode cJ9_floorDiv_f86c9 25 = .ok (.lsub, 1) := by decide +kernel
theorem dJ9_floorDiv_f86c9_26 : decode cJ9_floorDiv_f86c9 26 = .ok (.lreturn, 1) := by decide +kernel
theorem dJ9_floorDiv_f86c9_27 : decode cJ9_floorDiv_f86c9 27 = .ok (.lload 4, 2) := by decide +kernel
theorem dJ9_floorDiv_f86c9_29 : decode cJ9_floorDiv_f86c9 29 = .ok (.lreturn, 1) := by decide +kernel
theorem dJ9_floorMod_f86c9_0 : decode cJ9_floorMod_f86c9 0 = .ok (.lload_n 0, 1) := by decide +kernel
theorem dJ9_floorMod_f86c9_1 : decode cJ9_floorMod_f86c9 1 = .ok (.lload_n 2, 1) := by decide +kernel
theorem dJ9_floorMod_f86c9_2 : decode cJ9_floorMod_f86c9 2 = .ok (.lrem, 1) := by decide +kernel
theorem dJ9_floorMod_f86c9_3 : decode cJ9_floorMod_f86c9 3 = .ok (.lstore 4, 2) := by decide +kernel
theorem dJ9_floorMod_f86c9_5 : decode cJ9_floorMod_f86c9 5 = .ok (.lload_n 0, 1) := by decide +kernel
theorem dJ9_floorMod_f86c9_6 : decode cJ9_floorMod_f86c9 6 = .ok (.lload_n 2, 1) := by decide +kernel
theorem dJ9_floorMod_f86c9_7 : decode cJ9_floorMod_f86c9 7 = .ok (.lxor, 1) := by decide +kernel
theorem dJ9_floorMod_f86c9_8 : decode cJ9_floorMod_f86c9 8 = .ok (.lconst 0, 1) := by decide +kernel
theorem dJ9_floorMod_f86c9_9 : decode cJ9_floorMod_f86c9 9 = .ok (.lcmp, 1) := by decide +kernel
theorem dJ9_floorMod_f86c9_10 : decode cJ9_floorMod_f86c9 10 = .ok (.ifCond .ge 15, 3) := by decide +kernel
theorem dJ9_floorMod_f86c9_13 : decode cJ9_floorMod_f86c9 13 = .ok (.lload 4, 2) := by decide +kernel
theorem dJ9_floorMod_f86c9_15 : decode cJ9_floorMod_f86c9 15 = .ok (.lconst 0, 1) := by decide +kernel
theorem dJ9_floorMod_f86c9_16 : decode cJ9_floorMod_f86c9 16 = .ok (.lcmp, 1) := by decide +kernel
theorem dJ9_floorMod_f86c9_17 : decode cJ9_floorMod_f86c9 17 = .ok (.ifCond .eq 8, 3) := by decide +kernel
theorem dJ9_floorMod_f86c9_20 : decode cJ9_floorMod_f86c9 20 = .ok (.lload 4, 2) := by decide +kernel
theorem dJ9_floorMod_f86c9_22 : decode cJ9_floorMod_f86c9 22 = .ok (.lload_n 2, 1) := by decide +kernel
theorem dJ9_floorMod_f86c9_23 : decode cJ9_floorMod_f86c9 23 = .ok (.ladd, 1) := by decide +kernel
theorem dJ9_floorMod_f86c9_24 : decode cJ9_floorMod_f86c9 24 = .ok (.lreturn, 1) := by decide +kernel
theorem dJ9_floorMod_f86c9_25 : decode cJ9_floorMod_f86c9 25 = .ok (.lload 4, 2) := by decide +kernel
theorem dJ9_floorMod_f86c9_27 : decode cJ9_floorMod_f86c9 27 = .ok (.lreturn, 1) := by decide +kernel
theorem dJ9_abs_0f7a4_0 : decode cJ9_abs_0f7a4 0 = .ok (.iload_n 0, 1) := by decide +kernel
theorem dJ9_abs_0f7a4_1 : decode cJ9_abs_0f7a4 1 = .ok (.ifCond .ge 8, 3) := by decide +kernel
theorem dJ9_abs_0f7a4_4 : decode cJ9_abs_0f7a4 4 = .ok (.iload_n 0, 1) := by decide +kernel
theorem dJ9_abs_0f7a4_5 : decode cJ9_abs_0f7a4 5 = .ok (.ineg, 1) := by decide +kernel
theorem dJ9_abs_0f7a4_6 : decode cJ9_abs_0f7a4 6 = .ok (.goto 4, 3) := by decide +kernel
theorem dJ9_abs_0f7a4_9 : decode cJ9_abs_0f7a4 9 = .ok (.iload_n 0, 1) := by decide +kernel
theorem dJ9_abs_0f7a4_10 : decode cJ9_abs_0f7a4 10 = .ok (.ireturn, 1) := by decide +kernel
theorem dJ9_max_7cf53_0 : decode cJ9_max_7cf53 0 = .ok (.iload_n 0, 1) := by decide +kernel
theorem dJ9_max_7cf53_1 : decode cJ9_max_7cf53 1 = .ok (.iload_n 1, 1) := by decide +kernel
theorem dJ9_max_7cf53_2 : decode cJ9_max_7cf53 2 = .ok (.if_icmp .lt 7, 3) := by decide +kernel
theorem dJ9_max_7cf53_5 : decode cJ9_max_7cf53 5 = .ok (.iload_n 0, 1) := by decide +kernel
theorem dJ9_max_7cf53_6 : decode cJ9_max_7cf53 6 = .ok (.goto 4, 3) := by decide +kernel
theorem dJ9_max_7cf53_9 : decode cJ9_max_7cf53 9 = .ok (.iload_n 1, 1) := by decide +kernel
theorem dJ9_max_7cf53_10 : decode cJ9_max_7cf53 10 = .ok (.ireturn, 1) := by decide +kernel
theorem dJ9_min_7cf53_0 : decode cJ9_min_7cf53 0 = .ok (.iload_n 0, 1) := by decide +kernel
theorem dJ9_min_7cf53_1 : decode cJ9_min_7cf53 1 = .ok (.iload_n 1, 1) := by decide +kernel
theorem dJ9_min_7cf53_2 : decode cJ9_min_7cf53 2 = .ok (.if_icmp .gt 7, 3) := by decide +kernel
theorem dJ9_min_7cf53_5 : decode cJ9_min_7cf53 5 = .ok (.iload_n 0, 1) := by decide +kernel
theorem dJ9_min_7cf53_6 : decode cJ9_min_7cf53 6 = .ok (.goto 4, 3) := by decide +kernel
theorem dJ9_min_7cf53_9 : decode cJ9_min_7cf53 9 = .ok (.iload_n 1, 1) := by decide +kernel
theorem dJ9_min_7cf53_10 : decode cJ9_min_7cf53 10 = .ok (.ireturn, 1) := by decide +kernel
set_option maxRecDepth 20000 in
theorem ggJ0_length_8abf5_J0_coder_7d493 : GoodIn wsJ0_length_8abf5 wsJ0_coder_7d493 := goodIn_r _ [6, 7, 8] (by decide +kernel) (by decide +kernel)
set_option maxRecDepth 20000 in
theorem gJ0_length_8abf5_J0_coder_7d493 : GoodIn wsJ0_length_8abf5 (wsV RJ0 335 RJ0 yJ0_coder_7d493 wsJ0_coder_7d493) := goodIn_app (goodIn_of _ (by decide +kernel)) ggJ0_length_8abf5_J0_coder_7d493
theorem dJ0_length_8abf5_0 : decode cJ0_length_8abf5 0 = .ok (.aload_n 0, 1) := by decide +kernel
theorem dJ0_length_8abf5_1 : decode cJ0_length_8abf5 1 = .ok (.getfield 9, 3) := by decide +kernel
theorem dJ0_length_8abf5_4 : decode cJ0_length_8abf5 4 = .ok (.arraylength, 1) := by decide +kernel
theorem dJ0_length_8abf5_5 : decode cJ0_length_8abf5 5 = .ok (.aload_n 0, 1) := by decide +kernel
theorem dJ0_length_8abf5_6 : decode cJ0_length_8abf5 6 = .ok (.invokevirtual 335, 3) := by decide +kernel
theorem dJ0_length_8abf5_9 : decode cJ0_length_8abf5 9 = .ok (.ishr, 1) := by decide +kernel
theorem dJ0_length_8abf5_10 : decode cJ0_length_8abf5 10 = .ok (.ireturn, 1) := by decide +kernel
set_option maxRecDepth 20000 in
theorem ggJ0_charAt_5068e_J0_isLatin1_aae02 : GoodIn wsJ0_charAt_5068e wsJ0_isLatin1_aae02 := goodIn_r _ [6, 7, 8] (by decide +kernel) (by decide +kernel)
set_option maxRecDepth 20000 in
theorem gJ0_charAt_5068e_J0_isLatin1_aae02 : GoodIn wsJ0_charAt_5068e (wsV RJ0 492 RJ0 yJ0_isLatin1_aae02 wsJ0_isLatin1_aae02) := goodIn_app (goodIn_of _ (by decide +kernel)) ggJ0_charAt_5068e_J0_isLatin1_aae02
set_option maxRecDepth 20000 in
theorem ggJ0_charAt_5068e_J1_charAt_3b067 : GoodIn wsJ0_charAt_5068e wsJ1_charAt_3b067 := goodIn_r _ [12, 13, 14, 5, 15, 16, 17, 18, 19, 20] (by decide +kernel) (by decide +kernel)
set_option maxRecDepth 20000 in
theorem gJ0_charAt_5068e_J1_charAt_3b067 : GoodIn wsJ0_charAt_5068e (va_wsS RJ0 495 yJ1_charAt_3b067 wsJ1_charAt_3b067) := goodIn_app (goodIn_of _ (by decide +kernel)) ggJ0_charAt_5068e_J1_charAt_3b067
set_option maxRecDepth 20000 in
theorem ggJ0_charAt_5068e_J2_charAt_3b067 : GoodIn wsJ0_charAt_5068e wsJ2_charAt_3b067 := goodIn_r _ [24, 25, 26, 23, 27, 28, 29, 30, 31, 14, 5, 15, 16, 17, 18, 19, 20, 32, 33, 34, 35, 36, 37] (by decide +kernel) (by decide +kernel)
set_option maxRecDepth 20000 in
theorem gJ0_charAt_5068e_J2_charAt_3b067 : GoodIn wsJ0_charAt_5068e (va_wsS RJ0 498 yJ2_charAt_3b067 wsJ2_charAt_3b067) := goodIn_app (goodIn_of _ (by decide +kernel)) ggJ0_charAt_5068e_J2_charAt_3b067
theorem dJ0_charAt_5068e_0 : decode cJ0_charAt_5068e 0 = .ok (.aload_n 0, 1) := by decide +kernel
theorem dJ0_charAt_5068e_1 : decode cJ0_charAt_5068e 1 = .ok (.invokevirtual 492, 3) := by decide +kernel
theorem dJ0_charAt_5068e_4 : decode cJ0_charAt_5068e 4 = .ok (.ifCond .eq 12, 3) := by decide +kernel
theorem dJ0_charAt_5068e_7 : decode cJ0_charAt_5068e 7 = .ok (.aload_n 0, 1) := by decide +kernel
theorem dJ0_charAt_5068e_8 : decode cJ0_charAt_5068e 8 = .ok (.getfield 9, 3) := by decide +kernel
theorem dJ0_charAt_5068e_11 : decode cJ0_charAt_5068e 11 = .ok (.iload_n 1, 1) := by decide +kernel
theorem dJ0_charAt_5068e_12 : decode cJ0_charAt_5068e 12 = .ok (.invokestatic 495, 3) := by decide +kernel
theorem dJ0_charAt_5068e_15 : decode cJ0_charAt_5068e 15 = .ok (.ireturn, 1) := by decide +kernel
theorem dJ0_charAt_5068e_16 : decode cJ0_charAt_5068e 16 = .ok (.aload_n 0, 1) := by decide +kernel
theorem dJ0_charAt_5068e_17 : decode cJ0_charAt_5068e 17 = .ok (.getfield 9, 3) := by decide +kernel
theorem dJ0_charAt_5068e_20 : decode cJ0_charAt_5068e 20 = .ok (.iload_n 1, 1) := by decide +kernel
theorem dJ0_charAt_5068e_21 : decode cJ0_charAt_5068e 21 = .ok (.invokestatic 498, 3) := by decide +kernel
theorem dJ0_charAt_5068e_24 : decode cJ0_charAt_5068e 24 = .ok (.ireturn, 1) := by decide +kernel
theorem dJ0_coder_7d493_0 : decode cJ0_coder_7d493 0 = .ok (.getstatic 38, 3) := by decide +kernel
theorem dJ0_coder_7d493_3 : decode cJ0_coder_7d493 3 = .ok (.ifCond .eq 10, 3) := by decide +kernel
theorem dJ0_coder_7d493_6 : decode cJ0_coder_7d493 6 = .ok (.aload_n 0, 1) := by decide +kernel
theorem dJ0_coder_7d493_7 : decode cJ0_coder_7d493 7 = .ok (.getfield 15, 3) := by decide +kernel
theorem dJ0_coder_7d493_10 : decode cJ0_coder_7d493 10 = .ok (.goto 4, 3) := by decide +kernel
theorem dJ0_coder_7d493_13 : decode cJ0_coder_7d493 13 = .ok (.iconst 1, 1) := by decide +kernel
theorem dJ0_coder_7d493_14 : decode cJ0_coder_7d493 14 = .ok (.ireturn, 1) := by decide +kernel
theorem dJ0_isLatin1_aae02_0 : decode cJ0_isLatin1_aae02 0 = .ok (.getstatic 38, 3) := by decide +kernel
theorem dJ0_isLatin1_aae02_3 : decode cJ0_isLatin1_aae02 3 = .ok (.ifCond .eq 14, 3) := by decide +kernel
theorem dJ0_isLatin1_aae02_6 : decode cJ0_isLatin1_aae02 6 = .ok (.aload_n 0, 1) := by decide +kernel
theorem dJ0_isLatin1_aae02_7 : decode cJ0_isLatin1_aae02 7 = .ok (.getfield 15, 3) := by decide +kernel
theorem dJ0_isLatin1_aae02_10 : decode cJ0_isLatin1_aae02 10 = .ok (.ifCond .ne 7, 3) := by decide +kernel
theorem dJ0_isLatin1_aae02_13 : decode cJ0_isLatin1_aae02 13 = .ok (.iconst 1, 1) := by decide +kernel
theorem dJ0_isLatin1_aae02_14 : decode cJ0_isLatin1_aae02 14 = .ok (.goto 4, 3) := by decide +kernel
theorem dJ0_isLatin1_aae02_17 : decode cJ0_isLatin1_aae02 17 = .ok (.iconst 0, 1) := by decide +kernel
theorem dJ0_isLatin1_aae02_18 : decode cJ0_isLatin1_aae02 18 = .ok (.ireturn, 1) := by decide +kernel
set_option maxRecDepth 20000 in
theorem ggJ0_checkIndex_df160_J3_checkIndex_8e157 : GoodIn wsJ0_checkIndex_df160 wsJ3_checkIndex_8e157 := goodIn_r _ [5] (by decide +kernel) (by decide +kernel)
set_option maxRecDepth 20000 in
theorem gJ0_checkIndex_df160_J3_checkIndex_8e157 : GoodIn wsJ0_checkIndex_df160 (va_wsS RJ0 1059 yJ3_checkIndex_8e157 wsJ3_checkIndex_8e157) := goodIn_app (goodIn_of _ (by decide +kernel)) ggJ0_checkIndex_df160_J3_checkIndex_8e157
theorem dJ0_checkIndex_df160_0 : decode cJ0_checkIndex_df160 0 = .ok (.iload_n 0, 1) := by decide +kernel
theorem dJ0_checkIndex_df160_1 : decode cJ0_checkIndex_df160 1 = .ok (.iload_n 1, 1) := by decide +kernel
theorem dJ0_checkIndex_df160_2 : decode cJ0_checkIndex_df160 2 = .ok (.getstatic 1053, 3) := by decide +kernel
theorem dJ0_checkIndex_df160_5 : decode cJ0_checkIndex_df160 5 = .ok (.invokestatic 1059, 3) := by decide +kernel
theorem dJ0_checkIndex_df160_8 : decode cJ0_checkIndex_df160 8 = .ok (.pop, 1) := by decide +kernel
theorem dJ0_checkIndex_df160_9 : decode cJ0_checkIndex_df160 9 = .ok (.return_, 1) := by decide +kernel
set_option maxRecDepth 20000 in
theorem ggJ1_charAt_3b067_J0_checkIndex_df160 : GoodIn wsJ1_charAt_3b067 wsJ0_checkIndex_df160 := goodIn_r _ [4, 5, 6, 7, 8, 9] (by decide +kernel) (by decide +kernel)
set_option maxRecDepth 20000 in
theorem gJ1_charAt_3b067_J0_checkIndex_df160 : GoodIn wsJ1_charAt_3b067 (va_wsS RJ1 9 yJ0_checkIndex_df160 wsJ0_checkIndex_df160) := goodIn_app (goodIn_of _ (by decide +kernel)) ggJ1_charAt_3b067_J0_checkIndex_df160
theorem dJ1_charAt_3b067_0 : decode cJ1_charAt_3b067 0 = .ok (.iload_n 1, 1) := by decide +kernel
theorem dJ1_charAt_3b067_1 : decode cJ1_charAt_3b067 1 = .ok (.aload_n 0, 1) := by decide +kernel
theorem dJ1_charAt_3b067_2 : decode cJ1_charAt_3b067 2 = .ok (.arraylength, 1) := by decide +kernel
theorem dJ1_charAt_3b067_3 : decode cJ1_charAt_3b067 3 = .ok (.invokestatic 9, 3) := by decide +kernel
theorem dJ1_charAt_3b067_6 : decode cJ1_charAt_3b067 6 = .ok (.aload_n 0, 1) := by decide +kernel
theorem dJ1_charAt_3b067_7 : decode cJ1_charAt_3b067 7 = .ok (.iload_n 1, 1) := by decide +kernel
theorem dJ1_charAt_3b067_8 : decode cJ1_charAt_3b067 8 = .ok (.baload, 1) := by decide +kernel
theorem dJ1_charAt_3b067_9 : decode cJ1_charAt_3b067 9 = .ok (.sipush 255, 3) := by decide +kernel
theorem dJ1_charAt_3b067_12 : decode cJ1_charAt_3b067 12 = .ok (.iand, 1) := by decide +kernel
theorem dJ1_charAt_3b067_13 : decode cJ1_charAt_3b067 13 = .ok (.i2c, 1) := by decide +kernel
theorem dJ1_charAt_3b067_14 : decode cJ1_charAt_3b067 14 = .ok (.ireturn, 1) := by decide +kernel
set_option maxRecDepth 20000 in
theorem ggJ2_getChar_3b067_J2_length_9d52b : GoodIn wsJ2_getChar_3b067 wsJ2_length_9d52b := goodIn_r _ [7] (by decide +kernel) (by decide +kernel)
set_option maxRecDepth 20000 in
theorem gJ2_getChar_3b067_J2_length_9d52b : GoodIn wsJ2_getChar_3b067 (va_wsS RJ2 48 yJ2_length_9d52b wsJ2_length_9d52b) := goodIn_app (goodIn_of _ (by decide +kernel)) ggJ2_getChar_3b067_J2_length_9d52b
theorem dJ2_getChar_3b067_0 : decode cJ2_getChar_3b067 0 = .ok (.getstatic 44, 3) := by decide +kernel
theorem dJ2_getChar_3b067_3 : decode cJ2_getChar_3b067 3 = .ok (.ifCond .ne 25, 3) := by decide +kernel
theorem dJ2_getChar_3b067_6 : decode cJ2_getChar_3b067 6 = .ok (.iload_n 1, 1) := by decide +kernel
theorem dJ2_getChar_3b067_7 : decode cJ2_getChar_3b067 7 = .ok (.ifCond .lt 11, 3) := by decide +kernel
theorem dJ2_getChar_3b067_10 : decode cJ2_getChar_3b067 10 = .ok (.iload_n 1, 1) := by decide +kernel
theorem dJ2_getChar_3b067_11 : decode cJ2_getChar_3b067 11 = .ok (.aload_n 0, 1) := by decide +kernel
theorem dJ2_getChar_3b067_12 : decode cJ2_getChar_3b067 12 = .ok (.invokestatic 48, 3) := by decide +kernel
theorem dJ2_getChar_3b067_15 : decode cJ2_getChar_3b067 15 = .ok (.if_icmp .lt 13, 3) := by decide +kernel
theorem dJ2_getChar_3b067_18 : decode cJ2_getChar_3b067 18 = .ok (.new 52, 3) := by decide +kernel
theorem dJ2_getChar_3b067_21 : decode cJ2_getChar_3b067 21 = .ok (.dup, 1) := by decide +kernel
theorem dJ2_getChar_3b067_22 : decode cJ2_getChar_3b067 22 = .ok (.ldc 54, 2) := by decide +kernel
theorem dJ2_getChar_3b067_24 : decode cJ2_getChar_3b067 24 = .ok (.invokespecial 56, 3) := by decide +kernel
theorem dJ2_getChar_3b067_27 : decode cJ2_getChar_3b067 27 = .ok (.athrow, 1) := by decide +kernel
theorem dJ2_getChar_3b067_28 : decode cJ2_getChar_3b067 28 = .ok (.iload_n 1, 1) := by decide +kernel
theorem dJ2_getChar_3b067_29 : decode cJ2_getChar_3b067 29 = .ok (.iconst 1, 1) := by decide +kernel
theorem dJ2_getChar_3b067_30 : decode cJ2_getChar_3b067 30 = .ok (.ishl, 1) := by decide +kernel
theorem dJ2_getChar_3b067_31 : decode cJ2_getChar_3b067 31 = .ok (.istore_n 1, 1) := by decide +kernel
theorem dJ2_getChar_3b067_32 : decode cJ2_getChar_3b067 32 = .ok (.aload_n 0, 1) := by decide +kernel
theorem dJ2_getChar_3b067_33 : decode cJ2_getChar_3b067 33 = .ok (.iload_n 1, 1) := by decide +kernel
theorem dJ2_getChar_3b067_34 : decode cJ2_getChar_3b067 34 = .ok (.iinc 1 1, 3) := by decide +kernel
theorem dJ2_getChar_3b067_37 : decode cJ2_getChar_3b067 37 = .ok (.baload, 1) := by decide +kernel
theorem dJ2_getChar_3b067_38 : decode cJ2_getChar_3b067 38 = .ok (.sipush 255, 3) := by decide +kernel
theorem dJ2_getChar_3b067_41 : decode cJ2_getChar_3b067 41 = .ok (.iand, 1) := by decide +kernel
theorem dJ2_getChar_3b067_42 : decode cJ2_getChar_3b067 42 = .ok (.getstatic 59, 3) := by decide +kernel
theorem dJ2_getChar_3b067_45 : decode cJ2_getChar_3b067 45 = .ok (.ishl, 1) := by decide +kernel
theorem dJ2_getChar_3b067_46 : decode cJ2_getChar_3b067 46 = .ok (.aload_n 0, 1) := by decide +kernel
theorem dJ2_getChar_3b067_47 : decode cJ2_getChar_3b067 47 = .ok (.iload_n 1, 1) := by decide +kernel
theorem dJ2_getChar_3b067_48 : decode cJ2_getChar_3b067 48 = .ok (.baload, 1) := by decide +kernel
theorem dJ2_getChar_3b067_49 : decode cJ2_getChar_3b067 49 = .ok (.sipush 255, 3) := by decide +kernel
theorem dJ2_getChar_3b067_52 : decode cJ2_getChar_3b067 52 = .ok (.iand, 1) := by decide +kernel
theorem dJ2_getChar_3b067_53 : decode cJ2_getChar_3b067 53 = .ok (.getstatic 63, 3) := by decide +kernel
theorem dJ2_getChar_3b067_56 : decode cJ2_getChar_3b067 56 = .ok (.ishl, 1) := by decide +kernel
theorem dJ2_getChar_3b067_57 : decode cJ2_getChar_3b067 57 = .ok (.ior, 1) := by decide +kernel
theorem dJ2_getChar_3b067_58 : decode cJ2_getChar_3b067 58 = .ok (.i2c, 1) := by decide +kernel
theorem dJ2_getChar_3b067_59 : decode cJ2_getChar_3b067 59 = .ok (.ireturn, 1) := by decide +kernel
theorem dJ2_length_9d52b_0 : decode cJ2_length_9d52b 0 = .ok (.aload_n 0, 1) := by decide +kernel
theorem dJ2_length_9d52b_1 : decode cJ2_length_9d52b 1 = .ok (.arraylength, 1) := by decide +kernel
theorem dJ2_length_9d52b_2 : decode cJ2_length_9d52b 2 = .ok (.iconst 1, 1) := by decide +kernel
theorem dJ2_length_9d52b_3 : decode cJ2_length_9d52b 3 = .ok (.ishr, 1) := by decide +kernel
theorem dJ2_length_9d52b_4 : decode cJ2_length_9d52b 4 = .ok (.ireturn, 1) := by decide +kernel
set_option maxRecDepth 20000 in
theorem ggJ2_charAt_3b067_J2_checkIndex_2214a : GoodIn wsJ2_charAt_3b067 wsJ2_checkIndex_2214a := goodIn_r _ [4, 5, 6, 3, 7, 8, 9, 10, 11, 12, 13, 14, 15, 16] (by decide +kernel) (by decide +kernel)
set_option maxRecDepth 20000 in
theorem gJ2_charAt_3b067_J2_checkIndex_2214a : GoodIn wsJ2_charAt_3b067 (va_wsS RJ2 67 yJ2_checkIndex_2214a wsJ2_checkIndex_2214a) := goodIn_app (goodIn_of _ (by decide +kernel)) ggJ2_charAt_3b067_J2_checkIndex_2214a
set_option maxRecDepth 20000 in
theorem ggJ2_charAt_3b067_J2_getChar_3b067 : GoodIn wsJ2_charAt_3b067 wsJ2_getChar_3b067 := goodIn_r _ [19, 20, 21, 22, 5, 6, 3, 7] (by decide +kernel) (by decide +kernel)
set_option maxRecDepth 20000 in
theorem gJ2_charAt_3b067_J2_getChar_3b067 : GoodIn wsJ2_charAt_3b067 (va_wsS RJ2 71 yJ2_getChar_3b067 wsJ2_getChar_3b067) := goodIn_app (goodIn_of _ (by decide +kernel)) ggJ2_charAt_3b067_J2_getChar_3b067
theorem dJ2_charAt_3b067_0 : decode cJ2_charAt_3b067 0 = .ok (.iload_n 1, 1) := by decide +kernel
theorem dJ2_charAt_3b067_1 : decode cJ2_charAt_3b067 1 = .ok (.aload_n 0, 1) := by decide +kernel
theorem dJ2_charAt_3b067_2 : decode cJ2_charAt_3b067 2 = .ok (.invokestatic 67, 3) := by decide +kernel
theorem dJ2_charAt_3b067_5 : decode cJ2_charAt_3b067 5 = .ok (.aload_n 0, 1) := by decide +kernel
theorem dJ2_charAt_3b067_6 : decode cJ2_charAt_3b067 6 = .ok (.iload_n 1, 1) := by decide +kernel
theorem dJ2_charAt_3b067_7 : decode cJ2_charAt_3b067 7 = .ok (.invokestatic 71, 3) := by decide +kernel
theorem dJ2_charAt_3b067_10 : decode cJ2_charAt_3b067 10 = .ok (.ireturn, 1) := by decide +kernel
set_option maxRecDepth 20000 in
theorem ggJ2_checkIndex_2214a_J2_length_9d52b : GoodIn wsJ2_checkIndex_2214a wsJ2_length_9d52b := goodIn_r _ [4] (by decide +kernel) (by decide +kernel)
set_option maxRecDepth 20000 in
theorem gJ2_checkIndex_2214a_J2_length_9d52b : GoodIn wsJ2_checkIndex_2214a (va_wsS RJ2 48 yJ2_length_9d52b wsJ2_length_9d52b) := goodIn_app (goodIn_of _ (by decide +kernel)) ggJ2_checkIndex_2214a_J2_length_9d52b
set_option maxRecDepth 20000 in
theorem ggJ2_checkIndex_2214a_J0_checkIndex_df160 : GoodIn wsJ2_checkIndex_2214a wsJ0_checkIndex_df160 := goodIn_r _ [8, 9, 10, 11, 12, 13] (by decide +kernel) (by decide +kernel)
set_option maxRecDepth 20000 in
theorem gJ2_checkIndex_2214a_J0_checkIndex_df160 : GoodIn wsJ2_checkIndex_2214a (va_wsS RJ2 414 yJ0_checkIndex_df160 wsJ0_checkIndex_df160) := goodIn_app (goodIn_of _ (by decide +kernel)) ggJ2_checkIndex_2214a_J0_checkIndex_df160
theorem dJ2_checkIndex_2214a_0 : decode cJ2_checkIndex_2214a 0 = .ok (.iload_n 0, 1) := by decide +kernel
theorem dJ2_checkIndex_2214a_1 : decode cJ2_checkIndex_2214a 1 = .ok (.aload_n 1, 1) := by decide +kernel
theorem dJ2_checkIndex_2214a_2 : decode cJ2_checkIndex_2214a 2 = .ok (.invokestatic 48, 3) := by decide +kernel
theorem dJ2_checkIndex_2214a_5 : decode cJ2_checkIndex_2214a 5 = .ok (.invokestatic 414, 3) := by decide +kernel
theorem dJ2_checkIndex_2214a_8 : decode cJ2_checkIndex_2214a 8 = .ok (.return_, 1) := by decide +kernel
theorem dJ7_fill_d0a16_0 : decode cJ7_fill_d0a16 0 = .ok (.iconst 0, 1) := by decide +kernel
theorem dJ7_fill_d0a16_1 : decode cJ7_fill_d0a16 1 = .ok (.istore_n 3, 1) := by decide +kernel
theorem dJ7_fill_d0a16_2 : decode cJ7_fill_d0a16 2 = .ok (.aload_n 0, 1) := by decide +kernel
theorem dJ7_fill_d0a16_3 : decode cJ7_fill_d0a16 3 = .ok (.arraylength, 1) := by decide +kernel
theorem dJ7_fill_d0a16_4 : decode cJ7_fill_d0a16 4 = .ok (.istore 4, 2) := by decide +kernel
theorem dJ7_fill_d0a16_6 : decode cJ7_fill_d0a16 6 = .ok (.iload_n 3, 1) := by decide +kernel
theorem dJ7_fill_d0a16_7 : decode cJ7_fill_d0a16 7 = .ok (.iload 4, 2) := by decide +kernel
theorem dJ7_fill_d0a16_9 : decode cJ7_fill_d0a16 9 = .ok (.if_icmp .ge 13, 3) := by decide +kernel
theorem dJ7_fill_d0a16_12 : decode cJ7_fill_d0a16 12 = .ok (.aload_n 0, 1) := by decide +kernel
theorem dJ7_fill_d0a16_13 : decode cJ7_fill_d0a16 13 = .ok (.iload_n 3, 1) := by decide +kernel
theorem dJ7_fill_d0a16_14 : decode cJ7_fill_d0a16 14 = .ok (.lload_n 1, 1) := by decide +kernel
theorem dJ7_fill_d0a16_15 : decode cJ7_fill_d0a16 15 = .ok (.lastore, 1) := by decide +kernel
theorem dJ7_fill_d0a16_16 : decode cJ7_fill_d0a16 16 = .ok (.iinc 3 1, 3) := by decide +kernel
theorem dJ7_fill_d0a16_19 : decode cJ7_fill_d0a16 19 = .ok (.goto (-13), 3) := by decide +kernel
theorem dJ7_fill_d0a16_22 : decode cJ7_fill_d0a16 22 = .ok (.return_, 1) := by decide +kernel
theorem dJ7_fill_53178_0 : decode cJ7_fill_53178 0 = .ok (.iconst 0, 1) := by decide +kernel
theorem dJ7_fill_53178_1 : decode cJ7_fill_53178 1 = .ok (.istore_n 2, 1) := by decide +kernel
theorem dJ7_fill_53178_2 : decode cJ7_fill_53178 2 = .ok (.aload_n 0, 1) := by decide +kernel
theorem dJ7_fill_53178_3 : decode cJ7_fill_53178 3 = .ok (.arraylength, 1) := by decide +kernel
theorem dJ7_fill_53178_4 : decode cJ7_fill_53178 4 = .ok (.istore_n 3, 1) := by decide +kernel
theorem dJ7_fill_53178_5 : decode cJ7_fill_53178 5 = .ok (.iload_n 2, 1) := by decide +kernel
theorem dJ7_fill_53178_6 : decode cJ7_fill_53178 6 = .ok (.iload_n 3, 1) := by decide +kernel
theorem dJ7_fill_53178_7 : decode cJ7_fill_53178 7 = .ok (.if_icmp .ge 13, 3) := by decide +kernel
theorem dJ7_fill_53178_10 : decode cJ7_fill_53178 10 = .ok (.aload_n 0, 1) := by decide +kernel
theorem dJ7_fill_53178_11 : decode cJ7_fill_53178 11 = .ok (.iload_n 2, 1) := by decide +kernel
theorem dJ7_fill_53178_12 : decode cJ7_fill_53178 12 = .ok (.iload_n 1, 1) := by decide +kernel
theorem dJ7_fill_53178_13 : decode cJ7_fill_53178 13 = .ok (.iastore, 1) := by decide +kernel
theorem dJ7_fill_53178_14 : decode cJ7_fill_53178 14 = .ok (.iinc 2 1, 3) := by decide +kernel
theorem dJ7_fill_53178_17 : decode cJ7_fill_53178 17 = .ok (.goto (-12), 3) := by decide +kernel
theorem dJ7_fill_53178_20 : decode cJ7_fill_53178 20 = .ok (.return_, 1) := by decide +kernel
theorem dJ3_checkIndex_8e157_0 : decode cJ3_checkIndex_8e157 0 = .ok (.iload_n 0, 1) := by decide +kernel
theorem dJ3_checkIndex_8e157_1 : decode cJ3_checkIndex_8e157 1 = .ok (.ifCond .lt 8, 3) := by decide +kernel
theorem dJ3_checkIndex_8e157_4 : decode cJ3_checkIndex_8e157 4 = .ok (.iload_n 0, 1) := by decide +kernel
theorem dJ3_checkIndex_8e157_5 : decode cJ3_checkIndex_8e157 5 = .ok (.iload_n 1, 1) := by decide +kernel
theorem dJ3_checkIndex_8e157_6 : decode cJ3_checkIndex_8e157 6 = .ok (.if_icmp .lt 10, 3) := by decide +kernel
theorem dJ3_checkIndex_8e157_9 : decode cJ3_checkIndex_8e157 9 = .ok (.aload_n 2, 1) := by decide +kernel
theorem dJ3_checkIndex_8e157_10 : decode cJ3_checkIndex_8e157 10 = .ok (.iload_n 0, 1) := by decide +kernel
theorem dJ3_checkIndex_8e157_11 : decode cJ3_checkIndex_8e157 11 = .ok (.iload_n 1, 1) := by decide +kernel
theorem dJ3_checkIndex_8e157_12 : decode cJ3_checkIndex_8e157 12 = .ok (.invokestatic 95, 3) := by decide +kernel
theorem dJ3_checkIndex_8e157_15 : decode cJ3_checkIndex_8e157 15 = .ok (.athrow, 1) := by decide +kernel
theorem dJ3_checkIndex_8e157_16 : decode cJ3_checkIndex_8e157 16 = .ok (.iload_n 0, 1) := by decide +kernel
theorem dJ3_checkIndex_8e157_17 : decode cJ3_checkIndex_8e157 17 = .ok (.ireturn, 1) := by decide +kernel
set_option maxRecDepth 20000 in
theorem ggL_law_X9_init : GoodIn wsL_law wsX9_init := goodIn_r _ [9, 10, 11, 12, 13, 14, 15, 16, 17, 18, 19, 20, 21, 22, 23, 24, 25, 26, 27, 28, 29, 30, 31, 32, 33, 34, 35, 36, 37, 38, 39, 40, 41, 42, 43, 44, 45, 46, 47, 48, 49, 50, 51, 52, 53, 54, 55, 56, 57, 58, 59, 60, 61, 62, 63, 64, 65, 66, 67, 68, 69, 70, 71, 72, 73, 74, 75, 76, 77, 78, 79, 80, 81, 82, 83, 84, 85, 86, 87, 88, 89, 90, 91, 92, 93, 94, 95, 96, 97, 98, 99, 100, 101, 102, 103, 104, 105, 106, 107, 108, 109, 110, 111, 112, 113, 114, 115, 116, 117, 118, 119, 120, 121, 122, 123, 124, 125, 126, 127, 128, 129, 130, 131, 132, 133, 134, 135, 136, 137, 138, 139, 140, 141, 142, 143, 144, 145, 146, 147, 148, 149, 150, 151, 152, 153, 154, 155, 156, 157, 158, 159, 160, 161, 162, 163, 164, 165, 166, 167, 168, 169, 1627, 1628, 1629, 1630, 1631, 1632, 1633, 1634, 1635, 1636, 1637, 1638, 1639, 1640, 1641, 1642, 1643, 1701, 1702, 1703, 1704, 1705, 1706, 1707, 1708, 1709, 1710, 1711, 1712, 1713, 1714, 1715, 1716, 1717, 1718, 1719, 1720, 1721, 1722, 1723, 1724, 1725, 1726, 1727, 1728, 1729, 1730, 1731, 1732, 1733, 1734, 1735, 1736, 1737, 1738, 1739, 1740, 1741, 1742, 1743, 1744, 1745, 1746, 1747, 1748, 1749, 1750, 1751, 1752, 1753, 1754, 1755, 1756, 1757, 1758, 1759, 1760, 1761, 1762, 1763, 1764, 1765, 1766, 1767, 1768, 1769, 1770] (by decide +kernel) (by decide +kernel)
set_option maxRecDepth 20000 in
theorem gL_law_X9_init : GoodIn wsL_law (wsX9_init) := ggL_law_X9_init
set_option maxRecDepth 20000 in
theorem ggL_law_X10_init : GoodIn wsL_law wsX10_init := goodIn_r _ [172, 173, 11, 12, 13, 174, 175, 176, 177, 178, 179, 180, 181, 182, 183, 184, 185, 186, 187, 188, 119, 189, 190, 191, 192, 193, 194, 195, 196, 197, 198, 199, 200, 201, 202, 203, 204, 205, 206, 207, 208, 209, 210, 211, 212, 213, 214, 215, 216, 217, 1644, 1645, 1646, 1647, 1648, 1649, 1650, 1651, 1652, 1653, 1654, 1655, 1656, 1657, 1658, 1659, 1660, 1661, 1662, 1663, 1664, 1665, 1666, 1667, 1668, 1669, 1670, 1671, 1672, 1673, 1674, 1675, 1676, 1677, 1678, 1679, 1680, 1681, 1682, 1683, 1684, 1685, 1686, 1687, 1688, 1689, 1690, 1691, 1692, 1693, 1694, 1695, 1696, 1697, 1698, 1699, 1700] (by decide +kernel) (by decide +kernel)
set_option maxRecDepth 20000 in
theorem gL_law_X10_init : GoodIn wsL_law (wsX10_init) := ggL_law_X10_init
set_option maxRecDepth 20000 in
theorem ggL_law_X9_feed : GoodIn wsL_law wsX9_feed := goodIn_r _ [221, 15, 222, 223, 224, 2, 225, 14, 1627, 1628, 1629, 1630, 1631, 1632, 1633, 1634, 1635, 1636, 1637, 1638, 1639, 1640, 1641, 1642, 1643] (by decide +kernel) (by decide +kernel)
set_option maxRecDepth 20000 in
theorem gL_law_X9_feed : GoodIn wsL_law (wsV RL 13 RX9 yX9_feed wsX9_feed) := goodIn_app (goodIn_of _ (by decide +kernel)) ggL_law_X9_feed
set_option maxRecDepth 20000 in
theorem ggL_law_X10_feed : GoodIn wsL_law wsX10_feed := goodIn_r _ [229, 230, 174, 1644, 1645, 1646, 1647, 1648, 1649, 1650, 1651, 1652, 1653, 1654, 1655, 1656, 1657, 1658, 1659, 1660, 1661, 1662, 1663, 1664, 1665, 1666, 1667, 1668, 1669, 1670, 1671, 1672, 1673, 1674, 1675, 1676, 1677, 1678, 1679, 1680, 1681, 1682, 1683, 1684, 1685, 1686, 1687, 1688, 1689, 1690, 1691, 1692, 1693, 1694, 1695, 1696, 1697, 1698, 1699, 1700] (by decide +kernel) (by decide +kernel)
set_option maxRecDepth 20000 in
theorem gL_law_X10_feed : GoodIn wsL_law (wsV RL 17 RX10 yX10_feed wsX10_feed) := goodIn_app (goodIn_of _ (by decide +kernel)) ggL_law_X10_feed
set_option maxRecDepth 20000 in
theorem ggL_law_X9_end : GoodIn wsL_law wsX9_end := goodIn_r _ [234, 15, 1627, 1628, 1629, 1630, 1631, 1632, 1633, 1634, 1635, 1636, 1637, 1638, 1639, 1640, 1641, 1642, 1643] (by decide +kernel) (by decide +kernel)
set_option maxRecDepth 20000 in
theorem gL_law_X9_end : GoodIn wsL_law (wsV RL 18 RX9 yX9_end wsX9_end) := goodIn_app (goodIn_of _ (by decide +kernel)) ggL_law_X9_end
set_option maxRecDepth 20000 in
theorem ggL_law_X10_end : GoodIn wsL_law wsX10_end := goodIn_r _ [238, 230, 1644, 1645, 1646, 1647, 1648, 1649, 1650, 1651, 1652, 1653, 1654, 1655, 1656, 1657, 1658, 1659, 1660, 1661, 1662, 1663, 1664, 1665, 1666, 1667, 1668, 1669, 1670, 1671, 1672, 1673, 1674, 1675, 1676, 1677, 1678, 1679, 1680, 1681, 1682, 1683, 1684, 1685, 1686, 1687, 1688, 1689, 1690, 1691, 1692, 1693, 1694, 1695, 1696, 1697, 1698, 1699, 1700] (by decide +kernel) (by decide +kernel)
set_option maxRecDepth 20000 in
theorem gL_law_X10_end : GoodIn wsL_law (wsV RL 22 RX10 yX10_end wsX10_end) := goodIn_app (goodIn_of _ (by decide +kernel)) ggL_law_X10_end
set_option maxRecDepth 20000 in
theorem ggL_law_X9_block : GoodIn wsL_law wsX9_block := goodIn_r _ [242, 24, 15, 243, 56, 244, 57, 19, 20, 28, 245, 246, 34, 247, 248, 249, 23, 250, 90, 251, 252, 253, 254, 80, 81, 84, 78, 79, 91, 255, 256, 257, 18, 258, 61, 70, 72, 259, 260, 261, 262, 263, 264, 265, 266, 267, 268, 269, 270, 82, 271, 272, 273, 274, 83, 275, 276, 277, 278, 279, 280, 281, 282, 283, 284, 285, 286, 287, 288, 289, 290, 291, 292, 293, 294, 295, 296, 297, 298, 299, 300, 301, 302, 303, 304, 305, 306, 307, 308, 309, 310, 311, 312, 313, 314, 315, 316, 317, 318, 319, 320, 321, 322, 323, 324, 325, 326, 327, 328, 329, 330, 331, 332, 333, 334, 335, 336, 337, 338, 339, 340, 341, 342, 343, 344, 345, 346, 347, 85, 86, 87, 348, 349, 350, 351, 352, 353, 354, 355, 356, 357, 358, 359, 360, 361, 362, 363, 63, 364, 365, 366, 367, 368, 369, 370, 371, 372, 373, 374, 375, 376, 377, 378, 379, 380, 381, 382, 383, 384, 64, 65, 385, 386, 387, 388, 389, 390, 391, 392, 393, 88, 89, 394, 395, 396, 397, 66, 67, 398, 399, 400, 401, 402, 403, 404, 405, 69, 406, 407, 408, 409, 68, 410, 411, 412, 413, 414, 415, 416, 417, 418, 71, 419, 420, 421, 422, 423, 424, 425, 426, 427, 73, 428, 429, 430, 431, 432, 433, 434, 435, 436, 437, 438, 439, 440, 441, 2, 442, 443, 444, 445, 446, 447, 448, 449, 450, 451, 33, 452, 113, 453, 108, 454, 455, 456, 457, 114, 458, 459, 460, 461, 462, 463, 464, 465, 466, 467, 468, 469, 470, 471, 109, 472, 473, 112, 474, 475, 476, 27, 477, 102, 478, 479, 480, 481, 103, 482, 99, 97, 483, 484, 485, 486, 487, 488, 489, 490, 110, 491, 492, 493, 494, 495, 496, 497, 498, 499, 500, 501, 502, 503, 504, 505, 506, 507, 508, 509, 510, 511, 512, 513, 514, 515, 516, 517, 518, 519, 520, 521, 522, 523, 524, 525, 526, 527, 100, 528, 529, 530, 531, 532, 96, 533, 534, 535, 536, 537, 1627, 1628, 1629, 1630, 1631, 1632, 1633, 1634, 1635, 1636, 1637, 1638, 1639, 1640, 1641, 1642, 1643, 1713, 1714, 1715, 1716, 1717, 1718, 1719, 1720, 1721, 1722, 1723, 1724, 1725, 1726, 1727, 1728, 1729, 1730, 1731, 1732, 1733, 1701, 1702, 1703, 1704, 1705, 1706, 1707, 1708, 1709, 1710, 1711, 1712, 1734, 1735, 1736, 1737, 1738, 1739] (by decide +kernel) (by decide +kernel)
set_option maxRecDepth 20000 in
theorem gL_law_X9_block : GoodIn wsL_law (wsV RL 23 RX9 yX9_block wsX9_block) := goodIn_app (goodIn_of _ (by decide +kernel)) ggL_law_X9_block
set_option maxRecDepth 20000 in
theorem ggL_law_X10_block : GoodIn wsL_law wsX10_block := goodIn_r _ [541, 230, 542, 543, 544, 545, 546, 547, 190, 548, 175, 549, 550, 551, 5, 552, 174, 553, 554, 555, 556, 177, 178, 182, 183, 186, 188, 557, 558, 559, 560, 561, 562, 563, 564, 565, 566, 567, 568, 569, 570, 571, 572, 573, 574, 575, 576, 577, 578, 579, 580, 189, 581, 582, 583, 584, 585, 586, 587, 588, 589, 590, 179, 180, 181, 184, 185, 187, 591, 592, 593, 594, 595, 596, 597, 598, 191, 192, 193, 599, 600, 601, 602, 603, 604, 605, 606, 607, 608, 609, 610, 611, 612, 613, 614, 615, 616, 617, 618, 619, 620, 195, 621, 622, 623, 624, 197, 198, 199, 200, 625, 626, 627, 628, 196, 629, 630, 631, 632, 194, 633, 634, 635, 636, 637, 638, 639, 640, 641, 642, 643, 644, 202, 203, 645, 646, 647, 648, 205, 204, 206, 649, 650, 651, 652, 653, 654, 655, 656, 657, 658, 659, 660, 661, 662, 663, 664, 665, 666, 667, 668, 669, 670, 671, 672, 673, 674, 675, 676, 677, 678, 679, 680, 681, 682, 683, 684, 685, 686, 687, 688, 689, 690, 691, 692, 693, 694, 695, 696, 697, 698, 699, 700, 701, 702, 703, 704, 705, 706, 707, 708, 709, 710, 711, 712, 713, 714, 715, 716, 717, 718, 719, 1644, 1645, 1646, 1647, 1648, 1649, 1650, 1651, 1652, 1653, 1654, 1655, 1656, 1657, 1658, 1659, 1660, 1661, 1662, 1663, 1664, 1665, 1666, 1667, 1668, 1669, 1670, 1671, 1672, 1673, 1674, 1675, 1676, 1677, 1678, 1679, 1680, 1681, 1682, 1683, 1684, 1685, 1686, 1687, 1688, 1689, 1690, 1691, 1692, 1693, 1694, 1695, 1696, 1697, 1698, 1699, 1700] (by decide +kernel) (by decide +kernel)
set_option maxRecDepth 20000 in
theorem gL_law_X10_block : GoodIn wsL_law (wsV RL 27 RX10 yX10_block wsX10_block) := goodIn_app (goodIn_of _ (by decide +kernel)) ggL_law_X10_block
set_option maxRecDepth 20000 in
theorem ggL_law_X9_fault : GoodIn wsL_law wsX9_fault := goodIn_r _ [723, 56, 57, 1627, 1628, 1629, 1630, 1631, 1632, 1633, 1634, 1635, 1636, 1637, 1638, 1639, 1640, 1641, 1642, 1643] (by decide +kernel) (by decide +kernel)
set_option maxRecDepth 20000 in
theorem gL_law_X9_fault : GoodIn wsL_law (wsV RL 28 RX9 yX9_fault wsX9_fault) := goodIn_app (goodIn_of _ (by decide +kernel)) ggL_law_X9_fault
set_option maxRecDepth 20000 in
theorem ggL_law_X10_fault : GoodIn wsL_law wsX10_fault := goodIn_r _ [727, 548, 175, 1644, 1645, 1646, 1647, 1648, 1649, 1650, 1651, 1652, 1653, 1654, 1655, 1656, 1657, 1658, 1659, 1660, 1661, 1662, 1663, 1664, 1665, 1666, 1667, 1668, 1669, 1670, 1671, 1672, 1673, 1674, 1675, 1676, 1677, 1678, 1679, 1680, 1681, 1682, 1683, 1684, 1685, 1686, 1687, 1688, 1689, 1690, 1691, 1692, 1693, 1694, 1695, 1696, 1697, 1698, 1699, 1700] (by decide +kernel) (by decide +kernel)
set_option maxRecDepth 20000 in
theorem gL_law_X10_fault : GoodIn wsL_law (wsV RL 32 RX10 yX10_fault wsX10_fault) := goodIn_app (goodIn_of _ (by decide +kernel)) ggL_law_X10_fault
set_option maxRecDepth 20000 in
theorem ggL_law_X9_has : GoodIn wsL_law wsX9_has := goodIn_r _ [731, 19, 732, 28, 245, 733, 734, 735, 2, 736, 737, 475, 476, 27, 477, 102, 738, 739, 740, 741, 103, 527, 528, 529, 530, 531, 532, 96, 1627, 1628, 1629, 1630, 1631, 1632, 1633, 1634, 1635, 1636, 1637, 1638, 1639, 1640, 1641, 1642, 1643, 1701, 1702, 1703, 1704, 1705, 1706, 1707, 1708, 1709, 1710, 1711, 1712, 1727, 1728, 1729, 1730, 1731, 1732, 1733] (by decide +kernel) (by decide +kernel)
set_option maxRecDepth 20000 in
theorem gL_law_X9_has : GoodIn wsL_law (wsV RL 33 RX9 yX9_has wsX9_has) := goodIn_app (goodIn_of _ (by decide +kernel)) ggL_law_X9_has
set_option maxRecDepth 20000 in
theorem ggL_law_X10_has : GoodIn wsL_law wsX10_has := goodIn_r _ [745, 190, 203, 746, 747, 748, 5, 749, 202, 673, 674, 675, 676, 750, 751, 752, 753, 665, 666, 667, 668, 716, 717, 718, 719, 195, 1644, 1645, 1646, 1647, 1648, 1649, 1650, 1651, 1652, 1653, 1654, 1655, 1656, 1657, 1658, 1659, 1660, 1661, 1662, 1663, 1664, 1665, 1666, 1667, 1668, 1669, 1670, 1671, 1672, 1673, 1674, 1675, 1676, 1677, 1678, 1679, 1680, 1681, 1682, 1683, 1684, 1685, 1686, 1687, 1688, 1689, 1690, 1691, 1692, 1693, 1694, 1695, 1696, 1697, 1698, 1699, 1700] (by decide +kernel) (by decide +kernel)
set_option maxRecDepth 20000 in
theorem gL_law_X10_has : GoodIn wsL_law (wsV RL 36 RX10 yX10_has wsX10_has) := goodIn_app (goodIn_of _ (by decide +kernel)) ggL_law_X10_has
set_option maxRecDepth 20000 in
theorem ggL_law_X9_letter : GoodIn wsL_law wsX9_letter := goodIn_r _ [757, 19, 758, 759, 760, 761, 18, 762, 61, 1627, 1628, 1629, 1630, 1631, 1632, 1633, 1634, 1635, 1636, 1637, 1638, 1639, 1640, 1641, 1642, 1643, 1701, 1702, 1703, 1704, 1705, 1706, 1707, 1708, 1709, 1710, 1711, 1712] (by decide +kernel) (by decide +kernel)
set_option maxRecDepth 20000 in
theorem gL_law_X9_letter : GoodIn wsL_law (wsV RL 37 RX9 yX9_letter wsX9_letter) := goodIn_app (goodIn_of _ (by decide +kernel)) ggL_law_X9_letter
set_option maxRecDepth 20000 in
theorem ggL_law_X10_letter : GoodIn wsL_law wsX10_letter := goodIn_r _ [766, 767, 190, 768, 189, 585, 614, 615, 5, 616, 1644, 1645, 1646, 1647, 1648, 1649, 1650, 1651, 1652, 1653, 1654, 1655, 1656, 1657, 1658, 1659, 1660, 1661, 1662, 1663, 1664, 1665, 1666, 1667, 1668, 1669, 1670, 1671, 1672, 1673, 1674, 1675, 1676, 1677, 1678, 1679, 1680, 1681, 1682, 1683, 1684, 1685, 1686, 1687, 1688, 1689, 1690, 1691, 1692, 1693, 1694, 1695, 1696, 1697, 1698, 1699, 1700] (by decide +kernel) (by decide +kernel)
set_option maxRecDepth 20000 in
theorem gL_law_X10_letter : GoodIn wsL_law (wsV RL 41 RX10 yX10_letter wsX10_letter) := goodIn_app (goodIn_of _ (by decide +kernel)) ggL_law_X10_letter
set_option maxRecDepth 20000 in
theorem ggL_law_X9_picture : GoodIn wsL_law wsX9_picture := goodIn_r _ [772, 19, 773, 774, 28, 775, 776, 777, 778, 46, 779, 759, 760, 761, 18, 762, 61, 780, 781, 782, 27, 783, 103, 527, 784, 475, 476, 477, 102, 785, 786, 787, 45, 788, 789, 790, 791, 792, 140, 142, 793, 143, 794, 795, 796, 797, 141, 798, 799, 800, 801, 802, 803, 804, 805, 806, 807, 260, 261, 262, 808, 529, 530, 531, 532, 96, 809, 810, 811, 812, 1627, 1628, 1629, 1630, 1631, 1632, 1633, 1634, 1635, 1636, 1637, 1638, 1639, 1640, 1641, 1642, 1643, 1701, 1702, 1703, 1704, 1705, 1706, 1707, 1708, 1709, 1710, 1711, 1712, 1727, 1728, 1729, 1730, 1731, 1732, 1733, 1750, 1751, 1752, 1753] (by decide +kernel) (by decide +kernel)
set_option maxRecDepth 20000 in
theorem gL_law_X9_picture : GoodIn wsL_law (wsV RL 42 RX9 yX9_picture wsX9_picture) := goodIn_app (goodIn_of _ (by decide +kernel)) ggL_law_X9_picture
set_option maxRecDepth 20000 in
theorem ggL_law_X10_picture : GoodIn wsL_law wsX10_picture := goodIn_r _ [816, 817, 204, 192, 205, 818, 819, 820, 5, 821, 649, 650, 651, 652, 190, 614, 615, 616, 822, 823, 824, 825, 191, 826, 827, 828, 829, 202, 673, 674, 675, 676, 677, 678, 679, 680, 197, 681, 682, 683, 684, 198, 830, 831, 832, 833, 209, 834, 835, 836, 837, 838, 839, 840, 841, 193, 842, 843, 844, 845, 665, 666, 667, 668, 716, 717, 718, 719, 195, 203, 1644, 1645, 1646, 1647, 1648, 1649, 1650, 1651, 1652, 1653, 1654, 1655, 1656, 1657, 1658, 1659, 1660, 1661, 1662, 1663, 1664, 1665, 1666, 1667, 1668, 1669, 1670, 1671, 1672, 1673, 1674, 1675, 1676, 1677, 1678, 1679, 1680, 1681, 1682, 1683, 1684, 1685, 1686, 1687, 1688, 1689, 1690, 1691, 1692, 1693, 1694, 1695, 1696, 1697, 1698, 1699, 1700] (by decide +kernel) (by decide +kernel)
set_option maxRecDepth 20000 in
theorem gL_law_X10_picture : GoodIn wsL_law (wsV RL 46 RX10 yX10_picture wsX10_picture) := goodIn_app (goodIn_of _ (by decide +kernel)) ggL_law_X10_picture
set_option maxRecDepth 20000 in
theorem ggL_law_X9_point : GoodIn wsL_law wsX9_point := goodIn_r _ [849, 19, 773, 28, 850, 851, 852, 46, 759, 760, 761, 18, 762, 61, 780, 781, 782, 27, 783, 103, 527, 784, 475, 476, 477, 102, 853, 529, 530, 531, 532, 96, 854, 855, 856, 45, 857, 789, 790, 791, 792, 140, 142, 793, 143, 794, 795, 796, 797, 141, 798, 799, 800, 801, 802, 803, 804, 805, 806, 807, 260, 261, 262, 808, 809, 810, 811, 812, 1627, 1628, 1629, 1630, 1631, 1632, 1633, 1634, 1635, 1636, 1637, 1638, 1639, 1640, 1641, 1642, 1643, 1727, 1728, 1729, 1730, 1731, 1732, 1733, 1701, 1702, 1703, 1704, 1705, 1706, 1707, 1708, 1709, 1710, 1711, 1712, 1750, 1751, 1752, 1753] (by decide +kernel) (by decide +kernel)
set_option maxRecDepth 20000 in
theorem gL_law_X9_point : GoodIn wsL_law (wsV RL 47 RX9 yX9_point wsX9_point) := goodIn_app (goodIn_of _ (by decide +kernel)) ggL_law_X9_point
set_option maxRecDepth 20000 in
theorem ggL_law_X10_point : GoodIn wsL_law wsX10_point := goodIn_r _ [861, 817, 205, 195, 862, 863, 864, 5, 865, 665, 666, 667, 668, 190, 614, 615, 616, 826, 827, 828, 829, 202, 673, 674, 675, 676, 677, 678, 679, 680, 197, 681, 682, 683, 684, 198, 716, 717, 718, 719, 203, 830, 831, 832, 833, 209, 834, 835, 836, 837, 649, 650, 651, 652, 838, 839, 840, 841, 193, 822, 823, 824, 825, 191, 842, 843, 844, 845, 1644, 1645, 1646, 1647, 1648, 1649, 1650, 1651, 1652, 1653, 1654, 1655, 1656, 1657, 1658, 1659, 1660, 1661, 1662, 1663, 1664, 1665, 1666, 1667, 1668, 1669, 1670, 1671, 1672, 1673, 1674, 1675, 1676, 1677, 1678, 1679, 1680, 1681, 1682, 1683, 1684, 1685, 1686, 1687, 1688, 1689, 1690, 1691, 1692, 1693, 1694, 1695, 1696, 1697, 1698, 1699, 1700] (by decide +kernel) (by decide +kernel)
set_option maxRecDepth 20000 in
theorem gL_law_X10_point : GoodIn wsL_law (wsV RL 50 RX10 yX10_point wsX10_point) := goodIn_app (goodIn_of _ (by decide +kernel)) ggL_law_X10_point
set_option maxRecDepth 20000 in
theorem ggL_law_X9_row : GoodIn wsL_law wsX9_row := goodIn_r _ [869, 19, 773, 778, 851, 870, 871, 28, 246, 46, 759, 760, 761, 18, 762, 61, 872, 873, 874, 27, 875, 100, 103, 876, 877, 479, 480, 481, 482, 99, 97, 483, 484, 485, 486, 68, 878, 879, 880, 45, 881, 143, 142, 794, 795, 140, 798, 475, 476, 477, 102, 789, 790, 791, 792, 793, 796, 797, 141, 799, 800, 801, 802, 803, 804, 805, 806, 807, 260, 261, 262, 808, 529, 530, 531, 532, 96, 809, 810, 811, 812, 1627, 1628, 1629, 1630, 1631, 1632, 1633, 1634, 1635, 1636, 1637, 1638, 1639, 1640, 1641, 1642, 1643, 1701, 1702, 1703, 1704, 1705, 1706, 1707, 1708, 1709, 1710, 1711, 1712, 1727, 1728, 1729, 1730, 1731, 1732, 1733, 1750, 1751, 1752, 1753] (by decide +kernel) (by decide +kernel)
set_option maxRecDepth 20000 in
theorem gL_law_X9_row : GoodIn wsL_law (wsV RL 51 RX9 yX9_row wsX9_row) := goodIn_app (goodIn_of _ (by decide +kernel)) ggL_law_X9_row
set_option maxRecDepth 20000 in
theorem ggL_law_X10_row : GoodIn wsL_law wsX10_row := goodIn_r _ [885, 817, 199, 202, 886, 887, 888, 5, 889, 673, 674, 675, 676, 190, 614, 615, 616, 677, 678, 679, 680, 197, 681, 682, 683, 684, 198, 890, 891, 892, 893, 200, 894, 895, 896, 897, 205, 701, 702, 703, 704, 705, 706, 707, 708, 204, 697, 698, 699, 700, 898, 899, 900, 901, 209, 830, 831, 832, 833, 834, 835, 836, 837, 649, 650, 651, 652, 838, 839, 840, 841, 193, 822, 823, 824, 825, 191, 842, 843, 844, 845, 665, 666, 667, 668, 716, 717, 718, 719, 195, 203, 1644, 1645, 1646, 1647, 1648, 1649, 1650, 1651, 1652, 1653, 1654, 1655, 1656, 1657, 1658, 1659, 1660, 1661, 1662, 1663, 1664, 1665, 1666, 1667, 1668, 1669, 1670, 1671, 1672, 1673, 1674, 1675, 1676, 1677, 1678, 1679, 1680, 1681, 1682, 1683, 1684, 1685, 1686, 1687, 1688, 1689, 1690, 1691, 1692, 1693, 1694, 1695, 1696, 1697, 1698, 1699, 1700] (by decide +kernel) (by decide +kernel)
set_option maxRecDepth 20000 in
theorem gL_law_X10_row : GoodIn wsL_law (wsV RL 54 RX10 yX10_row wsX10_row) := goodIn_app (goodIn_of _ (by decide +kernel)) ggL_law_X10_row
set_option maxRecDepth 20000 in
theorem ggL_law_X9_drift : GoodIn wsL_law wsX9_drift := goodIn_r _ [905, 19, 773, 28, 906, 759, 760, 761, 18, 762, 61, 907, 908, 2, 909, 910, 911, 912, 913, 64, 72, 1627, 1628, 1629, 1630, 1631, 1632, 1633, 1634, 1635, 1636, 1637, 1638, 1639, 1640, 1641, 1642, 1643, 1727, 1728, 1729, 1730, 1731, 1732, 1733, 1701, 1702, 1703, 1704, 1705, 1706, 1707, 1708, 1709, 1710, 1711, 1712] (by decide +kernel) (by decide +kernel)
set_option maxRecDepth 20000 in
theorem gL_law_X9_drift : GoodIn wsL_law (wsV RL 55 RX9 yX9_drift wsX9_drift) := goodIn_app (goodIn_of _ (by decide +kernel)) ggL_law_X9_drift
set_option maxRecDepth 20000 in
theorem ggL_law_X10_drift : GoodIn wsL_law wsX10_drift := goodIn_r _ [917, 190, 205, 817, 614, 615, 5, 616, 918, 919, 920, 921, 649, 650, 651, 652, 822, 823, 824, 825, 191, 838, 839, 840, 841, 193, 1644, 1645, 1646, 1647, 1648, 1649, 1650, 1651, 1652, 1653, 1654, 1655, 1656, 1657, 1658, 1659, 1660, 1661, 1662, 1663, 1664, 1665, 1666, 1667, 1668, 1669, 1670, 1671, 1672, 1673, 1674, 1675, 1676, 1677, 1678, 1679, 1680, 1681, 1682, 1683, 1684, 1685, 1686, 1687, 1688, 1689, 1690, 1691, 1692, 1693, 1694, 1695, 1696, 1697, 1698, 1699, 1700] (by decide +kernel) (by decide +kernel)
set_option maxRecDepth 20000 in
theorem gL_law_X10_drift : GoodIn wsL_law (wsV RL 58 RX10 yX10_drift wsX10_drift) := goodIn_app (goodIn_of _ (by decide +kernel)) ggL_law_X10_drift
set_option maxRecDepth 20000 in
theorem ggL_law_X9_start : GoodIn wsL_law wsX9_start := goodIn_r _ [925, 34, 449, 450, 451, 33, 452, 113, 453, 108, 454, 455, 456, 457, 114, 458, 459, 460, 461, 462, 463, 260, 261, 262, 464, 465, 466, 467, 468, 469, 470, 471, 109, 472, 473, 112, 474, 475, 476, 27, 477, 102, 478, 479, 480, 481, 103, 482, 99, 97, 483, 484, 485, 18, 486, 68, 487, 488, 489, 490, 110, 491, 492, 493, 494, 495, 496, 497, 498, 499, 500, 501, 502, 503, 504, 505, 506, 507, 508, 509, 510, 511, 512, 253, 513, 514, 515, 516, 517, 518, 519, 520, 521, 522, 523, 524, 525, 526, 527, 100, 528, 529, 530, 531, 532, 96, 533, 534, 535, 536, 537, 1627, 1628, 1629, 1630, 1631, 1632, 1633, 1634, 1635, 1636, 1637, 1638, 1639, 1640, 1641, 1642, 1643, 1734, 1735, 1736, 1737, 1738, 1739, 1701, 1702, 1703, 1704, 1705, 1706, 1707, 1708, 1709, 1710, 1711, 1712, 1727, 1728, 1729, 1730, 1731, 1732, 1733] (by decide +kernel) (by decide +kernel)
set_option maxRecDepth 20000 in
theorem gL_law_X9_start : GoodIn wsL_law (wsV RL 59 RX9 yX9_start wsX9_start) := goodIn_app (goodIn_of _ (by decide +kernel)) ggL_law_X9_start
set_option maxRecDepth 20000 in
theorem ggL_law_X10_start : GoodIn wsL_law wsX10_start := goodIn_r _ [929, 645, 646, 647, 5, 648, 205, 192, 204, 206, 649, 650, 651, 652, 190, 653, 654, 655, 656, 657, 658, 659, 660, 661, 662, 663, 664, 665, 666, 667, 668, 669, 670, 671, 672, 202, 673, 674, 675, 676, 677, 678, 679, 680, 197, 681, 682, 683, 684, 198, 685, 686, 687, 688, 689, 690, 691, 692, 693, 694, 695, 696, 697, 698, 699, 700, 199, 701, 702, 703, 704, 705, 706, 707, 708, 709, 710, 711, 712, 713, 714, 715, 196, 716, 717, 718, 719, 195, 203, 1644, 1645, 1646, 1647, 1648, 1649, 1650, 1651, 1652, 1653, 1654, 1655, 1656, 1657, 1658, 1659, 1660, 1661, 1662, 1663, 1664, 1665, 1666, 1667, 1668, 1669, 1670, 1671, 1672, 1673, 1674, 1675, 1676, 1677, 1678, 1679, 1680, 1681, 1682, 1683, 1684, 1685, 1686, 1687, 1688, 1689, 1690, 1691, 1692, 1693, 1694, 1695, 1696, 1697, 1698, 1699, 1700] (by decide +kernel) (by decide +kernel)
set_option maxRecDepth 20000 in
theorem gL_law_X10_start : GoodIn wsL_law (wsV RL 62 RX10 yX10_start wsX10_start) := goodIn_app (goodIn_of _ (by decide +kernel)) ggL_law_X10_start
set_option maxRecDepth 20000 in
theorem ggL_law_X9_rounds : GoodIn wsL_law wsX9_rounds := goodIn_r _ [933, 38, 934, 935, 936, 37, 937, 124, 938, 123, 125, 939, 516, 517, 27, 518, 103, 97, 482, 483, 484, 485, 18, 486, 68, 940, 941, 942, 943, 944, 945, 946, 947, 948, 949, 950, 951, 120, 952, 953, 954, 955, 956, 121, 957, 958, 261, 959, 960, 475, 476, 477, 102, 961, 962, 963, 964, 965, 529, 530, 531, 532, 96, 966, 967, 968, 969, 970, 971, 972, 973, 974, 975, 976, 977, 978, 979, 980, 981, 982, 983, 101, 984, 985, 986, 987, 988, 989, 990, 991, 992, 1627, 1628, 1629, 1630, 1631, 1632, 1633, 1634, 1635, 1636, 1637, 1638, 1639, 1640, 1641, 1642, 1643, 1740, 1741, 1742, 1743, 1744, 1701, 1702, 1703, 1704, 1705, 1706, 1707, 1708, 1709, 1710, 1711, 1712, 1727, 1728, 1729, 1730, 1731, 1732, 1733] (by decide +kernel) (by decide +kernel)
set_option maxRecDepth 20000 in
theorem gL_law_X9_rounds : GoodIn wsL_law (wsV RL 63 RX9 yX9_rounds wsX9_rounds) := goodIn_app (goodIn_of _ (by decide +kernel)) ggL_law_X9_rounds
set_option maxRecDepth 20000 in
theorem ggL_law_X10_rounds : GoodIn wsL_law wsX10_rounds := goodIn_r _ [996, 997, 614, 615, 5, 616, 998, 999, 1000, 1001, 1002, 1003, 1004, 1005, 190, 665, 666, 667, 668, 716, 717, 718, 719, 195, 203, 1006, 1007, 1008, 1009, 202, 1010, 1011, 1012, 1013, 1014, 1015, 673, 674, 675, 676, 681, 682, 683, 684, 198, 890, 891, 892, 893, 200, 701, 702, 703, 704, 205, 677, 678, 679, 680, 197, 705, 706, 707, 708, 204, 697, 698, 699, 700, 199, 1016, 1017, 1018, 1019, 1020, 1021, 1022, 1023, 767, 649, 650, 651, 652, 1024, 1025, 1026, 1027, 194, 838, 839, 840, 841, 193, 822, 823, 824, 825, 191, 1028, 1029, 1030, 1031, 1644, 1645, 1646, 1647, 1648, 1649, 1650, 1651, 1652, 1653, 1654, 1655, 1656, 1657, 1658, 1659, 1660, 1661, 1662, 1663, 1664, 1665, 1666, 1667, 1668, 1669, 1670, 1671, 1672, 1673, 1674, 1675, 1676, 1677, 1678, 1679, 1680, 1681, 1682, 1683, 1684, 1685, 1686, 1687, 1688, 1689, 1690, 1691, 1692, 1693, 1694, 1695, 1696, 1697, 1698, 1699, 1700] (by decide +kernel) (by decide +kernel)
set_option maxRecDepth 20000 in
theorem gL_law_X10_rounds : GoodIn wsL_law (wsV RL 66 RX10 yX10_rounds wsX10_rounds) := goodIn_app (goodIn_of _ (by decide +kernel)) ggL_law_X10_rounds
set_option maxRecDepth 20000 in
theorem ggL_law_X9_sum : GoodIn wsL_law wsX9_sum := goodIn_r _ [1035, 28, 1036, 1037, 1038, 27, 1039, 103, 527, 99, 1040, 784, 475, 476, 477, 102, 1041, 1042, 1043, 1044, 1045, 1046, 873, 874, 875, 100, 876, 877, 479, 480, 481, 482, 97, 483, 484, 485, 18, 486, 68, 1047, 981, 982, 983, 101, 984, 985, 1627, 1628, 1629, 1630, 1631, 1632, 1633, 1634, 1635, 1636, 1637, 1638, 1639, 1640, 1641, 1642, 1643, 1727, 1728, 1729, 1730, 1731, 1732, 1733, 1701, 1702, 1703, 1704, 1705, 1706, 1707, 1708, 1709, 1710, 1711, 1712] (by decide +kernel) (by decide +kernel)
set_option maxRecDepth 20000 in
theorem gL_law_X9_sum : GoodIn wsL_law (wsV RL 67 RX9 yX9_sum wsX9_sum) := goodIn_app (goodIn_of _ (by decide +kernel)) ggL_law_X9_sum
set_option maxRecDepth 20000 in
theorem ggL_law_X10_sum : GoodIn wsL_law wsX10_sum := goodIn_r _ [1051, 202, 205, 194, 673, 674, 675, 5, 676, 190, 1052, 1053, 1054, 1055, 894, 895, 896, 897, 681, 682, 683, 684, 198, 701, 702, 703, 704, 677, 678, 679, 680, 197, 705, 706, 707, 708, 204, 697, 698, 699, 700, 199, 890, 891, 892, 893, 200, 649, 650, 651, 652, 822, 823, 824, 825, 191, 838, 839, 840, 841, 193, 1644, 1645, 1646, 1647, 1648, 1649, 1650, 1651, 1652, 1653, 1654, 1655, 1656, 1657, 1658, 1659, 1660, 1661, 1662, 1663, 1664, 1665, 1666, 1667, 1668, 1669, 1670, 1671, 1672, 1673, 1674, 1675, 1676, 1677, 1678, 1679, 1680, 1681, 1682, 1683, 1684, 1685, 1686, 1687, 1688, 1689, 1690, 1691, 1692, 1693, 1694, 1695, 1696, 1697, 1698, 1699, 1700] (by decide +kernel) (by decide +kernel)
set_option maxRecDepth 20000 in
theorem gL_law_X10_sum : GoodIn wsL_law (wsV RL 71 RX10 yX10_sum wsX10_sum) := goodIn_app (goodIn_of _ (by decide +kernel)) ggL_law_X10_sum
set_option maxRecDepth 20000 in
theorem ggL_law_X9_whole : GoodIn wsL_law wsX9_whole := goodIn_r _ [1059, 19, 42, 28, 850, 1060, 907, 908, 2, 909, 759, 760, 761, 18, 762, 61, 1061, 1062, 1063, 41, 1064, 130, 133, 132, 1065, 1066, 1067, 1068, 134, 1069, 135, 1070, 1071, 1072, 1073, 260, 261, 262, 1074, 475, 476, 27, 477, 102, 1075, 529, 530, 531, 103, 532, 96, 1076, 1077, 1078, 1079, 1080, 1081, 1082, 1083, 1084, 1085, 1086, 1087, 1088, 958, 959, 1089, 516, 517, 518, 97, 482, 483, 484, 485, 486, 68, 1090, 534, 535, 536, 537, 1091, 1092, 1093, 1094, 1095, 1096, 1097, 1098, 1099, 1100, 973, 1101, 1102, 1103, 1104, 1105, 1106, 1107, 1108, 1109, 1110, 1111, 1112, 1113, 1114, 1115, 1116, 1117, 853, 1118, 1627, 1628, 1629, 1630, 1631, 1632, 1633, 1634, 1635, 1636, 1637, 1638, 1639, 1640, 1641, 1642, 1643, 1727, 1728, 1729, 1730, 1731, 1732, 1733, 1701, 1702, 1703, 1704, 1705, 1706, 1707, 1708, 1709, 1710, 1711, 1712, 1745, 1746, 1747, 1748, 1749] (by decide +kernel) (by decide +kernel)
set_option maxRecDepth 20000 in
theorem gL_law_X9_whole : GoodIn wsL_law (wsV RL 72 RX9 yX9_whole wsX9_whole) := goodIn_app (goodIn_of _ (by decide +kernel)) ggL_law_X9_whole
set_option maxRecDepth 20000 in
theorem ggL_law_X10_whole : GoodIn wsL_law wsX10_whole := goodIn_r _ [1122, 767, 190, 196, 208, 614, 615, 5, 616, 716, 717, 718, 719, 195, 203, 1123, 1124, 1125, 1126, 1127, 1128, 1129, 1130, 202, 918, 919, 920, 921, 649, 650, 651, 652, 822, 823, 824, 825, 191, 838, 839, 840, 841, 193, 673, 674, 675, 676, 677, 678, 679, 680, 197, 681, 682, 683, 684, 198, 1131, 1132, 1133, 1134, 1135, 1136, 1137, 1138, 1139, 207, 194, 665, 666, 667, 668, 1140, 1141, 1142, 1143, 890, 891, 892, 893, 200, 705, 706, 707, 708, 204, 697, 698, 699, 700, 199, 1144, 1145, 1146, 1147, 1148, 1149, 1150, 1151, 1152, 1153, 1154, 1155, 1156, 1157, 1158, 1159, 1644, 1645, 1646, 1647, 1648, 1649, 1650, 1651, 1652, 1653, 1654, 1655, 1656, 1657, 1658, 1659, 1660, 1661, 1662, 1663, 1664, 1665, 1666, 1667, 1668, 1669, 1670, 1671, 1672, 1673, 1674, 1675, 1676, 1677, 1678, 1679, 1680, 1681, 1682, 1683, 1684, 1685, 1686, 1687, 1688, 1689, 1690, 1691, 1692, 1693, 1694, 1695, 1696, 1697, 1698, 1699, 1700] (by decide +kernel) (by decide +kernel)
set_option maxRecDepth 20000 in
theorem gL_law_X10_whole : GoodIn wsL_law (wsV RL 75 RX10 yX10_whole wsX10_whole) := goodIn_app (goodIn_of _ (by decide +kernel)) ggL_law_X10_whole
set_option maxRecDepth 20000 in
theorem ggL_law_X9_sets : GoodIn wsL_law wsX9_sets := goodIn_r _ [1163, 28, 245, 1164, 524, 525, 27, 526, 103, 527, 100, 528, 529, 530, 531, 532, 96, 533, 534, 535, 536, 537, 738, 739, 740, 741, 1627, 1628, 1629, 1630, 1631, 1632, 1633, 1634, 1635, 1636, 1637, 1638, 1639, 1640, 1641, 1642, 1643, 1727, 1728, 1729, 1730, 1731, 1732, 1733, 1701, 1702, 1703, 1704, 1705, 1706, 1707, 1708, 1709, 1710, 1711, 1712] (by decide +kernel) (by decide +kernel)
set_option maxRecDepth 20000 in
theorem gL_law_X9_sets : GoodIn wsL_law (wsV RL 76 RX9 yX9_sets wsX9_sets) := goodIn_app (goodIn_of _ (by decide +kernel)) ggL_law_X9_sets
set_option maxRecDepth 20000 in
theorem ggL_law_X10_sets : GoodIn wsL_law wsX10_sets := goodIn_r _ [1168, 1169, 203, 614, 615, 5, 616, 712, 713, 714, 715, 205, 196, 665, 666, 667, 668, 190, 716, 717, 718, 719, 195, 750, 751, 752, 753, 1644, 1645, 1646, 1647, 1648, 1649, 1650, 1651, 1652, 1653, 1654, 1655, 1656, 1657, 1658, 1659, 1660, 1661, 1662, 1663, 1664, 1665, 1666, 1667, 1668, 1669, 1670, 1671, 1672, 1673, 1674, 1675, 1676, 1677, 1678, 1679, 1680, 1681, 1682, 1683, 1684, 1685, 1686, 1687, 1688, 1689, 1690, 1691, 1692, 1693, 1694, 1695, 1696, 1697, 1698, 1699, 1700] (by decide +kernel) (by decide +kernel)
set_option maxRecDepth 20000 in
theorem gL_law_X10_sets : GoodIn wsL_law (wsV RL 79 RX10 yX10_sets wsX10_sets) := goodIn_app (goodIn_of _ (by decide +kernel)) ggL_law_X10_sets
set_option maxRecDepth 20000 in
theorem ggL_law_X9_parts : GoodIn wsL_law wsX9_parts := goodIn_r _ [1173, 46, 1174, 1175, 1176, 45, 1177, 142, 793, 140, 789, 790, 791, 792, 143, 794, 795, 796, 797, 141, 798, 475, 476, 27, 477, 102, 799, 800, 801, 802, 803, 804, 805, 806, 807, 260, 261, 262, 808, 529, 530, 531, 103, 532, 96, 1627, 1628, 1629, 1630, 1631, 1632, 1633, 1634, 1635, 1636, 1637, 1638, 1639, 1640, 1641, 1642, 1643, 1750, 1751, 1752, 1753, 1701, 1702, 1703, 1704, 1705, 1706, 1707, 1708, 1709, 1710, 1711, 1712, 1727, 1728, 1729, 1730, 1731, 1732, 1733] (by decide +kernel) (by decide +kernel)
set_option maxRecDepth 20000 in
theorem gL_law_X9_parts : GoodIn wsL_law (wsV RL 80 RX9 yX9_parts wsX9_parts) := goodIn_app (goodIn_of _ (by decide +kernel)) ggL_law_X9_parts
set_option maxRecDepth 20000 in
theorem ggL_law_X10_parts : GoodIn wsL_law wsX10_parts := goodIn_r _ [1181, 209, 830, 831, 832, 5, 833, 202, 673, 674, 675, 676, 190, 677, 678, 679, 680, 197, 681, 682, 683, 684, 198, 834, 835, 836, 837, 649, 650, 651, 652, 838, 839, 840, 841, 193, 822, 823, 824, 825, 191, 1644, 1645, 1646, 1647, 1648, 1649, 1650, 1651, 1652, 1653, 1654, 1655, 1656, 1657, 1658, 1659, 1660, 1661, 1662, 1663, 1664, 1665, 1666, 1667, 1668, 1669, 1670, 1671, 1672, 1673, 1674, 1675, 1676, 1677, 1678, 1679, 1680, 1681, 1682, 1683, 1684, 1685, 1686, 1687, 1688, 1689, 1690, 1691, 1692, 1693, 1694, 1695, 1696, 1697, 1698, 1699, 1700] (by decide +kernel) (by decide +kernel)
set_option maxRecDepth 20000 in
theorem gL_law_X10_parts : GoodIn wsL_law (wsV RL 83 RX10 yX10_parts wsX10_parts) := goodIn_app (goodIn_of _ (by decide +kernel)) ggL_law_X10_parts
set_option maxRecDepth 20000 in
theorem ggL_law_X9_hang : GoodIn wsL_law wsX9_hang := goodIn_r _ [1185, 19, 46, 759, 760, 761, 18, 762, 61, 1186, 1187, 1188, 45, 1189, 140, 789, 790, 791, 792, 142, 793, 143, 794, 795, 796, 797, 141, 798, 475, 476, 27, 477, 102, 799, 800, 801, 802, 803, 804, 805, 806, 807, 260, 261, 262, 808, 529, 530, 531, 103, 532, 96, 1627, 1628, 1629, 1630, 1631, 1632, 1633, 1634, 1635, 1636, 1637, 1638, 1639, 1640, 1641, 1642, 1643, 1701, 1702, 1703, 1704, 1705, 1706, 1707, 1708, 1709, 1710, 1711, 1712, 1750, 1751, 1752, 1753, 1727, 1728, 1729, 1730, 1731, 1732, 1733] (by decide +kernel) (by decide +kernel)
set_option maxRecDepth 20000 in
theorem gL_law_X9_hang : GoodIn wsL_law (wsV RL 84 RX9 yX9_hang wsX9_hang) := goodIn_app (goodIn_of _ (by decide +kernel)) ggL_law_X9_hang
set_option maxRecDepth 20000 in
theorem ggL_law_X10_hang : GoodIn wsL_law wsX10_hang := goodIn_r _ [1193, 209, 818, 819, 820, 5, 821, 649, 650, 651, 652, 190, 614, 615, 616, 830, 831, 832, 833, 202, 673, 674, 675, 676, 677, 678, 679, 680, 197, 681, 682, 683, 684, 198, 834, 835, 836, 837, 838, 839, 840, 841, 193, 822, 823, 824, 825, 191, 1644, 1645, 1646, 1647, 1648, 1649, 1650, 1651, 1652, 1653, 1654, 1655, 1656, 1657, 1658, 1659, 1660, 1661, 1662, 1663, 1664, 1665, 1666, 1667, 1668, 1669, 1670, 1671, 1672, 1673, 1674, 1675, 1676, 1677, 1678, 1679, 1680, 1681, 1682, 1683, 1684, 1685, 1686, 1687, 1688, 1689, 1690, 1691, 1692, 1693, 1694, 1695, 1696, 1697, 1698, 1699, 1700] (by decide +kernel) (by decide +kernel)
set_option maxRecDepth 20000 in
theorem gL_law_X10_hang : GoodIn wsL_law (wsV RL 87 RX10 yX10_hang wsX10_hang) := goodIn_app (goodIn_of _ (by decide +kernel)) ggL_law_X10_hang
set_option maxRecDepth 20000 in
theorem ggL_law_X9_blind : GoodIn wsL_law wsX9_blind := goodIn_r _ [1197, 19, 732, 28, 46, 737, 475, 476, 27, 477, 102, 878, 879, 880, 45, 881, 143, 142, 794, 795, 140, 798, 789, 790, 791, 792, 793, 796, 797, 141, 799, 800, 801, 802, 803, 804, 805, 806, 807, 260, 261, 262, 808, 529, 530, 531, 103, 532, 96, 809, 810, 811, 812, 1627, 1628, 1629, 1630, 1631, 1632, 1633, 1634, 1635, 1636, 1637, 1638, 1639, 1640, 1641, 1642, 1643, 1701, 1702, 1703, 1704, 1705, 1706, 1707, 1708, 1709, 1710, 1711, 1712, 1727, 1728, 1729, 1730, 1731, 1732, 1733, 1750, 1751, 1752, 1753] (by decide +kernel) (by decide +kernel)
set_option maxRecDepth 20000 in
theorem gL_law_X9_blind : GoodIn wsL_law (wsV RL 88 RX9 yX9_blind wsX9_blind) := goodIn_app (goodIn_of _ (by decide +kernel)) ggL_law_X9_blind
set_option maxRecDepth 20000 in
theorem ggL_law_X10_blind : GoodIn wsL_law wsX10_blind := goodIn_r _ [1201, 202, 673, 674, 675, 5, 676, 190, 898, 899, 900, 901, 209, 830, 831, 832, 833, 677, 678, 679, 680, 197, 681, 682, 683, 684, 198, 834, 835, 836, 837, 649, 650, 651, 652, 838, 839, 840, 841, 193, 822, 823, 824, 825, 191, 842, 843, 844, 845, 665, 666, 667, 668, 716, 717, 718, 719, 195, 203, 1644, 1645, 1646, 1647, 1648, 1649, 1650, 1651, 1652, 1653, 1654, 1655, 1656, 1657, 1658, 1659, 1660, 1661, 1662, 1663, 1664, 1665, 1666, 1667, 1668, 1669, 1670, 1671, 1672, 1673, 1674, 1675, 1676, 1677, 1678, 1679, 1680, 1681, 1682, 1683, 1684, 1685, 1686, 1687, 1688, 1689, 1690, 1691, 1692, 1693, 1694, 1695, 1696, 1697, 1698, 1699, 1700] (by decide +kernel) (by decide +kernel)
set_option maxRecDepth 20000 in
theorem gL_law_X10_blind : GoodIn wsL_law (wsV RL 91 RX10 yX10_blind wsX10_blind) := goodIn_app (goodIn_of _ (by decide +kernel)) ggL_law_X10_blind
set_option maxRecDepth 20000 in
theorem ggL_law_X9_needs : GoodIn wsL_law wsX9_needs := goodIn_r _ [1205, 19, 28, 46, 759, 760, 761, 18, 762, 61, 737, 475, 476, 27, 477, 102, 1206, 1207, 1208, 45, 1209, 142, 793, 789, 790, 791, 792, 140, 143, 794, 795, 796, 797, 141, 798, 799, 800, 801, 802, 803, 804, 805, 806, 807, 260, 261, 262, 808, 529, 530, 531, 103, 532, 96, 809, 810, 811, 812, 1627, 1628, 1629, 1630, 1631, 1632, 1633, 1634, 1635, 1636, 1637, 1638, 1639, 1640, 1641, 1642, 1643, 1701, 1702, 1703, 1704, 1705, 1706, 1707, 1708, 1709, 1710, 1711, 1712, 1727, 1728, 1729, 1730, 1731, 1732, 1733, 1750, 1751, 1752, 1753] (by decide +kernel) (by decide +kernel)
set_option maxRecDepth 20000 in
theorem gL_law_X9_needs : GoodIn wsL_law (wsV RL 92 RX9 yX9_needs wsX9_needs) := goodIn_app (goodIn_of _ (by decide +kernel)) ggL_law_X9_needs
set_option maxRecDepth 20000 in
theorem ggL_law_X10_needs : GoodIn wsL_law wsX10_needs := goodIn_r _ [1213, 202, 886, 887, 888, 5, 889, 673, 674, 675, 676, 190, 614, 615, 616, 1214, 1215, 1216, 1217, 830, 831, 832, 833, 209, 677, 678, 679, 680, 197, 681, 682, 683, 684, 198, 834, 835, 836, 837, 649, 650, 651, 652, 838, 839, 840, 841, 193, 822, 823, 824, 825, 191, 842, 843, 844, 845, 665, 666, 667, 668, 716, 717, 718, 719, 195, 203, 1644, 1645, 1646, 1647, 1648, 1649, 1650, 1651, 1652, 1653, 1654, 1655, 1656, 1657, 1658, 1659, 1660, 1661, 1662, 1663, 1664, 1665, 1666, 1667, 1668, 1669, 1670, 1671, 1672, 1673, 1674, 1675, 1676, 1677, 1678, 1679, 1680, 1681, 1682, 1683, 1684, 1685, 1686, 1687, 1688, 1689, 1690, 1691, 1692, 1693, 1694, 1695, 1696, 1697, 1698, 1699, 1700] (by decide +kernel) (by decide +kernel)
set_option maxRecDepth 20000 in
theorem gL_law_X10_needs : GoodIn wsL_law (wsV RL 95 RX10 yX10_needs wsX10_needs) := goodIn_app (goodIn_of _ (by decide +kernel)) ggL_law_X10_needs
set_option maxRecDepth 20000 in
theorem ggL_law_X9_doubt : GoodIn wsL_law wsX9_doubt := goodIn_r _ [1221, 19, 1222, 28, 759, 760, 761, 18, 762, 61, 1223, 1042, 1043, 27, 1044, 103, 1045, 1046, 873, 874, 875, 100, 876, 877, 479, 480, 481, 482, 99, 97, 483, 484, 485, 486, 68, 1627, 1628, 1629, 1630, 1631, 1632, 1633, 1634, 1635, 1636, 1637, 1638, 1639, 1640, 1641, 1642, 1643, 1701, 1702, 1703, 1704, 1705, 1706, 1707, 1708, 1709, 1710, 1711, 1712, 1727, 1728, 1729, 1730, 1731, 1732, 1733] (by decide +kernel) (by decide +kernel)
set_option maxRecDepth 20000 in
theorem gL_law_X9_doubt : GoodIn wsL_law (wsV RL 96 RX9 yX9_doubt wsX9_doubt) := goodIn_app (goodIn_of _ (by decide +kernel)) ggL_law_X9_doubt
set_option maxRecDepth 20000 in
theorem ggL_law_X10_doubt : GoodIn wsL_law wsX10_doubt := goodIn_r _ [1227, 1228, 886, 887, 888, 5, 889, 673, 674, 675, 676, 190, 614, 615, 616, 1052, 1053, 1054, 1055, 894, 895, 896, 897, 205, 681, 682, 683, 684, 198, 701, 702, 703, 704, 677, 678, 679, 680, 197, 705, 706, 707, 708, 204, 697, 698, 699, 700, 199, 890, 891, 892, 893, 200, 1644, 1645, 1646, 1647, 1648, 1649, 1650, 1651, 1652, 1653, 1654, 1655, 1656, 1657, 1658, 1659, 1660, 1661, 1662, 1663, 1664, 1665, 1666, 1667, 1668, 1669, 1670, 1671, 1672, 1673, 1674, 1675, 1676, 1677, 1678, 1679, 1680, 1681, 1682, 1683, 1684, 1685, 1686, 1687, 1688, 1689, 1690, 1691, 1692, 1693, 1694, 1695, 1696, 1697, 1698, 1699, 1700] (by decide +kernel) (by decide +kernel)
set_option maxRecDepth 20000 in
theorem gL_law_X10_doubt : GoodIn wsL_law (wsV RL 100 RX10 yX10_doubt wsX10_doubt) := goodIn_app (goodIn_of _ (by decide +kernel)) ggL_law_X10_doubt
set_option maxRecDepth 20000 in
theorem ggL_law_X9_worst : GoodIn wsL_law wsX9_worst := goodIn_r _ [1232, 1233, 1234, 1235, 2, 1236, 1222, 19, 732, 28, 46, 1223, 1042, 1043, 27, 1044, 103, 1045, 1046, 873, 874, 875, 100, 876, 877, 479, 480, 481, 482, 99, 97, 483, 484, 485, 18, 486, 68, 878, 879, 880, 45, 881, 143, 142, 794, 795, 140, 798, 475, 476, 477, 102, 789, 790, 791, 792, 793, 796, 797, 141, 799, 800, 801, 802, 803, 804, 805, 806, 807, 260, 261, 262, 808, 529, 530, 531, 532, 96, 809, 810, 811, 812, 1627, 1628, 1629, 1630, 1631, 1632, 1633, 1634, 1635, 1636, 1637, 1638, 1639, 1640, 1641, 1642, 1643, 1701, 1702, 1703, 1704, 1705, 1706, 1707, 1708, 1709, 1710, 1711, 1712, 1727, 1728, 1729, 1730, 1731, 1732, 1733, 1750, 1751, 1752, 1753] (by decide +kernel) (by decide +kernel)
set_option maxRecDepth 20000 in
theorem gL_law_X9_worst : GoodIn wsL_law (wsV RL 101 RX9 yX9_worst wsX9_worst) := goodIn_app (goodIn_of _ (by decide +kernel)) ggL_law_X9_worst
set_option maxRecDepth 20000 in
theorem ggL_law_X10_worst : GoodIn wsL_law wsX10_worst := goodIn_r _ [1240, 1241, 1242, 1243, 5, 1244, 673, 674, 675, 676, 190, 898, 899, 900, 901, 202, 209, 830, 831, 832, 833, 677, 678, 679, 680, 197, 681, 682, 683, 684, 198, 834, 835, 836, 837, 649, 650, 651, 652, 838, 839, 840, 841, 193, 822, 823, 824, 825, 191, 842, 843, 844, 845, 665, 666, 667, 668, 716, 717, 718, 719, 195, 203, 1052, 1053, 1054, 1055, 894, 895, 896, 897, 205, 701, 702, 703, 704, 705, 706, 707, 708, 204, 697, 698, 699, 700, 199, 890, 891, 892, 893, 200, 1644, 1645, 1646, 1647, 1648, 1649, 1650, 1651, 1652, 1653, 1654, 1655, 1656, 1657, 1658, 1659, 1660, 1661, 1662, 1663, 1664, 1665, 1666, 1667, 1668, 1669, 1670, 1671, 1672, 1673, 1674, 1675, 1676, 1677, 1678, 1679, 1680, 1681, 1682, 1683, 1684, 1685, 1686, 1687, 1688, 1689, 1690, 1691, 1692, 1693, 1694, 1695, 1696, 1697, 1698, 1699, 1700] (by decide +kernel) (by decide +kernel)
set_option maxRecDepth 20000 in
theorem gL_law_X10_worst : GoodIn wsL_law (wsV RL 104 RX10 yX10_worst wsX10_worst) := goodIn_app (goodIn_of _ (by decide +kernel)) ggL_law_X10_worst
set_option maxRecDepth 20000 in
theorem ggL_law_X9_drop : GoodIn wsL_law wsX9_drop := goodIn_r _ [1248, 19, 28, 246, 759, 760, 761, 18, 762, 61, 1627, 1628, 1629, 1630, 1631, 1632, 1633, 1634, 1635, 1636, 1637, 1638, 1639, 1640, 1641, 1642, 1643, 1727, 1728, 1729, 1730, 1731, 1732, 1733, 1701, 1702, 1703, 1704, 1705, 1706, 1707, 1708, 1709, 1710, 1711, 1712] (by decide +kernel) (by decide +kernel)
set_option maxRecDepth 20000 in
theorem gL_law_X9_drop : GoodIn wsL_law (wsV RL 105 RX9 yX9_drop wsX9_drop) := goodIn_app (goodIn_of _ (by decide +kernel)) ggL_law_X9_drop
set_option maxRecDepth 20000 in
theorem ggL_law_X10_drop : GoodIn wsL_law wsX10_drop := goodIn_r _ [1252, 202, 886, 887, 888, 5, 889, 673, 674, 675, 676, 190, 614, 615, 616, 1644, 1645, 1646, 1647, 1648, 1649, 1650, 1651, 1652, 1653, 1654, 1655, 1656, 1657, 1658, 1659, 1660, 1661, 1662, 1663, 1664, 1665, 1666, 1667, 1668, 1669, 1670, 1671, 1672, 1673, 1674, 1675, 1676, 1677, 1678, 1679, 1680, 1681, 1682, 1683, 1684, 1685, 1686, 1687, 1688, 1689, 1690, 1691, 1692, 1693, 1694, 1695, 1696, 1697, 1698, 1699, 1700] (by decide +kernel) (by decide +kernel)
set_option maxRecDepth 20000 in
theorem gL_law_X10_drop : GoodIn wsL_law (wsV RL 109 RX10 yX10_drop wsX10_drop) := goodIn_app (goodIn_of _ (by decide +kernel)) ggL_law_X10_drop
set_option maxRecDepth 20000 in
theorem ggL_law_X9_clean : GoodIn wsL_law wsX9_clean := goodIn_r _ [1256, 38, 1257, 1258, 1259, 2, 1260, 55, 28, 246, 448, 260, 261, 262, 934, 935, 936, 37, 937, 124, 938, 123, 125, 939, 516, 517, 27, 518, 103, 97, 482, 483, 484, 485, 18, 486, 68, 940, 941, 942, 943, 944, 945, 946, 947, 948, 949, 950, 951, 120, 952, 953, 954, 955, 956, 121, 957, 958, 959, 960, 475, 476, 477, 102, 961, 962, 963, 964, 965, 529, 530, 531, 532, 96, 966, 967, 968, 969, 970, 971, 972, 973, 974, 975, 976, 977, 978, 979, 980, 981, 982, 983, 101, 984, 985, 986, 987, 988, 989, 990, 991, 992, 1233, 1234, 1235, 1236, 1222, 19, 732, 46, 1223, 1042, 1043, 1044, 1045, 1046, 873, 874, 875, 100, 876, 877, 479, 480, 481, 99, 878, 879, 880, 45, 881, 143, 142, 794, 795, 140, 798, 789, 790, 791, 792, 793, 796, 797, 141, 799, 800, 801, 802, 803, 804, 805, 806, 807, 808, 809, 810, 811, 812, 1261, 1262, 1263, 1264, 1627, 1628, 1629, 1630, 1631, 1632, 1633, 1634, 1635, 1636, 1637, 1638, 1639, 1640, 1641, 1642, 1643, 1727, 1728, 1729, 1730, 1731, 1732, 1733, 1740, 1741, 1742, 1743, 1744, 1701, 1702, 1703, 1704, 1705, 1706, 1707, 1708, 1709, 1710, 1711, 1712, 1750, 1751, 1752, 1753] (by decide +kernel) (by decide +kernel)
set_option maxRecDepth 20000 in
theorem gL_law_X9_clean : GoodIn wsL_law (wsV RL 112 RX9 yX9_clean wsX9_clean) := goodIn_app (goodIn_of _ (by decide +kernel)) ggL_law_X9_clean
set_option maxRecDepth 20000 in
theorem ggL_law_X10_clean : GoodIn wsL_law wsX10_clean := goodIn_r _ [1268, 210, 202, 673, 674, 675, 5, 676, 190, 998, 999, 1000, 1001, 1002, 1003, 1004, 1005, 665, 666, 667, 668, 716, 717, 718, 719, 195, 203, 1006, 1007, 1008, 1009, 1010, 1011, 1012, 1013, 1014, 1015, 681, 682, 683, 684, 198, 890, 891, 892, 893, 200, 701, 702, 703, 704, 205, 677, 678, 679, 680, 197, 705, 706, 707, 708, 204, 697, 698, 699, 700, 199, 1016, 1017, 1018, 1019, 1020, 1021, 1022, 1023, 767, 649, 650, 651, 652, 1024, 1025, 1026, 1027, 194, 838, 839, 840, 841, 193, 822, 823, 824, 825, 191, 1028, 1029, 1030, 1031, 1241, 1242, 1243, 1244, 898, 899, 900, 901, 209, 830, 831, 832, 833, 834, 835, 836, 837, 842, 843, 844, 845, 1052, 1053, 1054, 1055, 894, 895, 896, 897, 1644, 1645, 1646, 1647, 1648, 1649, 1650, 1651, 1652, 1653, 1654, 1655, 1656, 1657, 1658, 1659, 1660, 1661, 1662, 1663, 1664, 1665, 1666, 1667, 1668, 1669, 1670, 1671, 1672, 1673, 1674, 1675, 1676, 1677, 1678, 1679, 1680, 1681, 1682, 1683, 1684, 1685, 1686, 1687, 1688, 1689, 1690, 1691, 1692, 1693, 1694, 1695, 1696, 1697, 1698, 1699, 1700] (by decide +kernel) (by decide +kernel)
set_option maxRecDepth 20000 in
theorem gL_law_X10_clean : GoodIn wsL_law (wsV RL 116 RX10 yX10_clean wsX10_clean) := goodIn_app (goodIn_of _ (by decide +kernel)) ggL_law_X10_clean
set_option maxRecDepth 20000 in
theorem ggL_law_X9_tie : GoodIn wsL_law wsX9_tie := goodIn_r _ [1272, 773, 50, 1273, 1274, 1275, 1276, 2, 1277, 19, 759, 760, 761, 18, 762, 61, 1278, 1279, 1280, 49, 1281, 160, 1282, 149, 161, 1283, 1284, 1285, 260, 261, 262, 1286, 475, 476, 27, 477, 102, 1287, 1288, 1289, 1290, 150, 151, 152, 1291, 516, 517, 518, 103, 97, 482, 483, 484, 485, 486, 68, 1292, 972, 973, 974, 1293, 1294, 1295, 1296, 1627, 1628, 1629, 1630, 1631, 1632, 1633, 1634, 1635, 1636, 1637, 1638, 1639, 1640, 1641, 1642, 1643, 1754, 1755, 1756, 1757, 1758, 1759, 1760, 1761, 1762, 1763, 1764, 1765, 1766, 1701, 1702, 1703, 1704, 1705, 1706, 1707, 1708, 1709, 1710, 1711, 1712, 1727, 1728, 1729, 1730, 1731, 1732, 1733] (by decide +kernel) (by decide +kernel)
set_option maxRecDepth 20000 in
theorem gL_law_X9_tie : GoodIn wsL_law (wsV RL 117 RX9 yX9_tie wsX9_tie) := goodIn_app (goodIn_of _ (by decide +kernel)) ggL_law_X9_tie
set_option maxRecDepth 20000 in
theorem ggL_law_X10_tie : GoodIn wsL_law wsX10_tie := goodIn_r _ [1300, 767, 817, 1301, 1302, 1303, 5, 1304, 818, 819, 820, 821, 649, 650, 651, 652, 190, 614, 615, 616, 1305, 1306, 1307, 1308, 665, 666, 667, 668, 669, 670, 671, 672, 202, 673, 674, 675, 676, 677, 678, 679, 680, 197, 681, 682, 683, 684, 198, 1309, 1310, 1311, 1312, 705, 706, 707, 708, 204, 697, 698, 699, 700, 199, 1644, 1645, 1646, 1647, 1648, 1649, 1650, 1651, 1652, 1653, 1654, 1655, 1656, 1657, 1658, 1659, 1660, 1661, 1662, 1663, 1664, 1665, 1666, 1667, 1668, 1669, 1670, 1671, 1672, 1673, 1674, 1675, 1676, 1677, 1678, 1679, 1680, 1681, 1682, 1683, 1684, 1685, 1686, 1687, 1688, 1689, 1690, 1691, 1692, 1693, 1694, 1695, 1696, 1697, 1698, 1699, 1700] (by decide +kernel) (by decide +kernel)
set_option maxRecDepth 20000 in
theorem gL_law_X10_tie : GoodIn wsL_law (wsV RL 120 RX10 yX10_tie wsX10_tie) := goodIn_app (goodIn_of _ (by decide +kernel)) ggL_law_X10_tie
set_option maxRecDepth 20000 in
theorem ggL_law_X9_loop : GoodIn wsL_law wsX9_loop := goodIn_r _ [1316, 773, 50, 907, 908, 2, 909, 1274, 1275, 1276, 1277, 19, 759, 760, 761, 18, 762, 61, 1278, 1279, 1280, 49, 1281, 160, 1282, 149, 161, 1283, 1284, 1285, 260, 261, 262, 1286, 475, 476, 27, 477, 102, 1287, 1288, 1289, 1290, 150, 151, 152, 1291, 516, 517, 518, 103, 97, 482, 483, 484, 485, 486, 68, 1292, 972, 973, 974, 1317, 1318, 1319, 1320, 1321, 1322, 1323, 1324, 1325, 1294, 1295, 1296, 1627, 1628, 1629, 1630, 1631, 1632, 1633, 1634, 1635, 1636, 1637, 1638, 1639, 1640, 1641, 1642, 1643, 1701, 1702, 1703, 1704, 1705, 1706, 1707, 1708, 1709, 1710, 1711, 1712, 1754, 1755, 1756, 1757, 1758, 1759, 1760, 1761, 1762, 1763, 1764, 1765, 1766, 1727, 1728, 1729, 1730, 1731, 1732, 1733] (by decide +kernel) (by decide +kernel)
set_option maxRecDepth 20000 in
theorem gL_law_X9_loop : GoodIn wsL_law (wsV RL 121 RX9 yX9_loop wsX9_loop) := goodIn_app (goodIn_of _ (by decide +kernel)) ggL_law_X9_loop
set_option maxRecDepth 20000 in
theorem ggL_law_X10_loop : GoodIn wsL_law wsX10_loop := goodIn_r _ [1329, 817, 614, 615, 5, 616, 1330, 1331, 1332, 1333, 1301, 1302, 1303, 1304, 818, 819, 820, 821, 649, 650, 651, 652, 190, 1305, 1306, 1307, 1308, 665, 666, 667, 668, 669, 670, 671, 672, 202, 673, 674, 675, 676, 677, 678, 679, 680, 197, 681, 682, 683, 684, 198, 1334, 1335, 1336, 1337, 1309, 1310, 1311, 1312, 705, 706, 707, 708, 204, 697, 698, 699, 700, 199, 1644, 1645, 1646, 1647, 1648, 1649, 1650, 1651, 1652, 1653, 1654, 1655, 1656, 1657, 1658, 1659, 1660, 1661, 1662, 1663, 1664, 1665, 1666, 1667, 1668, 1669, 1670, 1671, 1672, 1673, 1674, 1675, 1676, 1677, 1678, 1679, 1680, 1681, 1682, 1683, 1684, 1685, 1686, 1687, 1688, 1689, 1690, 1691, 1692, 1693, 1694, 1695, 1696, 1697, 1698, 1699, 1700] (by decide +kernel) (by decide +kernel)
set_option maxRecDepth 20000 in
theorem gL_law_X10_loop : GoodIn wsL_law (wsV RL 125 RX10 yX10_loop wsX10_loop) := goodIn_app (goodIn_of _ (by decide +kernel)) ggL_law_X10_loop
set_option maxRecDepth 20000 in
theorem ggL_law_X9_gap : GoodIn wsL_law wsX9_gap := goodIn_r _ [1341, 50, 1342, 1343, 1278, 1279, 1280, 49, 1281, 160, 1282, 149, 161, 1283, 1284, 1285, 260, 261, 262, 1286, 475, 476, 27, 477, 102, 1287, 1288, 1289, 1290, 150, 151, 152, 1291, 516, 517, 518, 103, 97, 482, 483, 484, 485, 18, 486, 68, 1292, 972, 973, 974, 1344, 1345, 1346, 1347, 158, 159, 1348, 1318, 1319, 1320, 1349, 1350, 1351, 1352, 1353, 512, 253, 513, 1354, 1322, 1323, 1324, 1325, 1294, 1295, 1296, 1627, 1628, 1629, 1630, 1631, 1632, 1633, 1634, 1635, 1636, 1637, 1638, 1639, 1640, 1641, 1642, 1643, 1754, 1755, 1756, 1757, 1758, 1759, 1760, 1761, 1762, 1763, 1764, 1765, 1766, 1701, 1702, 1703, 1704, 1705, 1706, 1707, 1708, 1709, 1710, 1711, 1712, 1727, 1728, 1729, 1730, 1731, 1732, 1733] (by decide +kernel) (by decide +kernel)
set_option maxRecDepth 20000 in
theorem gL_law_X9_gap : GoodIn wsL_law (wsV RL 126 RX9 yX9_gap wsX9_gap) := goodIn_app (goodIn_of _ (by decide +kernel)) ggL_law_X9_gap
set_option maxRecDepth 20000 in
theorem ggL_law_X10_gap : GoodIn wsL_law wsX10_gap := goodIn_r _ [1358, 1228, 614, 615, 5, 616, 649, 650, 651, 652, 190, 1330, 1331, 1332, 1333, 1301, 1302, 1303, 1304, 818, 819, 820, 821, 1305, 1306, 1307, 1308, 665, 666, 667, 668, 669, 670, 671, 672, 202, 673, 674, 675, 676, 677, 678, 679, 680, 197, 681, 682, 683, 684, 198, 1334, 1335, 1336, 1337, 1309, 1310, 1311, 1312, 705, 706, 707, 708, 204, 697, 698, 699, 700, 199, 709, 710, 711, 1644, 1645, 1646, 1647, 1648, 1649, 1650, 1651, 1652, 1653, 1654, 1655, 1656, 1657, 1658, 1659, 1660, 1661, 1662, 1663, 1664, 1665, 1666, 1667, 1668, 1669, 1670, 1671, 1672, 1673, 1674, 1675, 1676, 1677, 1678, 1679, 1680, 1681, 1682, 1683, 1684, 1685, 1686, 1687, 1688, 1689, 1690, 1691, 1692, 1693, 1694, 1695, 1696, 1697, 1698, 1699, 1700] (by decide +kernel) (by decide +kernel)
set_option maxRecDepth 20000 in
theorem gL_law_X10_gap : GoodIn wsL_law (wsV RL 129 RX10 yX10_gap wsX10_gap) := goodIn_app (goodIn_of _ (by decide +kernel)) ggL_law_X10_gap
set_option maxRecDepth 20000 in
theorem ggL_law_X9_tree : GoodIn wsL_law wsX9_tree := goodIn_r _ [1362, 50, 1363, 1364, 1365, 1278, 1279, 1280, 49, 1281, 160, 1282, 149, 161, 1283, 1284, 1285, 260, 261, 262, 1286, 475, 476, 27, 477, 102, 1287, 1288, 1289, 1290, 150, 151, 152, 1291, 516, 517, 518, 103, 97, 482, 483, 484, 485, 18, 486, 68, 1292, 972, 973, 974, 1366, 1367, 1368, 1369, 157, 153, 1370, 1371, 1372, 1373, 154, 155, 1627, 1628, 1629, 1630, 1631, 1632, 1633, 1634, 1635, 1636, 1637, 1638, 1639, 1640, 1641, 1642, 1643, 1754, 1755, 1756, 1757, 1758, 1759, 1760, 1761, 1762, 1763, 1764, 1765, 1766, 1701, 1702, 1703, 1704, 1705, 1706, 1707, 1708, 1709, 1710, 1711, 1712, 1727, 1728, 1729, 1730, 1731, 1732, 1733] (by decide +kernel) (by decide +kernel)
set_option maxRecDepth 20000 in
theorem gL_law_X9_tree : GoodIn wsL_law (wsV RL 130 RX9 yX9_tree wsX9_tree) := goodIn_app (goodIn_of _ (by decide +kernel)) ggL_law_X9_tree
set_option maxRecDepth 20000 in
theorem ggL_law_X10_tree : GoodIn wsL_law wsX10_tree := goodIn_r _ [1377, 211, 1378, 1379, 1380, 5, 1381, 212, 649, 650, 651, 652, 190, 1305, 1306, 1307, 1308, 665, 666, 667, 668, 669, 670, 671, 672, 202, 673, 674, 675, 676, 677, 678, 679, 680, 197, 681, 682, 683, 684, 198, 614, 615, 616, 1644, 1645, 1646, 1647, 1648, 1649, 1650, 1651, 1652, 1653, 1654, 1655, 1656, 1657, 1658, 1659, 1660, 1661, 1662, 1663, 1664, 1665, 1666, 1667, 1668, 1669, 1670, 1671, 1672, 1673, 1674, 1675, 1676, 1677, 1678, 1679, 1680, 1681, 1682, 1683, 1684, 1685, 1686, 1687, 1688, 1689, 1690, 1691, 1692, 1693, 1694, 1695, 1696, 1697, 1698, 1699, 1700] (by decide +kernel) (by decide +kernel)
set_option maxRecDepth 20000 in
theorem gL_law_X10_tree : GoodIn wsL_law (wsV RL 133 RX10 yX10_tree wsX10_tree) := goodIn_app (goodIn_of _ (by decide +kernel)) ggL_law_X10_tree
set_option maxRecDepth 20000 in
theorem ggL_law_X9_plan : GoodIn wsL_law wsX9_plan := goodIn_r _ [1385, 50, 1278, 1279, 1280, 49, 1281, 160, 1282, 149, 161, 1283, 1284, 1285, 260, 261, 262, 1286, 475, 476, 27, 477, 102, 1287, 1288, 1289, 1290, 150, 151, 152, 1291, 516, 517, 518, 103, 97, 482, 483, 484, 485, 18, 486, 68, 1292, 972, 973, 974, 1366, 1367, 1368, 1369, 157, 153, 1370, 1371, 1372, 1373, 154, 155, 1386, 1387, 1388, 1389, 156, 1390, 1391, 1392, 1393, 1627, 1628, 1629, 1630, 1631, 1632, 1633, 1634, 1635, 1636, 1637, 1638, 1639, 1640, 1641, 1642, 1643, 1754, 1755, 1756, 1757, 1758, 1759, 1760, 1761, 1762, 1763, 1764, 1765, 1766, 1701, 1702, 1703, 1704, 1705, 1706, 1707, 1708, 1709, 1710, 1711, 1712, 1727, 1728, 1729, 1730, 1731, 1732, 1733] (by decide +kernel) (by decide +kernel)
set_option maxRecDepth 20000 in
theorem gL_law_X9_plan : GoodIn wsL_law (wsV RL 134 RX9 yX9_plan wsX9_plan) := goodIn_app (goodIn_of _ (by decide +kernel)) ggL_law_X9_plan
set_option maxRecDepth 20000 in
theorem ggL_law_X10_plan : GoodIn wsL_law wsX10_plan := goodIn_r _ [1397, 1398, 213, 211, 614, 615, 5, 616, 1378, 1379, 1380, 1381, 212, 649, 650, 651, 652, 190, 1305, 1306, 1307, 1308, 665, 666, 667, 668, 669, 670, 671, 672, 202, 673, 674, 675, 676, 677, 678, 679, 680, 197, 681, 682, 683, 684, 198, 1644, 1645, 1646, 1647, 1648, 1649, 1650, 1651, 1652, 1653, 1654, 1655, 1656, 1657, 1658, 1659, 1660, 1661, 1662, 1663, 1664, 1665, 1666, 1667, 1668, 1669, 1670, 1671, 1672, 1673, 1674, 1675, 1676, 1677, 1678, 1679, 1680, 1681, 1682, 1683, 1684, 1685, 1686, 1687, 1688, 1689, 1690, 1691, 1692, 1693, 1694, 1695, 1696, 1697, 1698, 1699, 1700] (by decide +kernel) (by decide +kernel)
set_option maxRecDepth 20000 in
theorem gL_law_X10_plan : GoodIn wsL_law (wsV RL 137 RX10 yX10_plan wsX10_plan) := goodIn_app (goodIn_of _ (by decide +kernel)) ggL_law_X10_plan
set_option maxRecDepth 20000 in
theorem ggL_law_X9_differ : GoodIn wsL_law wsX9_differ := goodIn_r _ [1402, 19, 773, 29, 28, 759, 760, 761, 18, 762, 61, 907, 908, 2, 909, 1403, 1404, 1405, 27, 1406, 96, 97, 102, 99, 100, 101, 441, 442, 443, 252, 253, 254, 444, 445, 446, 447, 1407, 1408, 1409, 1410, 245, 34, 38, 777, 449, 450, 451, 33, 452, 113, 453, 108, 454, 455, 456, 457, 114, 458, 459, 460, 461, 462, 463, 260, 261, 262, 464, 465, 466, 467, 468, 469, 470, 471, 109, 472, 473, 112, 474, 475, 476, 477, 478, 479, 480, 481, 103, 482, 483, 484, 485, 486, 68, 487, 488, 489, 490, 110, 491, 492, 493, 494, 495, 496, 497, 498, 499, 500, 501, 502, 503, 504, 505, 506, 507, 508, 509, 510, 511, 512, 513, 514, 515, 516, 517, 518, 519, 520, 521, 522, 523, 524, 525, 526, 527, 528, 529, 530, 531, 532, 533, 534, 535, 536, 537, 934, 935, 936, 37, 937, 124, 938, 123, 125, 939, 940, 941, 942, 943, 944, 945, 946, 947, 948, 949, 950, 951, 120, 952, 953, 954, 955, 956, 121, 957, 958, 959, 960, 961, 962, 963, 964, 965, 966, 967, 968, 969, 970, 971, 972, 973, 974, 975, 976, 977, 978, 979, 980, 981, 982, 983, 984, 985, 986, 987, 988, 989, 990, 991, 992, 1627, 1628, 1629, 1630, 1631, 1632, 1633, 1634, 1635, 1636, 1637, 1638, 1639, 1640, 1641, 1642, 1643, 1701, 1702, 1703, 1704, 1705, 1706, 1707, 1708, 1709, 1710, 1711, 1712, 1727, 1728, 1729, 1730, 1731, 1732, 1733, 1734, 1735, 1736, 1737, 1738, 1739, 1740, 1741, 1742, 1743, 1744] (by decide +kernel) (by decide +kernel)
set_option maxRecDepth 20000 in
theorem gL_law_X9_differ : GoodIn wsL_law (wsV RL 138 RX9 yX9_differ wsX9_differ) := goodIn_app (goodIn_of _ (by decide +kernel)) ggL_law_X9_differ
set_option maxRecDepth 20000 in
theorem ggL_law_X10_differ : GoodIn wsL_law wsX10_differ := goodIn_r _ [1414, 817, 818, 819, 820, 5, 821, 649, 650, 651, 652, 190, 614, 615, 616, 1415, 1416, 1417, 1418, 203, 205, 1419, 1420, 1421, 1422, 214, 215, 204, 1423, 645, 646, 647, 648, 192, 206, 653, 654, 655, 656, 657, 658, 659, 660, 661, 662, 663, 664, 665, 666, 667, 668, 669, 670, 671, 672, 202, 673, 674, 675, 676, 677, 678, 679, 680, 197, 681, 682, 683, 684, 198, 685, 686, 687, 688, 689, 690, 691, 692, 693, 694, 695, 696, 697, 698, 699, 700, 199, 701, 702, 703, 704, 705, 706, 707, 708, 709, 710, 711, 712, 713, 714, 715, 196, 716, 717, 718, 719, 195, 998, 999, 1000, 1001, 1002, 1003, 1004, 1005, 1006, 1007, 1008, 1009, 1010, 1011, 1012, 1013, 1014, 1015, 890, 891, 892, 893, 200, 1016, 1017, 1018, 1019, 1020, 1021, 1022, 1023, 767, 1024, 1025, 1026, 1027, 194, 838, 839, 840, 841, 193, 822, 823, 824, 825, 191, 1028, 1029, 1030, 1031, 1424, 1425, 1426, 1427, 1644, 1645, 1646, 1647, 1648, 1649, 1650, 1651, 1652, 1653, 1654, 1655, 1656, 1657, 1658, 1659, 1660, 1661, 1662, 1663, 1664, 1665, 1666, 1667, 1668, 1669, 1670, 1671, 1672, 1673, 1674, 1675, 1676, 1677, 1678, 1679, 1680, 1681, 1682, 1683, 1684, 1685, 1686, 1687, 1688, 1689, 1690, 1691, 1692, 1693, 1694, 1695, 1696, 1697, 1698, 1699, 1700] (by decide +kernel) (by decide +kernel)
set_option maxRecDepth 20000 in
theorem gL_law_X10_differ : GoodIn wsL_law (wsV RL 141 RX10 yX10_differ wsX10_differ) := goodIn_app (goodIn_of _ (by decide +kernel)) ggL_law_X10_differ
set_option maxRecDepth 20000 in
theorem ggL_law_X9_alters : GoodIn wsL_law wsX9_alters := goodIn_r _ [1431, 19, 870, 29, 28, 38, 30, 1432, 1433, 1434, 2, 1435, 759, 760, 761, 18, 762, 61, 1403, 1404, 1405, 27, 1406, 96, 97, 102, 99, 100, 101, 441, 442, 443, 252, 253, 254, 444, 445, 446, 447, 934, 935, 936, 37, 937, 124, 938, 123, 125, 939, 516, 517, 518, 103, 482, 483, 484, 485, 486, 68, 940, 941, 942, 943, 944, 945, 946, 947, 948, 949, 950, 951, 120, 952, 953, 954, 955, 956, 121, 957, 958, 261, 959, 960, 475, 476, 477, 961, 962, 963, 964, 965, 529, 530, 531, 532, 966, 967, 968, 969, 970, 971, 972, 973, 974, 975, 976, 977, 978, 979, 980, 981, 982, 983, 984, 985, 986, 987, 988, 989, 990, 991, 992, 1436, 407, 408, 409, 1437, 1438, 1439, 1440, 732, 777, 1441, 512, 513, 1627, 1628, 1629, 1630, 1631, 1632, 1633, 1634, 1635, 1636, 1637, 1638, 1639, 1640, 1641, 1642, 1643, 1701, 1702, 1703, 1704, 1705, 1706, 1707, 1708, 1709, 1710, 1711, 1712, 1727, 1728, 1729, 1730, 1731, 1732, 1733, 1740, 1741, 1742, 1743, 1744] (by decide +kernel) (by decide +kernel)
set_option maxRecDepth 20000 in
theorem gL_law_X9_alters : GoodIn wsL_law (wsV RL 142 RX9 yX9_alters wsX9_alters) := goodIn_app (goodIn_of _ (by decide +kernel)) ggL_law_X9_alters
set_option maxRecDepth 20000 in
theorem ggL_law_X10_alters : GoodIn wsL_law wsX10_alters := goodIn_r _ [1445, 199, 216, 205, 1446, 1447, 1448, 5, 1449, 1450, 886, 887, 888, 889, 673, 674, 675, 676, 190, 614, 615, 616, 1419, 1420, 1421, 1422, 214, 215, 204, 203, 1423, 998, 999, 1000, 1001, 1002, 1003, 1004, 1005, 665, 666, 667, 668, 716, 717, 718, 719, 195, 1006, 1007, 1008, 1009, 202, 1010, 1011, 1012, 1013, 1014, 1015, 681, 682, 683, 684, 198, 890, 891, 892, 893, 200, 701, 702, 703, 704, 677, 678, 679, 680, 197, 705, 706, 707, 708, 697, 698, 699, 700, 1016, 1017, 1018, 1019, 1020, 1021, 1022, 1023, 767, 649, 650, 651, 652, 1024, 1025, 1026, 1027, 194, 838, 839, 840, 841, 193, 822, 823, 824, 825, 191, 1028, 1029, 1030, 1031, 1424, 1425, 1426, 1427, 1451, 1452, 1453, 1454, 709, 710, 711, 1644, 1645, 1646, 1647, 1648, 1649, 1650, 1651, 1652, 1653, 1654, 1655, 1656, 1657, 1658, 1659, 1660, 1661, 1662, 1663, 1664, 1665, 1666, 1667, 1668, 1669, 1670, 1671, 1672, 1673, 1674, 1675, 1676, 1677, 1678, 1679, 1680, 1681, 1682, 1683, 1684, 1685, 1686, 1687, 1688, 1689, 1690, 1691, 1692, 1693, 1694, 1695, 1696, 1697, 1698, 1699, 1700] (by decide +kernel) (by decide +kernel)
set_option maxRecDepth 20000 in
theorem gL_law_X10_alters : GoodIn wsL_law (wsV RL 145 RX10 yX10_alters wsX10_alters) := goodIn_app (goodIn_of _ (by decide +kernel)) ggL_law_X10_alters
set_option maxRecDepth 20000 in
theorem ggL_law_X9_measure : GoodIn wsL_law wsX9_measure := goodIn_r _ [1458, 19, 1432, 1433, 1434, 2, 1435, 759, 760, 761, 18, 762, 61, 1436, 407, 408, 409, 68, 1627, 1628, 1629, 1630, 1631, 1632, 1633, 1634, 1635, 1636, 1637, 1638, 1639, 1640, 1641, 1642, 1643, 1701, 1702, 1703, 1704, 1705, 1706, 1707, 1708, 1709, 1710, 1711, 1712] (by decide +kernel) (by decide +kernel)
set_option maxRecDepth 20000 in
theorem gL_law_X9_measure : GoodIn wsL_law (wsV RL 146 RX9 yX9_measure wsX9_measure) := goodIn_app (goodIn_of _ (by decide +kernel)) ggL_law_X9_measure
set_option maxRecDepth 20000 in
theorem ggL_law_X10_measure : GoodIn wsL_law wsX10_measure := goodIn_r _ [1462, 1446, 1447, 1448, 5, 1449, 1450, 886, 887, 888, 889, 673, 674, 675, 676, 190, 614, 615, 616, 1451, 1452, 1453, 1454, 199, 1644, 1645, 1646, 1647, 1648, 1649, 1650, 1651, 1652, 1653, 1654, 1655, 1656, 1657, 1658, 1659, 1660, 1661, 1662, 1663, 1664, 1665, 1666, 1667, 1668, 1669, 1670, 1671, 1672, 1673, 1674, 1675, 1676, 1677, 1678, 1679, 1680, 1681, 1682, 1683, 1684, 1685, 1686, 1687, 1688, 1689, 1690, 1691, 1692, 1693, 1694, 1695, 1696, 1697, 1698, 1699, 1700] (by decide +kernel) (by decide +kernel)
set_option maxRecDepth 20000 in
theorem gL_law_X10_measure : GoodIn wsL_law (wsV RL 150 RX10 yX10_measure wsX10_measure) := goodIn_app (goodIn_of _ (by decide +kernel)) ggL_law_X10_measure
set_option maxRecDepth 20000 in
theorem ggL_law_X9_slips : GoodIn wsL_law wsX9_slips := goodIn_r _ [1466, 19, 732, 870, 1467, 1468, 2, 1469, 1470, 1471, 1472, 1473, 1474, 1475, 1476, 1477, 1478, 1479, 443, 252, 253, 254, 1480, 1481, 1482, 1436, 407, 408, 18, 409, 68, 1627, 1628, 1629, 1630, 1631, 1632, 1633, 1634, 1635, 1636, 1637, 1638, 1639, 1640, 1641, 1642, 1643, 1701, 1702, 1703, 1704, 1705, 1706, 1707, 1708, 1709, 1710, 1711, 1712] (by decide +kernel) (by decide +kernel)
set_option maxRecDepth 20000 in
theorem gL_law_X9_slips : GoodIn wsL_law (wsV RL 151 RX9 yX9_slips wsX9_slips) := goodIn_app (goodIn_of _ (by decide +kernel)) ggL_law_X9_slips
set_option maxRecDepth 20000 in
theorem ggL_law_X10_slips : GoodIn wsL_law wsX10_slips := goodIn_r _ [1486, 1487, 1488, 1489, 199, 614, 615, 5, 616, 673, 674, 675, 676, 190, 1490, 1491, 1492, 1493, 1494, 1495, 1496, 1497, 1498, 1499, 1500, 1451, 1452, 1453, 1454, 1644, 1645, 1646, 1647, 1648, 1649, 1650, 1651, 1652, 1653, 1654, 1655, 1656, 1657, 1658, 1659, 1660, 1661, 1662, 1663, 1664, 1665, 1666, 1667, 1668, 1669, 1670, 1671, 1672, 1673, 1674, 1675, 1676, 1677, 1678, 1679, 1680, 1681, 1682, 1683, 1684, 1685, 1686, 1687, 1688, 1689, 1690, 1691, 1692, 1693, 1694, 1695, 1696, 1697, 1698, 1699, 1700] (by decide +kernel) (by decide +kernel)
set_option maxRecDepth 20000 in
theorem gL_law_X10_slips : GoodIn wsL_law (wsV RL 154 RX10 yX10_slips wsX10_slips) := goodIn_app (goodIn_of _ (by decide +kernel)) ggL_law_X10_slips
set_option maxRecDepth 20000 in
theorem ggL_law_X9_image : GoodIn wsL_law wsX9_image := goodIn_r _ [1504, 54, 28, 1505, 1506, 1507, 53, 1508, 167, 1509, 169, 1510, 1511, 1512, 1513, 1514, 1515, 166, 1516, 1517, 1518, 1519, 1520, 1521, 1522, 1523, 1524, 1525, 1526, 1627, 1628, 1629, 1630, 1631, 1632, 1633, 1634, 1635, 1636, 1637, 1638, 1639, 1640, 1641, 1642, 1643, 1767, 1768, 1769, 1770, 1727, 1728, 1729, 1730, 1731, 1732, 1733, 1701, 1702, 1703, 1704, 1705, 1706, 1707, 1708, 1709, 1710, 1711, 1712] (by decide +kernel) (by decide +kernel)
set_option maxRecDepth 20000 in
theorem gL_law_X9_image : GoodIn wsL_law (wsV RL 155 RX9 yX9_image wsX9_image) := goodIn_app (goodIn_of _ (by decide +kernel)) ggL_law_X9_image
set_option maxRecDepth 20000 in
theorem ggL_law_X10_image : GoodIn wsL_law wsX10_image := goodIn_r _ [1530, 1531, 203, 204, 190, 202, 217, 1532, 1533, 1534, 5, 1535, 649, 650, 651, 652, 1536, 1537, 1538, 1539, 205, 1540, 1541, 1542, 1543, 665, 666, 667, 668, 673, 674, 675, 676, 1544, 1545, 1546, 1644, 1645, 1646, 1647, 1648, 1649, 1650, 1651, 1652, 1653, 1654, 1655, 1656, 1657, 1658, 1659, 1660, 1661, 1662, 1663, 1664, 1665, 1666, 1667, 1668, 1669, 1670, 1671, 1672, 1673, 1674, 1675, 1676, 1677, 1678, 1679, 1680, 1681, 1682, 1683, 1684, 1685, 1686, 1687, 1688, 1689, 1690, 1691, 1692, 1693, 1694, 1695, 1696, 1697, 1698, 1699, 1700] (by decide +kernel) (by decide +kernel)
set_option maxRecDepth 20000 in
theorem gL_law_X10_image : GoodIn wsL_law (wsV RL 158 RX10 yX10_image wsX10_image) := goodIn_app (goodIn_of _ (by decide +kernel)) ggL_law_X10_image
set_option maxRecDepth 20000 in
theorem ggL_law_X9_octet : GoodIn wsL_law wsX9_octet := goodIn_r _ [1550, 54, 1551, 1552, 1627, 1628, 1629, 1630, 1631, 1632, 1633, 1634, 1635, 1636, 1637, 1638, 1639, 1640, 1641, 1642, 1643, 1767, 1768, 1769, 1770] (by decide +kernel) (by decide +kernel)
