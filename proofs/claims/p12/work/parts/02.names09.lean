set_option maxRecDepth 20000 in
theorem gmX10_sum__X10_doubtOf_r2 : ∀ w ∈ wsX10_doubtOf_r2, w ∈ wsX10_sum := List.forall_mem_cons.mpr ⟨(gcX10_sum__X10_sum_r2 _ (List.mem_of_getElem? (i := 11) rfl)), List.forall_mem_cons.mpr ⟨(gcX10_sum__X10_sum_r2 _ (List.mem_of_getElem? (i := 12) rfl)), List.forall_mem_cons.mpr ⟨(gcX10_sum__X10_sum_r2 _ (List.mem_of_getElem? (i := 13) rfl)), List.forall_mem_cons.mpr ⟨(gcX10_sum__X10_sum_r2 _ (List.mem_of_getElem? (i := 14) rfl)), List.forall_mem_cons.mpr ⟨(gcX10_sum__X10_sum_r2 _ (List.mem_of_getElem? (i := 15) rfl)), List.forall_mem_cons.mpr ⟨(gcX10_sum__X10_sum_r2 _ (List.mem_of_getElem? (i := 16) rfl)), List.forall_mem_cons.mpr ⟨(gcX10_sum__X10_sum_r2 _ (List.mem_of_getElem? (i := 17) rfl)), List.forall_mem_cons.mpr ⟨(gcX10_sum__X10_sum_r2 _ (List.mem_of_getElem? (i := 18) rfl)), List.forall_mem_cons.mpr ⟨(gcX10_sum__X10_sum_r2 _ (List.mem_of_getElem? (i := 19) rfl)), List.forall_mem_cons.mpr ⟨(gcX10_sum__X10_sum_r2 _ (List.mem_of_getElem? (i := 20) rfl)), List.forall_mem_cons.mpr ⟨(gcX10_sum__X10_sum_r2 _ (List.mem_of_getElem? (i := 21) rfl)), fun _ h => (List.not_mem_nil h).elim⟩⟩⟩⟩⟩⟩⟩⟩⟩⟩⟩
set_option maxRecDepth 20000 in
theorem gwX10_doubtOf : wsX10_doubtOf.all goodWord = true := by decide +kernel
set_option maxRecDepth 20000 in
theorem ggX10_sum_X10_doubtOf : GoodIn wsX10_sum wsX10_doubtOf := goodIn_sub (List.forall_mem_cons.mpr ⟨(gcX10_sum__X10_sum_r1 _ (List.mem_of_getElem? (i := 12) rfl)), List.forall_mem_append.mpr ⟨List.forall_mem_append.mpr ⟨gmX10_sum__X10_doubtOf_r1, gmX10_sum__X10_doubtOf_r2⟩, gcX10_sum__X100⟩⟩) gwX10_doubtOf
set_option maxRecDepth 20000 in
theorem gX10_sum_X10_doubtOf : GoodIn wsX10_sum (wsV RX10 328 RX10 yX10_doubtOf wsX10_doubtOf) := goodIn_app (goodIn_sub (List.forall_mem_cons.mpr ⟨(gcX10_sum__X10_sum_r1 _ (List.mem_of_getElem? (i := 9) rfl)), List.forall_mem_cons.mpr ⟨(gcX10_sum__X10_sum_r1 _ (List.mem_of_getElem? (i := 10) rfl)), List.forall_mem_cons.mpr ⟨(gcX10_sum__X10_sum_r1 _ (List.mem_of_getElem? (i := 11) rfl)), List.forall_mem_cons.mpr ⟨(gcX10_sum__X10_sum_r1 _ (List.mem_of_getElem? (i := 6) rfl)), fun _ h => (List.not_mem_nil h).elim⟩⟩⟩⟩) (by decide +kernel)) ggX10_sum_X10_doubtOf
theorem gcX10_sum__X10_sum_r3 : ∀ w ∈ wsX10_sum_r3, w ∈ wsX10_sum := fun w h => List.mem_cons_of_mem _ (List.mem_append_left _ (List.mem_append_right _ (List.mem_append_right _ (h))))
set_option maxRecDepth 20000 in
theorem ggX10_sum_X10_pictures : GoodIn wsX10_sum wsX10_pictures := goodIn_sub (List.forall_mem_cons.mpr ⟨(gcX10_sum__X10_sum_r3 _ (List.mem_of_getElem? (i := 1) rfl)), List.forall_mem_append.mpr ⟨List.forall_mem_cons.mpr ⟨(gcX10_sum__X10_sum_r1 _ (List.mem_of_getElem? (i := 8) rfl)), fun _ h => (List.not_mem_nil h).elim⟩, gcX10_sum__X100⟩⟩) gwX10_pictures
set_option maxRecDepth 20000 in
theorem gX10_sum_X10_pictures : GoodIn wsX10_sum (wsV RX10 259 RX10 yX10_pictures wsX10_pictures) := goodIn_app (goodIn_sub (List.forall_mem_cons.mpr ⟨(gcX10_sum__X10_sum_r2 _ (List.mem_of_getElem? (i := 22) rfl)), List.forall_mem_cons.mpr ⟨(gcX10_sum__X10_sum_r2 _ (List.mem_of_getElem? (i := 23) rfl)), List.forall_mem_cons.mpr ⟨(gcX10_sum__X10_sum_r3 _ (List.mem_of_getElem? (i := 0) rfl)), List.forall_mem_cons.mpr ⟨(gcX10_sum__X10_sum_r1 _ (List.mem_of_getElem? (i := 6) rfl)), fun _ h => (List.not_mem_nil h).elim⟩⟩⟩⟩) (by decide +kernel)) ggX10_sum_X10_pictures
set_option maxRecDepth 20000 in
theorem ggX10_sum_X10_strip : GoodIn wsX10_sum wsX10_strip := goodIn_sub (List.forall_mem_cons.mpr ⟨(gcX10_sum__X10_sum_r3 _ (List.mem_of_getElem? (i := 5) rfl)), List.forall_mem_append.mpr ⟨List.forall_mem_cons.mpr ⟨(gcX10_sum__X10_sum_r3 _ (List.mem_of_getElem? (i := 6) rfl)), fun _ h => (List.not_mem_nil h).elim⟩, gcX10_sum__X100⟩⟩) gwX10_strip
set_option maxRecDepth 20000 in
theorem gX10_sum_X10_strip : GoodIn wsX10_sum (wsV RX10 268 RX10 yX10_strip wsX10_strip) := goodIn_app (goodIn_sub (List.forall_mem_cons.mpr ⟨(gcX10_sum__X10_sum_r3 _ (List.mem_of_getElem? (i := 2) rfl)), List.forall_mem_cons.mpr ⟨(gcX10_sum__X10_sum_r3 _ (List.mem_of_getElem? (i := 3) rfl)), List.forall_mem_cons.mpr ⟨(gcX10_sum__X10_sum_r3 _ (List.mem_of_getElem? (i := 4) rfl)), List.forall_mem_cons.mpr ⟨(gcX10_sum__X10_sum_r1 _ (List.mem_of_getElem? (i := 6) rfl)), fun _ h => (List.not_mem_nil h).elim⟩⟩⟩⟩) (by decide +kernel)) ggX10_sum_X10_strip
set_option maxRecDepth 20000 in
theorem ggX10_sum_X10_centreOf : GoodIn wsX10_sum wsX10_centreOf := goodIn_sub (List.forall_mem_cons.mpr ⟨(gcX10_sum__X10_sum_r3 _ (List.mem_of_getElem? (i := 10) rfl)), List.forall_mem_append.mpr ⟨List.forall_mem_cons.mpr ⟨(gcX10_sum__X10_sum_r3 _ (List.mem_of_getElem? (i := 11) rfl)), fun _ h => (List.not_mem_nil h).elim⟩, gcX10_sum__X100⟩⟩) gwX10_centreOf
set_option maxRecDepth 20000 in
theorem gX10_sum_X10_centreOf : GoodIn wsX10_sum (wsV RX10 271 RX10 yX10_centreOf wsX10_centreOf) := goodIn_app (goodIn_sub (List.forall_mem_cons.mpr ⟨(gcX10_sum__X10_sum_r3 _ (List.mem_of_getElem? (i := 7) rfl)), List.forall_mem_cons.mpr ⟨(gcX10_sum__X10_sum_r3 _ (List.mem_of_getElem? (i := 8) rfl)), List.forall_mem_cons.mpr ⟨(gcX10_sum__X10_sum_r3 _ (List.mem_of_getElem? (i := 9) rfl)), List.forall_mem_cons.mpr ⟨(gcX10_sum__X10_sum_r1 _ (List.mem_of_getElem? (i := 6) rfl)), fun _ h => (List.not_mem_nil h).elim⟩⟩⟩⟩) (by decide +kernel)) ggX10_sum_X10_centreOf
theorem dX10_sum_0 : decode cX10_sum 0 = .ok (.lconst 0, 1) := by decide +kernel
theorem dX10_sum_1 : decode cX10_sum 1 = .ok (.lstore_n 1, 1) := by decide +kernel
theorem dX10_sum_2 : decode cX10_sum 2 = .ok (.iconst 0, 1) := by decide +kernel
theorem dX10_sum_3 : decode cX10_sum 3 = .ok (.istore_n 3, 1) := by decide +kernel
theorem dX10_sum_4 : decode cX10_sum 4 = .ok (.iload_n 3, 1) := by decide +kernel
theorem dX10_sum_5 : decode cX10_sum 5 = .ok (.aload_n 0, 1) := by decide +kernel
theorem dX10_sum_6 : decode cX10_sum 6 = .ok (.invokevirtual 265, 3) := by decide +kernel
theorem dX10_sum_9 : decode cX10_sum 9 = .ok (.if_icmp .ge 26, 3) := by decide +kernel
theorem dX10_sum_12 : decode cX10_sum 12 = .ok (.aload_n 0, 1) := by decide +kernel
theorem dX10_sum_13 : decode cX10_sum 13 = .ok (.getfield 91, 3) := by decide +kernel
theorem dX10_sum_16 : decode cX10_sum 16 = .ok (.iload_n 3, 1) := by decide +kernel
theorem dX10_sum_17 : decode cX10_sum 17 = .ok (.baload, 1) := by decide +kernel
theorem dX10_sum_18 : decode cX10_sum 18 = .ok (.ifCond .ne 11, 3) := by decide +kernel
theorem dX10_sum_21 : decode cX10_sum 21 = .ok (.lload_n 1, 1) := by decide +kernel
theorem dX10_sum_22 : decode cX10_sum 22 = .ok (.aload_n 0, 1) := by decide +kernel
theorem dX10_sum_23 : decode cX10_sum 23 = .ok (.iload_n 3, 1) := by decide +kernel
theorem dX10_sum_24 : decode cX10_sum 24 = .ok (.invokevirtual 328, 3) := by decide +kernel
theorem dX10_sum_27 : decode cX10_sum 27 = .ok (.ladd, 1) := by decide +kernel
theorem dX10_sum_28 : decode cX10_sum 28 = .ok (.lstore_n 1, 1) := by decide +kernel
theorem dX10_sum_29 : decode cX10_sum 29 = .ok (.iinc 3 1, 3) := by decide +kernel
theorem dX10_sum_32 : decode cX10_sum 32 = .ok (.goto (-28), 3) := by decide +kernel
theorem dX10_sum_35 : decode cX10_sum 35 = .ok (.iconst 0, 1) := by decide +kernel
theorem dX10_sum_36 : decode cX10_sum 36 = .ok (.istore_n 3, 1) := by decide +kernel
theorem dX10_sum_37 : decode cX10_sum 37 = .ok (.iload_n 3, 1) := by decide +kernel
theorem dX10_sum_38 : decode cX10_sum 38 = .ok (.aload_n 0, 1) := by decide +kernel
theorem dX10_sum_39 : decode cX10_sum 39 = .ok (.invokevirtual 259, 3) := by decide +kernel
theorem dX10_sum_42 : decode cX10_sum 42 = .ok (.if_icmp .ge 92, 3) := by decide +kernel
theorem dX10_sum_45 : decode cX10_sum 45 = .ok (.iconst 0, 1) := by decide +kernel
theorem dX10_sum_46 : decode cX10_sum 46 = .ok (.istore 4, 2) := by decide +kernel
theorem dX10_sum_48 : decode cX10_sum 48 = .ok (.iload 4, 2) := by decide +kernel
theorem dX10_sum_50 : decode cX10_sum 50 = .ok (.iconst 2, 1) := by decide +kernel
theorem dX10_sum_51 : decode cX10_sum 51 = .ok (.if_icmp .ge 77, 3) := by decide +kernel
theorem dX10_sum_54 : decode cX10_sum 54 = .ok (.aload_n 0, 1) := by decide +kernel
theorem dX10_sum_55 : decode cX10_sum 55 = .ok (.getfield 101, 3) := by decide +kernel
theorem dX10_sum_58 : decode cX10_sum 58 = .ok (.bipush 38, 2) := by decide +kernel
theorem dX10_sum_60 : decode cX10_sum 60 = .ok (.iload 4, 2) := by decide +kernel
theorem dX10_sum_62 : decode cX10_sum 62 = .ok (.imul, 1) := by decide +kernel
theorem dX10_sum_63 : decode cX10_sum 63 = .ok (.iload_n 3, 1) := by decide +kernel
theorem dX10_sum_64 : decode cX10_sum 64 = .ok (.iadd, 1) := by decide +kernel
theorem dX10_sum_65 : decode cX10_sum 65 = .ok (.iaload, 1) := by decide +kernel
theorem dX10_sum_66 : decode cX10_sum 66 = .ok (.aload_n 0, 1) := by decide +kernel
theorem dX10_sum_67 : decode cX10_sum 67 = .ok (.getfield 101, 3) := by decide +kernel
theorem dX10_sum_70 : decode cX10_sum 70 = .ok (.bipush 38, 2) := by decide +kernel
theorem dX10_sum_72 : decode cX10_sum 72 = .ok (.iload 4, 2) := by decide +kernel
theorem dX10_sum_74 : decode cX10_sum 74 = .ok (.imul, 1) := by decide +kernel
theorem dX10_sum_75 : decode cX10_sum 75 = .ok (.bipush 32, 2) := by decide +kernel
theorem dX10_sum_77 : decode cX10_sum 77 = .ok (.iadd, 1) := by decide +kernel
theorem dX10_sum_78 : decode cX10_sum 78 = .ok (.aload_n 0, 1) := by decide +kernel
theorem dX10_sum_79 : decode cX10_sum 79 = .ok (.iload_n 3, 1) := by decide +kernel
theorem dX10_sum_80 : decode cX10_sum 80 = .ok (.invokevirtual 268, 3) := by decide +kernel
theorem dX10_sum_83 : decode cX10_sum 83 = .ok (.iadd, 1) := by decide +kernel
theorem dX10_sum_84 : decode cX10_sum 84 = .ok (.iaload, 1) := by decide +kernel
theorem dX10_sum_85 : decode cX10_sum 85 = .ok (.isub, 1) := by decide +kernel
theorem dX10_sum_86 : decode cX10_sum 86 = .ok (.bipush 100, 2) := by decide +kernel
theorem dX10_sum_88 : decode cX10_sum 88 = .ok (.aload_n 0, 1) := by decide +kernel
theorem dX10_sum_89 : decode cX10_sum 89 = .ok (.getfield 70, 3) := by decide +kernel
theorem dX10_sum_92 : decode cX10_sum 92 = .ok (.bipush 24, 2) := by decide +kernel
theorem dX10_sum_94 : decode cX10_sum 94 = .ok (.iconst 2, 1) := by decide +kernel
theorem dX10_sum_95 : decode cX10_sum 95 = .ok (.iload_n 3, 1) := by decide +kernel
theorem dX10_sum_96 : decode cX10_sum 96 = .ok (.imul, 1) := by decide +kernel
theorem dX10_sum_97 : decode cX10_sum 97 = .ok (.iadd, 1) := by decide +kernel
theorem dX10_sum_98 : decode cX10_sum 98 = .ok (.iload 4, 2) := by decide +kernel
theorem dX10_sum_100 : decode cX10_sum 100 = .ok (.iadd, 1) := by decide +kernel
theorem dX10_sum_101 : decode cX10_sum 101 = .ok (.iaload, 1) := by decide +kernel
theorem dX10_sum_102 : decode cX10_sum 102 = .ok (.imul, 1) := by decide +kernel
theorem dX10_sum_103 : decode cX10_sum 103 = .ok (.isub, 1) := by decide +kernel
theorem dX10_sum_104 : decode cX10_sum 104 = .ok (.i2l, 1) := by decide +kernel
theorem dX10_sum_105 : decode cX10_sum 105 = .ok (.lstore 5, 2) := by decide +kernel
theorem dX10_sum_107 : decode cX10_sum 107 = .ok (.lload_n 1, 1) := by decide +kernel
theorem dX10_sum_108 : decode cX10_sum 108 = .ok (.aload_n 0, 1) := by decide +kernel
theorem dX10_sum_109 : decode cX10_sum 109 = .ok (.iload_n 3, 1) := by decide +kernel
theorem dX10_sum_110 : decode cX10_sum 110 = .ok (.invokevirtual 271, 3) := by decide +kernel
theorem dX10_sum_113 : decode cX10_sum 113 = .ok (.i2l, 1) := by decide +kernel
theorem dX10_sum_114 : decode cX10_sum 114 = .ok (.lload 5, 2) := by decide +kernel
theorem dX10_sum_116 : decode cX10_sum 116 = .ok (.lmul, 1) := by decide +kernel
theorem dX10_sum_117 : decode cX10_sum 117 = .ok (.lload 5, 2) := by decide +kernel
theorem dX10_sum_119 : decode cX10_sum 119 = .ok (.lmul, 1) := by decide +kernel
theorem dX10_sum_120 : decode cX10_sum 120 = .ok (.ladd, 1) := by decide +kernel
theorem dX10_sum_121 : decode cX10_sum 121 = .ok (.lstore_n 1, 1) := by decide +kernel
theorem dX10_sum_122 : decode cX10_sum 122 = .ok (.iinc 4 1, 3) := by decide +kernel
theorem dX10_sum_125 : decode cX10_sum 125 = .ok (.goto (-77), 3) := by decide +kernel
theorem dX10_sum_128 : decode cX10_sum 128 = .ok (.iinc 3 1, 3) := by decide +kernel
theorem dX10_sum_131 : decode cX10_sum 131 = .ok (.goto (-94), 3) := by decide +kernel
theorem dX10_sum_134 : decode cX10_sum 134 = .ok (.lload_n 1, 1) := by decide +kernel
theorem dX10_sum_135 : decode cX10_sum 135 = .ok (.lreturn, 1) := by decide +kernel
theorem dX10_mean_0 : decode cX10_mean 0 = .ok (.aload_n 0, 1) := by decide +kernel
theorem dX10_mean_1 : decode cX10_mean 1 = .ok (.dup, 1) := by decide +kernel
theorem dX10_mean_2 : decode cX10_mean 2 = .ok (.getfield 332, 3) := by decide +kernel
theorem dX10_mean_5 : decode cX10_mean 5 = .ok (.iload_n 1, 1) := by decide +kernel
theorem dX10_mean_6 : decode cX10_mean 6 = .ok (.i2l, 1) := by decide +kernel
theorem dX10_mean_7 : decode cX10_mean 7 = .ok (.iload_n 2, 1) := by decide +kernel
theorem dX10_mean_8 : decode cX10_mean 8 = .ok (.i2l, 1) := by decide +kernel
theorem dX10_mean_9 : decode cX10_mean 9 = .ok (.lmul, 1) := by decide +kernel
theorem dX10_mean_10 : decode cX10_mean 10 = .ok (.ladd, 1) := by decide +kernel
theorem dX10_mean_11 : decode cX10_mean 11 = .ok (.putfield 332, 3) := by decide +kernel
theorem dX10_mean_14 : decode cX10_mean 14 = .ok (.aload_n 0, 1) := by decide +kernel
theorem dX10_mean_15 : decode cX10_mean 15 = .ok (.dup, 1) := by decide +kernel
theorem dX10_mean_16 : decode cX10_mean 16 = .ok (.getfield 336, 3) := by decide +kernel
theorem dX10_mean_19 : decode cX10_mean 19 = .ok (.iload_n 1, 1) := by decide +kernel
theorem dX10_mean_20 : decode cX10_mean 20 = .ok (.iadd, 1) := by decide +kernel
theorem dX10_mean_21 : decode cX10_mean 21 = .ok (.putfield 336, 3) := by decide +kernel
theorem dX10_mean_24 : decode cX10_mean 24 = .ok (.return_, 1) := by decide +kernel
theorem dX10_becomes_0 : decode cX10_becomes 0 = .ok (.aload_n 0, 1) := by decide +kernel
theorem dX10_becomes_1 : decode cX10_becomes 1 = .ok (.getfield 336, 3) := by decide +kernel
theorem dX10_becomes_4 : decode cX10_becomes 4 = .ok (.ifCond .ne 5, 3) := by decide +kernel
theorem dX10_becomes_7 : decode cX10_becomes 7 = .ok (.iconst 0, 1) := by decide +kernel
theorem dX10_becomes_8 : decode cX10_becomes 8 = .ok (.ireturn, 1) := by decide +kernel
theorem dX10_becomes_9 : decode cX10_becomes 9 = .ok (.aload_n 0, 1) := by decide +kernel
theorem dX10_becomes_10 : decode cX10_becomes 10 = .ok (.getfield 332, 3) := by decide +kernel
theorem dX10_becomes_13 : decode cX10_becomes 13 = .ok (.aload_n 0, 1) := by decide +kernel
theorem dX10_becomes_14 : decode cX10_becomes 14 = .ok (.getfield 336, 3) := by decide +kernel
theorem dX10_becomes_17 : decode cX10_becomes 17 = .ok (.i2l, 1) := by decide +kernel
theorem dX10_becomes_18 : decode cX10_becomes 18 = .ok (.ldiv, 1) := by decide +kernel
theorem dX10_becomes_19 : decode cX10_becomes 19 = .ok (.lstore_n 2, 1) := by decide +kernel
theorem dX10_becomes_20 : decode cX10_becomes 20 = .ok (.aload_n 0, 1) := by decide +kernel
theorem dX10_becomes_21 : decode cX10_becomes 21 = .ok (.getfield 332, 3) := by decide +kernel
theorem dX10_becomes_24 : decode cX10_becomes 24 = .ok (.aload_n 0, 1) := by decide +kernel
theorem dX10_becomes_25 : decode cX10_becomes 25 = .ok (.getfield 336, 3) := by decide +kernel
theorem dX10_becomes_28 : decode cX10_becomes 28 = .ok (.i2l, 1) := by decide +kernel
theorem dX10_becomes_29 : decode cX10_becomes 29 = .ok (.lrem, 1) := by decide +kernel
theorem dX10_becomes_30 : decode cX10_becomes 30 = .ok (.lstore 4, 2) := by decide +kernel
theorem dX10_becomes_32 : decode cX10_becomes 32 = .ok (.lload 4, 2) := by decide +kernel
theorem dX10_becomes_34 : decode cX10_becomes 34 = .ok (.lconst 0, 1) := by decide +kernel
theorem dX10_becomes_35 : decode cX10_becomes 35 = .ok (.lcmp, 1) := by decide +kernel
theorem dX10_becomes_36 : decode cX10_becomes 36 = .ok (.ifCond .ge 17, 3) := by decide +kernel
theorem dX10_becomes_39 : decode cX10_becomes 39 = .ok (.lload_n 2, 1) := by decide +kernel
theorem dX10_becomes_40 : decode cX10_becomes 40 = .ok (.lconst 1, 1) := by decide +kernel
theorem dX10_becomes_41 : decode cX10_becomes 41 = .ok (.lsub, 1) := by decide +kernel
theorem dX10_becomes_42 : decode cX10_becomes 42 = .ok (.lstore_n 2, 1) := by decide +kernel
theorem dX10_becomes_43 : decode cX10_becomes 43 = .ok (.lload 4, 2) := by decide +kernel
theorem dX10_becomes_45 : decode cX10_becomes 45 = .ok (.aload_n 0, 1) := by decide +kernel
theorem dX10_becomes_46 : decode cX10_becomes 46 = .ok (.getfield 336, 3) := by decide +kernel
theorem dX10_becomes_49 : decode cX10_becomes 49 = .ok (.i2l, 1) := by decide +kernel
theorem dX10_becomes_50 : decode cX10_becomes 50 = .ok (.ladd, 1) := by decide +kernel
theorem dX10_becomes_51 : decode cX10_becomes 51 = .ok (.lstore 4, 2) := by decide +kernel
theorem dX10_becomes_53 : decode cX10_becomes 53 = .ok (.aload_n 0, 1) := by decide +kernel
theorem dX10_becomes_54 : decode cX10_becomes 54 = .ok (.getfield 101, 3) := by decide +kernel
theorem dX10_becomes_57 : decode cX10_becomes 57 = .ok (.iload_n 1, 1) := by decide +kernel
theorem dX10_becomes_58 : decode cX10_becomes 58 = .ok (.iaload, 1) := by decide +kernel
theorem dX10_becomes_59 : decode cX10_becomes 59 = .ok (.istore 6, 2) := by decide +kernel
theorem dX10_becomes_61 : decode cX10_becomes 61 = .ok (.ldc2_w 339, 3) := by decide +kernel
theorem dX10_becomes_64 : decode cX10_becomes 64 = .ok (.lload 4, 2) := by decide +kernel
theorem dX10_becomes_66 : decode cX10_becomes 66 = .ok (.lmul, 1) := by decide +kernel
theorem dX10_becomes_67 : decode cX10_becomes 67 = .ok (.aload_n 0, 1) := by decide +kernel
theorem dX10_becomes_68 : decode cX10_becomes 68 = .ok (.getfield 336, 3) := by decide +kernel
theorem dX10_becomes_71 : decode cX10_becomes 71 = .ok (.i2l, 1) := by decide +kernel
theorem dX10_becomes_72 : decode cX10_becomes 72 = .ok (.lcmp, 1) := by decide +kernel
theorem dX10_becomes_73 : decode cX10_becomes 73 = .ok (.ifCond .gt 28, 3) := by decide +kernel
theorem dX10_becomes_76 : decode cX10_becomes 76 = .ok (.ldc2_w 339, 3) := by decide +kernel
theorem dX10_becomes_79 : decode cX10_becomes 79 = .ok (.lload 4, 2) := by decide +kernel
theorem dX10_becomes_81 : decode cX10_becomes 81 = .ok (.lmul, 1) := by decide +kernel
theorem dX10_becomes_82 : decode cX10_becomes 82 = .ok (.aload_n 0, 1) := by decide +kernel
theorem dX10_becomes_83 : decode cX10_becomes 83 = .ok (.getfield 336, 3) := by decide +kernel
theorem dX10_becomes_86 : decode cX10_becomes 86 = .ok (.i2l, 1) := by decide +kernel
theorem dX10_becomes_87 : decode cX10_becomes 87 = .ok (.lcmp, 1) := by decide +kernel
theorem dX10_becomes_88 : decode cX10_becomes 88 = .ok (.ifCond .ne 17, 3) := by decide +kernel
theorem dX10_becomes_91 : decode cX10_becomes 91 = .ok (.iload 6, 2) := by decide +kernel
theorem dX10_becomes_93 : decode cX10_becomes 93 = .ok (.i2l, 1) := by decide +kernel
theorem dX10_becomes_94 : decode cX10_becomes 94 = .ok (.lload_n 2, 1) := by decide +kernel
theorem dX10_becomes_95 : decode cX10_becomes 95 = .ok (.lconst 1, 1) := by decide +kernel
theorem dX10_becomes_96 : decode cX10_becomes 96 = .ok (.ladd, 1) := by decide +kernel
theorem dX10_becomes_97 : decode cX10_becomes 97 = .ok (.lcmp, 1) := by decide +kernel
theorem dX10_becomes_98 : decode cX10_becomes 98 = .ok (.ifCond .ne 7, 3) := by decide +kernel
theorem dX10_becomes_101 : decode cX10_becomes 101 = .ok (.lload_n 2, 1) := by decide +kernel
theorem dX10_becomes_102 : decode cX10_becomes 102 = .ok (.lconst 1, 1) := by decide +kernel
theorem dX10_becomes_103 : decode cX10_becomes 103 = .ok (.ladd, 1) := by decide +kernel
theorem dX10_becomes_104 : decode cX10_becomes 104 = .ok (.lstore_n 2, 1) := by decide +kernel
theorem dX10_becomes_105 : decode cX10_becomes 105 = .ok (.aload_n 0, 1) := by decide +kernel
theorem dX10_becomes_106 : decode cX10_becomes 106 = .ok (.getfield 101, 3) := by decide +kernel
theorem dX10_becomes_109 : decode cX10_becomes 109 = .ok (.iload_n 1, 1) := by decide +kernel
theorem dX10_becomes_110 : decode cX10_becomes 110 = .ok (.lload_n 2, 1) := by decide +kernel
theorem dX10_becomes_111 : decode cX10_becomes 111 = .ok (.l2i, 1) := by decide +kernel
theorem dX10_becomes_112 : decode cX10_becomes 112 = .ok (.iastore, 1) := by decide +kernel
theorem dX10_becomes_113 : decode cX10_becomes 113 = .ok (.iload 6, 2) := by decide +kernel
theorem dX10_becomes_115 : decode cX10_becomes 115 = .ok (.aload_n 0, 1) := by decide +kernel
theorem dX10_becomes_116 : decode cX10_becomes 116 = .ok (.getfield 101, 3) := by decide +kernel
theorem dX10_becomes_119 : decode cX10_becomes 119 = .ok (.iload_n 1, 1) := by decide +kernel
theorem dX10_becomes_120 : decode cX10_becomes 120 = .ok (.iaload, 1) := by decide +kernel
theorem dX10_becomes_121 : decode cX10_becomes 121 = .ok (.if_icmp .eq 7, 3) := by decide +kernel
theorem dX10_becomes_124 : decode cX10_becomes 124 = .ok (.iconst 1, 1) := by decide +kernel
theorem dX10_becomes_125 : decode cX10_becomes 125 = .ok (.goto 4, 3) := by decide +kernel
theorem dX10_becomes_128 : decode cX10_becomes 128 = .ok (.iconst 0, 1) := by decide +kernel
theorem dX10_becomes_129 : decode cX10_becomes 129 = .ok (.ireturn, 1) := by decide +kernel
theorem dX10_noMean_0 : decode cX10_noMean 0 = .ok (.aload_n 0, 1) := by decide +kernel
theorem dX10_noMean_1 : decode cX10_noMean 1 = .ok (.lconst 0, 1) := by decide +kernel
theorem dX10_noMean_2 : decode cX10_noMean 2 = .ok (.putfield 332, 3) := by decide +kernel
theorem dX10_noMean_5 : decode cX10_noMean 5 = .ok (.aload_n 0, 1) := by decide +kernel
theorem dX10_noMean_6 : decode cX10_noMean 6 = .ok (.iconst 0, 1) := by decide +kernel
theorem dX10_noMean_7 : decode cX10_noMean 7 = .ok (.putfield 336, 3) := by decide +kernel
theorem dX10_noMean_10 : decode cX10_noMean 10 = .ok (.return_, 1) := by decide +kernel
theorem gcX10_isPointAltered__X10_isPointAltered_r1 : ∀ w ∈ wsX10_isPointAltered_r1, w ∈ wsX10_isPointAltered := fun w h => List.mem_cons_of_mem _ (List.mem_append_left _ (List.mem_append_left _ (h)))
theorem gcX10_isPointAltered__X100 : ∀ w ∈ wsX100, w ∈ wsX10_isPointAltered := fun w h => List.mem_cons_of_mem _ (List.mem_append_right _ (h))
set_option maxRecDepth 20000 in
theorem gwX10_noMean : wsX10_noMean.all goodWord = true := by decide +kernel
set_option maxRecDepth 20000 in
theorem ggX10_isPointAltered_X10_noMean : GoodIn wsX10_isPointAltered wsX10_noMean := goodIn_sub (List.forall_mem_cons.mpr ⟨(gcX10_isPointAltered__X10_isPointAltered_r1 _ (List.mem_of_getElem? (i := 5) rfl)), List.forall_mem_append.mpr ⟨List.forall_mem_cons.mpr ⟨(gcX10_isPointAltered__X10_isPointAltered_r1 _ (List.mem_of_getElem? (i := 6) rfl)), List.forall_mem_cons.mpr ⟨(gcX10_isPointAltered__X10_isPointAltered_r1 _ (List.mem_of_getElem? (i := 7) rfl)), fun _ h => (List.not_mem_nil h).elim⟩⟩, gcX10_isPointAltered__X100⟩⟩) gwX10_noMean
set_option maxRecDepth 20000 in
theorem gX10_isPointAltered_X10_noMean : GoodIn wsX10_isPointAltered (wsV RX10 341 RX10 yX10_noMean wsX10_noMean) := goodIn_app (goodIn_sub (List.forall_mem_cons.mpr ⟨(gcX10_isPointAltered__X10_isPointAltered_r1 _ (List.mem_of_getElem? (i := 1) rfl)), List.forall_mem_cons.mpr ⟨(gcX10_isPointAltered__X10_isPointAltered_r1 _ (List.mem_of_getElem? (i := 2) rfl)), List.forall_mem_cons.mpr ⟨(gcX10_isPointAltered__X10_isPointAltered_r1 _ (List.mem_of_getElem? (i := 3) rfl)), List.forall_mem_cons.mpr ⟨(gcX10_isPointAltered__X10_isPointAltered_r1 _ (List.mem_of_getElem? (i := 4) rfl)), fun _ h => (List.not_mem_nil h).elim⟩⟩⟩⟩) (by decide +kernel)) ggX10_isPointAltered_X10_noMean
set_option maxRecDepth 20000 in
theorem ggX10_isPointAltered_X10_rows : GoodIn wsX10_isPointAltered wsX10_rows := goodIn_sub (List.forall_mem_cons.mpr ⟨(gcX10_isPointAltered__X10_isPointAltered_r1 _ (List.mem_of_getElem? (i := 11) rfl)), List.forall_mem_append.mpr ⟨List.forall_mem_cons.mpr ⟨(gcX10_isPointAltered__X10_isPointAltered_r1 _ (List.mem_of_getElem? (i := 12) rfl)), fun _ h => (List.not_mem_nil h).elim⟩, gcX10_isPointAltered__X100⟩⟩) gwX10_rows
set_option maxRecDepth 20000 in
theorem gX10_isPointAltered_X10_rows : GoodIn wsX10_isPointAltered (wsV RX10 265 RX10 yX10_rows wsX10_rows) := goodIn_app (goodIn_sub (List.forall_mem_cons.mpr ⟨(gcX10_isPointAltered__X10_isPointAltered_r1 _ (List.mem_of_getElem? (i := 8) rfl)), List.forall_mem_cons.mpr ⟨(gcX10_isPointAltered__X10_isPointAltered_r1 _ (List.mem_of_getElem? (i := 9) rfl)), List.forall_mem_cons.mpr ⟨(gcX10_isPointAltered__X10_isPointAltered_r1 _ (List.mem_of_getElem? (i := 10) rfl)), List.forall_mem_cons.mpr ⟨(gcX10_isPointAltered__X10_isPointAltered_r1 _ (List.mem_of_getElem? (i := 4) rfl)), fun _ h => (List.not_mem_nil h).elim⟩⟩⟩⟩) (by decide +kernel)) ggX10_isPointAltered_X10_rows
set_option maxRecDepth 20000 in
theorem ggX10_isPointAltered_X10_pointOf : GoodIn wsX10_isPointAltered wsX10_pointOf := goodIn_sub (List.forall_mem_cons.mpr ⟨(gcX10_isPointAltered__X10_isPointAltered_r1 _ (List.mem_of_getElem? (i := 16) rfl)), List.forall_mem_append.mpr ⟨List.forall_mem_cons.mpr ⟨(gcX10_isPointAltered__X10_isPointAltered_r1 _ (List.mem_of_getElem? (i := 17) rfl)), fun _ h => (List.not_mem_nil h).elim⟩, gcX10_isPointAltered__X100⟩⟩) gwX10_pointOf
set_option maxRecDepth 20000 in
theorem gX10_isPointAltered_X10_pointOf : GoodIn wsX10_isPointAltered (wsV RX10 281 RX10 yX10_pointOf wsX10_pointOf) := goodIn_app (goodIn_sub (List.forall_mem_cons.mpr ⟨(gcX10_isPointAltered__X10_isPointAltered_r1 _ (List.mem_of_getElem? (i := 13) rfl)), List.forall_mem_cons.mpr ⟨(gcX10_isPointAltered__X10_isPointAltered_r1 _ (List.mem_of_getElem? (i := 14) rfl)), List.forall_mem_cons.mpr ⟨(gcX10_isPointAltered__X10_isPointAltered_r1 _ (List.mem_of_getElem? (i := 15) rfl)), List.forall_mem_cons.mpr ⟨(gcX10_isPointAltered__X10_isPointAltered_r1 _ (List.mem_of_getElem? (i := 4) rfl)), fun _ h => (List.not_mem_nil h).elim⟩⟩⟩⟩) (by decide +kernel)) ggX10_isPointAltered_X10_pointOf
set_option maxRecDepth 20000 in
theorem ggX10_isPointAltered_X10_weightOf : GoodIn wsX10_isPointAltered wsX10_weightOf := goodIn_sub (List.forall_mem_cons.mpr ⟨(gcX10_isPointAltered__X10_isPointAltered_r1 _ (List.mem_of_getElem? (i := 21) rfl)), List.forall_mem_append.mpr ⟨List.forall_mem_cons.mpr ⟨(gcX10_isPointAltered__X10_isPointAltered_r1 _ (List.mem_of_getElem? (i := 22) rfl)), fun _ h => (List.not_mem_nil h).elim⟩, gcX10_isPointAltered__X100⟩⟩) gwX10_weightOf
set_option maxRecDepth 20000 in
theorem gX10_isPointAltered_X10_weightOf : GoodIn wsX10_isPointAltered (wsV RX10 325 RX10 yX10_weightOf wsX10_weightOf) := goodIn_app (goodIn_sub (List.forall_mem_cons.mpr ⟨(gcX10_isPointAltered__X10_isPointAltered_r1 _ (List.mem_of_getElem? (i := 18) rfl)), List.forall_mem_cons.mpr ⟨(gcX10_isPointAltered__X10_isPointAltered_r1 _ (List.mem_of_getElem? (i := 19) rfl)), List.forall_mem_cons.mpr ⟨(gcX10_isPointAltered__X10_isPointAltered_r1 _ (List.mem_of_getElem? (i := 20) rfl)), List.forall_mem_cons.mpr ⟨(gcX10_isPointAltered__X10_isPointAltered_r1 _ (List.mem_of_getElem? (i := 4) rfl)), fun _ h => (List.not_mem_nil h).elim⟩⟩⟩⟩) (by decide +kernel)) ggX10_isPointAltered_X10_weightOf
theorem gcX10_isPointAltered__X10_isPointAltered_r2 : ∀ w ∈ wsX10_isPointAltered_r2, w ∈ wsX10_isPointAltered := fun w h => List.mem_cons_of_mem _ (List.mem_append_left _ (List.mem_append_right _ (List.mem_append_left _ (h))))
set_option maxRecDepth 20000 in
theorem ggX10_isPointAltered_X10_put : GoodIn wsX10_isPointAltered wsX10_put := goodIn_sub (List.forall_mem_cons.mpr ⟨(gcX10_isPointAltered__X10_isPointAltered_r2 _ (List.mem_of_getElem? (i := 2) rfl)), List.forall_mem_append.mpr ⟨List.forall_mem_cons.mpr ⟨(gcX10_isPointAltered__X10_isPointAltered_r2 _ (List.mem_of_getElem? (i := 3) rfl)), List.forall_mem_cons.mpr ⟨(gcX10_isPointAltered__X10_isPointAltered_r2 _ (List.mem_of_getElem? (i := 4) rfl)), List.forall_mem_cons.mpr ⟨(gcX10_isPointAltered__X10_isPointAltered_r2 _ (List.mem_of_getElem? (i := 5) rfl)), List.forall_mem_cons.mpr ⟨(gcX10_isPointAltered__X10_isPointAltered_r2 _ (List.mem_of_getElem? (i := 6) rfl)), List.forall_mem_cons.mpr ⟨(gcX10_isPointAltered__X10_isPointAltered_r1 _ (List.mem_of_getElem? (i := 4) rfl)), List.forall_mem_cons.mpr ⟨(gcX10_isPointAltered__X10_isPointAltered_r2 _ (List.mem_of_getElem? (i := 7) rfl)), List.forall_mem_cons.mpr ⟨(gcX10_isPointAltered__X10_isPointAltered_r2 _ (List.mem_of_getElem? (i := 8) rfl)), List.forall_mem_cons.mpr ⟨(gcX10_isPointAltered__X10_isPointAltered_r2 _ (List.mem_of_getElem? (i := 9) rfl)), List.forall_mem_cons.mpr ⟨(gcX10_isPointAltered__X10_isPointAltered_r2 _ (List.mem_of_getElem? (i := 10) rfl)), List.forall_mem_cons.mpr ⟨(gcX10_isPointAltered__X10_isPointAltered_r2 _ (List.mem_of_getElem? (i := 11) rfl)), List.forall_mem_cons.mpr ⟨(gcX10_isPointAltered__X10_isPointAltered_r2 _ (List.mem_of_getElem? (i := 12) rfl)), List.forall_mem_cons.mpr ⟨(gcX10_isPointAltered__X10_isPointAltered_r2 _ (List.mem_of_getElem? (i := 13) rfl)), List.forall_mem_cons.mpr ⟨(gcX10_isPointAltered__X10_isPointAltered_r2 _ (List.mem_of_getElem? (i := 14) rfl)), List.forall_mem_cons.mpr ⟨(gcX10_isPointAltered__X10_isPointAltered_r2 _ (List.mem_of_getElem? (i := 15) rfl)), List.forall_mem_cons.mpr ⟨(gcX10_isPointAltered__X10_isPointAltered_r2 _ (List.mem_of_getElem? (i := 16) rfl)), List.forall_mem_cons.mpr ⟨(gcX10_isPointAltered__X10_isPointAltered_r2 _ (List.mem_of_getElem? (i := 17) rfl)), List.forall_mem_cons.mpr ⟨(gcX10_isPointAltered__X10_isPointAltered_r2 _ (List.mem_of_getElem? (i := 18) rfl)), fun _ h => (List.not_mem_nil h).elim⟩⟩⟩⟩⟩⟩⟩⟩⟩⟩⟩⟩⟩⟩⟩⟩⟩, gcX10_isPointAltered__X100⟩⟩) gwX10_put
set_option maxRecDepth 20000 in
theorem gX10_isPointAltered_X10_put : GoodIn wsX10_isPointAltered (wsV RX10 296 RX10 yX10_put wsX10_put) := goodIn_app (goodIn_sub (List.forall_mem_cons.mpr ⟨(gcX10_isPointAltered__X10_isPointAltered_r1 _ (List.mem_of_getElem? (i := 23) rfl)), List.forall_mem_cons.mpr ⟨(gcX10_isPointAltered__X10_isPointAltered_r2 _ (List.mem_of_getElem? (i := 0) rfl)), List.forall_mem_cons.mpr ⟨(gcX10_isPointAltered__X10_isPointAltered_r2 _ (List.mem_of_getElem? (i := 1) rfl)), List.forall_mem_cons.mpr ⟨(gcX10_isPointAltered__X10_isPointAltered_r1 _ (List.mem_of_getElem? (i := 4) rfl)), fun _ h => (List.not_mem_nil h).elim⟩⟩⟩⟩) (by decide +kernel)) ggX10_isPointAltered_X10_put
set_option maxRecDepth 20000 in
theorem gwX10_mean : wsX10_mean.all goodWord = true := by decide +kernel
set_option maxRecDepth 20000 in
theorem ggX10_isPointAltered_X10_mean : GoodIn wsX10_isPointAltered wsX10_mean := goodIn_sub (List.forall_mem_cons.mpr ⟨(gcX10_isPointAltered__X10_isPointAltered_r2 _ (List.mem_of_getElem? (i := 22) rfl)), List.forall_mem_append.mpr ⟨List.forall_mem_cons.mpr ⟨(gcX10_isPointAltered__X10_isPointAltered_r1 _ (List.mem_of_getElem? (i := 6) rfl)), List.forall_mem_cons.mpr ⟨(gcX10_isPointAltered__X10_isPointAltered_r1 _ (List.mem_of_getElem? (i := 7) rfl)), fun _ h => (List.not_mem_nil h).elim⟩⟩, gcX10_isPointAltered__X100⟩⟩) gwX10_mean
set_option maxRecDepth 20000 in
theorem gX10_isPointAltered_X10_mean : GoodIn wsX10_isPointAltered (wsV RX10 344 RX10 yX10_mean wsX10_mean) := goodIn_app (goodIn_sub (List.forall_mem_cons.mpr ⟨(gcX10_isPointAltered__X10_isPointAltered_r2 _ (List.mem_of_getElem? (i := 19) rfl)), List.forall_mem_cons.mpr ⟨(gcX10_isPointAltered__X10_isPointAltered_r2 _ (List.mem_of_getElem? (i := 20) rfl)), List.forall_mem_cons.mpr ⟨(gcX10_isPointAltered__X10_isPointAltered_r2 _ (List.mem_of_getElem? (i := 21) rfl)), List.forall_mem_cons.mpr ⟨(gcX10_isPointAltered__X10_isPointAltered_r1 _ (List.mem_of_getElem? (i := 4) rfl)), fun _ h => (List.not_mem_nil h).elim⟩⟩⟩⟩) (by decide +kernel)) ggX10_isPointAltered_X10_mean
theorem gcX10_isPointAltered__X10_isPointAltered_r3 : ∀ w ∈ wsX10_isPointAltered_r3, w ∈ wsX10_isPointAltered := fun w h => List.mem_cons_of_mem _ (List.mem_append_left _ (List.mem_append_right _ (List.mem_append_right _ (h))))
set_option maxRecDepth 20000 in
theorem gwX10_becomes : wsX10_becomes.all goodWord = true := by decide +kernel
set_option maxRecDepth 20000 in
theorem ggX10_isPointAltered_X10_becomes : GoodIn wsX10_isPointAltered wsX10_becomes := goodIn_sub (List.forall_mem_cons.mpr ⟨(gcX10_isPointAltered__X10_isPointAltered_r3 _ (List.mem_of_getElem? (i := 2) rfl)), List.forall_mem_append.mpr ⟨List.forall_mem_cons.mpr ⟨(gcX10_isPointAltered__X10_isPointAltered_r1 _ (List.mem_of_getElem? (i := 7) rfl)), List.forall_mem_cons.mpr ⟨(gcX10_isPointAltered__X10_isPointAltered_r1 _ (List.mem_of_getElem? (i := 6) rfl)), List.forall_mem_cons.mpr ⟨(gcX10_isPointAltered__X10_isPointAltered_r2 _ (List.mem_of_getElem? (i := 3) rfl)), List.forall_mem_cons.mpr ⟨(gcX10_isPointAltered__X10_isPointAltered_r3 _ (List.mem_of_getElem? (i := 3) rfl)), fun _ h => (List.not_mem_nil h).elim⟩⟩⟩⟩, gcX10_isPointAltered__X100⟩⟩) gwX10_becomes
set_option maxRecDepth 20000 in
theorem gX10_isPointAltered_X10_becomes : GoodIn wsX10_isPointAltered (wsV RX10 347 RX10 yX10_becomes wsX10_becomes) := goodIn_app (goodIn_sub (List.forall_mem_cons.mpr ⟨(gcX10_isPointAltered__X10_isPointAltered_r2 _ (List.mem_of_getElem? (i := 23) rfl)), List.forall_mem_cons.mpr ⟨(gcX10_isPointAltered__X10_isPointAltered_r3 _ (List.mem_of_getElem? (i := 0) rfl)), List.forall_mem_cons.mpr ⟨(gcX10_isPointAltered__X10_isPointAltered_r3 _ (List.mem_of_getElem? (i := 1) rfl)), List.forall_mem_cons.mpr ⟨(gcX10_isPointAltered__X10_isPointAltered_r1 _ (List.mem_of_getElem? (i := 4) rfl)), fun _ h => (List.not_mem_nil h).elim⟩⟩⟩⟩) (by decide +kernel)) ggX10_isPointAltered_X10_becomes
theorem dX10_isPointAltered_0 : decode cX10_isPointAltered 0 = .ok (.aload_n 0, 1) := by decide +kernel
theorem dX10_isPointAltered_1 : decode cX10_isPointAltered 1 = .ok (.invokevirtual 341, 3) := by decide +kernel
theorem dX10_isPointAltered_4 : decode cX10_isPointAltered 4 = .ok (.iconst 0, 1) := by decide +kernel
theorem dX10_isPointAltered_5 : decode cX10_isPointAltered 5 = .ok (.istore_n 3, 1) := by decide +kernel
theorem dX10_isPointAltered_6 : decode cX10_isPointAltered 6 = .ok (.iload_n 3, 1) := by decide +kernel
theorem dX10_isPointAltered_7 : decode cX10_isPointAltered 7 = .ok (.aload_n 0, 1) := by decide +kernel
theorem dX10_isPointAltered_8 : decode cX10_isPointAltered 8 = .ok (.invokevirtual 265, 3) := by decide +kernel
theorem dX10_isPointAltered_11 : decode cX10_isPointAltered 11 = .ok (.if_icmp .ge 42, 3) := by decide +kernel
theorem dX10_isPointAltered_14 : decode cX10_isPointAltered 14 = .ok (.aload_n 0, 1) := by decide +kernel
theorem dX10_isPointAltered_15 : decode cX10_isPointAltered 15 = .ok (.getfield 91, 3) := by decide +kernel
theorem dX10_isPointAltered_18 : decode cX10_isPointAltered 18 = .ok (.iload_n 3, 1) := by decide +kernel
theorem dX10_isPointAltered_19 : decode cX10_isPointAltered 19 = .ok (.baload, 1) := by decide +kernel
theorem dX10_isPointAltered_20 : decode cX10_isPointAltered 20 = .ok (.ifCond .ne 27, 3) := by decide +kernel
theorem dX10_isPointAltered_23 : decode cX10_isPointAltered 23 = .ok (.aload_n 0, 1) := by decide +kernel
theorem dX10_isPointAltered_24 : decode cX10_isPointAltered 24 = .ok (.iload_n 3, 1) := by decide +kernel
theorem dX10_isPointAltered_25 : decode cX10_isPointAltered 25 = .ok (.invokevirtual 281, 3) := by decide +kernel
theorem dX10_isPointAltered_28 : decode cX10_isPointAltered 28 = .ok (.iload_n 1, 1) := by decide +kernel
theorem dX10_isPointAltered_29 : decode cX10_isPointAltered 29 = .ok (.if_icmp .ne 18, 3) := by decide +kernel
theorem dX10_isPointAltered_32 : decode cX10_isPointAltered 32 = .ok (.aload_n 0, 1) := by decide +kernel
theorem dX10_isPointAltered_33 : decode cX10_isPointAltered 33 = .ok (.aload_n 0, 1) := by decide +kernel
theorem dX10_isPointAltered_34 : decode cX10_isPointAltered 34 = .ok (.iload_n 3, 1) := by decide +kernel
theorem dX10_isPointAltered_35 : decode cX10_isPointAltered 35 = .ok (.invokevirtual 325, 3) := by decide +kernel
theorem dX10_isPointAltered_38 : decode cX10_isPointAltered 38 = .ok (.aload_n 0, 1) := by decide +kernel
theorem dX10_isPointAltered_39 : decode cX10_isPointAltered 39 = .ok (.iload_n 3, 1) := by decide +kernel
theorem dX10_isPointAltered_40 : decode cX10_isPointAltered 40 = .ok (.iload_n 2, 1) := by decide +kernel
theorem dX10_isPointAltered_41 : decode cX10_isPointAltered 41 = .ok (.invokevirtual 296, 3) := by decide +kernel
theorem dX10_isPointAltered_44 : decode cX10_isPointAltered 44 = .ok (.invokevirtual 344, 3) := by decide +kernel
theorem dX10_isPointAltered_47 : decode cX10_isPointAltered 47 = .ok (.iinc 3 1, 3) := by decide +kernel
theorem dX10_isPointAltered_50 : decode cX10_isPointAltered 50 = .ok (.goto (-44), 3) := by decide +kernel
theorem dX10_isPointAltered_53 : decode cX10_isPointAltered 53 = .ok (.aload_n 0, 1) := by decide +kernel
theorem dX10_isPointAltered_54 : decode cX10_isPointAltered 54 = .ok (.bipush 38, 2) := by decide +kernel
theorem dX10_isPointAltered_56 : decode cX10_isPointAltered 56 = .ok (.iload_n 2, 1) := by decide +kernel
theorem dX10_isPointAltered_57 : decode cX10_isPointAltered 57 = .ok (.imul, 1) := by decide +kernel
theorem dX10_isPointAltered_58 : decode cX10_isPointAltered 58 = .ok (.bipush 12, 2) := by decide +kernel
theorem dX10_isPointAltered_60 : decode cX10_isPointAltered 60 = .ok (.iadd, 1) := by decide +kernel
theorem dX10_isPointAltered_61 : decode cX10_isPointAltered 61 = .ok (.iload_n 1, 1) := by decide +kernel
theorem dX10_isPointAltered_62 : decode cX10_isPointAltered 62 = .ok (.iadd, 1) := by decide +kernel
theorem dX10_isPointAltered_63 : decode cX10_isPointAltered 63 = .ok (.invokevirtual 347, 3) := by decide +kernel
theorem dX10_isPointAltered_66 : decode cX10_isPointAltered 66 = .ok (.ireturn, 1) := by decide +kernel
theorem gcX10_isPictureAltered__X10_isPictureAltered_r1 : ∀ w ∈ wsX10_isPictureAltered_r1, w ∈ wsX10_isPictureAltered := fun w h => List.mem_cons_of_mem _ (List.mem_append_left _ (List.mem_append_left _ (h)))
theorem gcX10_isPictureAltered__X100 : ∀ w ∈ wsX100, w ∈ wsX10_isPictureAltered := fun w h => List.mem_cons_of_mem _ (List.mem_append_right _ (h))
set_option maxRecDepth 20000 in
theorem ggX10_isPictureAltered_X10_noMean : GoodIn wsX10_isPictureAltered wsX10_noMean := goodIn_sub (List.forall_mem_cons.mpr ⟨(gcX10_isPictureAltered__X10_isPictureAltered_r1 _ (List.mem_of_getElem? (i := 7) rfl)), List.forall_mem_append.mpr ⟨List.forall_mem_cons.mpr ⟨(gcX10_isPictureAltered__X10_isPictureAltered_r1 _ (List.mem_of_getElem? (i := 8) rfl)), List.forall_mem_cons.mpr ⟨(gcX10_isPictureAltered__X10_isPictureAltered_r1 _ (List.mem_of_getElem? (i := 9) rfl)), fun _ h => (List.not_mem_nil h).elim⟩⟩, gcX10_isPictureAltered__X100⟩⟩) gwX10_noMean
set_option maxRecDepth 20000 in
theorem gX10_isPictureAltered_X10_noMean : GoodIn wsX10_isPictureAltered (wsV RX10 341 RX10 yX10_noMean wsX10_noMean) := goodIn_app (goodIn_sub (List.forall_mem_cons.mpr ⟨(gcX10_isPictureAltered__X10_isPictureAltered_r1 _ (List.mem_of_getElem? (i := 3) rfl)), List.forall_mem_cons.mpr ⟨(gcX10_isPictureAltered__X10_isPictureAltered_r1 _ (List.mem_of_getElem? (i := 4) rfl)), List.forall_mem_cons.mpr ⟨(gcX10_isPictureAltered__X10_isPictureAltered_r1 _ (List.mem_of_getElem? (i := 5) rfl)), List.forall_mem_cons.mpr ⟨(gcX10_isPictureAltered__X10_isPictureAltered_r1 _ (List.mem_of_getElem? (i := 6) rfl)), fun _ h => (List.not_mem_nil h).elim⟩⟩⟩⟩) (by decide +kernel)) ggX10_isPictureAltered_X10_noMean
set_option maxRecDepth 20000 in
theorem ggX10_isPictureAltered_X10_rows : GoodIn wsX10_isPictureAltered wsX10_rows := goodIn_sub (List.forall_mem_cons.mpr ⟨(gcX10_isPictureAltered__X10_isPictureAltered_r1 _ (List.mem_of_getElem? (i := 13) rfl)), List.forall_mem_append.mpr ⟨List.forall_mem_cons.mpr ⟨(gcX10_isPictureAltered__X10_isPictureAltered_r1 _ (List.mem_of_getElem? (i := 14) rfl)), fun _ h => (List.not_mem_nil h).elim⟩, gcX10_isPictureAltered__X100⟩⟩) gwX10_rows
set_option maxRecDepth 20000 in
theorem gX10_isPictureAltered_X10_rows : GoodIn wsX10_isPictureAltered (wsV RX10 265 RX10 yX10_rows wsX10_rows) := goodIn_app (goodIn_sub (List.forall_mem_cons.mpr ⟨(gcX10_isPictureAltered__X10_isPictureAltered_r1 _ (List.mem_of_getElem? (i := 10) rfl)), List.forall_mem_cons.mpr ⟨(gcX10_isPictureAltered__X10_isPictureAltered_r1 _ (List.mem_of_getElem? (i := 11) rfl)), List.forall_mem_cons.mpr ⟨(gcX10_isPictureAltered__X10_isPictureAltered_r1 _ (List.mem_of_getElem? (i := 12) rfl)), List.forall_mem_cons.mpr ⟨(gcX10_isPictureAltered__X10_isPictureAltered_r1 _ (List.mem_of_getElem? (i := 6) rfl)), fun _ h => (List.not_mem_nil h).elim⟩⟩⟩⟩) (by decide +kernel)) ggX10_isPictureAltered_X10_rows
set_option maxRecDepth 20000 in
theorem ggX10_isPictureAltered_X10_pictureOf : GoodIn wsX10_isPictureAltered wsX10_pictureOf := goodIn_sub (List.forall_mem_cons.mpr ⟨(gcX10_isPictureAltered__X10_isPictureAltered_r1 _ (List.mem_of_getElem? (i := 18) rfl)), List.forall_mem_append.mpr ⟨List.forall_mem_cons.mpr ⟨(gcX10_isPictureAltered__X10_isPictureAltered_r1 _ (List.mem_of_getElem? (i := 19) rfl)), fun _ h => (List.not_mem_nil h).elim⟩, gcX10_isPictureAltered__X100⟩⟩) gwX10_pictureOf
set_option maxRecDepth 20000 in
theorem gX10_isPictureAltered_X10_pictureOf : GoodIn wsX10_isPictureAltered (wsV RX10 274 RX10 yX10_pictureOf wsX10_pictureOf) := goodIn_app (goodIn_sub (List.forall_mem_cons.mpr ⟨(gcX10_isPictureAltered__X10_isPictureAltered_r1 _ (List.mem_of_getElem? (i := 15) rfl)), List.forall_mem_cons.mpr ⟨(gcX10_isPictureAltered__X10_isPictureAltered_r1 _ (List.mem_of_getElem? (i := 16) rfl)), List.forall_mem_cons.mpr ⟨(gcX10_isPictureAltered__X10_isPictureAltered_r1 _ (List.mem_of_getElem? (i := 17) rfl)), List.forall_mem_cons.mpr ⟨(gcX10_isPictureAltered__X10_isPictureAltered_r1 _ (List.mem_of_getElem? (i := 6) rfl)), fun _ h => (List.not_mem_nil h).elim⟩⟩⟩⟩) (by decide +kernel)) ggX10_isPictureAltered_X10_pictureOf
theorem gcX10_isPictureAltered__X10_isPictureAltered_r2 : ∀ w ∈ wsX10_isPictureAltered_r2, w ∈ wsX10_isPictureAltered := fun w h => List.mem_cons_of_mem _ (List.mem_append_left _ (List.mem_append_right _ (List.mem_append_left _ (h))))
set_option maxRecDepth 20000 in
theorem ggX10_isPictureAltered_X10_weightOf : GoodIn wsX10_isPictureAltered wsX10_weightOf := goodIn_sub (List.forall_mem_cons.mpr ⟨(gcX10_isPictureAltered__X10_isPictureAltered_r1 _ (List.mem_of_getElem? (i := 23) rfl)), List.forall_mem_append.mpr ⟨List.forall_mem_cons.mpr ⟨(gcX10_isPictureAltered__X10_isPictureAltered_r2 _ (List.mem_of_getElem? (i := 0) rfl)), fun _ h => (List.not_mem_nil h).elim⟩, gcX10_isPictureAltered__X100⟩⟩) gwX10_weightOf
set_option maxRecDepth 20000 in
theorem gX10_isPictureAltered_X10_weightOf : GoodIn wsX10_isPictureAltered (wsV RX10 325 RX10 yX10_weightOf wsX10_weightOf) := goodIn_app (goodIn_sub (List.forall_mem_cons.mpr ⟨(gcX10_isPictureAltered__X10_isPictureAltered_r1 _ (List.mem_of_getElem? (i := 20) rfl)), List.forall_mem_cons.mpr ⟨(gcX10_isPictureAltered__X10_isPictureAltered_r1 _ (List.mem_of_getElem? (i := 21) rfl)), List.forall_mem_cons.mpr ⟨(gcX10_isPictureAltered__X10_isPictureAltered_r1 _ (List.mem_of_getElem? (i := 22) rfl)), List.forall_mem_cons.mpr ⟨(gcX10_isPictureAltered__X10_isPictureAltered_r1 _ (List.mem_of_getElem? (i := 6) rfl)), fun _ h => (List.not_mem_nil h).elim⟩⟩⟩⟩) (by decide +kernel)) ggX10_isPictureAltered_X10_weightOf
set_option maxRecDepth 20000 in
theorem ggX10_isPictureAltered_X10_pointOf : GoodIn wsX10_isPictureAltered wsX10_pointOf := goodIn_sub (List.forall_mem_cons.mpr ⟨(gcX10_isPictureAltered__X10_isPictureAltered_r2 _ (List.mem_of_getElem? (i := 4) rfl)), List.forall_mem_append.mpr ⟨List.forall_mem_cons.mpr ⟨(gcX10_isPictureAltered__X10_isPictureAltered_r2 _ (List.mem_of_getElem? (i := 5) rfl)), fun _ h => (List.not_mem_nil h).elim⟩, gcX10_isPictureAltered__X100⟩⟩) gwX10_pointOf
set_option maxRecDepth 20000 in
theorem gX10_isPictureAltered_X10_pointOf : GoodIn wsX10_isPictureAltered (wsV RX10 281 RX10 yX10_pointOf wsX10_pointOf) := goodIn_app (goodIn_sub (List.forall_mem_cons.mpr ⟨(gcX10_isPictureAltered__X10_isPictureAltered_r2 _ (List.mem_of_getElem? (i := 1) rfl)), List.forall_mem_cons.mpr ⟨(gcX10_isPictureAltered__X10_isPictureAltered_r2 _ (List.mem_of_getElem? (i := 2) rfl)), List.forall_mem_cons.mpr ⟨(gcX10_isPictureAltered__X10_isPictureAltered_r2 _ (List.mem_of_getElem? (i := 3) rfl)), List.forall_mem_cons.mpr ⟨(gcX10_isPictureAltered__X10_isPictureAltered_r1 _ (List.mem_of_getElem? (i := 6) rfl)), fun _ h => (List.not_mem_nil h).elim⟩⟩⟩⟩) (by decide +kernel)) ggX10_isPictureAltered_X10_pointOf
set_option maxRecDepth 20000 in
theorem ggX10_isPictureAltered_X10_turned : GoodIn wsX10_isPictureAltered wsX10_turned := goodIn_sub (List.forall_mem_cons.mpr ⟨(gcX10_isPictureAltered__X10_isPictureAltered_r2 _ (List.mem_of_getElem? (i := 9) rfl)), List.forall_mem_append.mpr ⟨List.forall_mem_cons.mpr ⟨(gcX10_isPictureAltered__X10_isPictureAltered_r2 _ (List.mem_of_getElem? (i := 10) rfl)), List.forall_mem_cons.mpr ⟨(gcX10_isPictureAltered__X10_isPictureAltered_r1 _ (List.mem_of_getElem? (i := 15) rfl)), List.forall_mem_cons.mpr ⟨(gcX10_isPictureAltered__X10_isPictureAltered_r1 _ (List.mem_of_getElem? (i := 16) rfl)), List.forall_mem_cons.mpr ⟨(gcX10_isPictureAltered__X10_isPictureAltered_r1 _ (List.mem_of_getElem? (i := 17) rfl)), List.forall_mem_cons.mpr ⟨(gcX10_isPictureAltered__X10_isPictureAltered_r1 _ (List.mem_of_getElem? (i := 6) rfl)), List.forall_mem_cons.mpr ⟨(gcX10_isPictureAltered__X10_isPictureAltered_r1 _ (List.mem_of_getElem? (i := 18) rfl)), List.forall_mem_cons.mpr ⟨(gcX10_isPictureAltered__X10_isPictureAltered_r1 _ (List.mem_of_getElem? (i := 19) rfl)), List.forall_mem_cons.mpr ⟨(gcX10_isPictureAltered__X10_isPictureAltered_r2 _ (List.mem_of_getElem? (i := 11) rfl)), List.forall_mem_cons.mpr ⟨(gcX10_isPictureAltered__X10_isPictureAltered_r2 _ (List.mem_of_getElem? (i := 12) rfl)), List.forall_mem_cons.mpr ⟨(gcX10_isPictureAltered__X10_isPictureAltered_r2 _ (List.mem_of_getElem? (i := 13) rfl)), List.forall_mem_cons.mpr ⟨(gcX10_isPictureAltered__X10_isPictureAltered_r2 _ (List.mem_of_getElem? (i := 14) rfl)), List.forall_mem_cons.mpr ⟨(gcX10_isPictureAltered__X10_isPictureAltered_r2 _ (List.mem_of_getElem? (i := 15) rfl)), fun _ h => (List.not_mem_nil h).elim⟩⟩⟩⟩⟩⟩⟩⟩⟩⟩⟩⟩, gcX10_isPictureAltered__X100⟩⟩) gwX10_turned
set_option maxRecDepth 20000 in
theorem gX10_isPictureAltered_X10_turned : GoodIn wsX10_isPictureAltered (wsV RX10 284 RX10 yX10_turned wsX10_turned) := goodIn_app (goodIn_sub (List.forall_mem_cons.mpr ⟨(gcX10_isPictureAltered__X10_isPictureAltered_r2 _ (List.mem_of_getElem? (i := 6) rfl)), List.forall_mem_cons.mpr ⟨(gcX10_isPictureAltered__X10_isPictureAltered_r2 _ (List.mem_of_getElem? (i := 7) rfl)), List.forall_mem_cons.mpr ⟨(gcX10_isPictureAltered__X10_isPictureAltered_r2 _ (List.mem_of_getElem? (i := 8) rfl)), List.forall_mem_cons.mpr ⟨(gcX10_isPictureAltered__X10_isPictureAltered_r1 _ (List.mem_of_getElem? (i := 6) rfl)), fun _ h => (List.not_mem_nil h).elim⟩⟩⟩⟩) (by decide +kernel)) ggX10_isPictureAltered_X10_turned
set_option maxRecDepth 20000 in
theorem ggX10_isPictureAltered_X10_mean : GoodIn wsX10_isPictureAltered wsX10_mean := goodIn_sub (List.forall_mem_cons.mpr ⟨(gcX10_isPictureAltered__X10_isPictureAltered_r2 _ (List.mem_of_getElem? (i := 19) rfl)), List.forall_mem_append.mpr ⟨List.forall_mem_cons.mpr ⟨(gcX10_isPictureAltered__X10_isPictureAltered_r1 _ (List.mem_of_getElem? (i := 8) rfl)), List.forall_mem_cons.mpr ⟨(gcX10_isPictureAltered__X10_isPictureAltered_r1 _ (List.mem_of_getElem? (i := 9) rfl)), fun _ h => (List.not_mem_nil h).elim⟩⟩, gcX10_isPictureAltered__X100⟩⟩) gwX10_mean
set_option maxRecDepth 20000 in
theorem gX10_isPictureAltered_X10_mean : GoodIn wsX10_isPictureAltered (wsV RX10 344 RX10 yX10_mean wsX10_mean) := goodIn_app (goodIn_sub (List.forall_mem_cons.mpr ⟨(gcX10_isPictureAltered__X10_isPictureAltered_r2 _ (List.mem_of_getElem? (i := 16) rfl)), List.forall_mem_cons.mpr ⟨(gcX10_isPictureAltered__X10_isPictureAltered_r2 _ (List.mem_of_getElem? (i := 17) rfl)), List.forall_mem_cons.mpr ⟨(gcX10_isPictureAltered__X10_isPictureAltered_r2 _ (List.mem_of_getElem? (i := 18) rfl)), List.forall_mem_cons.mpr ⟨(gcX10_isPictureAltered__X10_isPictureAltered_r1 _ (List.mem_of_getElem? (i := 6) rfl)), fun _ h => (List.not_mem_nil h).elim⟩⟩⟩⟩) (by decide +kernel)) ggX10_isPictureAltered_X10_mean
theorem gcX10_isPictureAltered__X10_isPictureAltered_r3 : ∀ w ∈ wsX10_isPictureAltered_r3, w ∈ wsX10_isPictureAltered := fun w h => List.mem_cons_of_mem _ (List.mem_append_left _ (List.mem_append_right _ (List.mem_append_right _ (h))))
set_option maxRecDepth 20000 in
theorem ggX10_isPictureAltered_X10_centreOf : GoodIn wsX10_isPictureAltered wsX10_centreOf := goodIn_sub (List.forall_mem_cons.mpr ⟨(gcX10_isPictureAltered__X10_isPictureAltered_r2 _ (List.mem_of_getElem? (i := 23) rfl)), List.forall_mem_append.mpr ⟨List.forall_mem_cons.mpr ⟨(gcX10_isPictureAltered__X10_isPictureAltered_r3 _ (List.mem_of_getElem? (i := 0) rfl)), fun _ h => (List.not_mem_nil h).elim⟩, gcX10_isPictureAltered__X100⟩⟩) gwX10_centreOf
set_option maxRecDepth 20000 in
theorem gX10_isPictureAltered_X10_centreOf : GoodIn wsX10_isPictureAltered (wsV RX10 271 RX10 yX10_centreOf wsX10_centreOf) := goodIn_app (goodIn_sub (List.forall_mem_cons.mpr ⟨(gcX10_isPictureAltered__X10_isPictureAltered_r2 _ (List.mem_of_getElem? (i := 20) rfl)), List.forall_mem_cons.mpr ⟨(gcX10_isPictureAltered__X10_isPictureAltered_r2 _ (List.mem_of_getElem? (i := 21) rfl)), List.forall_mem_cons.mpr ⟨(gcX10_isPictureAltered__X10_isPictureAltered_r2 _ (List.mem_of_getElem? (i := 22) rfl)), List.forall_mem_cons.mpr ⟨(gcX10_isPictureAltered__X10_isPictureAltered_r1 _ (List.mem_of_getElem? (i := 6) rfl)), fun _ h => (List.not_mem_nil h).elim⟩⟩⟩⟩) (by decide +kernel)) ggX10_isPictureAltered_X10_centreOf
set_option maxRecDepth 20000 in
theorem ggX10_isPictureAltered_X10_strip : GoodIn wsX10_isPictureAltered wsX10_strip := goodIn_sub (List.forall_mem_cons.mpr ⟨(gcX10_isPictureAltered__X10_isPictureAltered_r3 _ (List.mem_of_getElem? (i := 4) rfl)), List.forall_mem_append.mpr ⟨List.forall_mem_cons.mpr ⟨(gcX10_isPictureAltered__X10_isPictureAltered_r3 _ (List.mem_of_getElem? (i := 5) rfl)), fun _ h => (List.not_mem_nil h).elim⟩, gcX10_isPictureAltered__X100⟩⟩) gwX10_strip
set_option maxRecDepth 20000 in
theorem gX10_isPictureAltered_X10_strip : GoodIn wsX10_isPictureAltered (wsV RX10 268 RX10 yX10_strip wsX10_strip) := goodIn_app (goodIn_sub (List.forall_mem_cons.mpr ⟨(gcX10_isPictureAltered__X10_isPictureAltered_r3 _ (List.mem_of_getElem? (i := 1) rfl)), List.forall_mem_cons.mpr ⟨(gcX10_isPictureAltered__X10_isPictureAltered_r3 _ (List.mem_of_getElem? (i := 2) rfl)), List.forall_mem_cons.mpr ⟨(gcX10_isPictureAltered__X10_isPictureAltered_r3 _ (List.mem_of_getElem? (i := 3) rfl)), List.forall_mem_cons.mpr ⟨(gcX10_isPictureAltered__X10_isPictureAltered_r1 _ (List.mem_of_getElem? (i := 6) rfl)), fun _ h => (List.not_mem_nil h).elim⟩⟩⟩⟩) (by decide +kernel)) ggX10_isPictureAltered_X10_strip
set_option maxRecDepth 20000 in
theorem ggX10_isPictureAltered_X10_becomes : GoodIn wsX10_isPictureAltered wsX10_becomes := goodIn_sub (List.forall_mem_cons.mpr ⟨(gcX10_isPictureAltered__X10_isPictureAltered_r3 _ (List.mem_of_getElem? (i := 9) rfl)), List.forall_mem_append.mpr ⟨List.forall_mem_cons.mpr ⟨(gcX10_isPictureAltered__X10_isPictureAltered_r1 _ (List.mem_of_getElem? (i := 9) rfl)), List.forall_mem_cons.mpr ⟨(gcX10_isPictureAltered__X10_isPictureAltered_r1 _ (List.mem_of_getElem? (i := 8) rfl)), List.forall_mem_cons.mpr ⟨(gcX10_isPictureAltered__X10_isPictureAltered_r1 _ (List.mem_of_getElem? (i := 1) rfl)), List.forall_mem_cons.mpr ⟨(gcX10_isPictureAltered__X10_isPictureAltered_r3 _ (List.mem_of_getElem? (i := 10) rfl)), fun _ h => (List.not_mem_nil h).elim⟩⟩⟩⟩, gcX10_isPictureAltered__X100⟩⟩) gwX10_becomes
set_option maxRecDepth 20000 in
theorem gX10_isPictureAltered_X10_becomes : GoodIn wsX10_isPictureAltered (wsV RX10 347 RX10 yX10_becomes wsX10_becomes) := goodIn_app (goodIn_sub (List.forall_mem_cons.mpr ⟨(gcX10_isPictureAltered__X10_isPictureAltered_r3 _ (List.mem_of_getElem? (i := 6) rfl)), List.forall_mem_cons.mpr ⟨(gcX10_isPictureAltered__X10_isPictureAltered_r3 _ (List.mem_of_getElem? (i := 7) rfl)), List.forall_mem_cons.mpr ⟨(gcX10_isPictureAltered__X10_isPictureAltered_r3 _ (List.mem_of_getElem? (i := 8) rfl)), List.forall_mem_cons.mpr ⟨(gcX10_isPictureAltered__X10_isPictureAltered_r1 _ (List.mem_of_getElem? (i := 6) rfl)), fun _ h => (List.not_mem_nil h).elim⟩⟩⟩⟩) (by decide +kernel)) ggX10_isPictureAltered_X10_becomes
theorem dX10_isPictureAltered_0 : decode cX10_isPictureAltered 0 = .ok (.aload_n 0, 1) := by decide +kernel
theorem dX10_isPictureAltered_1 : decode cX10_isPictureAltered 1 = .ok (.invokevirtual 341, 3) := by decide +kernel
theorem dX10_isPictureAltered_4 : decode cX10_isPictureAltered 4 = .ok (.iconst 0, 1) := by decide +kernel
theorem dX10_isPictureAltered_5 : decode cX10_isPictureAltered 5 = .ok (.istore_n 3, 1) := by decide +kernel
theorem dX10_isPictureAltered_6 : decode cX10_isPictureAltered 6 = .ok (.iload_n 3, 1) := by decide +kernel
theorem dX10_isPictureAltered_7 : decode cX10_isPictureAltered 7 = .ok (.aload_n 0, 1) := by decide +kernel
theorem dX10_isPictureAltered_8 : decode cX10_isPictureAltered 8 = .ok (.invokevirtual 265, 3) := by decide +kernel
theorem dX10_isPictureAltered_11 : decode cX10_isPictureAltered 11 = .ok (.if_icmp .ge 61, 3) := by decide +kernel
theorem dX10_isPictureAltered_14 : decode cX10_isPictureAltered 14 = .ok (.aload_n 0, 1) := by decide +kernel
theorem dX10_isPictureAltered_15 : decode cX10_isPictureAltered 15 = .ok (.getfield 91, 3) := by decide +kernel
theorem dX10_isPictureAltered_18 : decode cX10_isPictureAltered 18 = .ok (.iload_n 3, 1) := by decide +kernel
theorem dX10_isPictureAltered_19 : decode cX10_isPictureAltered 19 = .ok (.baload, 1) := by decide +kernel
theorem dX10_isPictureAltered_20 : decode cX10_isPictureAltered 20 = .ok (.ifCond .ne 46, 3) := by decide +kernel
theorem dX10_isPictureAltered_23 : decode cX10_isPictureAltered 23 = .ok (.aload_n 0, 1) := by decide +kernel
theorem dX10_isPictureAltered_24 : decode cX10_isPictureAltered 24 = .ok (.iload_n 3, 1) := by decide +kernel
theorem dX10_isPictureAltered_25 : decode cX10_isPictureAltered 25 = .ok (.invokevirtual 274, 3) := by decide +kernel
theorem dX10_isPictureAltered_28 : decode cX10_isPictureAltered 28 = .ok (.iload_n 1, 1) := by decide +kernel
theorem dX10_isPictureAltered_29 : decode cX10_isPictureAltered 29 = .ok (.if_icmp .ne 37, 3) := by decide +kernel
theorem dX10_isPictureAltered_32 : decode cX10_isPictureAltered 32 = .ok (.aload_n 0, 1) := by decide +kernel
theorem dX10_isPictureAltered_33 : decode cX10_isPictureAltered 33 = .ok (.aload_n 0, 1) := by decide +kernel
theorem dX10_isPictureAltered_34 : decode cX10_isPictureAltered 34 = .ok (.iload_n 3, 1) := by decide +kernel
theorem dX10_isPictureAltered_35 : decode cX10_isPictureAltered 35 = .ok (.invokevirtual 325, 3) := by decide +kernel
theorem dX10_isPictureAltered_38 : decode cX10_isPictureAltered 38 = .ok (.aload_n 0, 1) := by decide +kernel
theorem dX10_isPictureAltered_39 : decode cX10_isPictureAltered 39 = .ok (.getfield 101, 3) := by decide +kernel
theorem dX10_isPictureAltered_42 : decode cX10_isPictureAltered 42 = .ok (.bipush 38, 2) := by decide +kernel
theorem dX10_isPictureAltered_44 : decode cX10_isPictureAltered 44 = .ok (.iload_n 2, 1) := by decide +kernel
theorem dX10_isPictureAltered_45 : decode cX10_isPictureAltered 45 = .ok (.imul, 1) := by decide +kernel
theorem dX10_isPictureAltered_46 : decode cX10_isPictureAltered 46 = .ok (.bipush 12, 2) := by decide +kernel
theorem dX10_isPictureAltered_48 : decode cX10_isPictureAltered 48 = .ok (.iadd, 1) := by decide +kernel
theorem dX10_isPictureAltered_49 : decode cX10_isPictureAltered 49 = .ok (.aload_n 0, 1) := by decide +kernel
theorem dX10_isPictureAltered_50 : decode cX10_isPictureAltered 50 = .ok (.iload_n 3, 1) := by decide +kernel
theorem dX10_isPictureAltered_51 : decode cX10_isPictureAltered 51 = .ok (.invokevirtual 281, 3) := by decide +kernel
theorem dX10_isPictureAltered_54 : decode cX10_isPictureAltered 54 = .ok (.iadd, 1) := by decide +kernel
theorem dX10_isPictureAltered_55 : decode cX10_isPictureAltered 55 = .ok (.iaload, 1) := by decide +kernel
theorem dX10_isPictureAltered_56 : decode cX10_isPictureAltered 56 = .ok (.aload_n 0, 1) := by decide +kernel
theorem dX10_isPictureAltered_57 : decode cX10_isPictureAltered 57 = .ok (.iload_n 3, 1) := by decide +kernel
theorem dX10_isPictureAltered_58 : decode cX10_isPictureAltered 58 = .ok (.iload_n 2, 1) := by decide +kernel
theorem dX10_isPictureAltered_59 : decode cX10_isPictureAltered 59 = .ok (.invokevirtual 284, 3) := by decide +kernel
theorem dX10_isPictureAltered_62 : decode cX10_isPictureAltered 62 = .ok (.isub, 1) := by decide +kernel
theorem dX10_isPictureAltered_63 : decode cX10_isPictureAltered 63 = .ok (.invokevirtual 344, 3) := by decide +kernel
theorem dX10_isPictureAltered_66 : decode cX10_isPictureAltered 66 = .ok (.iinc 3 1, 3) := by decide +kernel
theorem dX10_isPictureAltered_69 : decode cX10_isPictureAltered 69 = .ok (.goto (-63), 3) := by decide +kernel
theorem dX10_isPictureAltered_72 : decode cX10_isPictureAltered 72 = .ok (.aload_n 0, 1) := by decide +kernel
theorem dX10_isPictureAltered_73 : decode cX10_isPictureAltered 73 = .ok (.iload_n 1, 1) := by decide +kernel
theorem dX10_isPictureAltered_74 : decode cX10_isPictureAltered 74 = .ok (.invokevirtual 271, 3) := by decide +kernel
theorem dX10_isPictureAltered_77 : decode cX10_isPictureAltered 77 = .ok (.ifCond .le 47, 3) := by decide +kernel
theorem dX10_isPictureAltered_80 : decode cX10_isPictureAltered 80 = .ok (.aload_n 0, 1) := by decide +kernel
theorem dX10_isPictureAltered_81 : decode cX10_isPictureAltered 81 = .ok (.aload_n 0, 1) := by decide +kernel
theorem dX10_isPictureAltered_82 : decode cX10_isPictureAltered 82 = .ok (.iload_n 1, 1) := by decide +kernel
theorem dX10_isPictureAltered_83 : decode cX10_isPictureAltered 83 = .ok (.invokevirtual 271, 3) := by decide +kernel
theorem dX10_isPictureAltered_86 : decode cX10_isPictureAltered 86 = .ok (.aload_n 0, 1) := by decide +kernel
theorem dX10_isPictureAltered_87 : decode cX10_isPictureAltered 87 = .ok (.getfield 101, 3) := by decide +kernel
theorem dX10_isPictureAltered_90 : decode cX10_isPictureAltered 90 = .ok (.bipush 38, 2) := by decide +kernel
theorem dX10_isPictureAltered_92 : decode cX10_isPictureAltered 92 = .ok (.iload_n 2, 1) := by decide +kernel
theorem dX10_isPictureAltered_93 : decode cX10_isPictureAltered 93 = .ok (.imul, 1) := by decide +kernel
theorem dX10_isPictureAltered_94 : decode cX10_isPictureAltered 94 = .ok (.bipush 32, 2) := by decide +kernel
theorem dX10_isPictureAltered_96 : decode cX10_isPictureAltered 96 = .ok (.iadd, 1) := by decide +kernel
theorem dX10_isPictureAltered_97 : decode cX10_isPictureAltered 97 = .ok (.aload_n 0, 1) := by decide +kernel
theorem dX10_isPictureAltered_98 : decode cX10_isPictureAltered 98 = .ok (.iload_n 1, 1) := by decide +kernel
theorem dX10_isPictureAltered_99 : decode cX10_isPictureAltered 99 = .ok (.invokevirtual 268, 3) := by decide +kernel
theorem dX10_isPictureAltered_102 : decode cX10_isPictureAltered 102 = .ok (.iadd, 1) := by decide +kernel
theorem dX10_isPictureAltered_103 : decode cX10_isPictureAltered 103 = .ok (.iaload, 1) := by decide +kernel
theorem dX10_isPictureAltered_104 : decode cX10_isPictureAltered 104 = .ok (.bipush 100, 2) := by decide +kernel
theorem dX10_isPictureAltered_106 : decode cX10_isPictureAltered 106 = .ok (.aload_n 0, 1) := by decide +kernel
theorem dX10_isPictureAltered_107 : decode cX10_isPictureAltered 107 = .ok (.getfield 70, 3) := by decide +kernel
theorem dX10_isPictureAltered_110 : decode cX10_isPictureAltered 110 = .ok (.bipush 24, 2) := by decide +kernel
theorem dX10_isPictureAltered_112 : decode cX10_isPictureAltered 112 = .ok (.iconst 2, 1) := by decide +kernel
theorem dX10_isPictureAltered_113 : decode cX10_isPictureAltered 113 = .ok (.iload_n 1, 1) := by decide +kernel
theorem dX10_isPictureAltered_114 : decode cX10_isPictureAltered 114 = .ok (.imul, 1) := by decide +kernel
theorem dX10_isPictureAltered_115 : decode cX10_isPictureAltered 115 = .ok (.iadd, 1) := by decide +kernel
theorem dX10_isPictureAltered_116 : decode cX10_isPictureAltered 116 = .ok (.iload_n 2, 1) := by decide +kernel
theorem dX10_isPictureAltered_117 : decode cX10_isPictureAltered 117 = .ok (.iadd, 1) := by decide +kernel
theorem dX10_isPictureAltered_118 : decode cX10_isPictureAltered 118 = .ok (.iaload, 1) := by decide +kernel
theorem dX10_isPictureAltered_119 : decode cX10_isPictureAltered 119 = .ok (.imul, 1) := by decide +kernel
theorem dX10_isPictureAltered_120 : decode cX10_isPictureAltered 120 = .ok (.iadd, 1) := by decide +kernel
theorem dX10_isPictureAltered_121 : decode cX10_isPictureAltered 121 = .ok (.invokevirtual 344, 3) := by decide +kernel
theorem dX10_isPictureAltered_124 : decode cX10_isPictureAltered 124 = .ok (.aload_n 0, 1) := by decide +kernel
theorem dX10_isPictureAltered_125 : decode cX10_isPictureAltered 125 = .ok (.bipush 38, 2) := by decide +kernel
theorem dX10_isPictureAltered_127 : decode cX10_isPictureAltered 127 = .ok (.iload_n 2, 1) := by decide +kernel
theorem dX10_isPictureAltered_128 : decode cX10_isPictureAltered 128 = .ok (.imul, 1) := by decide +kernel
theorem dX10_isPictureAltered_129 : decode cX10_isPictureAltered 129 = .ok (.iload_n 1, 1) := by decide +kernel
theorem dX10_isPictureAltered_130 : decode cX10_isPictureAltered 130 = .ok (.iadd, 1) := by decide +kernel
theorem dX10_isPictureAltered_131 : decode cX10_isPictureAltered 131 = .ok (.invokevirtual 347, 3) := by decide +kernel
theorem dX10_isPictureAltered_134 : decode cX10_isPictureAltered 134 = .ok (.ireturn, 1) := by decide +kernel
theorem gcX10_isDriftAltered__X10_isDriftAltered_r1 : ∀ w ∈ wsX10_isDriftAltered_r1, w ∈ wsX10_isDriftAltered := fun w h => List.mem_cons_of_mem _ (List.mem_append_left _ (List.mem_append_left _ (h)))
theorem gcX10_isDriftAltered__X100 : ∀ w ∈ wsX100, w ∈ wsX10_isDriftAltered := fun w h => List.mem_cons_of_mem _ (List.mem_append_right _ (h))
set_option maxRecDepth 20000 in
theorem ggX10_isDriftAltered_X10_noMean : GoodIn wsX10_isDriftAltered wsX10_noMean := goodIn_sub (List.forall_mem_cons.mpr ⟨(gcX10_isDriftAltered__X10_isDriftAltered_r1 _ (List.mem_of_getElem? (i := 6) rfl)), List.forall_mem_append.mpr ⟨List.forall_mem_cons.mpr ⟨(gcX10_isDriftAltered__X10_isDriftAltered_r1 _ (List.mem_of_getElem? (i := 7) rfl)), List.forall_mem_cons.mpr ⟨(gcX10_isDriftAltered__X10_isDriftAltered_r1 _ (List.mem_of_getElem? (i := 8) rfl)), fun _ h => (List.not_mem_nil h).elim⟩⟩, gcX10_isDriftAltered__X100⟩⟩) gwX10_noMean
set_option maxRecDepth 20000 in
theorem gX10_isDriftAltered_X10_noMean : GoodIn wsX10_isDriftAltered (wsV RX10 341 RX10 yX10_noMean wsX10_noMean) := goodIn_app (goodIn_sub (List.forall_mem_cons.mpr ⟨(gcX10_isDriftAltered__X10_isDriftAltered_r1 _ (List.mem_of_getElem? (i := 2) rfl)), List.forall_mem_cons.mpr ⟨(gcX10_isDriftAltered__X10_isDriftAltered_r1 _ (List.mem_of_getElem? (i := 3) rfl)), List.forall_mem_cons.mpr ⟨(gcX10_isDriftAltered__X10_isDriftAltered_r1 _ (List.mem_of_getElem? (i := 4) rfl)), List.forall_mem_cons.mpr ⟨(gcX10_isDriftAltered__X10_isDriftAltered_r1 _ (List.mem_of_getElem? (i := 5) rfl)), fun _ h => (List.not_mem_nil h).elim⟩⟩⟩⟩) (by decide +kernel)) ggX10_isDriftAltered_X10_noMean
set_option maxRecDepth 20000 in
theorem ggX10_isDriftAltered_X10_pictures : GoodIn wsX10_isDriftAltered wsX10_pictures := goodIn_sub (List.forall_mem_cons.mpr ⟨(gcX10_isDriftAltered__X10_isDriftAltered_r1 _ (List.mem_of_getElem? (i := 12) rfl)), List.forall_mem_append.mpr ⟨List.forall_mem_cons.mpr ⟨(gcX10_isDriftAltered__X10_isDriftAltered_r1 _ (List.mem_of_getElem? (i := 13) rfl)), fun _ h => (List.not_mem_nil h).elim⟩, gcX10_isDriftAltered__X100⟩⟩) gwX10_pictures
set_option maxRecDepth 20000 in
theorem gX10_isDriftAltered_X10_pictures : GoodIn wsX10_isDriftAltered (wsV RX10 259 RX10 yX10_pictures wsX10_pictures) := goodIn_app (goodIn_sub (List.forall_mem_cons.mpr ⟨(gcX10_isDriftAltered__X10_isDriftAltered_r1 _ (List.mem_of_getElem? (i := 9) rfl)), List.forall_mem_cons.mpr ⟨(gcX10_isDriftAltered__X10_isDriftAltered_r1 _ (List.mem_of_getElem? (i := 10) rfl)), List.forall_mem_cons.mpr ⟨(gcX10_isDriftAltered__X10_isDriftAltered_r1 _ (List.mem_of_getElem? (i := 11) rfl)), List.forall_mem_cons.mpr ⟨(gcX10_isDriftAltered__X10_isDriftAltered_r1 _ (List.mem_of_getElem? (i := 5) rfl)), fun _ h => (List.not_mem_nil h).elim⟩⟩⟩⟩) (by decide +kernel)) ggX10_isDriftAltered_X10_pictures
set_option maxRecDepth 20000 in
theorem ggX10_isDriftAltered_X10_strip : GoodIn wsX10_isDriftAltered wsX10_strip := goodIn_sub (List.forall_mem_cons.mpr ⟨(gcX10_isDriftAltered__X10_isDriftAltered_r1 _ (List.mem_of_getElem? (i := 17) rfl)), List.forall_mem_append.mpr ⟨List.forall_mem_cons.mpr ⟨(gcX10_isDriftAltered__X10_isDriftAltered_r1 _ (List.mem_of_getElem? (i := 18) rfl)), fun _ h => (List.not_mem_nil h).elim⟩, gcX10_isDriftAltered__X100⟩⟩) gwX10_strip
set_option maxRecDepth 20000 in
theorem gX10_isDriftAltered_X10_strip : GoodIn wsX10_isDriftAltered (wsV RX10 268 RX10 yX10_strip wsX10_strip) := goodIn_app (goodIn_sub (List.forall_mem_cons.mpr ⟨(gcX10_isDriftAltered__X10_isDriftAltered_r1 _ (List.mem_of_getElem? (i := 14) rfl)), List.forall_mem_cons.mpr ⟨(gcX10_isDriftAltered__X10_isDriftAltered_r1 _ (List.mem_of_getElem? (i := 15) rfl)), List.forall_mem_cons.mpr ⟨(gcX10_isDriftAltered__X10_isDriftAltered_r1 _ (List.mem_of_getElem? (i := 16) rfl)), List.forall_mem_cons.mpr ⟨(gcX10_isDriftAltered__X10_isDriftAltered_r1 _ (List.mem_of_getElem? (i := 5) rfl)), fun _ h => (List.not_mem_nil h).elim⟩⟩⟩⟩) (by decide +kernel)) ggX10_isDriftAltered_X10_strip
set_option maxRecDepth 20000 in
theorem ggX10_isDriftAltered_X10_centreOf : GoodIn wsX10_isDriftAltered wsX10_centreOf := goodIn_sub (List.forall_mem_cons.mpr ⟨(gcX10_isDriftAltered__X10_isDriftAltered_r1 _ (List.mem_of_getElem? (i := 22) rfl)), List.forall_mem_append.mpr ⟨List.forall_mem_cons.mpr ⟨(gcX10_isDriftAltered__X10_isDriftAltered_r1 _ (List.mem_of_getElem? (i := 23) rfl)), fun _ h => (List.not_mem_nil h).elim⟩, gcX10_isDriftAltered__X100⟩⟩) gwX10_centreOf
set_option maxRecDepth 20000 in
theorem gX10_isDriftAltered_X10_centreOf : GoodIn wsX10_isDriftAltered (wsV RX10 271 RX10 yX10_centreOf wsX10_centreOf) := goodIn_app (goodIn_sub (List.forall_mem_cons.mpr ⟨(gcX10_isDriftAltered__X10_isDriftAltered_r1 _ (List.mem_of_getElem? (i := 19) rfl)), List.forall_mem_cons.mpr ⟨(gcX10_isDriftAltered__X10_isDriftAltered_r1 _ (List.mem_of_getElem? (i := 20) rfl)), List.forall_mem_cons.mpr ⟨(gcX10_isDriftAltered__X10_isDriftAltered_r1 _ (List.mem_of_getElem? (i := 21) rfl)), List.forall_mem_cons.mpr ⟨(gcX10_isDriftAltered__X10_isDriftAltered_r1 _ (List.mem_of_getElem? (i := 5) rfl)), fun _ h => (List.not_mem_nil h).elim⟩⟩⟩⟩) (by decide +kernel)) ggX10_isDriftAltered_X10_centreOf
theorem gcX10_isDriftAltered__X10_isDriftAltered_r2 : ∀ w ∈ wsX10_isDriftAltered_r2, w ∈ wsX10_isDriftAltered := fun w h => List.mem_cons_of_mem _ (List.mem_append_left _ (List.mem_append_right _ (h)))
set_option maxRecDepth 20000 in
theorem ggX10_isDriftAltered_X10_mean : GoodIn wsX10_isDriftAltered wsX10_mean := goodIn_sub (List.forall_mem_cons.mpr ⟨(gcX10_isDriftAltered__X10_isDriftAltered_r2 _ (List.mem_of_getElem? (i := 3) rfl)), List.forall_mem_append.mpr ⟨List.forall_mem_cons.mpr ⟨(gcX10_isDriftAltered__X10_isDriftAltered_r1 _ (List.mem_of_getElem? (i := 7) rfl)), List.forall_mem_cons.mpr ⟨(gcX10_isDriftAltered__X10_isDriftAltered_r1 _ (List.mem_of_getElem? (i := 8) rfl)), fun _ h => (List.not_mem_nil h).elim⟩⟩, gcX10_isDriftAltered__X100⟩⟩) gwX10_mean
set_option maxRecDepth 20000 in
theorem gX10_isDriftAltered_X10_mean : GoodIn wsX10_isDriftAltered (wsV RX10 344 RX10 yX10_mean wsX10_mean) := goodIn_app (goodIn_sub (List.forall_mem_cons.mpr ⟨(gcX10_isDriftAltered__X10_isDriftAltered_r2 _ (List.mem_of_getElem? (i := 0) rfl)), List.forall_mem_cons.mpr ⟨(gcX10_isDriftAltered__X10_isDriftAltered_r2 _ (List.mem_of_getElem? (i := 1) rfl)), List.forall_mem_cons.mpr ⟨(gcX10_isDriftAltered__X10_isDriftAltered_r2 _ (List.mem_of_getElem? (i := 2) rfl)), List.forall_mem_cons.mpr ⟨(gcX10_isDriftAltered__X10_isDriftAltered_r1 _ (List.mem_of_getElem? (i := 5) rfl)), fun _ h => (List.not_mem_nil h).elim⟩⟩⟩⟩) (by decide +kernel)) ggX10_isDriftAltered_X10_mean
set_option maxRecDepth 20000 in
theorem ggX10_isDriftAltered_X10_becomes : GoodIn wsX10_isDriftAltered wsX10_becomes := goodIn_sub (List.forall_mem_cons.mpr ⟨(gcX10_isDriftAltered__X10_isDriftAltered_r2 _ (List.mem_of_getElem? (i := 7) rfl)), List.forall_mem_append.mpr ⟨List.forall_mem_cons.mpr ⟨(gcX10_isDriftAltered__X10_isDriftAltered_r1 _ (List.mem_of_getElem? (i := 8) rfl)), List.forall_mem_cons.mpr ⟨(gcX10_isDriftAltered__X10_isDriftAltered_r1 _ (List.mem_of_getElem? (i := 7) rfl)), List.forall_mem_cons.mpr ⟨(gcX10_isDriftAltered__X10_isDriftAltered_r1 _ (List.mem_of_getElem? (i := 0) rfl)), List.forall_mem_cons.mpr ⟨(gcX10_isDriftAltered__X10_isDriftAltered_r2 _ (List.mem_of_getElem? (i := 8) rfl)), fun _ h => (List.not_mem_nil h).elim⟩⟩⟩⟩, gcX10_isDriftAltered__X100⟩⟩) gwX10_becomes
set_option maxRecDepth 20000 in
theorem gX10_isDriftAltered_X10_becomes : GoodIn wsX10_isDriftAltered (wsV RX10 347 RX10 yX10_becomes wsX10_becomes) := goodIn_app (goodIn_sub (List.forall_mem_cons.mpr ⟨(gcX10_isDriftAltered__X10_isDriftAltered_r2 _ (List.mem_of_getElem? (i := 4) rfl)), List.forall_mem_cons.mpr ⟨(gcX10_isDriftAltered__X10_isDriftAltered_r2 _ (List.mem_of_getElem? (i := 5) rfl)), List.forall_mem_cons.mpr ⟨(gcX10_isDriftAltered__X10_isDriftAltered_r2 _ (List.mem_of_getElem? (i := 6) rfl)), List.forall_mem_cons.mpr ⟨(gcX10_isDriftAltered__X10_isDriftAltered_r1 _ (List.mem_of_getElem? (i := 5) rfl)), fun _ h => (List.not_mem_nil h).elim⟩⟩⟩⟩) (by decide +kernel)) ggX10_isDriftAltered_X10_becomes
theorem dX10_isDriftAltered_0 : decode cX10_isDriftAltered 0 = .ok (.aload_n 0, 1) := by decide +kernel
theorem dX10_isDriftAltered_1 : decode cX10_isDriftAltered 1 = .ok (.invokevirtual 341, 3) := by decide +kernel
theorem dX10_isDriftAltered_4 : decode cX10_isDriftAltered 4 = .ok (.iconst 0, 1) := by decide +kernel
theorem dX10_isDriftAltered_5 : decode cX10_isDriftAltered 5 = .ok (.istore_n 3, 1) := by decide +kernel
theorem dX10_isDriftAltered_6 : decode cX10_isDriftAltered 6 = .ok (.iload_n 3, 1) := by decide +kernel
theorem dX10_isDriftAltered_7 : decode cX10_isDriftAltered 7 = .ok (.aload_n 0, 1) := by decide +kernel
theorem dX10_isDriftAltered_8 : decode cX10_isDriftAltered 8 = .ok (.invokevirtual 259, 3) := by decide +kernel
theorem dX10_isDriftAltered_11 : decode cX10_isDriftAltered 11 = .ok (.if_icmp .ge 63, 3) := by decide +kernel
theorem dX10_isDriftAltered_14 : decode cX10_isDriftAltered 14 = .ok (.aload_n 0, 1) := by decide +kernel
theorem dX10_isDriftAltered_15 : decode cX10_isDriftAltered 15 = .ok (.iload_n 3, 1) := by decide +kernel
theorem dX10_isDriftAltered_16 : decode cX10_isDriftAltered 16 = .ok (.invokevirtual 268, 3) := by decide +kernel
theorem dX10_isDriftAltered_19 : decode cX10_isDriftAltered 19 = .ok (.iload_n 1, 1) := by decide +kernel
theorem dX10_isDriftAltered_20 : decode cX10_isDriftAltered 20 = .ok (.if_icmp .ne 48, 3) := by decide +kernel
theorem dX10_isDriftAltered_23 : decode cX10_isDriftAltered 23 = .ok (.aload_n 0, 1) := by decide +kernel
theorem dX10_isDriftAltered_24 : decode cX10_isDriftAltered 24 = .ok (.iload_n 3, 1) := by decide +kernel
theorem dX10_isDriftAltered_25 : decode cX10_isDriftAltered 25 = .ok (.invokevirtual 271, 3) := by decide +kernel
theorem dX10_isDriftAltered_28 : decode cX10_isDriftAltered 28 = .ok (.ifCond .le 40, 3) := by decide +kernel
theorem dX10_isDriftAltered_31 : decode cX10_isDriftAltered 31 = .ok (.aload_n 0, 1) := by decide +kernel
theorem dX10_isDriftAltered_32 : decode cX10_isDriftAltered 32 = .ok (.aload_n 0, 1) := by decide +kernel
theorem dX10_isDriftAltered_33 : decode cX10_isDriftAltered 33 = .ok (.iload_n 3, 1) := by decide +kernel
theorem dX10_isDriftAltered_34 : decode cX10_isDriftAltered 34 = .ok (.invokevirtual 271, 3) := by decide +kernel
theorem dX10_isDriftAltered_37 : decode cX10_isDriftAltered 37 = .ok (.aload_n 0, 1) := by decide +kernel
theorem dX10_isDriftAltered_38 : decode cX10_isDriftAltered 38 = .ok (.getfield 101, 3) := by decide +kernel
theorem dX10_isDriftAltered_41 : decode cX10_isDriftAltered 41 = .ok (.bipush 38, 2) := by decide +kernel
theorem dX10_isDriftAltered_43 : decode cX10_isDriftAltered 43 = .ok (.iload_n 2, 1) := by decide +kernel
theorem dX10_isDriftAltered_44 : decode cX10_isDriftAltered 44 = .ok (.imul, 1) := by decide +kernel
theorem dX10_isDriftAltered_45 : decode cX10_isDriftAltered 45 = .ok (.iload_n 3, 1) := by decide +kernel
theorem dX10_isDriftAltered_46 : decode cX10_isDriftAltered 46 = .ok (.iadd, 1) := by decide +kernel
theorem dX10_isDriftAltered_47 : decode cX10_isDriftAltered 47 = .ok (.iaload, 1) := by decide +kernel
theorem dX10_isDriftAltered_48 : decode cX10_isDriftAltered 48 = .ok (.bipush 100, 2) := by decide +kernel
theorem dX10_isDriftAltered_50 : decode cX10_isDriftAltered 50 = .ok (.aload_n 0, 1) := by decide +kernel
theorem dX10_isDriftAltered_51 : decode cX10_isDriftAltered 51 = .ok (.getfield 70, 3) := by decide +kernel
theorem dX10_isDriftAltered_54 : decode cX10_isDriftAltered 54 = .ok (.bipush 24, 2) := by decide +kernel
theorem dX10_isDriftAltered_56 : decode cX10_isDriftAltered 56 = .ok (.iconst 2, 1) := by decide +kernel
theorem dX10_isDriftAltered_57 : decode cX10_isDriftAltered 57 = .ok (.iload_n 3, 1) := by decide +kernel
theorem dX10_isDriftAltered_58 : decode cX10_isDriftAltered 58 = .ok (.imul, 1) := by decide +kernel
theorem dX10_isDriftAltered_59 : decode cX10_isDriftAltered 59 = .ok (.iadd, 1) := by decide +kernel
theorem dX10_isDriftAltered_60 : decode cX10_isDriftAltered 60 = .ok (.iload_n 2, 1) := by decide +kernel
theorem dX10_isDriftAltered_61 : decode cX10_isDriftAltered 61 = .ok (.iadd, 1) := by decide +kernel
theorem dX10_isDriftAltered_62 : decode cX10_isDriftAltered 62 = .ok (.iaload, 1) := by decide +kernel
theorem dX10_isDriftAltered_63 : decode cX10_isDriftAltered 63 = .ok (.imul, 1) := by decide +kernel
theorem dX10_isDriftAltered_64 : decode cX10_isDriftAltered 64 = .ok (.isub, 1) := by decide +kernel
theorem dX10_isDriftAltered_65 : decode cX10_isDriftAltered 65 = .ok (.invokevirtual 344, 3) := by decide +kernel
theorem dX10_isDriftAltered_68 : decode cX10_isDriftAltered 68 = .ok (.iinc 3 1, 3) := by decide +kernel
theorem dX10_isDriftAltered_71 : decode cX10_isDriftAltered 71 = .ok (.goto (-65), 3) := by decide +kernel
theorem dX10_isDriftAltered_74 : decode cX10_isDriftAltered 74 = .ok (.aload_n 0, 1) := by decide +kernel
theorem dX10_isDriftAltered_75 : decode cX10_isDriftAltered 75 = .ok (.bipush 38, 2) := by decide +kernel
theorem dX10_isDriftAltered_77 : decode cX10_isDriftAltered 77 = .ok (.iload_n 2, 1) := by decide +kernel
theorem dX10_isDriftAltered_78 : decode cX10_isDriftAltered 78 = .ok (.imul, 1) := by decide +kernel
theorem dX10_isDriftAltered_79 : decode cX10_isDriftAltered 79 = .ok (.bipush 32, 2) := by decide +kernel
theorem dX10_isDriftAltered_81 : decode cX10_isDriftAltered 81 = .ok (.iadd, 1) := by decide +kernel
theorem dX10_isDriftAltered_82 : decode cX10_isDriftAltered 82 = .ok (.iload_n 1, 1) := by decide +kernel
theorem dX10_isDriftAltered_83 : decode cX10_isDriftAltered 83 = .ok (.iadd, 1) := by decide +kernel
theorem dX10_isDriftAltered_84 : decode cX10_isDriftAltered 84 = .ok (.invokevirtual 347, 3) := by decide +kernel
theorem dX10_isDriftAltered_87 : decode cX10_isDriftAltered 87 = .ok (.ireturn, 1) := by decide +kernel
theorem gcX10_isRound__X10_isRound_r1 : ∀ w ∈ wsX10_isRound_r1, w ∈ wsX10_isRound := fun w h => List.mem_cons_of_mem _ (List.mem_append_left _ (List.mem_append_left _ (h)))
theorem gcX10_isRound__X100 : ∀ w ∈ wsX100, w ∈ wsX10_isRound := fun w h => List.mem_cons_of_mem _ (List.mem_append_right _ (h))
set_option maxRecDepth 20000 in
theorem ggX10_isRound_X10_points : GoodIn wsX10_isRound wsX10_points := goodIn_sub (List.forall_mem_cons.mpr ⟨(gcX10_isRound__X10_isRound_r1 _ (List.mem_of_getElem? (i := 5) rfl)), List.forall_mem_append.mpr ⟨List.forall_mem_cons.mpr ⟨(gcX10_isRound__X10_isRound_r1 _ (List.mem_of_getElem? (i := 0) rfl)), fun _ h => (List.not_mem_nil h).elim⟩, gcX10_isRound__X100⟩⟩) gwX10_points
set_option maxRecDepth 20000 in
theorem gX10_isRound_X10_points : GoodIn wsX10_isRound (wsV RX10 262 RX10 yX10_points wsX10_points) := goodIn_app (goodIn_sub (List.forall_mem_cons.mpr ⟨(gcX10_isRound__X10_isRound_r1 _ (List.mem_of_getElem? (i := 1) rfl)), List.forall_mem_cons.mpr ⟨(gcX10_isRound__X10_isRound_r1 _ (List.mem_of_getElem? (i := 2) rfl)), List.forall_mem_cons.mpr ⟨(gcX10_isRound__X10_isRound_r1 _ (List.mem_of_getElem? (i := 3) rfl)), List.forall_mem_cons.mpr ⟨(gcX10_isRound__X10_isRound_r1 _ (List.mem_of_getElem? (i := 4) rfl)), fun _ h => (List.not_mem_nil h).elim⟩⟩⟩⟩) (by decide +kernel)) ggX10_isRound_X10_points
set_option maxRecDepth 20000 in
theorem ggX10_isRound_X10_isControl : GoodIn wsX10_isRound wsX10_isControl := goodIn_sub (List.forall_mem_cons.mpr ⟨(gcX10_isRound__X10_isRound_r1 _ (List.mem_of_getElem? (i := 9) rfl)), List.forall_mem_append.mpr ⟨List.forall_mem_cons.mpr ⟨(gcX10_isRound__X10_isRound_r1 _ (List.mem_of_getElem? (i := 10) rfl)), List.forall_mem_cons.mpr ⟨(gcX10_isRound__X10_isRound_r1 _ (List.mem_of_getElem? (i := 11) rfl)), fun _ h => (List.not_mem_nil h).elim⟩⟩, gcX10_isRound__X100⟩⟩) gwX10_isControl
set_option maxRecDepth 20000 in
theorem gX10_isRound_X10_isControl : GoodIn wsX10_isRound (wsV RX10 287 RX10 yX10_isControl wsX10_isControl) := goodIn_app (goodIn_sub (List.forall_mem_cons.mpr ⟨(gcX10_isRound__X10_isRound_r1 _ (List.mem_of_getElem? (i := 6) rfl)), List.forall_mem_cons.mpr ⟨(gcX10_isRound__X10_isRound_r1 _ (List.mem_of_getElem? (i := 7) rfl)), List.forall_mem_cons.mpr ⟨(gcX10_isRound__X10_isRound_r1 _ (List.mem_of_getElem? (i := 8) rfl)), List.forall_mem_cons.mpr ⟨(gcX10_isRound__X10_isRound_r1 _ (List.mem_of_getElem? (i := 4) rfl)), fun _ h => (List.not_mem_nil h).elim⟩⟩⟩⟩) (by decide +kernel)) ggX10_isRound_X10_isControl
theorem gcX10_isRound__X10_isRound_r2 : ∀ w ∈ wsX10_isRound_r2, w ∈ wsX10_isRound := fun w h => List.mem_cons_of_mem _ (List.mem_append_left _ (List.mem_append_right _ (List.mem_append_left _ (h))))
set_option maxRecDepth 20000 in
theorem gmX10_isRound__X10_isPointAltered_r1 : ∀ w ∈ wsX10_isPointAltered_r1, w ∈ wsX10_isRound := List.forall_mem_cons.mpr ⟨(gcX10_isRound__X10_isRound_r1 _ (List.mem_of_getElem? (i := 16) rfl)), List.forall_mem_cons.mpr ⟨(gcX10_isRound__X10_isRound_r1 _ (List.mem_of_getElem? (i := 17) rfl)), List.forall_mem_cons.mpr ⟨(gcX10_isRound__X10_isRound_r1 _ (List.mem_of_getElem? (i := 18) rfl)), List.forall_mem_cons.mpr ⟨(gcX10_isRound__X10_isRound_r1 _ (List.mem_of_getElem? (i := 19) rfl)), List.forall_mem_cons.mpr ⟨(gcX10_isRound__X10_isRound_r1 _ (List.mem_of_getElem? (i := 4) rfl)), List.forall_mem_cons.mpr ⟨(gcX10_isRound__X10_isRound_r1 _ (List.mem_of_getElem? (i := 20) rfl)), List.forall_mem_cons.mpr ⟨(gcX10_isRound__X10_isRound_r1 _ (List.mem_of_getElem? (i := 21) rfl)), List.forall_mem_cons.mpr ⟨(gcX10_isRound__X10_isRound_r1 _ (List.mem_of_getElem? (i := 22) rfl)), List.forall_mem_cons.mpr ⟨(gcX10_isRound__X10_isRound_r1 _ (List.mem_of_getElem? (i := 23) rfl)), List.forall_mem_cons.mpr ⟨(gcX10_isRound__X10_isRound_r2 _ (List.mem_of_getElem? (i := 0) rfl)), List.forall_mem_cons.mpr ⟨(gcX10_isRound__X10_isRound_r2 _ (List.mem_of_getElem? (i := 1) rfl)), List.forall_mem_cons.mpr ⟨(gcX10_isRound__X10_isRound_r2 _ (List.mem_of_getElem? (i := 2) rfl)), List.forall_mem_cons.mpr ⟨(gcX10_isRound__X10_isRound_r1 _ (List.mem_of_getElem? (i := 0) rfl)), List.forall_mem_cons.mpr ⟨(gcX10_isRound__X10_isRound_r2 _ (List.mem_of_getElem? (i := 3) rfl)), List.forall_mem_cons.mpr ⟨(gcX10_isRound__X10_isRound_r2 _ (List.mem_of_getElem? (i := 4) rfl)), List.forall_mem_cons.mpr ⟨(gcX10_isRound__X10_isRound_r2 _ (List.mem_of_getElem? (i := 5) rfl)), List.forall_mem_cons.mpr ⟨(gcX10_isRound__X10_isRound_r2 _ (List.mem_of_getElem? (i := 6) rfl)), List.forall_mem_cons.mpr ⟨(gcX10_isRound__X10_isRound_r2 _ (List.mem_of_getElem? (i := 7) rfl)), List.forall_mem_cons.mpr ⟨(gcX10_isRound__X10_isRound_r2 _ (List.mem_of_getElem? (i := 8) rfl)), List.forall_mem_cons.mpr ⟨(gcX10_isRound__X10_isRound_r2 _ (List.mem_of_getElem? (i := 9) rfl)), List.forall_mem_cons.mpr ⟨(gcX10_isRound__X10_isRound_r2 _ (List.mem_of_getElem? (i := 10) rfl)), List.forall_mem_cons.mpr ⟨(gcX10_isRound__X10_isRound_r2 _ (List.mem_of_getElem? (i := 11) rfl)), List.forall_mem_cons.mpr ⟨(gcX10_isRound__X10_isRound_r2 _ (List.mem_of_getElem? (i := 12) rfl)), List.forall_mem_cons.mpr ⟨(gcX10_isRound__X10_isRound_r2 _ (List.mem_of_getElem? (i := 13) rfl)), fun _ h => (List.not_mem_nil h).elim⟩⟩⟩⟩⟩⟩⟩⟩⟩⟩⟩⟩⟩⟩⟩⟩⟩⟩⟩⟩⟩⟩⟩⟩
theorem gcX10_isRound__X10_isRound_r3 : ∀ w ∈ wsX10_isRound_r3, w ∈ wsX10_isRound := fun w h => List.mem_cons_of_mem _ (List.mem_append_left _ (List.mem_append_right _ (List.mem_append_right _ (List.mem_append_left _ (h)))))
set_option maxRecDepth 20000 in
theorem gmX10_isRound__X10_isPointAltered_r2 : ∀ w ∈ wsX10_isPointAltered_r2, w ∈ wsX10_isRound := List.forall_mem_cons.mpr ⟨(gcX10_isRound__X10_isRound_r2 _ (List.mem_of_getElem? (i := 14) rfl)), List.forall_mem_cons.mpr ⟨(gcX10_isRound__X10_isRound_r2 _ (List.mem_of_getElem? (i := 15) rfl)), List.forall_mem_cons.mpr ⟨(gcX10_isRound__X10_isRound_r2 _ (List.mem_of_getElem? (i := 16) rfl)), List.forall_mem_cons.mpr ⟨(gcX10_isRound__X10_isRound_r2 _ (List.mem_of_getElem? (i := 17) rfl)), List.forall_mem_cons.mpr ⟨(gcX10_isRound__X10_isRound_r2 _ (List.mem_of_getElem? (i := 18) rfl)), List.forall_mem_cons.mpr ⟨(gcX10_isRound__X10_isRound_r2 _ (List.mem_of_getElem? (i := 19) rfl)), List.forall_mem_cons.mpr ⟨(gcX10_isRound__X10_isRound_r2 _ (List.mem_of_getElem? (i := 20) rfl)), List.forall_mem_cons.mpr ⟨(gcX10_isRound__X10_isRound_r2 _ (List.mem_of_getElem? (i := 21) rfl)), List.forall_mem_cons.mpr ⟨(gcX10_isRound__X10_isRound_r2 _ (List.mem_of_getElem? (i := 22) rfl)), List.forall_mem_cons.mpr ⟨(gcX10_isRound__X10_isRound_r2 _ (List.mem_of_getElem? (i := 23) rfl)), List.forall_mem_cons.mpr ⟨(gcX10_isRound__X10_isRound_r3 _ (List.mem_of_getElem? (i := 0) rfl)), List.forall_mem_cons.mpr ⟨(gcX10_isRound__X10_isRound_r3 _ (List.mem_of_getElem? (i := 1) rfl)), List.forall_mem_cons.mpr ⟨(gcX10_isRound__X10_isRound_r3 _ (List.mem_of_getElem? (i := 2) rfl)), List.forall_mem_cons.mpr ⟨(gcX10_isRound__X10_isRound_r3 _ (List.mem_of_getElem? (i := 3) rfl)), List.forall_mem_cons.mpr ⟨(gcX10_isRound__X10_isRound_r3 _ (List.mem_of_getElem? (i := 4) rfl)), List.forall_mem_cons.mpr ⟨(gcX10_isRound__X10_isRound_r3 _ (List.mem_of_getElem? (i := 5) rfl)), List.forall_mem_cons.mpr ⟨(gcX10_isRound__X10_isRound_r3 _ (List.mem_of_getElem? (i := 6) rfl)), List.forall_mem_cons.mpr ⟨(gcX10_isRound__X10_isRound_r3 _ (List.mem_of_getElem? (i := 7) rfl)), List.forall_mem_cons.mpr ⟨(gcX10_isRound__X10_isRound_r3 _ (List.mem_of_getElem? (i := 8) rfl)), List.forall_mem_cons.mpr ⟨(gcX10_isRound__X10_isRound_r3 _ (List.mem_of_getElem? (i := 9) rfl)), List.forall_mem_cons.mpr ⟨(gcX10_isRound__X10_isRound_r3 _ (List.mem_of_getElem? (i := 10) rfl)), List.forall_mem_cons.mpr ⟨(gcX10_isRound__X10_isRound_r3 _ (List.mem_of_getElem? (i := 11) rfl)), List.forall_mem_cons.mpr ⟨(gcX10_isRound__X10_isRound_r3 _ (List.mem_of_getElem? (i := 12) rfl)), List.forall_mem_cons.mpr ⟨(gcX10_isRound__X10_isRound_r3 _ (List.mem_of_getElem? (i := 13) rfl)), fun _ h => (List.not_mem_nil h).elim⟩⟩⟩⟩⟩⟩⟩⟩⟩⟩⟩⟩⟩⟩⟩⟩⟩⟩⟩⟩⟩⟩⟩⟩
set_option maxRecDepth 20000 in
theorem gmX10_isRound__X10_isPointAltered_r3 : ∀ w ∈ wsX10_isPointAltered_r3, w ∈ wsX10_isRound := List.forall_mem_cons.mpr ⟨(gcX10_isRound__X10_isRound_r3 _ (List.mem_of_getElem? (i := 14) rfl)), List.forall_mem_cons.mpr ⟨(gcX10_isRound__X10_isRound_r3 _ (List.mem_of_getElem? (i := 15) rfl)), List.forall_mem_cons.mpr ⟨(gcX10_isRound__X10_isRound_r3 _ (List.mem_of_getElem? (i := 16) rfl)), List.forall_mem_cons.mpr ⟨(gcX10_isRound__X10_isRound_r3 _ (List.mem_of_getElem? (i := 17) rfl)), fun _ h => (List.not_mem_nil h).elim⟩⟩⟩⟩
set_option maxRecDepth 20000 in
theorem gwX10_isPointAltered : wsX10_isPointAltered.all goodWord = true := by decide +kernel
set_option maxRecDepth 20000 in
theorem ggX10_isRound_X10_isPointAltered : GoodIn wsX10_isRound wsX10_isPointAltered := goodIn_sub (List.forall_mem_cons.mpr ⟨(gcX10_isRound__X10_isRound_r1 _ (List.mem_of_getElem? (i := 15) rfl)), List.forall_mem_append.mpr ⟨List.forall_mem_append.mpr ⟨gmX10_isRound__X10_isPointAltered_r1, List.forall_mem_append.mpr ⟨gmX10_isRound__X10_isPointAltered_r2, gmX10_isRound__X10_isPointAltered_r3⟩⟩, gcX10_isRound__X100⟩⟩) gwX10_isPointAltered
set_option maxRecDepth 20000 in
theorem gX10_isRound_X10_isPointAltered : GoodIn wsX10_isRound (wsV RX10 350 RX10 yX10_isPointAltered wsX10_isPointAltered) := goodIn_app (goodIn_sub (List.forall_mem_cons.mpr ⟨(gcX10_isRound__X10_isRound_r1 _ (List.mem_of_getElem? (i := 12) rfl)), List.forall_mem_cons.mpr ⟨(gcX10_isRound__X10_isRound_r1 _ (List.mem_of_getElem? (i := 13) rfl)), List.forall_mem_cons.mpr ⟨(gcX10_isRound__X10_isRound_r1 _ (List.mem_of_getElem? (i := 14) rfl)), List.forall_mem_cons.mpr ⟨(gcX10_isRound__X10_isRound_r1 _ (List.mem_of_getElem? (i := 4) rfl)), fun _ h => (List.not_mem_nil h).elim⟩⟩⟩⟩) (by decide +kernel)) ggX10_isRound_X10_isPointAltered
set_option maxRecDepth 20000 in
theorem ggX10_isRound_X10_pictures : GoodIn wsX10_isRound wsX10_pictures := goodIn_sub (List.forall_mem_cons.mpr ⟨(gcX10_isRound__X10_isRound_r3 _ (List.mem_of_getElem? (i := 21) rfl)), List.forall_mem_append.mpr ⟨List.forall_mem_cons.mpr ⟨(gcX10_isRound__X10_isRound_r1 _ (List.mem_of_getElem? (i := 0) rfl)), fun _ h => (List.not_mem_nil h).elim⟩, gcX10_isRound__X100⟩⟩) gwX10_pictures
set_option maxRecDepth 20000 in
theorem gX10_isRound_X10_pictures : GoodIn wsX10_isRound (wsV RX10 259 RX10 yX10_pictures wsX10_pictures) := goodIn_app (goodIn_sub (List.forall_mem_cons.mpr ⟨(gcX10_isRound__X10_isRound_r3 _ (List.mem_of_getElem? (i := 18) rfl)), List.forall_mem_cons.mpr ⟨(gcX10_isRound__X10_isRound_r3 _ (List.mem_of_getElem? (i := 19) rfl)), List.forall_mem_cons.mpr ⟨(gcX10_isRound__X10_isRound_r3 _ (List.mem_of_getElem? (i := 20) rfl)), List.forall_mem_cons.mpr ⟨(gcX10_isRound__X10_isRound_r1 _ (List.mem_of_getElem? (i := 4) rfl)), fun _ h => (List.not_mem_nil h).elim⟩⟩⟩⟩) (by decide +kernel)) ggX10_isRound_X10_pictures
theorem gcX10_isRound__X10_isRound_r4 : ∀ w ∈ wsX10_isRound_r4, w ∈ wsX10_isRound := fun w h => List.mem_cons_of_mem _ (List.mem_append_left _ (List.mem_append_right _ (List.mem_append_right _ (List.mem_append_right _ (h)))))
set_option maxRecDepth 20000 in
theorem gmX10_isRound__X10_isPictureAltered_r1 : ∀ w ∈ wsX10_isPictureAltered_r1, w ∈ wsX10_isRound := List.forall_mem_cons.mpr ⟨(gcX10_isRound__X10_isRound_r1 _ (List.mem_of_getElem? (i := 16) rfl)), List.forall_mem_cons.mpr ⟨(gcX10_isRound__X10_isRound_r2 _ (List.mem_of_getElem? (i := 17) rfl)), List.forall_mem_cons.mpr ⟨(gcX10_isRound__X10_isRound_r4 _ (List.mem_of_getElem? (i := 2) rfl)), List.forall_mem_cons.mpr ⟨(gcX10_isRound__X10_isRound_r1 _ (List.mem_of_getElem? (i := 17) rfl)), List.forall_mem_cons.mpr ⟨(gcX10_isRound__X10_isRound_r1 _ (List.mem_of_getElem? (i := 18) rfl)), List.forall_mem_cons.mpr ⟨(gcX10_isRound__X10_isRound_r1 _ (List.mem_of_getElem? (i := 19) rfl)), List.forall_mem_cons.mpr ⟨(gcX10_isRound__X10_isRound_r1 _ (List.mem_of_getElem? (i := 4) rfl)), List.forall_mem_cons.mpr ⟨(gcX10_isRound__X10_isRound_r1 _ (List.mem_of_getElem? (i := 20) rfl)), List.forall_mem_cons.mpr ⟨(gcX10_isRound__X10_isRound_r1 _ (List.mem_of_getElem? (i := 21) rfl)), List.forall_mem_cons.mpr ⟨(gcX10_isRound__X10_isRound_r1 _ (List.mem_of_getElem? (i := 22) rfl)), List.forall_mem_cons.mpr ⟨(gcX10_isRound__X10_isRound_r1 _ (List.mem_of_getElem? (i := 23) rfl)), List.forall_mem_cons.mpr ⟨(gcX10_isRound__X10_isRound_r2 _ (List.mem_of_getElem? (i := 0) rfl)), List.forall_mem_cons.mpr ⟨(gcX10_isRound__X10_isRound_r2 _ (List.mem_of_getElem? (i := 1) rfl)), List.forall_mem_cons.mpr ⟨(gcX10_isRound__X10_isRound_r2 _ (List.mem_of_getElem? (i := 2) rfl)), List.forall_mem_cons.mpr ⟨(gcX10_isRound__X10_isRound_r1 _ (List.mem_of_getElem? (i := 0) rfl)), List.forall_mem_cons.mpr ⟨(gcX10_isRound__X10_isRound_r2 _ (List.mem_of_getElem? (i := 18) rfl)), List.forall_mem_cons.mpr ⟨(gcX10_isRound__X10_isRound_r2 _ (List.mem_of_getElem? (i := 19) rfl)), List.forall_mem_cons.mpr ⟨(gcX10_isRound__X10_isRound_r2 _ (List.mem_of_getElem? (i := 20) rfl)), List.forall_mem_cons.mpr ⟨(gcX10_isRound__X10_isRound_r2 _ (List.mem_of_getElem? (i := 21) rfl)), List.forall_mem_cons.mpr ⟨(gcX10_isRound__X10_isRound_r2 _ (List.mem_of_getElem? (i := 22) rfl)), List.forall_mem_cons.mpr ⟨(gcX10_isRound__X10_isRound_r2 _ (List.mem_of_getElem? (i := 8) rfl)), List.forall_mem_cons.mpr ⟨(gcX10_isRound__X10_isRound_r2 _ (List.mem_of_getElem? (i := 9) rfl)), List.forall_mem_cons.mpr ⟨(gcX10_isRound__X10_isRound_r2 _ (List.mem_of_getElem? (i := 10) rfl)), List.forall_mem_cons.mpr ⟨(gcX10_isRound__X10_isRound_r2 _ (List.mem_of_getElem? (i := 11) rfl)), fun _ h => (List.not_mem_nil h).elim⟩⟩⟩⟩⟩⟩⟩⟩⟩⟩⟩⟩⟩⟩⟩⟩⟩⟩⟩⟩⟩⟩⟩⟩
set_option maxRecDepth 20000 in
theorem gmX10_isRound__X10_isPictureAltered_r2 : ∀ w ∈ wsX10_isPictureAltered_r2, w ∈ wsX10_isRound := List.forall_mem_cons.mpr ⟨(gcX10_isRound__X10_isRound_r2 _ (List.mem_of_getElem? (i := 12) rfl)), List.forall_mem_cons.mpr ⟨(gcX10_isRound__X10_isRound_r2 _ (List.mem_of_getElem? (i := 3) rfl)), List.forall_mem_cons.mpr ⟨(gcX10_isRound__X10_isRound_r2 _ (List.mem_of_getElem? (i := 4) rfl)), List.forall_mem_cons.mpr ⟨(gcX10_isRound__X10_isRound_r2 _ (List.mem_of_getElem? (i := 5) rfl)), List.forall_mem_cons.mpr ⟨(gcX10_isRound__X10_isRound_r2 _ (List.mem_of_getElem? (i := 6) rfl)), List.forall_mem_cons.mpr ⟨(gcX10_isRound__X10_isRound_r2 _ (List.mem_of_getElem? (i := 7) rfl)), List.forall_mem_cons.mpr ⟨(gcX10_isRound__X10_isRound_r2 _ (List.mem_of_getElem? (i := 23) rfl)), List.forall_mem_cons.mpr ⟨(gcX10_isRound__X10_isRound_r3 _ (List.mem_of_getElem? (i := 0) rfl)), List.forall_mem_cons.mpr ⟨(gcX10_isRound__X10_isRound_r3 _ (List.mem_of_getElem? (i := 1) rfl)), List.forall_mem_cons.mpr ⟨(gcX10_isRound__X10_isRound_r3 _ (List.mem_of_getElem? (i := 2) rfl)), List.forall_mem_cons.mpr ⟨(gcX10_isRound__X10_isRound_r3 _ (List.mem_of_getElem? (i := 3) rfl)), List.forall_mem_cons.mpr ⟨(gcX10_isRound__X10_isRound_r3 _ (List.mem_of_getElem? (i := 4) rfl)), List.forall_mem_cons.mpr ⟨(gcX10_isRound__X10_isRound_r3 _ (List.mem_of_getElem? (i := 5) rfl)), List.forall_mem_cons.mpr ⟨(gcX10_isRound__X10_isRound_r3 _ (List.mem_of_getElem? (i := 6) rfl)), List.forall_mem_cons.mpr ⟨(gcX10_isRound__X10_isRound_r3 _ (List.mem_of_getElem? (i := 7) rfl)), List.forall_mem_cons.mpr ⟨(gcX10_isRound__X10_isRound_r3 _ (List.mem_of_getElem? (i := 8) rfl)), List.forall_mem_cons.mpr ⟨(gcX10_isRound__X10_isRound_r3 _ (List.mem_of_getElem? (i := 9) rfl)), List.forall_mem_cons.mpr ⟨(gcX10_isRound__X10_isRound_r3 _ (List.mem_of_getElem? (i := 10) rfl)), List.forall_mem_cons.mpr ⟨(gcX10_isRound__X10_isRound_r3 _ (List.mem_of_getElem? (i := 11) rfl)), List.forall_mem_cons.mpr ⟨(gcX10_isRound__X10_isRound_r3 _ (List.mem_of_getElem? (i := 12) rfl)), List.forall_mem_cons.mpr ⟨(gcX10_isRound__X10_isRound_r4 _ (List.mem_of_getElem? (i := 3) rfl)), List.forall_mem_cons.mpr ⟨(gcX10_isRound__X10_isRound_r4 _ (List.mem_of_getElem? (i := 4) rfl)), List.forall_mem_cons.mpr ⟨(gcX10_isRound__X10_isRound_r4 _ (List.mem_of_getElem? (i := 5) rfl)), List.forall_mem_cons.mpr ⟨(gcX10_isRound__X10_isRound_r4 _ (List.mem_of_getElem? (i := 6) rfl)), fun _ h => (List.not_mem_nil h).elim⟩⟩⟩⟩⟩⟩⟩⟩⟩⟩⟩⟩⟩⟩⟩⟩⟩⟩⟩⟩⟩⟩⟩⟩
set_option maxRecDepth 20000 in
theorem gmX10_isRound__X10_isPictureAltered_r3 : ∀ w ∈ wsX10_isPictureAltered_r3, w ∈ wsX10_isRound := List.forall_mem_cons.mpr ⟨(gcX10_isRound__X10_isRound_r4 _ (List.mem_of_getElem? (i := 7) rfl)), List.forall_mem_cons.mpr ⟨(gcX10_isRound__X10_isRound_r4 _ (List.mem_of_getElem? (i := 8) rfl)), List.forall_mem_cons.mpr ⟨(gcX10_isRound__X10_isRound_r4 _ (List.mem_of_getElem? (i := 9) rfl)), List.forall_mem_cons.mpr ⟨(gcX10_isRound__X10_isRound_r4 _ (List.mem_of_getElem? (i := 10) rfl)), List.forall_mem_cons.mpr ⟨(gcX10_isRound__X10_isRound_r4 _ (List.mem_of_getElem? (i := 11) rfl)), List.forall_mem_cons.mpr ⟨(gcX10_isRound__X10_isRound_r4 _ (List.mem_of_getElem? (i := 12) rfl)), List.forall_mem_cons.mpr ⟨(gcX10_isRound__X10_isRound_r3 _ (List.mem_of_getElem? (i := 13) rfl)), List.forall_mem_cons.mpr ⟨(gcX10_isRound__X10_isRound_r3 _ (List.mem_of_getElem? (i := 14) rfl)), List.forall_mem_cons.mpr ⟨(gcX10_isRound__X10_isRound_r3 _ (List.mem_of_getElem? (i := 15) rfl)), List.forall_mem_cons.mpr ⟨(gcX10_isRound__X10_isRound_r3 _ (List.mem_of_getElem? (i := 16) rfl)), List.forall_mem_cons.mpr ⟨(gcX10_isRound__X10_isRound_r3 _ (List.mem_of_getElem? (i := 17) rfl)), fun _ h => (List.not_mem_nil h).elim⟩⟩⟩⟩⟩⟩⟩⟩⟩⟩⟩
set_option maxRecDepth 20000 in
theorem gwX10_isPictureAltered : wsX10_isPictureAltered.all goodWord = true := by decide +kernel
set_option maxRecDepth 20000 in
theorem ggX10_isRound_X10_isPictureAltered : GoodIn wsX10_isRound wsX10_isPictureAltered := goodIn_sub (List.forall_mem_cons.mpr ⟨(gcX10_isRound__X10_isRound_r4 _ (List.mem_of_getElem? (i := 1) rfl)), List.forall_mem_append.mpr ⟨List.forall_mem_append.mpr ⟨gmX10_isRound__X10_isPictureAltered_r1, List.forall_mem_append.mpr ⟨gmX10_isRound__X10_isPictureAltered_r2, gmX10_isRound__X10_isPictureAltered_r3⟩⟩, gcX10_isRound__X100⟩⟩) gwX10_isPictureAltered
set_option maxRecDepth 20000 in
theorem gX10_isRound_X10_isPictureAltered : GoodIn wsX10_isRound (wsV RX10 354 RX10 yX10_isPictureAltered wsX10_isPictureAltered) := goodIn_app (goodIn_sub (List.forall_mem_cons.mpr ⟨(gcX10_isRound__X10_isRound_r3 _ (List.mem_of_getElem? (i := 22) rfl)), List.forall_mem_cons.mpr ⟨(gcX10_isRound__X10_isRound_r3 _ (List.mem_of_getElem? (i := 23) rfl)), List.forall_mem_cons.mpr ⟨(gcX10_isRound__X10_isRound_r4 _ (List.mem_of_getElem? (i := 0) rfl)), List.forall_mem_cons.mpr ⟨(gcX10_isRound__X10_isRound_r1 _ (List.mem_of_getElem? (i := 4) rfl)), fun _ h => (List.not_mem_nil h).elim⟩⟩⟩⟩) (by decide +kernel)) ggX10_isRound_X10_isPictureAltered
set_option maxRecDepth 20000 in
theorem gmX10_isRound__X10_isDriftAltered_r1 : ∀ w ∈ wsX10_isDriftAltered_r1, w ∈ wsX10_isRound := List.forall_mem_cons.mpr ⟨(gcX10_isRound__X10_isRound_r2 _ (List.mem_of_getElem? (i := 17) rfl)), List.forall_mem_cons.mpr ⟨(gcX10_isRound__X10_isRound_r4 _ (List.mem_of_getElem? (i := 2) rfl)), List.forall_mem_cons.mpr ⟨(gcX10_isRound__X10_isRound_r1 _ (List.mem_of_getElem? (i := 17) rfl)), List.forall_mem_cons.mpr ⟨(gcX10_isRound__X10_isRound_r1 _ (List.mem_of_getElem? (i := 18) rfl)), List.forall_mem_cons.mpr ⟨(gcX10_isRound__X10_isRound_r1 _ (List.mem_of_getElem? (i := 19) rfl)), List.forall_mem_cons.mpr ⟨(gcX10_isRound__X10_isRound_r1 _ (List.mem_of_getElem? (i := 4) rfl)), List.forall_mem_cons.mpr ⟨(gcX10_isRound__X10_isRound_r1 _ (List.mem_of_getElem? (i := 20) rfl)), List.forall_mem_cons.mpr ⟨(gcX10_isRound__X10_isRound_r1 _ (List.mem_of_getElem? (i := 21) rfl)), List.forall_mem_cons.mpr ⟨(gcX10_isRound__X10_isRound_r1 _ (List.mem_of_getElem? (i := 22) rfl)), List.forall_mem_cons.mpr ⟨(gcX10_isRound__X10_isRound_r3 _ (List.mem_of_getElem? (i := 18) rfl)), List.forall_mem_cons.mpr ⟨(gcX10_isRound__X10_isRound_r3 _ (List.mem_of_getElem? (i := 19) rfl)), List.forall_mem_cons.mpr ⟨(gcX10_isRound__X10_isRound_r3 _ (List.mem_of_getElem? (i := 20) rfl)), List.forall_mem_cons.mpr ⟨(gcX10_isRound__X10_isRound_r3 _ (List.mem_of_getElem? (i := 21) rfl)), List.forall_mem_cons.mpr ⟨(gcX10_isRound__X10_isRound_r1 _ (List.mem_of_getElem? (i := 0) rfl)), List.forall_mem_cons.mpr ⟨(gcX10_isRound__X10_isRound_r4 _ (List.mem_of_getElem? (i := 8) rfl)), List.forall_mem_cons.mpr ⟨(gcX10_isRound__X10_isRound_r4 _ (List.mem_of_getElem? (i := 9) rfl)), List.forall_mem_cons.mpr ⟨(gcX10_isRound__X10_isRound_r4 _ (List.mem_of_getElem? (i := 10) rfl)), List.forall_mem_cons.mpr ⟨(gcX10_isRound__X10_isRound_r4 _ (List.mem_of_getElem? (i := 11) rfl)), List.forall_mem_cons.mpr ⟨(gcX10_isRound__X10_isRound_r4 _ (List.mem_of_getElem? (i := 12) rfl)), List.forall_mem_cons.mpr ⟨(gcX10_isRound__X10_isRound_r4 _ (List.mem_of_getElem? (i := 3) rfl)), List.forall_mem_cons.mpr ⟨(gcX10_isRound__X10_isRound_r4 _ (List.mem_of_getElem? (i := 4) rfl)), List.forall_mem_cons.mpr ⟨(gcX10_isRound__X10_isRound_r4 _ (List.mem_of_getElem? (i := 5) rfl)), List.forall_mem_cons.mpr ⟨(gcX10_isRound__X10_isRound_r4 _ (List.mem_of_getElem? (i := 6) rfl)), List.forall_mem_cons.mpr ⟨(gcX10_isRound__X10_isRound_r4 _ (List.mem_of_getElem? (i := 7) rfl)), fun _ h => (List.not_mem_nil h).elim⟩⟩⟩⟩⟩⟩⟩⟩⟩⟩⟩⟩⟩⟩⟩⟩⟩⟩⟩⟩⟩⟩⟩⟩
set_option maxRecDepth 20000 in
theorem gmX10_isRound__X10_isDriftAltered_r2 : ∀ w ∈ wsX10_isDriftAltered_r2, w ∈ wsX10_isRound := List.forall_mem_cons.mpr ⟨(gcX10_isRound__X10_isRound_r3 _ (List.mem_of_getElem? (i := 9) rfl)), List.forall_mem_cons.mpr ⟨(gcX10_isRound__X10_isRound_r3 _ (List.mem_of_getElem? (i := 10) rfl)), List.forall_mem_cons.mpr ⟨(gcX10_isRound__X10_isRound_r3 _ (List.mem_of_getElem? (i := 11) rfl)), List.forall_mem_cons.mpr ⟨(gcX10_isRound__X10_isRound_r3 _ (List.mem_of_getElem? (i := 12) rfl)), List.forall_mem_cons.mpr ⟨(gcX10_isRound__X10_isRound_r3 _ (List.mem_of_getElem? (i := 13) rfl)), List.forall_mem_cons.mpr ⟨(gcX10_isRound__X10_isRound_r3 _ (List.mem_of_getElem? (i := 14) rfl)), List.forall_mem_cons.mpr ⟨(gcX10_isRound__X10_isRound_r3 _ (List.mem_of_getElem? (i := 15) rfl)), List.forall_mem_cons.mpr ⟨(gcX10_isRound__X10_isRound_r3 _ (List.mem_of_getElem? (i := 16) rfl)), List.forall_mem_cons.mpr ⟨(gcX10_isRound__X10_isRound_r3 _ (List.mem_of_getElem? (i := 17) rfl)), fun _ h => (List.not_mem_nil h).elim⟩⟩⟩⟩⟩⟩⟩⟩⟩
set_option maxRecDepth 20000 in
theorem gwX10_isDriftAltered : wsX10_isDriftAltered.all goodWord = true := by decide +kernel
set_option maxRecDepth 20000 in
theorem ggX10_isRound_X10_isDriftAltered : GoodIn wsX10_isRound wsX10_isDriftAltered := goodIn_sub (List.forall_mem_cons.mpr ⟨(gcX10_isRound__X10_isRound_r4 _ (List.mem_of_getElem? (i := 16) rfl)), List.forall_mem_append.mpr ⟨List.forall_mem_append.mpr ⟨gmX10_isRound__X10_isDriftAltered_r1, gmX10_isRound__X10_isDriftAltered_r2⟩, gcX10_isRound__X100⟩⟩) gwX10_isDriftAltered
set_option maxRecDepth 20000 in
theorem gX10_isRound_X10_isDriftAltered : GoodIn wsX10_isRound (wsV RX10 357 RX10 yX10_isDriftAltered wsX10_isDriftAltered) := goodIn_app (goodIn_sub (List.forall_mem_cons.mpr ⟨(gcX10_isRound__X10_isRound_r4 _ (List.mem_of_getElem? (i := 13) rfl)), List.forall_mem_cons.mpr ⟨(gcX10_isRound__X10_isRound_r4 _ (List.mem_of_getElem? (i := 14) rfl)), List.forall_mem_cons.mpr ⟨(gcX10_isRound__X10_isRound_r4 _ (List.mem_of_getElem? (i := 15) rfl)), List.forall_mem_cons.mpr ⟨(gcX10_isRound__X10_isRound_r1 _ (List.mem_of_getElem? (i := 4) rfl)), fun _ h => (List.not_mem_nil h).elim⟩⟩⟩⟩) (by decide +kernel)) ggX10_isRound_X10_isDriftAltered
theorem dX10_isRound_0 : decode cX10_isRound 0 = .ok (.iconst 0, 1) := by decide +kernel
theorem dX10_isRound_1 : decode cX10_isRound 1 = .ok (.istore_n 1, 1) := by decide +kernel
theorem dX10_isRound_2 : decode cX10_isRound 2 = .ok (.iconst 0, 1) := by decide +kernel
theorem dX10_isRound_3 : decode cX10_isRound 3 = .ok (.istore_n 2, 1) := by decide +kernel
theorem dX10_isRound_4 : decode cX10_isRound 4 = .ok (.iload_n 2, 1) := by decide +kernel
theorem dX10_isRound_5 : decode cX10_isRound 5 = .ok (.aload_n 0, 1) := by decide +kernel
theorem dX10_isRound_6 : decode cX10_isRound 6 = .ok (.invokevirtual 262, 3) := by decide +kernel
theorem dX10_isRound_9 : decode cX10_isRound 9 = .ok (.if_icmp .ge 41, 3) := by decide +kernel
theorem dX10_isRound_12 : decode cX10_isRound 12 = .ok (.iconst 0, 1) := by decide +kernel
theorem dX10_isRound_13 : decode cX10_isRound 13 = .ok (.istore_n 3, 1) := by decide +kernel
theorem dX10_isRound_14 : decode cX10_isRound 14 = .ok (.iload_n 3, 1) := by decide +kernel
theorem dX10_isRound_15 : decode cX10_isRound 15 = .ok (.iconst 2, 1) := by decide +kernel
theorem dX10_isRound_16 : decode cX10_isRound 16 = .ok (.if_icmp .ge 28, 3) := by decide +kernel
theorem dX10_isRound_19 : decode cX10_isRound 19 = .ok (.aload_n 0, 1) := by decide +kernel
theorem dX10_isRound_20 : decode cX10_isRound 20 = .ok (.iload_n 2, 1) := by decide +kernel
theorem dX10_isRound_21 : decode cX10_isRound 21 = .ok (.invokevirtual 287, 3) := by decide +kernel
theorem dX10_isRound_24 : decode cX10_isRound 24 = .ok (.ifCond .ne 14, 3) := by decide +kernel
theorem dX10_isRound_27 : decode cX10_isRound 27 = .ok (.aload_n 0, 1) := by decide +kernel
theorem dX10_isRound_28 : decode cX10_isRound 28 = .ok (.iload_n 2, 1) := by decide +kernel
theorem dX10_isRound_29 : decode cX10_isRound 29 = .ok (.iload_n 3, 1) := by decide +kernel
theorem dX10_isRound_30 : decode cX10_isRound 30 = .ok (.invokevirtual 350, 3) := by decide +kernel
theorem dX10_isRound_33 : decode cX10_isRound 33 = .ok (.ifCond .eq 5, 3) := by decide +kernel
theorem dX10_isRound_36 : decode cX10_isRound 36 = .ok (.iconst 1, 1) := by decide +kernel
theorem dX10_isRound_37 : decode cX10_isRound 37 = .ok (.istore_n 1, 1) := by decide +kernel
theorem dX10_isRound_38 : decode cX10_isRound 38 = .ok (.iinc 3 1, 3) := by decide +kernel
theorem dX10_isRound_41 : decode cX10_isRound 41 = .ok (.goto (-27), 3) := by decide +kernel
theorem dX10_isRound_44 : decode cX10_isRound 44 = .ok (.iinc 2 1, 3) := by decide +kernel
theorem dX10_isRound_47 : decode cX10_isRound 47 = .ok (.goto (-43), 3) := by decide +kernel
theorem dX10_isRound_50 : decode cX10_isRound 50 = .ok (.iconst 0, 1) := by decide +kernel
theorem dX10_isRound_51 : decode cX10_isRound 51 = .ok (.istore_n 2, 1) := by decide +kernel
theorem dX10_isRound_52 : decode cX10_isRound 52 = .ok (.iload_n 2, 1) := by decide +kernel
theorem dX10_isRound_53 : decode cX10_isRound 53 = .ok (.aload_n 0, 1) := by decide +kernel
theorem dX10_isRound_54 : decode cX10_isRound 54 = .ok (.invokevirtual 259, 3) := by decide +kernel
theorem dX10_isRound_57 : decode cX10_isRound 57 = .ok (.if_icmp .ge 33, 3) := by decide +kernel
theorem dX10_isRound_60 : decode cX10_isRound 60 = .ok (.iconst 0, 1) := by decide +kernel
theorem dX10_isRound_61 : decode cX10_isRound 61 = .ok (.istore_n 3, 1) := by decide +kernel
theorem dX10_isRound_62 : decode cX10_isRound 62 = .ok (.iload_n 3, 1) := by decide +kernel
theorem dX10_isRound_63 : decode cX10_isRound 63 = .ok (.iconst 2, 1) := by decide +kernel
theorem dX10_isRound_64 : decode cX10_isRound 64 = .ok (.if_icmp .ge 20, 3) := by decide +kernel
theorem dX10_isRound_67 : decode cX10_isRound 67 = .ok (.aload_n 0, 1) := by decide +kernel
theorem dX10_isRound_68 : decode cX10_isRound 68 = .ok (.iload_n 2, 1) := by decide +kernel
theorem dX10_isRound_69 : decode cX10_isRound 69 = .ok (.iload_n 3, 1) := by decide +kernel
theorem dX10_isRound_70 : decode cX10_isRound 70 = .ok (.invokevirtual 354, 3) := by decide +kernel
theorem dX10_isRound_73 : decode cX10_isRound 73 = .ok (.ifCond .eq 5, 3) := by decide +kernel
theorem dX10_isRound_76 : decode cX10_isRound 76 = .ok (.iconst 1, 1) := by decide +kernel
theorem dX10_isRound_77 : decode cX10_isRound 77 = .ok (.istore_n 1, 1) := by decide +kernel
theorem dX10_isRound_78 : decode cX10_isRound 78 = .ok (.iinc 3 1, 3) := by decide +kernel
theorem dX10_isRound_81 : decode cX10_isRound 81 = .ok (.goto (-19), 3) := by decide +kernel
theorem dX10_isRound_84 : decode cX10_isRound 84 = .ok (.iinc 2 1, 3) := by decide +kernel
theorem dX10_isRound_87 : decode cX10_isRound 87 = .ok (.goto (-35), 3) := by decide +kernel
theorem dX10_isRound_90 : decode cX10_isRound 90 = .ok (.iconst 0, 1) := by decide +kernel
theorem dX10_isRound_91 : decode cX10_isRound 91 = .ok (.istore_n 2, 1) := by decide +kernel
theorem dX10_isRound_92 : decode cX10_isRound 92 = .ok (.iload_n 2, 1) := by decide +kernel
theorem dX10_isRound_93 : decode cX10_isRound 93 = .ok (.aload_n 0, 1) := by decide +kernel
theorem dX10_isRound_94 : decode cX10_isRound 94 = .ok (.getfield 58, 3) := by decide +kernel
theorem dX10_isRound_97 : decode cX10_isRound 97 = .ok (.bipush 6, 2) := by decide +kernel
theorem dX10_isRound_99 : decode cX10_isRound 99 = .ok (.iaload, 1) := by decide +kernel
theorem dX10_isRound_100 : decode cX10_isRound 100 = .ok (.if_icmp .ge 33, 3) := by decide +kernel
theorem dX10_isRound_103 : decode cX10_isRound 103 = .ok (.iconst 0, 1) := by decide +kernel
theorem dX10_isRound_104 : decode cX10_isRound 104 = .ok (.istore_n 3, 1) := by decide +kernel
theorem dX10_isRound_105 : decode cX10_isRound 105 = .ok (.iload_n 3, 1) := by decide +kernel
theorem dX10_isRound_106 : decode cX10_isRound 106 = .ok (.iconst 2, 1) := by decide +kernel
theorem dX10_isRound_107 : decode cX10_isRound 107 = .ok (.if_icmp .ge 20, 3) := by decide +kernel
theorem dX10_isRound_110 : decode cX10_isRound 110 = .ok (.aload_n 0, 1) := by decide +kernel
theorem dX10_isRound_111 : decode cX10_isRound 111 = .ok (.iload_n 2, 1) := by decide +kernel
theorem dX10_isRound_112 : decode cX10_isRound 112 = .ok (.iload_n 3, 1) := by decide +kernel
theorem dX10_isRound_113 : decode cX10_isRound 113 = .ok (.invokevirtual 357, 3) := by decide +kernel
theorem dX10_isRound_116 : decode cX10_isRound 116 = .ok (.ifCond .eq 5, 3) := by decide +kernel
theorem dX10_isRound_119 : decode cX10_isRound 119 = .ok (.iconst 1, 1) := by decide +kernel
theorem dX10_isRound_120 : decode cX10_isRound 120 = .ok (.istore_n 1, 1) := by decide +kernel
theorem dX10_isRound_121 : decode cX10_isRound 121 = .ok (.iinc 3 1, 3) := by decide +kernel
theorem dX10_isRound_124 : decode cX10_isRound 124 = .ok (.goto (-19), 3) := by decide +kernel
theorem dX10_isRound_127 : decode cX10_isRound 127 = .ok (.iinc 2 1, 3) := by decide +kernel
theorem dX10_isRound_130 : decode cX10_isRound 130 = .ok (.goto (-38), 3) := by decide +kernel
theorem dX10_isRound_133 : decode cX10_isRound 133 = .ok (.iload_n 1, 1) := by decide +kernel
theorem dX10_isRound_134 : decode cX10_isRound 134 = .ok (.ireturn, 1) := by decide +kernel
theorem gcX10_rests__X10_rests_r1 : ∀ w ∈ wsX10_rests_r1, w ∈ wsX10_rests := fun w h => List.mem_cons_of_mem _ (List.mem_append_left _ (List.mem_append_left _ (h)))
theorem gcX10_rests__X10_rests_r2 : ∀ w ∈ wsX10_rests_r2, w ∈ wsX10_rests := fun w h => List.mem_cons_of_mem _ (List.mem_append_left _ (List.mem_append_right _ (List.mem_append_left _ (h))))
set_option maxRecDepth 20000 in
theorem gmX10_rests__X10_isRound_r1 : ∀ w ∈ wsX10_isRound_r1, w ∈ wsX10_rests := List.forall_mem_cons.mpr ⟨(gcX10_rests__X10_rests_r1 _ (List.mem_of_getElem? (i := 5) rfl)), List.forall_mem_cons.mpr ⟨(gcX10_rests__X10_rests_r1 _ (List.mem_of_getElem? (i := 6) rfl)), List.forall_mem_cons.mpr ⟨(gcX10_rests__X10_rests_r1 _ (List.mem_of_getElem? (i := 7) rfl)), List.forall_mem_cons.mpr ⟨(gcX10_rests__X10_rests_r1 _ (List.mem_of_getElem? (i := 8) rfl)), List.forall_mem_cons.mpr ⟨(gcX10_rests__X10_rests_r1 _ (List.mem_of_getElem? (i := 3) rfl)), List.forall_mem_cons.mpr ⟨(gcX10_rests__X10_rests_r1 _ (List.mem_of_getElem? (i := 9) rfl)), List.forall_mem_cons.mpr ⟨(gcX10_rests__X10_rests_r1 _ (List.mem_of_getElem? (i := 10) rfl)), List.forall_mem_cons.mpr ⟨(gcX10_rests__X10_rests_r1 _ (List.mem_of_getElem? (i := 11) rfl)), List.forall_mem_cons.mpr ⟨(gcX10_rests__X10_rests_r1 _ (List.mem_of_getElem? (i := 12) rfl)), List.forall_mem_cons.mpr ⟨(gcX10_rests__X10_rests_r1 _ (List.mem_of_getElem? (i := 13) rfl)), List.forall_mem_cons.mpr ⟨(gcX10_rests__X10_rests_r1 _ (List.mem_of_getElem? (i := 14) rfl)), List.forall_mem_cons.mpr ⟨(gcX10_rests__X10_rests_r1 _ (List.mem_of_getElem? (i := 15) rfl)), List.forall_mem_cons.mpr ⟨(gcX10_rests__X10_rests_r1 _ (List.mem_of_getElem? (i := 16) rfl)), List.forall_mem_cons.mpr ⟨(gcX10_rests__X10_rests_r1 _ (List.mem_of_getElem? (i := 17) rfl)), List.forall_mem_cons.mpr ⟨(gcX10_rests__X10_rests_r1 _ (List.mem_of_getElem? (i := 18) rfl)), List.forall_mem_cons.mpr ⟨(gcX10_rests__X10_rests_r1 _ (List.mem_of_getElem? (i := 19) rfl)), List.forall_mem_cons.mpr ⟨(gcX10_rests__X10_rests_r1 _ (List.mem_of_getElem? (i := 20) rfl)), List.forall_mem_cons.mpr ⟨(gcX10_rests__X10_rests_r1 _ (List.mem_of_getElem? (i := 21) rfl)), List.forall_mem_cons.mpr ⟨(gcX10_rests__X10_rests_r1 _ (List.mem_of_getElem? (i := 22) rfl)), List.forall_mem_cons.mpr ⟨(gcX10_rests__X10_rests_r1 _ (List.mem_of_getElem? (i := 23) rfl)), List.forall_mem_cons.mpr ⟨(gcX10_rests__X10_rests_r2 _ (List.mem_of_getElem? (i := 0) rfl)), List.forall_mem_cons.mpr ⟨(gcX10_rests__X10_rests_r2 _ (List.mem_of_getElem? (i := 1) rfl)), List.forall_mem_cons.mpr ⟨(gcX10_rests__X10_rests_r2 _ (List.mem_of_getElem? (i := 2) rfl)), List.forall_mem_cons.mpr ⟨(gcX10_rests__X10_rests_r2 _ (List.mem_of_getElem? (i := 3) rfl)), fun _ h => (List.not_mem_nil h).elim⟩⟩⟩⟩⟩⟩⟩⟩⟩⟩⟩⟩⟩⟩⟩⟩⟩⟩⟩⟩⟩⟩⟩⟩
theorem gcX10_rests__X10_rests_r3 : ∀ w ∈ wsX10_rests_r3, w ∈ wsX10_rests := fun w h => List.mem_cons_of_mem _ (List.mem_append_left _ (List.mem_append_right _ (List.mem_append_right _ (List.mem_append_left _ (h)))))
set_option maxRecDepth 20000 in
theorem gmX10_rests__X10_isRound_r2 : ∀ w ∈ wsX10_isRound_r2, w ∈ wsX10_rests := List.forall_mem_cons.mpr ⟨(gcX10_rests__X10_rests_r2 _ (List.mem_of_getElem? (i := 4) rfl)), List.forall_mem_cons.mpr ⟨(gcX10_rests__X10_rests_r2 _ (List.mem_of_getElem? (i := 5) rfl)), List.forall_mem_cons.mpr ⟨(gcX10_rests__X10_rests_r2 _ (List.mem_of_getElem? (i := 6) rfl)), List.forall_mem_cons.mpr ⟨(gcX10_rests__X10_rests_r2 _ (List.mem_of_getElem? (i := 7) rfl)), List.forall_mem_cons.mpr ⟨(gcX10_rests__X10_rests_r2 _ (List.mem_of_getElem? (i := 8) rfl)), List.forall_mem_cons.mpr ⟨(gcX10_rests__X10_rests_r2 _ (List.mem_of_getElem? (i := 9) rfl)), List.forall_mem_cons.mpr ⟨(gcX10_rests__X10_rests_r2 _ (List.mem_of_getElem? (i := 10) rfl)), List.forall_mem_cons.mpr ⟨(gcX10_rests__X10_rests_r2 _ (List.mem_of_getElem? (i := 11) rfl)), List.forall_mem_cons.mpr ⟨(gcX10_rests__X10_rests_r2 _ (List.mem_of_getElem? (i := 12) rfl)), List.forall_mem_cons.mpr ⟨(gcX10_rests__X10_rests_r2 _ (List.mem_of_getElem? (i := 13) rfl)), List.forall_mem_cons.mpr ⟨(gcX10_rests__X10_rests_r2 _ (List.mem_of_getElem? (i := 14) rfl)), List.forall_mem_cons.mpr ⟨(gcX10_rests__X10_rests_r2 _ (List.mem_of_getElem? (i := 15) rfl)), List.forall_mem_cons.mpr ⟨(gcX10_rests__X10_rests_r2 _ (List.mem_of_getElem? (i := 16) rfl)), List.forall_mem_cons.mpr ⟨(gcX10_rests__X10_rests_r2 _ (List.mem_of_getElem? (i := 17) rfl)), List.forall_mem_cons.mpr ⟨(gcX10_rests__X10_rests_r2 _ (List.mem_of_getElem? (i := 18) rfl)), List.forall_mem_cons.mpr ⟨(gcX10_rests__X10_rests_r2 _ (List.mem_of_getElem? (i := 19) rfl)), List.forall_mem_cons.mpr ⟨(gcX10_rests__X10_rests_r2 _ (List.mem_of_getElem? (i := 20) rfl)), List.forall_mem_cons.mpr ⟨(gcX10_rests__X10_rests_r2 _ (List.mem_of_getElem? (i := 21) rfl)), List.forall_mem_cons.mpr ⟨(gcX10_rests__X10_rests_r2 _ (List.mem_of_getElem? (i := 22) rfl)), List.forall_mem_cons.mpr ⟨(gcX10_rests__X10_rests_r2 _ (List.mem_of_getElem? (i := 23) rfl)), List.forall_mem_cons.mpr ⟨(gcX10_rests__X10_rests_r3 _ (List.mem_of_getElem? (i := 0) rfl)), List.forall_mem_cons.mpr ⟨(gcX10_rests__X10_rests_r3 _ (List.mem_of_getElem? (i := 1) rfl)), List.forall_mem_cons.mpr ⟨(gcX10_rests__X10_rests_r3 _ (List.mem_of_getElem? (i := 2) rfl)), List.forall_mem_cons.mpr ⟨(gcX10_rests__X10_rests_r3 _ (List.mem_of_getElem? (i := 3) rfl)), fun _ h => (List.not_mem_nil h).elim⟩⟩⟩⟩⟩⟩⟩⟩⟩⟩⟩⟩⟩⟩⟩⟩⟩⟩⟩⟩⟩⟩⟩⟩
theorem gcX10_rests__X10_rests_r4 : ∀ w ∈ wsX10_rests_r4, w ∈ wsX10_rests := fun w h => List.mem_cons_of_mem _ (List.mem_append_left _ (List.mem_append_right _ (List.mem_append_right _ (List.mem_append_right _ (h)))))
set_option maxRecDepth 20000 in
theorem gmX10_rests__X10_isRound_r3 : ∀ w ∈ wsX10_isRound_r3, w ∈ wsX10_rests := List.forall_mem_cons.mpr ⟨(gcX10_rests__X10_rests_r3 _ (List.mem_of_getElem? (i := 4) rfl)), List.forall_mem_cons.mpr ⟨(gcX10_rests__X10_rests_r3 _ (List.mem_of_getElem? (i := 5) rfl)), List.forall_mem_cons.mpr ⟨(gcX10_rests__X10_rests_r3 _ (List.mem_of_getElem? (i := 6) rfl)), List.forall_mem_cons.mpr ⟨(gcX10_rests__X10_rests_r3 _ (List.mem_of_getElem? (i := 7) rfl)), List.forall_mem_cons.mpr ⟨(gcX10_rests__X10_rests_r3 _ (List.mem_of_getElem? (i := 8) rfl)), List.forall_mem_cons.mpr ⟨(gcX10_rests__X10_rests_r3 _ (List.mem_of_getElem? (i := 9) rfl)), List.forall_mem_cons.mpr ⟨(gcX10_rests__X10_rests_r3 _ (List.mem_of_getElem? (i := 10) rfl)), List.forall_mem_cons.mpr ⟨(gcX10_rests__X10_rests_r3 _ (List.mem_of_getElem? (i := 11) rfl)), List.forall_mem_cons.mpr ⟨(gcX10_rests__X10_rests_r3 _ (List.mem_of_getElem? (i := 12) rfl)), List.forall_mem_cons.mpr ⟨(gcX10_rests__X10_rests_r3 _ (List.mem_of_getElem? (i := 13) rfl)), List.forall_mem_cons.mpr ⟨(gcX10_rests__X10_rests_r3 _ (List.mem_of_getElem? (i := 14) rfl)), List.forall_mem_cons.mpr ⟨(gcX10_rests__X10_rests_r3 _ (List.mem_of_getElem? (i := 15) rfl)), List.forall_mem_cons.mpr ⟨(gcX10_rests__X10_rests_r3 _ (List.mem_of_getElem? (i := 16) rfl)), List.forall_mem_cons.mpr ⟨(gcX10_rests__X10_rests_r3 _ (List.mem_of_getElem? (i := 17) rfl)), List.forall_mem_cons.mpr ⟨(gcX10_rests__X10_rests_r3 _ (List.mem_of_getElem? (i := 18) rfl)), List.forall_mem_cons.mpr ⟨(gcX10_rests__X10_rests_r3 _ (List.mem_of_getElem? (i := 19) rfl)), List.forall_mem_cons.mpr ⟨(gcX10_rests__X10_rests_r3 _ (List.mem_of_getElem? (i := 20) rfl)), List.forall_mem_cons.mpr ⟨(gcX10_rests__X10_rests_r3 _ (List.mem_of_getElem? (i := 21) rfl)), List.forall_mem_cons.mpr ⟨(gcX10_rests__X10_rests_r3 _ (List.mem_of_getElem? (i := 22) rfl)), List.forall_mem_cons.mpr ⟨(gcX10_rests__X10_rests_r3 _ (List.mem_of_getElem? (i := 23) rfl)), List.forall_mem_cons.mpr ⟨(gcX10_rests__X10_rests_r4 _ (List.mem_of_getElem? (i := 0) rfl)), List.forall_mem_cons.mpr ⟨(gcX10_rests__X10_rests_r4 _ (List.mem_of_getElem? (i := 1) rfl)), List.forall_mem_cons.mpr ⟨(gcX10_rests__X10_rests_r4 _ (List.mem_of_getElem? (i := 2) rfl)), List.forall_mem_cons.mpr ⟨(gcX10_rests__X10_rests_r4 _ (List.mem_of_getElem? (i := 3) rfl)), fun _ h => (List.not_mem_nil h).elim⟩⟩⟩⟩⟩⟩⟩⟩⟩⟩⟩⟩⟩⟩⟩⟩⟩⟩⟩⟩⟩⟩⟩⟩
set_option maxRecDepth 20000 in
theorem gmX10_rests__X10_isRound_r4 : ∀ w ∈ wsX10_isRound_r4, w ∈ wsX10_rests := List.forall_mem_cons.mpr ⟨(gcX10_rests__X10_rests_r4 _ (List.mem_of_getElem? (i := 4) rfl)), List.forall_mem_cons.mpr ⟨(gcX10_rests__X10_rests_r4 _ (List.mem_of_getElem? (i := 5) rfl)), List.forall_mem_cons.mpr ⟨(gcX10_rests__X10_rests_r4 _ (List.mem_of_getElem? (i := 6) rfl)), List.forall_mem_cons.mpr ⟨(gcX10_rests__X10_rests_r4 _ (List.mem_of_getElem? (i := 7) rfl)), List.forall_mem_cons.mpr ⟨(gcX10_rests__X10_rests_r4 _ (List.mem_of_getElem? (i := 8) rfl)), List.forall_mem_cons.mpr ⟨(gcX10_rests__X10_rests_r4 _ (List.mem_of_getElem? (i := 9) rfl)), List.forall_mem_cons.mpr ⟨(gcX10_rests__X10_rests_r4 _ (List.mem_of_getElem? (i := 10) rfl)), List.forall_mem_cons.mpr ⟨(gcX10_rests__X10_rests_r4 _ (List.mem_of_getElem? (i := 11) rfl)), List.forall_mem_cons.mpr ⟨(gcX10_rests__X10_rests_r4 _ (List.mem_of_getElem? (i := 12) rfl)), List.forall_mem_cons.mpr ⟨(gcX10_rests__X10_rests_r4 _ (List.mem_of_getElem? (i := 13) rfl)), List.forall_mem_cons.mpr ⟨(gcX10_rests__X10_rests_r4 _ (List.mem_of_getElem? (i := 14) rfl)), List.forall_mem_cons.mpr ⟨(gcX10_rests__X10_rests_r4 _ (List.mem_of_getElem? (i := 15) rfl)), List.forall_mem_cons.mpr ⟨(gcX10_rests__X10_rests_r4 _ (List.mem_of_getElem? (i := 16) rfl)), List.forall_mem_cons.mpr ⟨(gcX10_rests__X10_rests_r4 _ (List.mem_of_getElem? (i := 17) rfl)), List.forall_mem_cons.mpr ⟨(gcX10_rests__X10_rests_r4 _ (List.mem_of_getElem? (i := 18) rfl)), List.forall_mem_cons.mpr ⟨(gcX10_rests__X10_rests_r4 _ (List.mem_of_getElem? (i := 19) rfl)), List.forall_mem_cons.mpr ⟨(gcX10_rests__X10_rests_r4 _ (List.mem_of_getElem? (i := 20) rfl)), fun _ h => (List.not_mem_nil h).elim⟩⟩⟩⟩⟩⟩⟩⟩⟩⟩⟩⟩⟩⟩⟩⟩⟩
theorem gcX10_rests__X100 : ∀ w ∈ wsX100, w ∈ wsX10_rests := fun w h => List.mem_cons_of_mem _ (List.mem_append_right _ (h))
set_option maxRecDepth 20000 in
theorem gwX10_isRound : wsX10_isRound.all goodWord = true := by decide +kernel
set_option maxRecDepth 20000 in
theorem ggX10_rests_X10_isRound : GoodIn wsX10_rests wsX10_isRound := goodIn_sub (List.forall_mem_cons.mpr ⟨(gcX10_rests__X10_rests_r1 _ (List.mem_of_getElem? (i := 4) rfl)), List.forall_mem_append.mpr ⟨List.forall_mem_append.mpr ⟨gmX10_rests__X10_isRound_r1, List.forall_mem_append.mpr ⟨gmX10_rests__X10_isRound_r2, List.forall_mem_append.mpr ⟨gmX10_rests__X10_isRound_r3, gmX10_rests__X10_isRound_r4⟩⟩⟩, gcX10_rests__X100⟩⟩) gwX10_isRound
set_option maxRecDepth 20000 in
theorem gX10_rests_X10_isRound : GoodIn wsX10_rests (wsV RX10 360 RX10 yX10_isRound wsX10_isRound) := goodIn_app (goodIn_sub (List.forall_mem_cons.mpr ⟨(gcX10_rests__X10_rests_r1 _ (List.mem_of_getElem? (i := 0) rfl)), List.forall_mem_cons.mpr ⟨(gcX10_rests__X10_rests_r1 _ (List.mem_of_getElem? (i := 1) rfl)), List.forall_mem_cons.mpr ⟨(gcX10_rests__X10_rests_r1 _ (List.mem_of_getElem? (i := 2) rfl)), List.forall_mem_cons.mpr ⟨(gcX10_rests__X10_rests_r1 _ (List.mem_of_getElem? (i := 3) rfl)), fun _ h => (List.not_mem_nil h).elim⟩⟩⟩⟩) (by decide +kernel)) ggX10_rests_X10_isRound
theorem dX10_rests_0 : decode cX10_rests 0 = .ok (.iconst 0, 1) := by decide +kernel
theorem dX10_rests_1 : decode cX10_rests 1 = .ok (.istore_n 2, 1) := by decide +kernel
theorem dX10_rests_2 : decode cX10_rests 2 = .ok (.iload_n 2, 1) := by decide +kernel
theorem dX10_rests_3 : decode cX10_rests 3 = .ok (.iload_n 1, 1) := by decide +kernel
theorem dX10_rests_4 : decode cX10_rests 4 = .ok (.if_icmp .ge 16, 3) := by decide +kernel
theorem dX10_rests_7 : decode cX10_rests 7 = .ok (.aload_n 0, 1) := by decide +kernel
theorem dX10_rests_8 : decode cX10_rests 8 = .ok (.invokevirtual 360, 3) := by decide +kernel
theorem dX10_rests_11 : decode cX10_rests 11 = .ok (.ifCond .eq 9, 3) := by decide +kernel
theorem dX10_rests_14 : decode cX10_rests 14 = .ok (.iinc 2 1, 3) := by decide +kernel
theorem dX10_rests_17 : decode cX10_rests 17 = .ok (.goto (-15), 3) := by decide +kernel
theorem dX10_rests_20 : decode cX10_rests 20 = .ok (.iload_n 2, 1) := by decide +kernel
theorem dX10_rests_21 : decode cX10_rests 21 = .ok (.ireturn, 1) := by decide +kernel
theorem gcX10_rounds__X10_rounds_r1 : ∀ w ∈ wsX10_rounds_r1, w ∈ wsX10_rounds := fun w h => List.mem_cons_of_mem _ (List.mem_append_left _ (List.mem_append_left _ (h)))
set_option maxRecDepth 20000 in
theorem ggX10_rounds_X10_isIn : GoodIn wsX10_rounds wsX10_isIn := goodIn_sub (List.forall_mem_cons.mpr ⟨(gcX10_rounds__X10_rounds_r1 _ (List.mem_of_getElem? (i := 4) rfl)), fun _ h => (List.not_mem_nil h).elim⟩) gwX10_isIn
set_option maxRecDepth 20000 in
theorem gX10_rounds_X10_isIn : GoodIn wsX10_rounds (va_wsS RX10 183 yX10_isIn wsX10_isIn) := goodIn_app (goodIn_sub (List.forall_mem_cons.mpr ⟨(gcX10_rounds__X10_rounds_r1 _ (List.mem_of_getElem? (i := 1) rfl)), List.forall_mem_cons.mpr ⟨(gcX10_rounds__X10_rounds_r1 _ (List.mem_of_getElem? (i := 2) rfl)), List.forall_mem_cons.mpr ⟨(gcX10_rounds__X10_rounds_r1 _ (List.mem_of_getElem? (i := 3) rfl)), fun _ h => (List.not_mem_nil h).elim⟩⟩⟩) (by decide +kernel)) ggX10_rounds_X10_isIn
theorem gcX10_rounds__X10_rounds_r2 : ∀ w ∈ wsX10_rounds_r2, w ∈ wsX10_rounds := fun w h => List.mem_cons_of_mem _ (List.mem_append_left _ (List.mem_append_right _ (List.mem_append_left _ (h))))
set_option maxRecDepth 20000 in
theorem gmX10_rounds__X10_rests_r1 : ∀ w ∈ wsX10_rests_r1, w ∈ wsX10_rounds := List.forall_mem_cons.mpr ⟨(gcX10_rounds__X10_rounds_r1 _ (List.mem_of_getElem? (i := 9) rfl)), List.forall_mem_cons.mpr ⟨(gcX10_rounds__X10_rounds_r1 _ (List.mem_of_getElem? (i := 10) rfl)), List.forall_mem_cons.mpr ⟨(gcX10_rounds__X10_rounds_r1 _ (List.mem_of_getElem? (i := 11) rfl)), List.forall_mem_cons.mpr ⟨(gcX10_rounds__X10_rounds_r1 _ (List.mem_of_getElem? (i := 3) rfl)), List.forall_mem_cons.mpr ⟨(gcX10_rounds__X10_rounds_r1 _ (List.mem_of_getElem? (i := 12) rfl)), List.forall_mem_cons.mpr ⟨(gcX10_rounds__X10_rounds_r1 _ (List.mem_of_getElem? (i := 13) rfl)), List.forall_mem_cons.mpr ⟨(gcX10_rounds__X10_rounds_r1 _ (List.mem_of_getElem? (i := 14) rfl)), List.forall_mem_cons.mpr ⟨(gcX10_rounds__X10_rounds_r1 _ (List.mem_of_getElem? (i := 15) rfl)), List.forall_mem_cons.mpr ⟨(gcX10_rounds__X10_rounds_r1 _ (List.mem_of_getElem? (i := 16) rfl)), List.forall_mem_cons.mpr ⟨(gcX10_rounds__X10_rounds_r1 _ (List.mem_of_getElem? (i := 17) rfl)), List.forall_mem_cons.mpr ⟨(gcX10_rounds__X10_rounds_r1 _ (List.mem_of_getElem? (i := 18) rfl)), List.forall_mem_cons.mpr ⟨(gcX10_rounds__X10_rounds_r1 _ (List.mem_of_getElem? (i := 19) rfl)), List.forall_mem_cons.mpr ⟨(gcX10_rounds__X10_rounds_r1 _ (List.mem_of_getElem? (i := 20) rfl)), List.forall_mem_cons.mpr ⟨(gcX10_rounds__X10_rounds_r1 _ (List.mem_of_getElem? (i := 21) rfl)), List.forall_mem_cons.mpr ⟨(gcX10_rounds__X10_rounds_r1 _ (List.mem_of_getElem? (i := 22) rfl)), List.forall_mem_cons.mpr ⟨(gcX10_rounds__X10_rounds_r1 _ (List.mem_of_getElem? (i := 23) rfl)), List.forall_mem_cons.mpr ⟨(gcX10_rounds__X10_rounds_r2 _ (List.mem_of_getElem? (i := 0) rfl)), List.forall_mem_cons.mpr ⟨(gcX10_rounds__X10_rounds_r2 _ (List.mem_of_getElem? (i := 1) rfl)), List.forall_mem_cons.mpr ⟨(gcX10_rounds__X10_rounds_r2 _ (List.mem_of_getElem? (i := 2) rfl)), List.forall_mem_cons.mpr ⟨(gcX10_rounds__X10_rounds_r2 _ (List.mem_of_getElem? (i := 3) rfl)), List.forall_mem_cons.mpr ⟨(gcX10_rounds__X10_rounds_r2 _ (List.mem_of_getElem? (i := 4) rfl)), List.forall_mem_cons.mpr ⟨(gcX10_rounds__X10_rounds_r2 _ (List.mem_of_getElem? (i := 5) rfl)), List.forall_mem_cons.mpr ⟨(gcX10_rounds__X10_rounds_r2 _ (List.mem_of_getElem? (i := 6) rfl)), List.forall_mem_cons.mpr ⟨(gcX10_rounds__X10_rounds_r2 _ (List.mem_of_getElem? (i := 7) rfl)), fun _ h => (List.not_mem_nil h).elim⟩⟩⟩⟩⟩⟩⟩⟩⟩⟩⟩⟩⟩⟩⟩⟩⟩⟩⟩⟩⟩⟩⟩⟩
theorem gcX10_rounds__X10_rounds_r3 : ∀ w ∈ wsX10_rounds_r3, w ∈ wsX10_rounds := fun w h => List.mem_cons_of_mem _ (List.mem_append_left _ (List.mem_append_right _ (List.mem_append_right _ (List.mem_append_left _ (h)))))
set_option maxRecDepth 20000 in
theorem gmX10_rounds__X10_rests_r2 : ∀ w ∈ wsX10_rests_r2, w ∈ wsX10_rounds := List.forall_mem_cons.mpr ⟨(gcX10_rounds__X10_rounds_r2 _ (List.mem_of_getElem? (i := 8) rfl)), List.forall_mem_cons.mpr ⟨(gcX10_rounds__X10_rounds_r2 _ (List.mem_of_getElem? (i := 9) rfl)), List.forall_mem_cons.mpr ⟨(gcX10_rounds__X10_rounds_r2 _ (List.mem_of_getElem? (i := 10) rfl)), List.forall_mem_cons.mpr ⟨(gcX10_rounds__X10_rounds_r2 _ (List.mem_of_getElem? (i := 11) rfl)), List.forall_mem_cons.mpr ⟨(gcX10_rounds__X10_rounds_r2 _ (List.mem_of_getElem? (i := 12) rfl)), List.forall_mem_cons.mpr ⟨(gcX10_rounds__X10_rounds_r2 _ (List.mem_of_getElem? (i := 13) rfl)), List.forall_mem_cons.mpr ⟨(gcX10_rounds__X10_rounds_r2 _ (List.mem_of_getElem? (i := 14) rfl)), List.forall_mem_cons.mpr ⟨(gcX10_rounds__X10_rounds_r2 _ (List.mem_of_getElem? (i := 15) rfl)), List.forall_mem_cons.mpr ⟨(gcX10_rounds__X10_rounds_r2 _ (List.mem_of_getElem? (i := 16) rfl)), List.forall_mem_cons.mpr ⟨(gcX10_rounds__X10_rounds_r2 _ (List.mem_of_getElem? (i := 17) rfl)), List.forall_mem_cons.mpr ⟨(gcX10_rounds__X10_rounds_r2 _ (List.mem_of_getElem? (i := 18) rfl)), List.forall_mem_cons.mpr ⟨(gcX10_rounds__X10_rounds_r2 _ (List.mem_of_getElem? (i := 19) rfl)), List.forall_mem_cons.mpr ⟨(gcX10_rounds__X10_rounds_r2 _ (List.mem_of_getElem? (i := 20) rfl)), List.forall_mem_cons.mpr ⟨(gcX10_rounds__X10_rounds_r2 _ (List.mem_of_getElem? (i := 21) rfl)), List.forall_mem_cons.mpr ⟨(gcX10_rounds__X10_rounds_r2 _ (List.mem_of_getElem? (i := 22) rfl)), List.forall_mem_cons.mpr ⟨(gcX10_rounds__X10_rounds_r2 _ (List.mem_of_getElem? (i := 23) rfl)), List.forall_mem_cons.mpr ⟨(gcX10_rounds__X10_rounds_r3 _ (List.mem_of_getElem? (i := 0) rfl)), List.forall_mem_cons.mpr ⟨(gcX10_rounds__X10_rounds_r3 _ (List.mem_of_getElem? (i := 1) rfl)), List.forall_mem_cons.mpr ⟨(gcX10_rounds__X10_rounds_r3 _ (List.mem_of_getElem? (i := 2) rfl)), List.forall_mem_cons.mpr ⟨(gcX10_rounds__X10_rounds_r3 _ (List.mem_of_getElem? (i := 3) rfl)), List.forall_mem_cons.mpr ⟨(gcX10_rounds__X10_rounds_r3 _ (List.mem_of_getElem? (i := 4) rfl)), List.forall_mem_cons.mpr ⟨(gcX10_rounds__X10_rounds_r3 _ (List.mem_of_getElem? (i := 5) rfl)), List.forall_mem_cons.mpr ⟨(gcX10_rounds__X10_rounds_r3 _ (List.mem_of_getElem? (i := 6) rfl)), List.forall_mem_cons.mpr ⟨(gcX10_rounds__X10_rounds_r3 _ (List.mem_of_getElem? (i := 7) rfl)), fun _ h => (List.not_mem_nil h).elim⟩⟩⟩⟩⟩⟩⟩⟩⟩⟩⟩⟩⟩⟩⟩⟩⟩⟩⟩⟩⟩⟩⟩⟩
theorem gcX10_rounds__X10_rounds_r4 : ∀ w ∈ wsX10_rounds_r4, w ∈ wsX10_rounds := fun w h => List.mem_cons_of_mem _ (List.mem_append_left _ (List.mem_append_right _ (List.mem_append_right _ (List.mem_append_right _ (List.mem_append_left _ (h))))))
set_option maxRecDepth 20000 in
theorem gmX10_rounds__X10_rests_r3 : ∀ w ∈ wsX10_rests_r3, w ∈ wsX10_rounds := List.forall_mem_cons.mpr ⟨(gcX10_rounds__X10_rounds_r3 _ (List.mem_of_getElem? (i := 8) rfl)), List.forall_mem_cons.mpr ⟨(gcX10_rounds__X10_rounds_r3 _ (List.mem_of_getElem? (i := 9) rfl)), List.forall_mem_cons.mpr ⟨(gcX10_rounds__X10_rounds_r3 _ (List.mem_of_getElem? (i := 10) rfl)), List.forall_mem_cons.mpr ⟨(gcX10_rounds__X10_rounds_r3 _ (List.mem_of_getElem? (i := 11) rfl)), List.forall_mem_cons.mpr ⟨(gcX10_rounds__X10_rounds_r3 _ (List.mem_of_getElem? (i := 12) rfl)), List.forall_mem_cons.mpr ⟨(gcX10_rounds__X10_rounds_r3 _ (List.mem_of_getElem? (i := 13) rfl)), List.forall_mem_cons.mpr ⟨(gcX10_rounds__X10_rounds_r3 _ (List.mem_of_getElem? (i := 14) rfl)), List.forall_mem_cons.mpr ⟨(gcX10_rounds__X10_rounds_r3 _ (List.mem_of_getElem? (i := 15) rfl)), List.forall_mem_cons.mpr ⟨(gcX10_rounds__X10_rounds_r3 _ (List.mem_of_getElem? (i := 16) rfl)), List.forall_mem_cons.mpr ⟨(gcX10_rounds__X10_rounds_r3 _ (List.mem_of_getElem? (i := 17) rfl)), List.forall_mem_cons.mpr ⟨(gcX10_rounds__X10_rounds_r3 _ (List.mem_of_getElem? (i := 18) rfl)), List.forall_mem_cons.mpr ⟨(gcX10_rounds__X10_rounds_r3 _ (List.mem_of_getElem? (i := 19) rfl)), List.forall_mem_cons.mpr ⟨(gcX10_rounds__X10_rounds_r3 _ (List.mem_of_getElem? (i := 20) rfl)), List.forall_mem_cons.mpr ⟨(gcX10_rounds__X10_rounds_r3 _ (List.mem_of_getElem? (i := 21) rfl)), List.forall_mem_cons.mpr ⟨(gcX10_rounds__X10_rounds_r3 _ (List.mem_of_getElem? (i := 22) rfl)), List.forall_mem_cons.mpr ⟨(gcX10_rounds__X10_rounds_r3 _ (List.mem_of_getElem? (i := 23) rfl)), List.forall_mem_cons.mpr ⟨(gcX10_rounds__X10_rounds_r4 _ (List.mem_of_getElem? (i := 0) rfl)), List.forall_mem_cons.mpr ⟨(gcX10_rounds__X10_rounds_r4 _ (List.mem_of_getElem? (i := 1) rfl)), List.forall_mem_cons.mpr ⟨(gcX10_rounds__X10_rounds_r4 _ (List.mem_of_getElem? (i := 2) rfl)), List.forall_mem_cons.mpr ⟨(gcX10_rounds__X10_rounds_r4 _ (List.mem_of_getElem? (i := 3) rfl)), List.forall_mem_cons.mpr ⟨(gcX10_rounds__X10_rounds_r4 _ (List.mem_of_getElem? (i := 4) rfl)), List.forall_mem_cons.mpr ⟨(gcX10_rounds__X10_rounds_r4 _ (List.mem_of_getElem? (i := 5) rfl)), List.forall_mem_cons.mpr ⟨(gcX10_rounds__X10_rounds_r4 _ (List.mem_of_getElem? (i := 6) rfl)), List.forall_mem_cons.mpr ⟨(gcX10_rounds__X10_rounds_r4 _ (List.mem_of_getElem? (i := 7) rfl)), fun _ h => (List.not_mem_nil h).elim⟩⟩⟩⟩⟩⟩⟩⟩⟩⟩⟩⟩⟩⟩⟩⟩⟩⟩⟩⟩⟩⟩⟩⟩
theorem gcX10_rounds__X10_rounds_r5 : ∀ w ∈ wsX10_rounds_r5, w ∈ wsX10_rounds := fun w h => List.mem_cons_of_mem _ (List.mem_append_left _ (List.mem_append_right _ (List.mem_append_right _ (List.mem_append_right _ (List.mem_append_right _ (h))))))
set_option maxRecDepth 20000 in
theorem gmX10_rounds__X10_rests_r4 : ∀ w ∈ wsX10_rests_r4, w ∈ wsX10_rounds := List.forall_mem_cons.mpr ⟨(gcX10_rounds__X10_rounds_r4 _ (List.mem_of_getElem? (i := 8) rfl)), List.forall_mem_cons.mpr ⟨(gcX10_rounds__X10_rounds_r4 _ (List.mem_of_getElem? (i := 9) rfl)), List.forall_mem_cons.mpr ⟨(gcX10_rounds__X10_rounds_r4 _ (List.mem_of_getElem? (i := 10) rfl)), List.forall_mem_cons.mpr ⟨(gcX10_rounds__X10_rounds_r4 _ (List.mem_of_getElem? (i := 11) rfl)), List.forall_mem_cons.mpr ⟨(gcX10_rounds__X10_rounds_r4 _ (List.mem_of_getElem? (i := 12) rfl)), List.forall_mem_cons.mpr ⟨(gcX10_rounds__X10_rounds_r4 _ (List.mem_of_getElem? (i := 13) rfl)), List.forall_mem_cons.mpr ⟨(gcX10_rounds__X10_rounds_r4 _ (List.mem_of_getElem? (i := 14) rfl)), List.forall_mem_cons.mpr ⟨(gcX10_rounds__X10_rounds_r4 _ (List.mem_of_getElem? (i := 15) rfl)), List.forall_mem_cons.mpr ⟨(gcX10_rounds__X10_rounds_r4 _ (List.mem_of_getElem? (i := 16) rfl)), List.forall_mem_cons.mpr ⟨(gcX10_rounds__X10_rounds_r4 _ (List.mem_of_getElem? (i := 17) rfl)), List.forall_mem_cons.mpr ⟨(gcX10_rounds__X10_rounds_r4 _ (List.mem_of_getElem? (i := 18) rfl)), List.forall_mem_cons.mpr ⟨(gcX10_rounds__X10_rounds_r4 _ (List.mem_of_getElem? (i := 19) rfl)), List.forall_mem_cons.mpr ⟨(gcX10_rounds__X10_rounds_r4 _ (List.mem_of_getElem? (i := 20) rfl)), List.forall_mem_cons.mpr ⟨(gcX10_rounds__X10_rounds_r4 _ (List.mem_of_getElem? (i := 21) rfl)), List.forall_mem_cons.mpr ⟨(gcX10_rounds__X10_rounds_r4 _ (List.mem_of_getElem? (i := 22) rfl)), List.forall_mem_cons.mpr ⟨(gcX10_rounds__X10_rounds_r4 _ (List.mem_of_getElem? (i := 23) rfl)), List.forall_mem_cons.mpr ⟨(gcX10_rounds__X10_rounds_r5 _ (List.mem_of_getElem? (i := 0) rfl)), List.forall_mem_cons.mpr ⟨(gcX10_rounds__X10_rounds_r5 _ (List.mem_of_getElem? (i := 1) rfl)), List.forall_mem_cons.mpr ⟨(gcX10_rounds__X10_rounds_r5 _ (List.mem_of_getElem? (i := 2) rfl)), List.forall_mem_cons.mpr ⟨(gcX10_rounds__X10_rounds_r5 _ (List.mem_of_getElem? (i := 3) rfl)), List.forall_mem_cons.mpr ⟨(gcX10_rounds__X10_rounds_r5 _ (List.mem_of_getElem? (i := 4) rfl)), fun _ h => (List.not_mem_nil h).elim⟩⟩⟩⟩⟩⟩⟩⟩⟩⟩⟩⟩⟩⟩⟩⟩⟩⟩⟩⟩⟩
theorem gcX10_rounds__X100 : ∀ w ∈ wsX100, w ∈ wsX10_rounds := fun w h => List.mem_cons_of_mem _ (List.mem_append_right _ (h))
set_option maxRecDepth 20000 in
theorem gwX10_rests : wsX10_rests.all goodWord = true := by decide +kernel
set_option maxRecDepth 20000 in
theorem ggX10_rounds_X10_rests : GoodIn wsX10_rounds wsX10_rests := goodIn_sub (List.forall_mem_cons.mpr ⟨(gcX10_rounds__X10_rounds_r1 _ (List.mem_of_getElem? (i := 8) rfl)), List.forall_mem_append.mpr ⟨List.forall_mem_append.mpr ⟨gmX10_rounds__X10_rests_r1, List.forall_mem_append.mpr ⟨gmX10_rounds__X10_rests_r2, List.forall_mem_append.mpr ⟨gmX10_rounds__X10_rests_r3, gmX10_rounds__X10_rests_r4⟩⟩⟩, gcX10_rounds__X100⟩⟩) gwX10_rests
set_option maxRecDepth 20000 in
theorem gX10_rounds_X10_rests : GoodIn wsX10_rounds (wsV RX10 365 RX10 yX10_rests wsX10_rests) := goodIn_app (goodIn_sub (List.forall_mem_cons.mpr ⟨(gcX10_rounds__X10_rounds_r1 _ (List.mem_of_getElem? (i := 5) rfl)), List.forall_mem_cons.mpr ⟨(gcX10_rounds__X10_rounds_r1 _ (List.mem_of_getElem? (i := 6) rfl)), List.forall_mem_cons.mpr ⟨(gcX10_rounds__X10_rounds_r1 _ (List.mem_of_getElem? (i := 7) rfl)), List.forall_mem_cons.mpr ⟨(gcX10_rounds__X10_rounds_r1 _ (List.mem_of_getElem? (i := 3) rfl)), fun _ h => (List.not_mem_nil h).elim⟩⟩⟩⟩) (by decide +kernel)) ggX10_rounds_X10_rests
theorem dX10_rounds_0 : decode cX10_rounds 0 = .ok (.iload_n 1, 1) := by decide +kernel
theorem dX10_rounds_1 : decode cX10_rounds 1 = .ok (.i2l, 1) := by decide +kernel
theorem dX10_rounds_2 : decode cX10_rounds 2 = .ok (.lconst 1, 1) := by decide +kernel
theorem dX10_rounds_3 : decode cX10_rounds 3 = .ok (.ldc2_w 363, 3) := by decide +kernel
theorem dX10_rounds_6 : decode cX10_rounds 6 = .ok (.invokestatic 183, 3) := by decide +kernel
theorem dX10_rounds_9 : decode cX10_rounds 9 = .ok (.ifCond .eq 11, 3) := by decide +kernel
theorem dX10_rounds_12 : decode cX10_rounds 12 = .ok (.aload_n 0, 1) := by decide +kernel
theorem dX10_rounds_13 : decode cX10_rounds 13 = .ok (.iload_n 1, 1) := by decide +kernel
theorem dX10_rounds_14 : decode cX10_rounds 14 = .ok (.invokevirtual 365, 3) := by decide +kernel
theorem dX10_rounds_17 : decode cX10_rounds 17 = .ok (.goto 4, 3) := by decide +kernel
theorem dX10_rounds_20 : decode cX10_rounds 20 = .ok (.iconst (-1), 1) := by decide +kernel
theorem dX10_rounds_21 : decode cX10_rounds 21 = .ok (.ireturn, 1) := by decide +kernel
theorem gcX10_isUsed__X10_isUsed_r1 : ∀ w ∈ wsX10_isUsed_r1, w ∈ wsX10_isUsed := fun w h => List.mem_cons_of_mem _ (List.mem_append_left _ (List.mem_append_left _ (h)))
theorem gcX10_isUsed__X100 : ∀ w ∈ wsX100, w ∈ wsX10_isUsed := fun w h => List.mem_cons_of_mem _ (List.mem_append_right _ (h))
set_option maxRecDepth 20000 in
theorem gwX10_hasDrift : wsX10_hasDrift.all goodWord = true := by decide +kernel
set_option maxRecDepth 20000 in
theorem ggX10_isUsed_X10_hasDrift : GoodIn wsX10_isUsed wsX10_hasDrift := goodIn_sub (List.forall_mem_cons.mpr ⟨(gcX10_isUsed__X10_isUsed_r1 _ (List.mem_of_getElem? (i := 5) rfl)), List.forall_mem_append.mpr ⟨List.forall_mem_cons.mpr ⟨(gcX10_isUsed__X10_isUsed_r1 _ (List.mem_of_getElem? (i := 6) rfl)), List.forall_mem_cons.mpr ⟨(gcX10_isUsed__X10_isUsed_r1 _ (List.mem_of_getElem? (i := 7) rfl)), List.forall_mem_cons.mpr ⟨(gcX10_isUsed__X10_isUsed_r1 _ (List.mem_of_getElem? (i := 8) rfl)), List.forall_mem_cons.mpr ⟨(gcX10_isUsed__X10_isUsed_r1 _ (List.mem_of_getElem? (i := 4) rfl)), List.forall_mem_cons.mpr ⟨(gcX10_isUsed__X10_isUsed_r1 _ (List.mem_of_getElem? (i := 9) rfl)), List.forall_mem_cons.mpr ⟨(gcX10_isUsed__X10_isUsed_r1 _ (List.mem_of_getElem? (i := 10) rfl)), List.forall_mem_cons.mpr ⟨(gcX10_isUsed__X10_isUsed_r1 _ (List.mem_of_getElem? (i := 11) rfl)), List.forall_mem_cons.mpr ⟨(gcX10_isUsed__X10_isUsed_r1 _ (List.mem_of_getElem? (i := 12) rfl)), List.forall_mem_cons.mpr ⟨(gcX10_isUsed__X10_isUsed_r1 _ (List.mem_of_getElem? (i := 13) rfl)), List.forall_mem_cons.mpr ⟨(gcX10_isUsed__X10_isUsed_r1 _ (List.mem_of_getElem? (i := 14) rfl)), List.forall_mem_cons.mpr ⟨(gcX10_isUsed__X10_isUsed_r1 _ (List.mem_of_getElem? (i := 15) rfl)), List.forall_mem_cons.mpr ⟨(gcX10_isUsed__X10_isUsed_r1 _ (List.mem_of_getElem? (i := 16) rfl)), List.forall_mem_cons.mpr ⟨(gcX10_isUsed__X10_isUsed_r1 _ (List.mem_of_getElem? (i := 17) rfl)), List.forall_mem_cons.mpr ⟨(gcX10_isUsed__X10_isUsed_r1 _ (List.mem_of_getElem? (i := 18) rfl)), List.forall_mem_cons.mpr ⟨(gcX10_isUsed__X10_isUsed_r1 _ (List.mem_of_getElem? (i := 19) rfl)), List.forall_mem_cons.mpr ⟨(gcX10_isUsed__X10_isUsed_r1 _ (List.mem_of_getElem? (i := 20) rfl)), fun _ h => (List.not_mem_nil h).elim⟩⟩⟩⟩⟩⟩⟩⟩⟩⟩⟩⟩⟩⟩⟩⟩, gcX10_isUsed__X100⟩⟩) gwX10_hasDrift
set_option maxRecDepth 20000 in
theorem gX10_isUsed_X10_hasDrift : GoodIn wsX10_isUsed (wsV RX10 368 RX10 yX10_hasDrift wsX10_hasDrift) := goodIn_app (goodIn_sub (List.forall_mem_cons.mpr ⟨(gcX10_isUsed__X10_isUsed_r1 _ (List.mem_of_getElem? (i := 1) rfl)), List.forall_mem_cons.mpr ⟨(gcX10_isUsed__X10_isUsed_r1 _ (List.mem_of_getElem? (i := 2) rfl)), List.forall_mem_cons.mpr ⟨(gcX10_isUsed__X10_isUsed_r1 _ (List.mem_of_getElem? (i := 3) rfl)), List.forall_mem_cons.mpr ⟨(gcX10_isUsed__X10_isUsed_r1 _ (List.mem_of_getElem? (i := 4) rfl)), fun _ h => (List.not_mem_nil h).elim⟩⟩⟩⟩) (by decide +kernel)) ggX10_isUsed_X10_hasDrift
set_option maxRecDepth 20000 in
theorem ggX10_isUsed_X10_centreOf : GoodIn wsX10_isUsed wsX10_centreOf := goodIn_sub (List.forall_mem_cons.mpr ⟨(gcX10_isUsed__X10_isUsed_r1 _ (List.mem_of_getElem? (i := 19) rfl)), List.forall_mem_append.mpr ⟨List.forall_mem_cons.mpr ⟨(gcX10_isUsed__X10_isUsed_r1 _ (List.mem_of_getElem? (i := 20) rfl)), fun _ h => (List.not_mem_nil h).elim⟩, gcX10_isUsed__X100⟩⟩) gwX10_centreOf
set_option maxRecDepth 20000 in
theorem gX10_isUsed_X10_centreOf : GoodIn wsX10_isUsed (wsV RX10 271 RX10 yX10_centreOf wsX10_centreOf) := goodIn_app (goodIn_sub (List.forall_mem_cons.mpr ⟨(gcX10_isUsed__X10_isUsed_r1 _ (List.mem_of_getElem? (i := 16) rfl)), List.forall_mem_cons.mpr ⟨(gcX10_isUsed__X10_isUsed_r1 _ (List.mem_of_getElem? (i := 17) rfl)), List.forall_mem_cons.mpr ⟨(gcX10_isUsed__X10_isUsed_r1 _ (List.mem_of_getElem? (i := 18) rfl)), List.forall_mem_cons.mpr ⟨(gcX10_isUsed__X10_isUsed_r1 _ (List.mem_of_getElem? (i := 4) rfl)), fun _ h => (List.not_mem_nil h).elim⟩⟩⟩⟩) (by decide +kernel)) ggX10_isUsed_X10_centreOf
theorem gcX10_isUsed__X10_isUsed_r2 : ∀ w ∈ wsX10_isUsed_r2, w ∈ wsX10_isUsed := fun w h => List.mem_cons_of_mem _ (List.mem_append_left _ (List.mem_append_right _ (h)))
set_option maxRecDepth 20000 in
theorem ggX10_isUsed_X10_rows : GoodIn wsX10_isUsed wsX10_rows := goodIn_sub (List.forall_mem_cons.mpr ⟨(gcX10_isUsed__X10_isUsed_r2 _ (List.mem_of_getElem? (i := 0) rfl)), List.forall_mem_append.mpr ⟨List.forall_mem_cons.mpr ⟨(gcX10_isUsed__X10_isUsed_r1 _ (List.mem_of_getElem? (i := 10) rfl)), fun _ h => (List.not_mem_nil h).elim⟩, gcX10_isUsed__X100⟩⟩) gwX10_rows
set_option maxRecDepth 20000 in
theorem gX10_isUsed_X10_rows : GoodIn wsX10_isUsed (wsV RX10 265 RX10 yX10_rows wsX10_rows) := goodIn_app (goodIn_sub (List.forall_mem_cons.mpr ⟨(gcX10_isUsed__X10_isUsed_r1 _ (List.mem_of_getElem? (i := 21) rfl)), List.forall_mem_cons.mpr ⟨(gcX10_isUsed__X10_isUsed_r1 _ (List.mem_of_getElem? (i := 22) rfl)), List.forall_mem_cons.mpr ⟨(gcX10_isUsed__X10_isUsed_r1 _ (List.mem_of_getElem? (i := 23) rfl)), List.forall_mem_cons.mpr ⟨(gcX10_isUsed__X10_isUsed_r1 _ (List.mem_of_getElem? (i := 4) rfl)), fun _ h => (List.not_mem_nil h).elim⟩⟩⟩⟩) (by decide +kernel)) ggX10_isUsed_X10_rows
set_option maxRecDepth 20000 in
theorem ggX10_isUsed_X10_pictureOf : GoodIn wsX10_isUsed wsX10_pictureOf := goodIn_sub (List.forall_mem_cons.mpr ⟨(gcX10_isUsed__X10_isUsed_r2 _ (List.mem_of_getElem? (i := 4) rfl)), List.forall_mem_append.mpr ⟨List.forall_mem_cons.mpr ⟨(gcX10_isUsed__X10_isUsed_r2 _ (List.mem_of_getElem? (i := 5) rfl)), fun _ h => (List.not_mem_nil h).elim⟩, gcX10_isUsed__X100⟩⟩) gwX10_pictureOf
set_option maxRecDepth 20000 in
theorem gX10_isUsed_X10_pictureOf : GoodIn wsX10_isUsed (wsV RX10 274 RX10 yX10_pictureOf wsX10_pictureOf) := goodIn_app (goodIn_sub (List.forall_mem_cons.mpr ⟨(gcX10_isUsed__X10_isUsed_r2 _ (List.mem_of_getElem? (i := 1) rfl)), List.forall_mem_cons.mpr ⟨(gcX10_isUsed__X10_isUsed_r2 _ (List.mem_of_getElem? (i := 2) rfl)), List.forall_mem_cons.mpr ⟨(gcX10_isUsed__X10_isUsed_r2 _ (List.mem_of_getElem? (i := 3) rfl)), List.forall_mem_cons.mpr ⟨(gcX10_isUsed__X10_isUsed_r1 _ (List.mem_of_getElem? (i := 4) rfl)), fun _ h => (List.not_mem_nil h).elim⟩⟩⟩⟩) (by decide +kernel)) ggX10_isUsed_X10_pictureOf
set_option maxRecDepth 20000 in
theorem ggX10_isUsed_X10_pointOf : GoodIn wsX10_isUsed wsX10_pointOf := goodIn_sub (List.forall_mem_cons.mpr ⟨(gcX10_isUsed__X10_isUsed_r2 _ (List.mem_of_getElem? (i := 9) rfl)), List.forall_mem_append.mpr ⟨List.forall_mem_cons.mpr ⟨(gcX10_isUsed__X10_isUsed_r2 _ (List.mem_of_getElem? (i := 10) rfl)), fun _ h => (List.not_mem_nil h).elim⟩, gcX10_isUsed__X100⟩⟩) gwX10_pointOf
set_option maxRecDepth 20000 in
theorem gX10_isUsed_X10_pointOf : GoodIn wsX10_isUsed (wsV RX10 281 RX10 yX10_pointOf wsX10_pointOf) := goodIn_app (goodIn_sub (List.forall_mem_cons.mpr ⟨(gcX10_isUsed__X10_isUsed_r2 _ (List.mem_of_getElem? (i := 6) rfl)), List.forall_mem_cons.mpr ⟨(gcX10_isUsed__X10_isUsed_r2 _ (List.mem_of_getElem? (i := 7) rfl)), List.forall_mem_cons.mpr ⟨(gcX10_isUsed__X10_isUsed_r2 _ (List.mem_of_getElem? (i := 8) rfl)), List.forall_mem_cons.mpr ⟨(gcX10_isUsed__X10_isUsed_r1 _ (List.mem_of_getElem? (i := 4) rfl)), fun _ h => (List.not_mem_nil h).elim⟩⟩⟩⟩) (by decide +kernel)) ggX10_isUsed_X10_pointOf
theorem dX10_isUsed_0 : decode cX10_isUsed 0 = .ok (.iload_n 1, 1) := by decide +kernel
theorem dX10_isUsed_1 : decode cX10_isUsed 1 = .ok (.bipush 32, 2) := by decide +kernel
theorem dX10_isUsed_3 : decode cX10_isUsed 3 = .ok (.if_icmp .lt 12, 3) := by decide +kernel
theorem dX10_isUsed_6 : decode cX10_isUsed 6 = .ok (.aload_n 0, 1) := by decide +kernel
theorem dX10_isUsed_7 : decode cX10_isUsed 7 = .ok (.iload_n 1, 1) := by decide +kernel
theorem dX10_isUsed_8 : decode cX10_isUsed 8 = .ok (.bipush 32, 2) := by decide +kernel
theorem dX10_isUsed_10 : decode cX10_isUsed 10 = .ok (.isub, 1) := by decide +kernel
theorem dX10_isUsed_11 : decode cX10_isUsed 11 = .ok (.invokevirtual 368, 3) := by decide +kernel
theorem dX10_isUsed_14 : decode cX10_isUsed 14 = .ok (.ireturn, 1) := by decide +kernel
theorem dX10_isUsed_15 : decode cX10_isUsed 15 = .ok (.iload_n 1, 1) := by decide +kernel
theorem dX10_isUsed_16 : decode cX10_isUsed 16 = .ok (.bipush 12, 2) := by decide +kernel
theorem dX10_isUsed_18 : decode cX10_isUsed 18 = .ok (.if_icmp .ge 13, 3) := by decide +kernel
theorem dX10_isUsed_21 : decode cX10_isUsed 21 = .ok (.aload_n 0, 1) := by decide +kernel
theorem dX10_isUsed_22 : decode cX10_isUsed 22 = .ok (.iload_n 1, 1) := by decide +kernel
theorem dX10_isUsed_23 : decode cX10_isUsed 23 = .ok (.invokevirtual 271, 3) := by decide +kernel
theorem dX10_isUsed_26 : decode cX10_isUsed 26 = .ok (.ifCond .le 5, 3) := by decide +kernel
theorem dX10_isUsed_29 : decode cX10_isUsed 29 = .ok (.iconst 1, 1) := by decide +kernel
theorem dX10_isUsed_30 : decode cX10_isUsed 30 = .ok (.ireturn, 1) := by decide +kernel
theorem dX10_isUsed_31 : decode cX10_isUsed 31 = .ok (.iconst 0, 1) := by decide +kernel
theorem dX10_isUsed_32 : decode cX10_isUsed 32 = .ok (.istore_n 2, 1) := by decide +kernel
theorem dX10_isUsed_33 : decode cX10_isUsed 33 = .ok (.iload_n 2, 1) := by decide +kernel
theorem dX10_isUsed_34 : decode cX10_isUsed 34 = .ok (.aload_n 0, 1) := by decide +kernel
theorem dX10_isUsed_35 : decode cX10_isUsed 35 = .ok (.invokevirtual 265, 3) := by decide +kernel
theorem dX10_isUsed_38 : decode cX10_isUsed 38 = .ok (.if_icmp .ge 50, 3) := by decide +kernel
theorem dX10_isUsed_41 : decode cX10_isUsed 41 = .ok (.aload_n 0, 1) := by decide +kernel
theorem dX10_isUsed_42 : decode cX10_isUsed 42 = .ok (.getfield 91, 3) := by decide +kernel
theorem dX10_isUsed_45 : decode cX10_isUsed 45 = .ok (.iload_n 2, 1) := by decide +kernel
theorem dX10_isUsed_46 : decode cX10_isUsed 46 = .ok (.baload, 1) := by decide +kernel
theorem dX10_isUsed_47 : decode cX10_isUsed 47 = .ok (.ifCond .ne 35, 3) := by decide +kernel
theorem dX10_isUsed_50 : decode cX10_isUsed 50 = .ok (.iload_n 1, 1) := by decide +kernel
theorem dX10_isUsed_51 : decode cX10_isUsed 51 = .ok (.bipush 12, 2) := by decide +kernel
theorem dX10_isUsed_53 : decode cX10_isUsed 53 = .ok (.if_icmp .ge 15, 3) := by decide +kernel
theorem dX10_isUsed_56 : decode cX10_isUsed 56 = .ok (.aload_n 0, 1) := by decide +kernel
theorem dX10_isUsed_57 : decode cX10_isUsed 57 = .ok (.iload_n 2, 1) := by decide +kernel
theorem dX10_isUsed_58 : decode cX10_isUsed 58 = .ok (.invokevirtual 274, 3) := by decide +kernel
theorem dX10_isUsed_61 : decode cX10_isUsed 61 = .ok (.iload_n 1, 1) := by decide +kernel
theorem dX10_isUsed_62 : decode cX10_isUsed 62 = .ok (.if_icmp .ne 20, 3) := by decide +kernel
theorem dX10_isUsed_65 : decode cX10_isUsed 65 = .ok (.goto 15, 3) := by decide +kernel
theorem dX10_isUsed_68 : decode cX10_isUsed 68 = .ok (.aload_n 0, 1) := by decide +kernel
theorem dX10_isUsed_69 : decode cX10_isUsed 69 = .ok (.iload_n 2, 1) := by decide +kernel
theorem dX10_isUsed_70 : decode cX10_isUsed 70 = .ok (.invokevirtual 281, 3) := by decide +kernel
theorem dX10_isUsed_73 : decode cX10_isUsed 73 = .ok (.iload_n 1, 1) := by decide +kernel
theorem dX10_isUsed_74 : decode cX10_isUsed 74 = .ok (.bipush 12, 2) := by decide +kernel
theorem dX10_isUsed_76 : decode cX10_isUsed 76 = .ok (.isub, 1) := by decide +kernel
theorem dX10_isUsed_77 : decode cX10_isUsed 77 = .ok (.if_icmp .ne 5, 3) := by decide +kernel
theorem dX10_isUsed_80 : decode cX10_isUsed 80 = .ok (.iconst 1, 1) := by decide +kernel
theorem dX10_isUsed_81 : decode cX10_isUsed 81 = .ok (.ireturn, 1) := by decide +kernel
theorem dX10_isUsed_82 : decode cX10_isUsed 82 = .ok (.iinc 2 1, 3) := by decide +kernel
theorem dX10_isUsed_85 : decode cX10_isUsed 85 = .ok (.goto (-52), 3) := by decide +kernel
theorem dX10_isUsed_88 : decode cX10_isUsed 88 = .ok (.iconst 0, 1) := by decide +kernel
theorem dX10_isUsed_89 : decode cX10_isUsed 89 = .ok (.ireturn, 1) := by decide +kernel
theorem dX10_modulo_0 : decode cX10_modulo 0 = .ok (.lload_n 0, 1) := by decide +kernel
theorem dX10_modulo_1 : decode cX10_modulo 1 = .ok (.ldc2_w 371, 3) := by decide +kernel
theorem dX10_modulo_4 : decode cX10_modulo 4 = .ok (.lrem, 1) := by decide +kernel
theorem dX10_modulo_5 : decode cX10_modulo 5 = .ok (.ldc2_w 371, 3) := by decide +kernel
theorem dX10_modulo_8 : decode cX10_modulo 8 = .ok (.ladd, 1) := by decide +kernel
theorem dX10_modulo_9 : decode cX10_modulo 9 = .ok (.ldc2_w 371, 3) := by decide +kernel
theorem dX10_modulo_12 : decode cX10_modulo 12 = .ok (.lrem, 1) := by decide +kernel
theorem dX10_modulo_13 : decode cX10_modulo 13 = .ok (.lreturn, 1) := by decide +kernel
set_option maxRecDepth 20000 in
theorem gwX10_modulo : wsX10_modulo.all goodWord = true := by decide +kernel
set_option maxRecDepth 20000 in
theorem ggX10_adds_X10_modulo : GoodIn wsX10_adds wsX10_modulo := goodIn_sub (List.forall_mem_cons.mpr ⟨(List.mem_of_getElem? (i := 5) rfl), List.forall_mem_cons.mpr ⟨(List.mem_of_getElem? (i := 6) rfl), fun _ h => (List.not_mem_nil h).elim⟩⟩) gwX10_modulo
set_option maxRecDepth 20000 in
theorem gX10_adds_X10_modulo : GoodIn wsX10_adds (va_wsS RX10 373 yX10_modulo wsX10_modulo) := goodIn_app (goodIn_sub (List.forall_mem_cons.mpr ⟨(List.mem_of_getElem? (i := 2) rfl), List.forall_mem_cons.mpr ⟨(List.mem_of_getElem? (i := 3) rfl), List.forall_mem_cons.mpr ⟨(List.mem_of_getElem? (i := 4) rfl), fun _ h => (List.not_mem_nil h).elim⟩⟩⟩) (by decide +kernel)) ggX10_adds_X10_modulo
theorem dX10_adds_0 : decode cX10_adds 0 = .ok (.aload_n 0, 1) := by decide +kernel
theorem dX10_adds_1 : decode cX10_adds 1 = .ok (.getfield 110, 3) := by decide +kernel
theorem dX10_adds_4 : decode cX10_adds 4 = .ok (.bipush 40, 2) := by decide +kernel
theorem dX10_adds_6 : decode cX10_adds 6 = .ok (.iload_n 1, 1) := by decide +kernel
theorem dX10_adds_7 : decode cX10_adds 7 = .ok (.imul, 1) := by decide +kernel
theorem dX10_adds_8 : decode cX10_adds 8 = .ok (.iload_n 2, 1) := by decide +kernel
theorem dX10_adds_9 : decode cX10_adds 9 = .ok (.iadd, 1) := by decide +kernel
theorem dX10_adds_10 : decode cX10_adds 10 = .ok (.aload_n 0, 1) := by decide +kernel
theorem dX10_adds_11 : decode cX10_adds 11 = .ok (.getfield 110, 3) := by decide +kernel
theorem dX10_adds_14 : decode cX10_adds 14 = .ok (.bipush 40, 2) := by decide +kernel
theorem dX10_adds_16 : decode cX10_adds 16 = .ok (.iload_n 1, 1) := by decide +kernel
theorem dX10_adds_17 : decode cX10_adds 17 = .ok (.imul, 1) := by decide +kernel
theorem dX10_adds_18 : decode cX10_adds 18 = .ok (.iload_n 2, 1) := by decide +kernel
theorem dX10_adds_19 : decode cX10_adds 19 = .ok (.iadd, 1) := by decide +kernel
theorem dX10_adds_20 : decode cX10_adds 20 = .ok (.laload, 1) := by decide +kernel
theorem dX10_adds_21 : decode cX10_adds 21 = .ok (.lload_n 3, 1) := by decide +kernel
theorem dX10_adds_22 : decode cX10_adds 22 = .ok (.ladd, 1) := by decide +kernel
theorem dX10_adds_23 : decode cX10_adds 23 = .ok (.invokestatic 373, 3) := by decide +kernel
theorem dX10_adds_26 : decode cX10_adds 26 = .ok (.lastore, 1) := by decide +kernel
theorem dX10_adds_27 : decode cX10_adds 27 = .ok (.return_, 1) := by decide +kernel
theorem gcX10_addsTie__X100 : ∀ w ∈ wsX100, w ∈ wsX10_addsTie := fun w h => List.mem_cons_of_mem _ (List.mem_append_right _ (h))
set_option maxRecDepth 20000 in
theorem gwX10_adds : wsX10_adds.all goodWord = true := by decide +kernel
set_option maxRecDepth 20000 in
theorem ggX10_addsTie_X10_adds : GoodIn wsX10_addsTie wsX10_adds := goodIn_sub (List.forall_mem_cons.mpr ⟨(List.mem_of_getElem? (i := 5) rfl), List.forall_mem_append.mpr ⟨List.forall_mem_cons.mpr ⟨(List.mem_of_getElem? (i := 6) rfl), List.forall_mem_cons.mpr ⟨(List.mem_of_getElem? (i := 7) rfl), List.forall_mem_cons.mpr ⟨(List.mem_of_getElem? (i := 8) rfl), List.forall_mem_cons.mpr ⟨(List.mem_of_getElem? (i := 4) rfl), List.forall_mem_cons.mpr ⟨(List.mem_of_getElem? (i := 9) rfl), List.forall_mem_cons.mpr ⟨(List.mem_of_getElem? (i := 10) rfl), fun _ h => (List.not_mem_nil h).elim⟩⟩⟩⟩⟩⟩, gcX10_addsTie__X100⟩⟩) gwX10_adds
set_option maxRecDepth 20000 in
theorem gX10_addsTie_X10_adds : GoodIn wsX10_addsTie (wsV RX10 377 RX10 yX10_adds wsX10_adds) := goodIn_app (goodIn_sub (List.forall_mem_cons.mpr ⟨(List.mem_of_getElem? (i := 1) rfl), List.forall_mem_cons.mpr ⟨(List.mem_of_getElem? (i := 2) rfl), List.forall_mem_cons.mpr ⟨(List.mem_of_getElem? (i := 3) rfl), List.forall_mem_cons.mpr ⟨(List.mem_of_getElem? (i := 4) rfl), fun _ h => (List.not_mem_nil h).elim⟩⟩⟩⟩) (by decide +kernel)) ggX10_addsTie_X10_adds
theorem dX10_addsTie_0 : decode cX10_addsTie 0 = .ok (.aload_n 0, 1) := by decide +kernel
theorem dX10_addsTie_1 : decode cX10_addsTie 1 = .ok (.iload_n 1, 1) := by decide +kernel
theorem dX10_addsTie_2 : decode cX10_addsTie 2 = .ok (.iload_n 1, 1) := by decide +kernel
theorem dX10_addsTie_3 : decode cX10_addsTie 3 = .ok (.iload_n 3, 1) := by decide +kernel
theorem dX10_addsTie_4 : decode cX10_addsTie 4 = .ok (.i2l, 1) := by decide +kernel
theorem dX10_addsTie_5 : decode cX10_addsTie 5 = .ok (.invokevirtual 377, 3) := by decide +kernel
theorem dX10_addsTie_8 : decode cX10_addsTie 8 = .ok (.iload_n 2, 1) := by decide +kernel
theorem dX10_addsTie_9 : decode cX10_addsTie 9 = .ok (.iconst (-1), 1) := by decide +kernel
theorem dX10_addsTie_10 : decode cX10_addsTie 10 = .ok (.if_icmp .eq 12, 3) := by decide +kernel
theorem dX10_addsTie_13 : decode cX10_addsTie 13 = .ok (.aload_n 0, 1) := by decide +kernel
theorem dX10_addsTie_14 : decode cX10_addsTie 14 = .ok (.iload_n 1, 1) := by decide +kernel
theorem dX10_addsTie_15 : decode cX10_addsTie 15 = .ok (.iload_n 2, 1) := by decide +kernel
theorem dX10_addsTie_16 : decode cX10_addsTie 16 = .ok (.iload_n 3, 1) := by decide +kernel
theorem dX10_addsTie_17 : decode cX10_addsTie 17 = .ok (.ineg, 1) := by decide +kernel
theorem dX10_addsTie_18 : decode cX10_addsTie 18 = .ok (.i2l, 1) := by decide +kernel
theorem dX10_addsTie_19 : decode cX10_addsTie 19 = .ok (.invokevirtual 377, 3) := by decide +kernel
theorem dX10_addsTie_22 : decode cX10_addsTie 22 = .ok (.aload_n 0, 1) := by decide +kernel
theorem dX10_addsTie_23 : decode cX10_addsTie 23 = .ok (.iload_n 1, 1) := by decide +kernel
theorem dX10_addsTie_24 : decode cX10_addsTie 24 = .ok (.bipush 38, 2) := by decide +kernel
theorem dX10_addsTie_26 : decode cX10_addsTie 26 = .ok (.iload_n 3, 1) := by decide +kernel
theorem dX10_addsTie_27 : decode cX10_addsTie 27 = .ok (.i2l, 1) := by decide +kernel
theorem dX10_addsTie_28 : decode cX10_addsTie 28 = .ok (.iload 4, 2) := by decide +kernel
theorem dX10_addsTie_30 : decode cX10_addsTie 30 = .ok (.i2l, 1) := by decide +kernel
theorem dX10_addsTie_31 : decode cX10_addsTie 31 = .ok (.lmul, 1) := by decide +kernel
theorem dX10_addsTie_32 : decode cX10_addsTie 32 = .ok (.invokevirtual 377, 3) := by decide +kernel
theorem dX10_addsTie_35 : decode cX10_addsTie 35 = .ok (.aload_n 0, 1) := by decide +kernel
theorem dX10_addsTie_36 : decode cX10_addsTie 36 = .ok (.iload_n 1, 1) := by decide +kernel
theorem dX10_addsTie_37 : decode cX10_addsTie 37 = .ok (.bipush 39, 2) := by decide +kernel
theorem dX10_addsTie_39 : decode cX10_addsTie 39 = .ok (.iload_n 3, 1) := by decide +kernel
theorem dX10_addsTie_40 : decode cX10_addsTie 40 = .ok (.i2l, 1) := by decide +kernel
theorem dX10_addsTie_41 : decode cX10_addsTie 41 = .ok (.iload 5, 2) := by decide +kernel
theorem dX10_addsTie_43 : decode cX10_addsTie 43 = .ok (.i2l, 1) := by decide +kernel
theorem dX10_addsTie_44 : decode cX10_addsTie 44 = .ok (.lmul, 1) := by decide +kernel
theorem dX10_addsTie_45 : decode cX10_addsTie 45 = .ok (.invokevirtual 377, 3) := by decide +kernel
theorem dX10_addsTie_48 : decode cX10_addsTie 48 = .ok (.return_, 1) := by decide +kernel
theorem dX10_numberOf_0 : decode cX10_numberOf 0 = .ok (.iconst 0, 1) := by decide +kernel
theorem dX10_numberOf_1 : decode cX10_numberOf 1 = .ok (.istore_n 2, 1) := by decide +kernel
theorem dX10_numberOf_2 : decode cX10_numberOf 2 = .ok (.iload_n 2, 1) := by decide +kernel
theorem dX10_numberOf_3 : decode cX10_numberOf 3 = .ok (.aload_n 0, 1) := by decide +kernel
theorem dX10_numberOf_4 : decode cX10_numberOf 4 = .ok (.getfield 381, 3) := by decide +kernel
theorem dX10_numberOf_7 : decode cX10_numberOf 7 = .ok (.if_icmp .ge 21, 3) := by decide +kernel
theorem dX10_numberOf_10 : decode cX10_numberOf 10 = .ok (.aload_n 0, 1) := by decide +kernel
theorem dX10_numberOf_11 : decode cX10_numberOf 11 = .ok (.getfield 107, 3) := by decide +kernel
theorem dX10_numberOf_14 : decode cX10_numberOf 14 = .ok (.iload_n 2, 1) := by decide +kernel
theorem dX10_numberOf_15 : decode cX10_numberOf 15 = .ok (.iaload, 1) := by decide +kernel
theorem dX10_numberOf_16 : decode cX10_numberOf 16 = .ok (.iload_n 1, 1) := by decide +kernel
theorem dX10_numberOf_17 : decode cX10_numberOf 17 = .ok (.if_icmp .ne 5, 3) := by decide +kernel
theorem dX10_numberOf_20 : decode cX10_numberOf 20 = .ok (.iload_n 2, 1) := by decide +kernel
theorem dX10_numberOf_21 : decode cX10_numberOf 21 = .ok (.ireturn, 1) := by decide +kernel
theorem dX10_numberOf_22 : decode cX10_numberOf 22 = .ok (.iinc 2 1, 3) := by decide +kernel
theorem dX10_numberOf_25 : decode cX10_numberOf 25 = .ok (.goto (-23), 3) := by decide +kernel
theorem dX10_numberOf_28 : decode cX10_numberOf 28 = .ok (.iconst (-1), 1) := by decide +kernel
theorem dX10_numberOf_29 : decode cX10_numberOf 29 = .ok (.ireturn, 1) := by decide +kernel
theorem gcX10_equations__X10_equations_r1 : ∀ w ∈ wsX10_equations_r1, w ∈ wsX10_equations := fun w h => List.mem_cons_of_mem _ (List.mem_append_left _ (List.mem_append_left _ (h)))
theorem gcX10_equations__X100 : ∀ w ∈ wsX100, w ∈ wsX10_equations := fun w h => List.mem_cons_of_mem _ (List.mem_append_right _ (h))
set_option maxRecDepth 20000 in
theorem ggX10_equations_X10_pictures : GoodIn wsX10_equations wsX10_pictures := goodIn_sub (List.forall_mem_cons.mpr ⟨(gcX10_equations__X10_equations_r1 _ (List.mem_of_getElem? (i := 11) rfl)), List.forall_mem_append.mpr ⟨List.forall_mem_cons.mpr ⟨(gcX10_equations__X10_equations_r1 _ (List.mem_of_getElem? (i := 1) rfl)), fun _ h => (List.not_mem_nil h).elim⟩, gcX10_equations__X100⟩⟩) gwX10_pictures
set_option maxRecDepth 20000 in
theorem gX10_equations_X10_pictures : GoodIn wsX10_equations (wsV RX10 259 RX10 yX10_pictures wsX10_pictures) := goodIn_app (goodIn_sub (List.forall_mem_cons.mpr ⟨(gcX10_equations__X10_equations_r1 _ (List.mem_of_getElem? (i := 7) rfl)), List.forall_mem_cons.mpr ⟨(gcX10_equations__X10_equations_r1 _ (List.mem_of_getElem? (i := 8) rfl)), List.forall_mem_cons.mpr ⟨(gcX10_equations__X10_equations_r1 _ (List.mem_of_getElem? (i := 9) rfl)), List.forall_mem_cons.mpr ⟨(gcX10_equations__X10_equations_r1 _ (List.mem_of_getElem? (i := 10) rfl)), fun _ h => (List.not_mem_nil h).elim⟩⟩⟩⟩) (by decide +kernel)) ggX10_equations_X10_pictures
set_option maxRecDepth 20000 in
theorem ggX10_equations_X10_points : GoodIn wsX10_equations wsX10_points := goodIn_sub (List.forall_mem_cons.mpr ⟨(gcX10_equations__X10_equations_r1 _ (List.mem_of_getElem? (i := 15) rfl)), List.forall_mem_append.mpr ⟨List.forall_mem_cons.mpr ⟨(gcX10_equations__X10_equations_r1 _ (List.mem_of_getElem? (i := 1) rfl)), fun _ h => (List.not_mem_nil h).elim⟩, gcX10_equations__X100⟩⟩) gwX10_points
set_option maxRecDepth 20000 in
theorem gX10_equations_X10_points : GoodIn wsX10_equations (wsV RX10 262 RX10 yX10_points wsX10_points) := goodIn_app (goodIn_sub (List.forall_mem_cons.mpr ⟨(gcX10_equations__X10_equations_r1 _ (List.mem_of_getElem? (i := 12) rfl)), List.forall_mem_cons.mpr ⟨(gcX10_equations__X10_equations_r1 _ (List.mem_of_getElem? (i := 13) rfl)), List.forall_mem_cons.mpr ⟨(gcX10_equations__X10_equations_r1 _ (List.mem_of_getElem? (i := 14) rfl)), List.forall_mem_cons.mpr ⟨(gcX10_equations__X10_equations_r1 _ (List.mem_of_getElem? (i := 10) rfl)), fun _ h => (List.not_mem_nil h).elim⟩⟩⟩⟩) (by decide +kernel)) ggX10_equations_X10_points
set_option maxRecDepth 20000 in
theorem ggX10_equations_X10_isControl : GoodIn wsX10_equations wsX10_isControl := goodIn_sub (List.forall_mem_cons.mpr ⟨(gcX10_equations__X10_equations_r1 _ (List.mem_of_getElem? (i := 19) rfl)), List.forall_mem_append.mpr ⟨List.forall_mem_cons.mpr ⟨(gcX10_equations__X10_equations_r1 _ (List.mem_of_getElem? (i := 20) rfl)), List.forall_mem_cons.mpr ⟨(gcX10_equations__X10_equations_r1 _ (List.mem_of_getElem? (i := 21) rfl)), fun _ h => (List.not_mem_nil h).elim⟩⟩, gcX10_equations__X100⟩⟩) gwX10_isControl
set_option maxRecDepth 20000 in
theorem gX10_equations_X10_isControl : GoodIn wsX10_equations (wsV RX10 287 RX10 yX10_isControl wsX10_isControl) := goodIn_app (goodIn_sub (List.forall_mem_cons.mpr ⟨(gcX10_equations__X10_equations_r1 _ (List.mem_of_getElem? (i := 16) rfl)), List.forall_mem_cons.mpr ⟨(gcX10_equations__X10_equations_r1 _ (List.mem_of_getElem? (i := 17) rfl)), List.forall_mem_cons.mpr ⟨(gcX10_equations__X10_equations_r1 _ (List.mem_of_getElem? (i := 18) rfl)), List.forall_mem_cons.mpr ⟨(gcX10_equations__X10_equations_r1 _ (List.mem_of_getElem? (i := 10) rfl)), fun _ h => (List.not_mem_nil h).elim⟩⟩⟩⟩) (by decide +kernel)) ggX10_equations_X10_isControl
theorem gcX10_equations__X10_equations_r2 : ∀ w ∈ wsX10_equations_r2, w ∈ wsX10_equations := fun w h => List.mem_cons_of_mem _ (List.mem_append_left _ (List.mem_append_right _ (List.mem_append_left _ (h))))
set_option maxRecDepth 20000 in
theorem gmX10_equations__X10_isUsed_r1 : ∀ w ∈ wsX10_isUsed_r1, w ∈ wsX10_equations := List.forall_mem_cons.mpr ⟨(gcX10_equations__X10_equations_r1 _ (List.mem_of_getElem? (i := 4) rfl)), List.forall_mem_cons.mpr ⟨(gcX10_equations__X10_equations_r2 _ (List.mem_of_getElem? (i := 2) rfl)), List.forall_mem_cons.mpr ⟨(gcX10_equations__X10_equations_r2 _ (List.mem_of_getElem? (i := 3) rfl)), List.forall_mem_cons.mpr ⟨(gcX10_equations__X10_equations_r2 _ (List.mem_of_getElem? (i := 4) rfl)), List.forall_mem_cons.mpr ⟨(gcX10_equations__X10_equations_r1 _ (List.mem_of_getElem? (i := 10) rfl)), List.forall_mem_cons.mpr ⟨(gcX10_equations__X10_equations_r2 _ (List.mem_of_getElem? (i := 5) rfl)), List.forall_mem_cons.mpr ⟨(gcX10_equations__X10_equations_r1 _ (List.mem_of_getElem? (i := 7) rfl)), List.forall_mem_cons.mpr ⟨(gcX10_equations__X10_equations_r1 _ (List.mem_of_getElem? (i := 8) rfl)), List.forall_mem_cons.mpr ⟨(gcX10_equations__X10_equations_r1 _ (List.mem_of_getElem? (i := 9) rfl)), List.forall_mem_cons.mpr ⟨(gcX10_equations__X10_equations_r1 _ (List.mem_of_getElem? (i := 11) rfl)), List.forall_mem_cons.mpr ⟨(gcX10_equations__X10_equations_r1 _ (List.mem_of_getElem? (i := 1) rfl)), List.forall_mem_cons.mpr ⟨(gcX10_equations__X10_equations_r2 _ (List.mem_of_getElem? (i := 6) rfl)), List.forall_mem_cons.mpr ⟨(gcX10_equations__X10_equations_r2 _ (List.mem_of_getElem? (i := 7) rfl)), List.forall_mem_cons.mpr ⟨(gcX10_equations__X10_equations_r2 _ (List.mem_of_getElem? (i := 8) rfl)), List.forall_mem_cons.mpr ⟨(gcX10_equations__X10_equations_r2 _ (List.mem_of_getElem? (i := 9) rfl)), List.forall_mem_cons.mpr ⟨(gcX10_equations__X10_equations_r2 _ (List.mem_of_getElem? (i := 10) rfl)), List.forall_mem_cons.mpr ⟨(gcX10_equations__X10_equations_r2 _ (List.mem_of_getElem? (i := 11) rfl)), List.forall_mem_cons.mpr ⟨(gcX10_equations__X10_equations_r2 _ (List.mem_of_getElem? (i := 12) rfl)), List.forall_mem_cons.mpr ⟨(gcX10_equations__X10_equations_r2 _ (List.mem_of_getElem? (i := 13) rfl)), List.forall_mem_cons.mpr ⟨(gcX10_equations__X10_equations_r2 _ (List.mem_of_getElem? (i := 14) rfl)), List.forall_mem_cons.mpr ⟨(gcX10_equations__X10_equations_r2 _ (List.mem_of_getElem? (i := 15) rfl)), List.forall_mem_cons.mpr ⟨(gcX10_equations__X10_equations_r2 _ (List.mem_of_getElem? (i := 16) rfl)), List.forall_mem_cons.mpr ⟨(gcX10_equations__X10_equations_r2 _ (List.mem_of_getElem? (i := 17) rfl)), List.forall_mem_cons.mpr ⟨(gcX10_equations__X10_equations_r2 _ (List.mem_of_getElem? (i := 18) rfl)), fun _ h => (List.not_mem_nil h).elim⟩⟩⟩⟩⟩⟩⟩⟩⟩⟩⟩⟩⟩⟩⟩⟩⟩⟩⟩⟩⟩⟩⟩⟩
theorem gcX10_equations__X10_equations_r3 : ∀ w ∈ wsX10_equations_r3, w ∈ wsX10_equations := fun w h => List.mem_cons_of_mem _ (List.mem_append_left _ (List.mem_append_right _ (List.mem_append_right _ (List.mem_append_left _ (h)))))
set_option maxRecDepth 20000 in
theorem gmX10_equations__X10_isUsed_r2 : ∀ w ∈ wsX10_isUsed_r2, w ∈ wsX10_equations := List.forall_mem_cons.mpr ⟨(gcX10_equations__X10_equations_r2 _ (List.mem_of_getElem? (i := 19) rfl)), List.forall_mem_cons.mpr ⟨(gcX10_equations__X10_equations_r2 _ (List.mem_of_getElem? (i := 20) rfl)), List.forall_mem_cons.mpr ⟨(gcX10_equations__X10_equations_r2 _ (List.mem_of_getElem? (i := 21) rfl)), List.forall_mem_cons.mpr ⟨(gcX10_equations__X10_equations_r2 _ (List.mem_of_getElem? (i := 22) rfl)), List.forall_mem_cons.mpr ⟨(gcX10_equations__X10_equations_r2 _ (List.mem_of_getElem? (i := 23) rfl)), List.forall_mem_cons.mpr ⟨(gcX10_equations__X10_equations_r3 _ (List.mem_of_getElem? (i := 0) rfl)), List.forall_mem_cons.mpr ⟨(gcX10_equations__X10_equations_r3 _ (List.mem_of_getElem? (i := 1) rfl)), List.forall_mem_cons.mpr ⟨(gcX10_equations__X10_equations_r3 _ (List.mem_of_getElem? (i := 2) rfl)), List.forall_mem_cons.mpr ⟨(gcX10_equations__X10_equations_r3 _ (List.mem_of_getElem? (i := 3) rfl)), List.forall_mem_cons.mpr ⟨(gcX10_equations__X10_equations_r3 _ (List.mem_of_getElem? (i := 4) rfl)), List.forall_mem_cons.mpr ⟨(gcX10_equations__X10_equations_r3 _ (List.mem_of_getElem? (i := 5) rfl)), fun _ h => (List.not_mem_nil h).elim⟩⟩⟩⟩⟩⟩⟩⟩⟩⟩⟩
set_option maxRecDepth 20000 in
theorem gwX10_isUsed : wsX10_isUsed.all goodWord = true := by decide +kernel
set_option maxRecDepth 20000 in
theorem ggX10_equations_X10_isUsed : GoodIn wsX10_equations wsX10_isUsed := goodIn_sub (List.forall_mem_cons.mpr ⟨(gcX10_equations__X10_equations_r2 _ (List.mem_of_getElem? (i := 1) rfl)), List.forall_mem_append.mpr ⟨List.forall_mem_append.mpr ⟨gmX10_equations__X10_isUsed_r1, gmX10_equations__X10_isUsed_r2⟩, gcX10_equations__X100⟩⟩) gwX10_isUsed
set_option maxRecDepth 20000 in
theorem gX10_equations_X10_isUsed : GoodIn wsX10_equations (wsV RX10 384 RX10 yX10_isUsed wsX10_isUsed) := goodIn_app (goodIn_sub (List.forall_mem_cons.mpr ⟨(gcX10_equations__X10_equations_r1 _ (List.mem_of_getElem? (i := 22) rfl)), List.forall_mem_cons.mpr ⟨(gcX10_equations__X10_equations_r1 _ (List.mem_of_getElem? (i := 23) rfl)), List.forall_mem_cons.mpr ⟨(gcX10_equations__X10_equations_r2 _ (List.mem_of_getElem? (i := 0) rfl)), List.forall_mem_cons.mpr ⟨(gcX10_equations__X10_equations_r1 _ (List.mem_of_getElem? (i := 10) rfl)), fun _ h => (List.not_mem_nil h).elim⟩⟩⟩⟩) (by decide +kernel)) ggX10_equations_X10_isUsed
set_option maxRecDepth 20000 in
theorem ggX10_equations_X10_rows : GoodIn wsX10_equations wsX10_rows := goodIn_sub (List.forall_mem_cons.mpr ⟨(gcX10_equations__X10_equations_r2 _ (List.mem_of_getElem? (i := 19) rfl)), List.forall_mem_append.mpr ⟨List.forall_mem_cons.mpr ⟨(gcX10_equations__X10_equations_r1 _ (List.mem_of_getElem? (i := 1) rfl)), fun _ h => (List.not_mem_nil h).elim⟩, gcX10_equations__X100⟩⟩) gwX10_rows
set_option maxRecDepth 20000 in
theorem gX10_equations_X10_rows : GoodIn wsX10_equations (wsV RX10 265 RX10 yX10_rows wsX10_rows) := goodIn_app (goodIn_sub (List.forall_mem_cons.mpr ⟨(gcX10_equations__X10_equations_r2 _ (List.mem_of_getElem? (i := 16) rfl)), List.forall_mem_cons.mpr ⟨(gcX10_equations__X10_equations_r2 _ (List.mem_of_getElem? (i := 17) rfl)), List.forall_mem_cons.mpr ⟨(gcX10_equations__X10_equations_r2 _ (List.mem_of_getElem? (i := 18) rfl)), List.forall_mem_cons.mpr ⟨(gcX10_equations__X10_equations_r1 _ (List.mem_of_getElem? (i := 10) rfl)), fun _ h => (List.not_mem_nil h).elim⟩⟩⟩⟩) (by decide +kernel)) ggX10_equations_X10_rows
set_option maxRecDepth 20000 in
theorem ggX10_equations_X10_pictureOf : GoodIn wsX10_equations wsX10_pictureOf := goodIn_sub (List.forall_mem_cons.mpr ⟨(gcX10_equations__X10_equations_r2 _ (List.mem_of_getElem? (i := 23) rfl)), List.forall_mem_append.mpr ⟨List.forall_mem_cons.mpr ⟨(gcX10_equations__X10_equations_r3 _ (List.mem_of_getElem? (i := 0) rfl)), fun _ h => (List.not_mem_nil h).elim⟩, gcX10_equations__X100⟩⟩) gwX10_pictureOf
set_option maxRecDepth 20000 in
theorem gX10_equations_X10_pictureOf : GoodIn wsX10_equations (wsV RX10 274 RX10 yX10_pictureOf wsX10_pictureOf) := goodIn_app (goodIn_sub (List.forall_mem_cons.mpr ⟨(gcX10_equations__X10_equations_r2 _ (List.mem_of_getElem? (i := 20) rfl)), List.forall_mem_cons.mpr ⟨(gcX10_equations__X10_equations_r2 _ (List.mem_of_getElem? (i := 21) rfl)), List.forall_mem_cons.mpr ⟨(gcX10_equations__X10_equations_r2 _ (List.mem_of_getElem? (i := 22) rfl)), List.forall_mem_cons.mpr ⟨(gcX10_equations__X10_equations_r1 _ (List.mem_of_getElem? (i := 10) rfl)), fun _ h => (List.not_mem_nil h).elim⟩⟩⟩⟩) (by decide +kernel)) ggX10_equations_X10_pictureOf
set_option maxRecDepth 20000 in
theorem gwX10_numberOf : wsX10_numberOf.all goodWord = true := by decide +kernel
set_option maxRecDepth 20000 in
theorem ggX10_equations_X10_numberOf : GoodIn wsX10_equations wsX10_numberOf := goodIn_sub (List.forall_mem_cons.mpr ⟨(gcX10_equations__X10_equations_r3 _ (List.mem_of_getElem? (i := 9) rfl)), List.forall_mem_append.mpr ⟨List.forall_mem_cons.mpr ⟨(gcX10_equations__X10_equations_r1 _ (List.mem_of_getElem? (i := 0) rfl)), List.forall_mem_cons.mpr ⟨(gcX10_equations__X10_equations_r1 _ (List.mem_of_getElem? (i := 2) rfl)), fun _ h => (List.not_mem_nil h).elim⟩⟩, gcX10_equations__X100⟩⟩) gwX10_numberOf
set_option maxRecDepth 20000 in
theorem gX10_equations_X10_numberOf : GoodIn wsX10_equations (wsV RX10 387 RX10 yX10_numberOf wsX10_numberOf) := goodIn_app (goodIn_sub (List.forall_mem_cons.mpr ⟨(gcX10_equations__X10_equations_r3 _ (List.mem_of_getElem? (i := 6) rfl)), List.forall_mem_cons.mpr ⟨(gcX10_equations__X10_equations_r3 _ (List.mem_of_getElem? (i := 7) rfl)), List.forall_mem_cons.mpr ⟨(gcX10_equations__X10_equations_r3 _ (List.mem_of_getElem? (i := 8) rfl)), List.forall_mem_cons.mpr ⟨(gcX10_equations__X10_equations_r1 _ (List.mem_of_getElem? (i := 10) rfl)), fun _ h => (List.not_mem_nil h).elim⟩⟩⟩⟩) (by decide +kernel)) ggX10_equations_X10_numberOf
set_option maxRecDepth 20000 in
theorem ggX10_equations_X10_pointOf : GoodIn wsX10_equations wsX10_pointOf := goodIn_sub (List.forall_mem_cons.mpr ⟨(gcX10_equations__X10_equations_r3 _ (List.mem_of_getElem? (i := 4) rfl)), List.forall_mem_append.mpr ⟨List.forall_mem_cons.mpr ⟨(gcX10_equations__X10_equations_r3 _ (List.mem_of_getElem? (i := 5) rfl)), fun _ h => (List.not_mem_nil h).elim⟩, gcX10_equations__X100⟩⟩) gwX10_pointOf
set_option maxRecDepth 20000 in
theorem gX10_equations_X10_pointOf : GoodIn wsX10_equations (wsV RX10 281 RX10 yX10_pointOf wsX10_pointOf) := goodIn_app (goodIn_sub (List.forall_mem_cons.mpr ⟨(gcX10_equations__X10_equations_r3 _ (List.mem_of_getElem? (i := 1) rfl)), List.forall_mem_cons.mpr ⟨(gcX10_equations__X10_equations_r3 _ (List.mem_of_getElem? (i := 2) rfl)), List.forall_mem_cons.mpr ⟨(gcX10_equations__X10_equations_r3 _ (List.mem_of_getElem? (i := 3) rfl)), List.forall_mem_cons.mpr ⟨(gcX10_equations__X10_equations_r1 _ (List.mem_of_getElem? (i := 10) rfl)), fun _ h => (List.not_mem_nil h).elim⟩⟩⟩⟩) (by decide +kernel)) ggX10_equations_X10_pointOf
set_option maxRecDepth 20000 in
theorem ggX10_equations_X10_weightOf : GoodIn wsX10_equations wsX10_weightOf := goodIn_sub (List.forall_mem_cons.mpr ⟨(gcX10_equations__X10_equations_r3 _ (List.mem_of_getElem? (i := 13) rfl)), List.forall_mem_append.mpr ⟨List.forall_mem_cons.mpr ⟨(gcX10_equations__X10_equations_r3 _ (List.mem_of_getElem? (i := 14) rfl)), fun _ h => (List.not_mem_nil h).elim⟩, gcX10_equations__X100⟩⟩) gwX10_weightOf
set_option maxRecDepth 20000 in
theorem gX10_equations_X10_weightOf : GoodIn wsX10_equations (wsV RX10 325 RX10 yX10_weightOf wsX10_weightOf) := goodIn_app (goodIn_sub (List.forall_mem_cons.mpr ⟨(gcX10_equations__X10_equations_r3 _ (List.mem_of_getElem? (i := 10) rfl)), List.forall_mem_cons.mpr ⟨(gcX10_equations__X10_equations_r3 _ (List.mem_of_getElem? (i := 11) rfl)), List.forall_mem_cons.mpr ⟨(gcX10_equations__X10_equations_r3 _ (List.mem_of_getElem? (i := 12) rfl)), List.forall_mem_cons.mpr ⟨(gcX10_equations__X10_equations_r1 _ (List.mem_of_getElem? (i := 10) rfl)), fun _ h => (List.not_mem_nil h).elim⟩⟩⟩⟩) (by decide +kernel)) ggX10_equations_X10_weightOf
theorem gcX10_equations__X10_equations_r4 : ∀ w ∈ wsX10_equations_r4, w ∈ wsX10_equations := fun w h => List.mem_cons_of_mem _ (List.mem_append_left _ (List.mem_append_right _ (List.mem_append_right _ (List.mem_append_right _ (h)))))
set_option maxRecDepth 20000 in
theorem ggX10_equations_X10_turned : GoodIn wsX10_equations wsX10_turned := goodIn_sub (List.forall_mem_cons.mpr ⟨(gcX10_equations__X10_equations_r3 _ (List.mem_of_getElem? (i := 18) rfl)), List.forall_mem_append.mpr ⟨List.forall_mem_cons.mpr ⟨(gcX10_equations__X10_equations_r3 _ (List.mem_of_getElem? (i := 19) rfl)), List.forall_mem_cons.mpr ⟨(gcX10_equations__X10_equations_r2 _ (List.mem_of_getElem? (i := 20) rfl)), List.forall_mem_cons.mpr ⟨(gcX10_equations__X10_equations_r2 _ (List.mem_of_getElem? (i := 21) rfl)), List.forall_mem_cons.mpr ⟨(gcX10_equations__X10_equations_r2 _ (List.mem_of_getElem? (i := 22) rfl)), List.forall_mem_cons.mpr ⟨(gcX10_equations__X10_equations_r1 _ (List.mem_of_getElem? (i := 10) rfl)), List.forall_mem_cons.mpr ⟨(gcX10_equations__X10_equations_r2 _ (List.mem_of_getElem? (i := 23) rfl)), List.forall_mem_cons.mpr ⟨(gcX10_equations__X10_equations_r3 _ (List.mem_of_getElem? (i := 0) rfl)), List.forall_mem_cons.mpr ⟨(gcX10_equations__X10_equations_r3 _ (List.mem_of_getElem? (i := 20) rfl)), List.forall_mem_cons.mpr ⟨(gcX10_equations__X10_equations_r3 _ (List.mem_of_getElem? (i := 21) rfl)), List.forall_mem_cons.mpr ⟨(gcX10_equations__X10_equations_r3 _ (List.mem_of_getElem? (i := 22) rfl)), List.forall_mem_cons.mpr ⟨(gcX10_equations__X10_equations_r3 _ (List.mem_of_getElem? (i := 23) rfl)), List.forall_mem_cons.mpr ⟨(gcX10_equations__X10_equations_r4 _ (List.mem_of_getElem? (i := 0) rfl)), fun _ h => (List.not_mem_nil h).elim⟩⟩⟩⟩⟩⟩⟩⟩⟩⟩⟩⟩, gcX10_equations__X100⟩⟩) gwX10_turned
set_option maxRecDepth 20000 in
theorem gX10_equations_X10_turned : GoodIn wsX10_equations (wsV RX10 284 RX10 yX10_turned wsX10_turned) := goodIn_app (goodIn_sub (List.forall_mem_cons.mpr ⟨(gcX10_equations__X10_equations_r3 _ (List.mem_of_getElem? (i := 15) rfl)), List.forall_mem_cons.mpr ⟨(gcX10_equations__X10_equations_r3 _ (List.mem_of_getElem? (i := 16) rfl)), List.forall_mem_cons.mpr ⟨(gcX10_equations__X10_equations_r3 _ (List.mem_of_getElem? (i := 17) rfl)), List.forall_mem_cons.mpr ⟨(gcX10_equations__X10_equations_r1 _ (List.mem_of_getElem? (i := 10) rfl)), fun _ h => (List.not_mem_nil h).elim⟩⟩⟩⟩) (by decide +kernel)) ggX10_equations_X10_turned
set_option maxRecDepth 20000 in
theorem gwX10_addsTie : wsX10_addsTie.all goodWord = true := by decide +kernel
set_option maxRecDepth 20000 in
theorem ggX10_equations_X10_addsTie : GoodIn wsX10_equations wsX10_addsTie := goodIn_sub (List.forall_mem_cons.mpr ⟨(gcX10_equations__X10_equations_r4 _ (List.mem_of_getElem? (i := 4) rfl)), List.forall_mem_append.mpr ⟨List.forall_mem_cons.mpr ⟨(gcX10_equations__X10_equations_r4 _ (List.mem_of_getElem? (i := 5) rfl)), List.forall_mem_cons.mpr ⟨(gcX10_equations__X10_equations_r4 _ (List.mem_of_getElem? (i := 6) rfl)), List.forall_mem_cons.mpr ⟨(gcX10_equations__X10_equations_r4 _ (List.mem_of_getElem? (i := 7) rfl)), List.forall_mem_cons.mpr ⟨(gcX10_equations__X10_equations_r1 _ (List.mem_of_getElem? (i := 10) rfl)), List.forall_mem_cons.mpr ⟨(gcX10_equations__X10_equations_r4 _ (List.mem_of_getElem? (i := 8) rfl)), List.forall_mem_cons.mpr ⟨(gcX10_equations__X10_equations_r1 _ (List.mem_of_getElem? (i := 3) rfl)), List.forall_mem_cons.mpr ⟨(gcX10_equations__X10_equations_r4 _ (List.mem_of_getElem? (i := 9) rfl)), List.forall_mem_cons.mpr ⟨(gcX10_equations__X10_equations_r4 _ (List.mem_of_getElem? (i := 10) rfl)), List.forall_mem_cons.mpr ⟨(gcX10_equations__X10_equations_r4 _ (List.mem_of_getElem? (i := 11) rfl)), List.forall_mem_cons.mpr ⟨(gcX10_equations__X10_equations_r4 _ (List.mem_of_getElem? (i := 12) rfl)), fun _ h => (List.not_mem_nil h).elim⟩⟩⟩⟩⟩⟩⟩⟩⟩⟩, gcX10_equations__X100⟩⟩) gwX10_addsTie
set_option maxRecDepth 20000 in
theorem gX10_equations_X10_addsTie : GoodIn wsX10_equations (wsV RX10 390 RX10 yX10_addsTie wsX10_addsTie) := goodIn_app (goodIn_sub (List.forall_mem_cons.mpr ⟨(gcX10_equations__X10_equations_r4 _ (List.mem_of_getElem? (i := 1) rfl)), List.forall_mem_cons.mpr ⟨(gcX10_equations__X10_equations_r4 _ (List.mem_of_getElem? (i := 2) rfl)), List.forall_mem_cons.mpr ⟨(gcX10_equations__X10_equations_r4 _ (List.mem_of_getElem? (i := 3) rfl)), List.forall_mem_cons.mpr ⟨(gcX10_equations__X10_equations_r1 _ (List.mem_of_getElem? (i := 10) rfl)), fun _ h => (List.not_mem_nil h).elim⟩⟩⟩⟩) (by decide +kernel)) ggX10_equations_X10_addsTie
set_option maxRecDepth 20000 in
theorem ggX10_equations_X10_centreOf : GoodIn wsX10_equations wsX10_centreOf := goodIn_sub (List.forall_mem_cons.mpr ⟨(gcX10_equations__X10_equations_r2 _ (List.mem_of_getElem? (i := 14) rfl)), List.forall_mem_append.mpr ⟨List.forall_mem_cons.mpr ⟨(gcX10_equations__X10_equations_r2 _ (List.mem_of_getElem? (i := 15) rfl)), fun _ h => (List.not_mem_nil h).elim⟩, gcX10_equations__X100⟩⟩) gwX10_centreOf
set_option maxRecDepth 20000 in
theorem gX10_equations_X10_centreOf : GoodIn wsX10_equations (wsV RX10 271 RX10 yX10_centreOf wsX10_centreOf) := goodIn_app (goodIn_sub (List.forall_mem_cons.mpr ⟨(gcX10_equations__X10_equations_r2 _ (List.mem_of_getElem? (i := 11) rfl)), List.forall_mem_cons.mpr ⟨(gcX10_equations__X10_equations_r2 _ (List.mem_of_getElem? (i := 12) rfl)), List.forall_mem_cons.mpr ⟨(gcX10_equations__X10_equations_r2 _ (List.mem_of_getElem? (i := 13) rfl)), List.forall_mem_cons.mpr ⟨(gcX10_equations__X10_equations_r1 _ (List.mem_of_getElem? (i := 10) rfl)), fun _ h => (List.not_mem_nil h).elim⟩⟩⟩⟩) (by decide +kernel)) ggX10_equations_X10_centreOf
set_option maxRecDepth 20000 in
theorem ggX10_equations_X10_strip : GoodIn wsX10_equations wsX10_strip := goodIn_sub (List.forall_mem_cons.mpr ⟨(gcX10_equations__X10_equations_r2 _ (List.mem_of_getElem? (i := 9) rfl)), List.forall_mem_append.mpr ⟨List.forall_mem_cons.mpr ⟨(gcX10_equations__X10_equations_r2 _ (List.mem_of_getElem? (i := 10) rfl)), fun _ h => (List.not_mem_nil h).elim⟩, gcX10_equations__X100⟩⟩) gwX10_strip
set_option maxRecDepth 20000 in
theorem gX10_equations_X10_strip : GoodIn wsX10_equations (wsV RX10 268 RX10 yX10_strip wsX10_strip) := goodIn_app (goodIn_sub (List.forall_mem_cons.mpr ⟨(gcX10_equations__X10_equations_r2 _ (List.mem_of_getElem? (i := 6) rfl)), List.forall_mem_cons.mpr ⟨(gcX10_equations__X10_equations_r2 _ (List.mem_of_getElem? (i := 7) rfl)), List.forall_mem_cons.mpr ⟨(gcX10_equations__X10_equations_r2 _ (List.mem_of_getElem? (i := 8) rfl)), List.forall_mem_cons.mpr ⟨(gcX10_equations__X10_equations_r1 _ (List.mem_of_getElem? (i := 10) rfl)), fun _ h => (List.not_mem_nil h).elim⟩⟩⟩⟩) (by decide +kernel)) ggX10_equations_X10_strip
theorem dX10_equations_0 : decode cX10_equations 0 = .ok (.aload_n 0, 1) := by decide +kernel
theorem dX10_equations_1 : decode cX10_equations 1 = .ok (.iconst 0, 1) := by decide +kernel
theorem dX10_equations_2 : decode cX10_equations 2 = .ok (.putfield 381, 3) := by decide +kernel
theorem dX10_equations_5 : decode cX10_equations 5 = .ok (.iconst 0, 1) := by decide +kernel
theorem dX10_equations_6 : decode cX10_equations 6 = .ok (.istore_n 1, 1) := by decide +kernel
theorem dX10_equations_7 : decode cX10_equations 7 = .ok (.iload_n 1, 1) := by decide +kernel
theorem dX10_equations_8 : decode cX10_equations 8 = .ok (.bipush 38, 2) := by decide +kernel
theorem dX10_equations_10 : decode cX10_equations 10 = .ok (.if_icmp .ge 122, 3) := by decide +kernel
theorem dX10_equations_13 : decode cX10_equations 13 = .ok (.iload_n 1, 1) := by decide +kernel
theorem dX10_equations_14 : decode cX10_equations 14 = .ok (.bipush 12, 2) := by decide +kernel
theorem dX10_equations_16 : decode cX10_equations 16 = .ok (.if_icmp .ge 19, 3) := by decide +kernel
theorem dX10_equations_19 : decode cX10_equations 19 = .ok (.iload_n 1, 1) := by decide +kernel
theorem dX10_equations_20 : decode cX10_equations 20 = .ok (.aload_n 0, 1) := by decide +kernel
theorem dX10_equations_21 : decode cX10_equations 21 = .ok (.invokevirtual 259, 3) := by decide +kernel
theorem dX10_equations_24 : decode cX10_equations 24 = .ok (.if_icmp .ge 7, 3) := by decide +kernel
theorem dX10_equations_27 : decode cX10_equations 27 = .ok (.iconst 1, 1) := by decide +kernel
theorem dX10_equations_28 : decode cX10_equations 28 = .ok (.goto 62, 3) := by decide +kernel
theorem dX10_equations_31 : decode cX10_equations 31 = .ok (.iconst 0, 1) := by decide +kernel
theorem dX10_equations_32 : decode cX10_equations 32 = .ok (.goto 58, 3) := by decide +kernel
theorem dX10_equations_35 : decode cX10_equations 35 = .ok (.iload_n 1, 1) := by decide +kernel
theorem dX10_equations_36 : decode cX10_equations 36 = .ok (.bipush 32, 2) := by decide +kernel
theorem dX10_equations_38 : decode cX10_equations 38 = .ok (.if_icmp .ge 33, 3) := by decide +kernel
theorem dX10_equations_41 : decode cX10_equations 41 = .ok (.iload_n 1, 1) := by decide +kernel
theorem dX10_equations_42 : decode cX10_equations 42 = .ok (.bipush 12, 2) := by decide +kernel
theorem dX10_equations_44 : decode cX10_equations 44 = .ok (.isub, 1) := by decide +kernel
theorem dX10_equations_45 : decode cX10_equations 45 = .ok (.aload_n 0, 1) := by decide +kernel
theorem dX10_equations_46 : decode cX10_equations 46 = .ok (.invokevirtual 262, 3) := by decide +kernel
theorem dX10_equations_49 : decode cX10_equations 49 = .ok (.if_icmp .ge 18, 3) := by decide +kernel
theorem dX10_equations_52 : decode cX10_equations 52 = .ok (.aload_n 0, 1) := by decide +kernel
theorem dX10_equations_53 : decode cX10_equations 53 = .ok (.iload_n 1, 1) := by decide +kernel
theorem dX10_equations_54 : decode cX10_equations 54 = .ok (.bipush 12, 2) := by decide +kernel
theorem dX10_equations_56 : decode cX10_equations 56 = .ok (.isub, 1) := by decide +kernel
theorem dX10_equations_57 : decode cX10_equations 57 = .ok (.invokevirtual 287, 3) := by decide +kernel
theorem dX10_equations_60 : decode cX10_equations 60 = .ok (.ifCond .ne 7, 3) := by decide +kernel
theorem dX10_equations_63 : decode cX10_equations 63 = .ok (.iconst 1, 1) := by decide +kernel
theorem dX10_equations_64 : decode cX10_equations 64 = .ok (.goto 26, 3) := by decide +kernel
theorem dX10_equations_67 : decode cX10_equations 67 = .ok (.iconst 0, 1) := by decide +kernel
theorem dX10_equations_68 : decode cX10_equations 68 = .ok (.goto 22, 3) := by decide +kernel
theorem dX10_equations_71 : decode cX10_equations 71 = .ok (.iload_n 1, 1) := by decide +kernel
theorem dX10_equations_72 : decode cX10_equations 72 = .ok (.bipush 32, 2) := by decide +kernel
theorem dX10_equations_74 : decode cX10_equations 74 = .ok (.isub, 1) := by decide +kernel
theorem dX10_equations_75 : decode cX10_equations 75 = .ok (.aload_n 0, 1) := by decide +kernel
theorem dX10_equations_76 : decode cX10_equations 76 = .ok (.getfield 58, 3) := by decide +kernel
theorem dX10_equations_79 : decode cX10_equations 79 = .ok (.bipush 6, 2) := by decide +kernel
theorem dX10_equations_81 : decode cX10_equations 81 = .ok (.iaload, 1) := by decide +kernel
theorem dX10_equations_82 : decode cX10_equations 82 = .ok (.if_icmp .ge 7, 3) := by decide +kernel
theorem dX10_equations_85 : decode cX10_equations 85 = .ok (.iconst 1, 1) := by decide +kernel
theorem dX10_equations_86 : decode cX10_equations 86 = .ok (.goto 4, 3) := by decide +kernel
theorem dX10_equations_89 : decode cX10_equations 89 = .ok (.iconst 0, 1) := by decide +kernel
theorem dX10_equations_90 : decode cX10_equations 90 = .ok (.istore_n 2, 1) := by decide +kernel
theorem dX10_equations_91 : decode cX10_equations 91 = .ok (.iload_n 2, 1) := by decide +kernel
theorem dX10_equations_92 : decode cX10_equations 92 = .ok (.ifCond .eq 34, 3) := by decide +kernel
theorem dX10_equations_95 : decode cX10_equations 95 = .ok (.aload_n 0, 1) := by decide +kernel
theorem dX10_equations_96 : decode cX10_equations 96 = .ok (.iload_n 1, 1) := by decide +kernel
theorem dX10_equations_97 : decode cX10_equations 97 = .ok (.invokevirtual 384, 3) := by decide +kernel
theorem dX10_equations_100 : decode cX10_equations 100 = .ok (.ifCond .ne 6, 3) := by decide +kernel
theorem dX10_equations_103 : decode cX10_equations 103 = .ok (.goto 23, 3) := by decide +kernel
theorem dX10_equations_106 : decode cX10_equations 106 = .ok (.aload_n 0, 1) := by decide +kernel
theorem dX10_equations_107 : decode cX10_equations 107 = .ok (.getfield 107, 3) := by decide +kernel
theorem dX10_equations_110 : decode cX10_equations 110 = .ok (.aload_n 0, 1) := by decide +kernel
theorem dX10_equations_111 : decode cX10_equations 111 = .ok (.getfield 381, 3) := by decide +kernel
theorem dX10_equations_114 : decode cX10_equations 114 = .ok (.iload_n 1, 1) := by decide +kernel
theorem dX10_equations_115 : decode cX10_equations 115 = .ok (.iastore, 1) := by decide +kernel
theorem dX10_equations_116 : decode cX10_equations 116 = .ok (.aload_n 0, 1) := by decide +kernel
theorem dX10_equations_117 : decode cX10_equations 117 = .ok (.dup, 1) := by decide +kernel
theorem dX10_equations_118 : decode cX10_equations 118 = .ok (.getfield 381, 3) := by decide +kernel
theorem dX10_equations_121 : decode cX10_equations 121 = .ok (.iconst 1, 1) := by decide +kernel
theorem dX10_equations_122 : decode cX10_equations 122 = .ok (.iadd, 1) := by decide +kernel
theorem dX10_equations_123 : decode cX10_equations 123 = .ok (.putfield 381, 3) := by decide +kernel
theorem dX10_equations_126 : decode cX10_equations 126 = .ok (.iinc 1 1, 3) := by decide +kernel
theorem dX10_equations_129 : decode cX10_equations 129 = .ok (.goto (-122), 3) := by decide +kernel
theorem dX10_equations_132 : decode cX10_equations 132 = .ok (.iconst 0, 1) := by decide +kernel
theorem dX10_equations_133 : decode cX10_equations 133 = .ok (.istore_n 1, 1) := by decide +kernel
theorem dX10_equations_134 : decode cX10_equations 134 = .ok (.iload_n 1, 1) := by decide +kernel
theorem dX10_equations_135 : decode cX10_equations 135 = .ok (.sipush 1520, 3) := by decide +kernel
theorem dX10_equations_138 : decode cX10_equations 138 = .ok (.if_icmp .ge 16, 3) := by decide +kernel
theorem dX10_equations_141 : decode cX10_equations 141 = .ok (.aload_n 0, 1) := by decide +kernel
theorem dX10_equations_142 : decode cX10_equations 142 = .ok (.getfield 110, 3) := by decide +kernel
theorem dX10_equations_145 : decode cX10_equations 145 = .ok (.iload_n 1, 1) := by decide +kernel
theorem dX10_equations_146 : decode cX10_equations 146 = .ok (.lconst 0, 1) := by decide +kernel
theorem dX10_equations_147 : decode cX10_equations 147 = .ok (.lastore, 1) := by decide +kernel
theorem dX10_equations_148 : decode cX10_equations 148 = .ok (.iinc 1 1, 3) := by decide +kernel
theorem dX10_equations_151 : decode cX10_equations 151 = .ok (.goto (-17), 3) := by decide +kernel
theorem dX10_equations_154 : decode cX10_equations 154 = .ok (.iconst 0, 1) := by decide +kernel
theorem dX10_equations_155 : decode cX10_equations 155 = .ok (.istore_n 1, 1) := by decide +kernel
theorem dX10_equations_156 : decode cX10_equations 156 = .ok (.iload_n 1, 1) := by decide +kernel
theorem dX10_equations_157 : decode cX10_equations 157 = .ok (.aload_n 0, 1) := by decide +kernel
theorem dX10_equations_158 : decode cX10_equations 158 = .ok (.invokevirtual 265, 3) := by decide +kernel
theorem dX10_equations_161 : decode cX10_equations 161 = .ok (.if_icmp .ge 159, 3) := by decide +kernel
theorem dX10_equations_164 : decode cX10_equations 164 = .ok (.aload_n 0, 1) := by decide +kernel
theorem dX10_equations_165 : decode cX10_equations 165 = .ok (.getfield 91, 3) := by decide +kernel
theorem dX10_equations_168 : decode cX10_equations 168 = .ok (.iload_n 1, 1) := by decide +kernel
theorem dX10_equations_169 : decode cX10_equations 169 = .ok (.baload, 1) := by decide +kernel
theorem dX10_equations_170 : decode cX10_equations 170 = .ok (.ifCond .eq 6, 3) := by decide +kernel
theorem dX10_equations_173 : decode cX10_equations 173 = .ok (.goto 141, 3) := by decide +kernel
theorem dX10_equations_176 : decode cX10_equations 176 = .ok (.aload_n 0, 1) := by decide +kernel
theorem dX10_equations_177 : decode cX10_equations 177 = .ok (.aload_n 0, 1) := by decide +kernel
theorem dX10_equations_178 : decode cX10_equations 178 = .ok (.iload_n 1, 1) := by decide +kernel
theorem dX10_equations_179 : decode cX10_equations 179 = .ok (.invokevirtual 274, 3) := by decide +kernel
theorem dX10_equations_182 : decode cX10_equations 182 = .ok (.invokevirtual 387, 3) := by decide +kernel
theorem dX10_equations_185 : decode cX10_equations 185 = .ok (.istore_n 2, 1) := by decide +kernel
theorem dX10_equations_186 : decode cX10_equations 186 = .ok (.aload_n 0, 1) := by decide +kernel
theorem dX10_equations_187 : decode cX10_equations 187 = .ok (.bipush 12, 2) := by decide +kernel
theorem dX10_equations_189 : decode cX10_equations 189 = .ok (.aload_n 0, 1) := by decide +kernel
theorem dX10_equations_190 : decode cX10_equations 190 = .ok (.iload_n 1, 1) := by decide +kernel
theorem dX10_equations_191 : decode cX10_equations 191 = .ok (.invokevirtual 281, 3) := by decide +kernel
theorem dX10_equations_194 : decode cX10_equations 194 = .ok (.iadd, 1) := by decide +kernel
theorem dX10_equations_195 : decode cX10_equations 195 = .ok (.invokevirtual 387, 3) := by decide +kernel
theorem dX10_equations_198 : decode cX10_equations 198 = .ok (.istore_n 3, 1) := by decide +kernel
theorem dX10_equations_199 : decode cX10_equations 199 = .ok (.bipush 40, 2) := by decide +kernel
theorem dX10_equations_201 : decode cX10_equations 201 = .ok (.iconst 2, 1) := by decide +kernel
theorem dX10_equations_202 : decode cX10_equations 202 = .ok (.aload_n 0, 1) := by decide +kernel
theorem dX10_equations_203 : decode cX10_equations 203 = .ok (.iload_n 1, 1) := by decide +kernel
theorem dX10_equations_204 : decode cX10_equations 204 = .ok (.invokevirtual 281, 3) := by decide +kernel
theorem dX10_equations_207 : decode cX10_equations 207 = .ok (.imul, 1) := by decide +kernel
theorem dX10_equations_208 : decode cX10_equations 208 = .ok (.iadd, 1) := by decide +kernel
theorem dX10_equations_209 : decode cX10_equations 209 = .ok (.istore 4, 2) := by decide +kernel
theorem dX10_equations_211 : decode cX10_equations 211 = .ok (.iload_n 3, 1) := by decide +kernel
theorem dX10_equations_212 : decode cX10_equations 212 = .ok (.iconst (-1), 1) := by decide +kernel
theorem dX10_equations_213 : decode cX10_equations 213 = .ok (.if_icmp .ne 53, 3) := by decide +kernel
theorem dX10_equations_216 : decode cX10_equations 216 = .ok (.aload_n 0, 1) := by decide +kernel
theorem dX10_equations_217 : decode cX10_equations 217 = .ok (.iload_n 2, 1) := by decide +kernel
theorem dX10_equations_218 : decode cX10_equations 218 = .ok (.iconst (-1), 1) := by decide +kernel
theorem dX10_equations_219 : decode cX10_equations 219 = .ok (.aload_n 0, 1) := by decide +kernel
theorem dX10_equations_220 : decode cX10_equations 220 = .ok (.iload_n 1, 1) := by decide +kernel
theorem dX10_equations_221 : decode cX10_equations 221 = .ok (.invokevirtual 325, 3) := by decide +kernel
theorem dX10_equations_224 : decode cX10_equations 224 = .ok (.bipush 100, 2) := by decide +kernel
theorem dX10_equations_226 : decode cX10_equations 226 = .ok (.aload_n 0, 1) := by decide +kernel
theorem dX10_equations_227 : decode cX10_equations 227 = .ok (.getfield 76, 3) := by decide +kernel
theorem dX10_equations_230 : decode cX10_equations 230 = .ok (.iload 4, 2) := by decide +kernel
theorem dX10_equations_232 : decode cX10_equations 232 = .ok (.iaload, 1) := by decide +kernel
theorem dX10_equations_233 : decode cX10_equations 233 = .ok (.imul, 1) := by decide +kernel
theorem dX10_equations_234 : decode cX10_equations 234 = .ok (.aload_n 0, 1) := by decide +kernel
theorem dX10_equations_235 : decode cX10_equations 235 = .ok (.iload_n 1, 1) := by decide +kernel
theorem dX10_equations_236 : decode cX10_equations 236 = .ok (.iconst 0, 1) := by decide +kernel
theorem dX10_equations_237 : decode cX10_equations 237 = .ok (.invokevirtual 284, 3) := by decide +kernel
theorem dX10_equations_240 : decode cX10_equations 240 = .ok (.isub, 1) := by decide +kernel
theorem dX10_equations_241 : decode cX10_equations 241 = .ok (.bipush 100, 2) := by decide +kernel
theorem dX10_equations_243 : decode cX10_equations 243 = .ok (.aload_n 0, 1) := by decide +kernel
theorem dX10_equations_244 : decode cX10_equations 244 = .ok (.getfield 76, 3) := by decide +kernel
theorem dX10_equations_247 : decode cX10_equations 247 = .ok (.iload 4, 2) := by decide +kernel
theorem dX10_equations_249 : decode cX10_equations 249 = .ok (.iconst 1, 1) := by decide +kernel
theorem dX10_equations_250 : decode cX10_equations 250 = .ok (.iadd, 1) := by decide +kernel
theorem dX10_equations_251 : decode cX10_equations 251 = .ok (.iaload, 1) := by decide +kernel
theorem dX10_equations_252 : decode cX10_equations 252 = .ok (.imul, 1) := by decide +kernel
theorem dX10_equations_253 : decode cX10_equations 253 = .ok (.aload_n 0, 1) := by decide +kernel
theorem dX10_equations_254 : decode cX10_equations 254 = .ok (.iload_n 1, 1) := by decide +kernel
theorem dX10_equations_255 : decode cX10_equations 255 = .ok (.iconst 1, 1) := by decide +kernel
theorem dX10_equations_256 : decode cX10_equations 256 = .ok (.invokevirtual 284, 3) := by decide +kernel
theorem dX10_equations_259 : decode cX10_equations 259 = .ok (.isub, 1) := by decide +kernel
theorem dX10_equations_260 : decode cX10_equations 260 = .ok (.invokevirtual 390, 3) := by decide +kernel
theorem dX10_equations_263 : decode cX10_equations 263 = .ok (.goto 51, 3) := by decide +kernel
theorem dX10_equations_266 : decode cX10_equations 266 = .ok (.aload_n 0, 1) := by decide +kernel
theorem dX10_equations_267 : decode cX10_equations 267 = .ok (.iload_n 2, 1) := by decide +kernel
theorem dX10_equations_268 : decode cX10_equations 268 = .ok (.iload_n 3, 1) := by decide +kernel
theorem dX10_equations_269 : decode cX10_equations 269 = .ok (.aload_n 0, 1) := by decide +kernel
theorem dX10_equations_270 : decode cX10_equations 270 = .ok (.iload_n 1, 1) := by decide +kernel
theorem dX10_equations_271 : decode cX10_equations 271 = .ok (.invokevirtual 325, 3) := by decide +kernel
theorem dX10_equations_274 : decode cX10_equations 274 = .ok (.aload_n 0, 1) := by decide +kernel
theorem dX10_equations_275 : decode cX10_equations 275 = .ok (.iload_n 1, 1) := by decide +kernel
theorem dX10_equations_276 : decode cX10_equations 276 = .ok (.iconst 0, 1) := by decide +kernel
theorem dX10_equations_277 : decode cX10_equations 277 = .ok (.invokevirtual 284, 3) := by decide +kernel
theorem dX10_equations_280 : decode cX10_equations 280 = .ok (.ineg, 1) := by decide +kernel
theorem dX10_equations_281 : decode cX10_equations 281 = .ok (.aload_n 0, 1) := by decide +kernel
theorem dX10_equations_282 : decode cX10_equations 282 = .ok (.iload_n 1, 1) := by decide +kernel
theorem dX10_equations_283 : decode cX10_equations 283 = .ok (.iconst 1, 1) := by decide +kernel
theorem dX10_equations_284 : decode cX10_equations 284 = .ok (.invokevirtual 284, 3) := by decide +kernel
theorem dX10_equations_287 : decode cX10_equations 287 = .ok (.ineg, 1) := by decide +kernel
theorem dX10_equations_288 : decode cX10_equations 288 = .ok (.invokevirtual 390, 3) := by decide +kernel
theorem dX10_equations_291 : decode cX10_equations 291 = .ok (.aload_n 0, 1) := by decide +kernel
theorem dX10_equations_292 : decode cX10_equations 292 = .ok (.iload_n 3, 1) := by decide +kernel
theorem dX10_equations_293 : decode cX10_equations 293 = .ok (.iload_n 2, 1) := by decide +kernel
theorem dX10_equations_294 : decode cX10_equations 294 = .ok (.aload_n 0, 1) := by decide +kernel
theorem dX10_equations_295 : decode cX10_equations 295 = .ok (.iload_n 1, 1) := by decide +kernel
theorem dX10_equations_296 : decode cX10_equations 296 = .ok (.invokevirtual 325, 3) := by decide +kernel
theorem dX10_equations_299 : decode cX10_equations 299 = .ok (.aload_n 0, 1) := by decide +kernel
theorem dX10_equations_300 : decode cX10_equations 300 = .ok (.iload_n 1, 1) := by decide +kernel
theorem dX10_equations_301 : decode cX10_equations 301 = .ok (.iconst 0, 1) := by decide +kernel
theorem dX10_equations_302 : decode cX10_equations 302 = .ok (.invokevirtual 284, 3) := by decide +kernel
theorem dX10_equations_305 : decode cX10_equations 305 = .ok (.aload_n 0, 1) := by decide +kernel
theorem dX10_equations_306 : decode cX10_equations 306 = .ok (.iload_n 1, 1) := by decide +kernel
theorem dX10_equations_307 : decode cX10_equations 307 = .ok (.iconst 1, 1) := by decide +kernel
theorem dX10_equations_308 : decode cX10_equations 308 = .ok (.invokevirtual 284, 3) := by decide +kernel
theorem dX10_equations_311 : decode cX10_equations 311 = .ok (.invokevirtual 390, 3) := by decide +kernel
theorem dX10_equations_314 : decode cX10_equations 314 = .ok (.iinc 1 1, 3) := by decide +kernel
theorem dX10_equations_317 : decode cX10_equations 317 = .ok (.goto (-161), 3) := by decide +kernel
theorem dX10_equations_320 : decode cX10_equations 320 = .ok (.iconst 0, 1) := by decide +kernel
theorem dX10_equations_321 : decode cX10_equations 321 = .ok (.istore_n 1, 1) := by decide +kernel
theorem dX10_equations_322 : decode cX10_equations 322 = .ok (.iload_n 1, 1) := by decide +kernel
theorem dX10_equations_323 : decode cX10_equations 323 = .ok (.aload_n 0, 1) := by decide +kernel
theorem dX10_equations_324 : decode cX10_equations 324 = .ok (.invokevirtual 259, 3) := by decide +kernel
theorem dX10_equations_327 : decode cX10_equations 327 = .ok (.if_icmp .ge 117, 3) := by decide +kernel
theorem dX10_equations_330 : decode cX10_equations 330 = .ok (.aload_n 0, 1) := by decide +kernel
theorem dX10_equations_331 : decode cX10_equations 331 = .ok (.iload_n 1, 1) := by decide +kernel
theorem dX10_equations_332 : decode cX10_equations 332 = .ok (.invokevirtual 271, 3) := by decide +kernel
theorem dX10_equations_335 : decode cX10_equations 335 = .ok (.ifCond .ne 6, 3) := by decide +kernel
theorem dX10_equations_338 : decode cX10_equations 338 = .ok (.goto 100, 3) := by decide +kernel
theorem dX10_equations_341 : decode cX10_equations 341 = .ok (.aload_n 0, 1) := by decide +kernel
theorem dX10_equations_342 : decode cX10_equations 342 = .ok (.iload_n 1, 1) := by decide +kernel
theorem dX10_equations_343 : decode cX10_equations 343 = .ok (.invokevirtual 387, 3) := by decide +kernel
theorem dX10_equations_346 : decode cX10_equations 346 = .ok (.istore_n 2, 1) := by decide +kernel
theorem dX10_equations_347 : decode cX10_equations 347 = .ok (.aload_n 0, 1) := by decide +kernel
theorem dX10_equations_348 : decode cX10_equations 348 = .ok (.bipush 32, 2) := by decide +kernel
theorem dX10_equations_350 : decode cX10_equations 350 = .ok (.aload_n 0, 1) := by decide +kernel
theorem dX10_equations_351 : decode cX10_equations 351 = .ok (.iload_n 1, 1) := by decide +kernel
theorem dX10_equations_352 : decode cX10_equations 352 = .ok (.invokevirtual 268, 3) := by decide +kernel
theorem dX10_equations_355 : decode cX10_equations 355 = .ok (.iadd, 1) := by decide +kernel
theorem dX10_equations_356 : decode cX10_equations 356 = .ok (.invokevirtual 387, 3) := by decide +kernel
theorem dX10_equations_359 : decode cX10_equations 359 = .ok (.istore_n 3, 1) := by decide +kernel
theorem dX10_equations_360 : decode cX10_equations 360 = .ok (.aload_n 0, 1) := by decide +kernel
theorem dX10_equations_361 : decode cX10_equations 361 = .ok (.iload_n 2, 1) := by decide +kernel
theorem dX10_equations_362 : decode cX10_equations 362 = .ok (.iload_n 3, 1) := by decide +kernel
theorem dX10_equations_363 : decode cX10_equations 363 = .ok (.aload_n 0, 1) := by decide +kernel
theorem dX10_equations_364 : decode cX10_equations 364 = .ok (.iload_n 1, 1) := by decide +kernel
theorem dX10_equations_365 : decode cX10_equations 365 = .ok (.invokevirtual 271, 3) := by decide +kernel
theorem dX10_equations_368 : decode cX10_equations 368 = .ok (.bipush 100, 2) := by decide +kernel
theorem dX10_equations_370 : decode cX10_equations 370 = .ok (.aload_n 0, 1) := by decide +kernel
theorem dX10_equations_371 : decode cX10_equations 371 = .ok (.getfield 70, 3) := by decide +kernel
theorem dX10_equations_374 : decode cX10_equations 374 = .ok (.bipush 24, 2) := by decide +kernel
theorem dX10_equations_376 : decode cX10_equations 376 = .ok (.iconst 2, 1) := by decide +kernel
theorem dX10_equations_377 : decode cX10_equations 377 = .ok (.iload_n 1, 1) := by decide +kernel
theorem dX10_equations_378 : decode cX10_equations 378 = .ok (.imul, 1) := by decide +kernel
theorem dX10_equations_379 : decode cX10_equations 379 = .ok (.iadd, 1) := by decide +kernel
theorem dX10_equations_380 : decode cX10_equations 380 = .ok (.iaload, 1) := by decide +kernel
theorem dX10_equations_381 : decode cX10_equations 381 = .ok (.imul, 1) := by decide +kernel
theorem dX10_equations_382 : decode cX10_equations 382 = .ok (.bipush 100, 2) := by decide +kernel
theorem dX10_equations_384 : decode cX10_equations 384 = .ok (.aload_n 0, 1) := by decide +kernel
theorem dX10_equations_385 : decode cX10_equations 385 = .ok (.getfield 70, 3) := by decide +kernel
theorem dX10_equations_388 : decode cX10_equations 388 = .ok (.bipush 25, 2) := by decide +kernel
theorem dX10_equations_390 : decode cX10_equations 390 = .ok (.iconst 2, 1) := by decide +kernel
theorem dX10_equations_391 : decode cX10_equations 391 = .ok (.iload_n 1, 1) := by decide +kernel
theorem dX10_equations_392 : decode cX10_equations 392 = .ok (.imul, 1) := by decide +kernel
theorem dX10_equations_393 : decode cX10_equations 393 = .ok (.iadd, 1) := by decide +kernel
theorem dX10_equations_394 : decode cX10_equations 394 = .ok (.iaload, 1) := by decide +kernel
theorem dX10_equations_395 : decode cX10_equations 395 = .ok (.imul, 1) := by decide +kernel
theorem dX10_equations_396 : decode cX10_equations 396 = .ok (.invokevirtual 390, 3) := by decide +kernel
theorem dX10_equations_399 : decode cX10_equations 399 = .ok (.aload_n 0, 1) := by decide +kernel
theorem dX10_equations_400 : decode cX10_equations 400 = .ok (.iload_n 3, 1) := by decide +kernel
theorem dX10_equations_401 : decode cX10_equations 401 = .ok (.iload_n 2, 1) := by decide +kernel
theorem dX10_equations_402 : decode cX10_equations 402 = .ok (.aload_n 0, 1) := by decide +kernel
theorem dX10_equations_403 : decode cX10_equations 403 = .ok (.iload_n 1, 1) := by decide +kernel
theorem dX10_equations_404 : decode cX10_equations 404 = .ok (.invokevirtual 271, 3) := by decide +kernel
theorem dX10_equations_407 : decode cX10_equations 407 = .ok (.bipush (-100), 2) := by decide +kernel
theorem dX10_equations_409 : decode cX10_equations 409 = .ok (.aload_n 0, 1) := by decide +kernel
theorem dX10_equations_410 : decode cX10_equations 410 = .ok (.getfield 70, 3) := by decide +kernel
theorem dX10_equations_413 : decode cX10_equations 413 = .ok (.bipush 24, 2) := by decide +kernel
theorem dX10_equations_415 : decode cX10_equations 415 = .ok (.iconst 2, 1) := by decide +kernel
theorem dX10_equations_416 : decode cX10_equations 416 = .ok (.iload_n 1, 1) := by decide +kernel
theorem dX10_equations_417 : decode cX10_equations 417 = .ok (.imul, 1) := by decide +kernel
theorem dX10_equations_418 : decode cX10_equations 418 = .ok (.iadd, 1) := by decide +kernel
theorem dX10_equations_419 : decode cX10_equations 419 = .ok (.iaload, 1) := by decide +kernel
theorem dX10_equations_420 : decode cX10_equations 420 = .ok (.imul, 1) := by decide +kernel
theorem dX10_equations_421 : decode cX10_equations 421 = .ok (.bipush (-100), 2) := by decide +kernel
theorem dX10_equations_423 : decode cX10_equations 423 = .ok (.aload_n 0, 1) := by decide +kernel
theorem dX10_equations_424 : decode cX10_equations 424 = .ok (.getfield 70, 3) := by decide +kernel
theorem dX10_equations_427 : decode cX10_equations 427 = .ok (.bipush 25, 2) := by decide +kernel
theorem dX10_equations_429 : decode cX10_equations 429 = .ok (.iconst 2, 1) := by decide +kernel
theorem dX10_equations_430 : decode cX10_equations 430 = .ok (.iload_n 1, 1) := by decide +kernel
theorem dX10_equations_431 : decode cX10_equations 431 = .ok (.imul, 1) := by decide +kernel
theorem dX10_equations_432 : decode cX10_equations 432 = .ok (.iadd, 1) := by decide +kernel
theorem dX10_equations_433 : decode cX10_equations 433 = .ok (.iaload, 1) := by decide +kernel
theorem dX10_equations_434 : decode cX10_equations 434 = .ok (.imul, 1) := by decide +kernel
theorem dX10_equations_435 : decode cX10_equations 435 = .ok (.invokevirtual 390, 3) := by decide +kernel
theorem dX10_equations_438 : decode cX10_equations 438 = .ok (.iinc 1 1, 3) := by decide +kernel
theorem dX10_equations_441 : decode cX10_equations 441 = .ok (.goto (-119), 3) := by decide +kernel
theorem dX10_equations_444 : decode cX10_equations 444 = .ok (.return_, 1) := by decide +kernel
theorem dX10_inverse_0 : decode cX10_inverse 0 = .ok (.lconst 1, 1) := by decide +kernel
theorem dX10_inverse_1 : decode cX10_inverse 1 = .ok (.lstore_n 2, 1) := by decide +kernel
theorem dX10_inverse_2 : decode cX10_inverse 2 = .ok (.lload_n 0, 1) := by decide +kernel
theorem dX10_inverse_3 : decode cX10_inverse 3 = .ok (.lstore 4, 2) := by decide +kernel
theorem dX10_inverse_5 : decode cX10_inverse 5 = .ok (.ldc2_w 394, 3) := by decide +kernel
theorem dX10_inverse_8 : decode cX10_inverse 8 = .ok (.lstore 6, 2) := by decide +kernel
theorem dX10_inverse_10 : decode cX10_inverse 10 = .ok (.lload 6, 2) := by decide +kernel
theorem dX10_inverse_12 : decode cX10_inverse 12 = .ok (.lconst 0, 1) := by decide +kernel
theorem dX10_inverse_13 : decode cX10_inverse 13 = .ok (.lcmp, 1) := by decide +kernel
theorem dX10_inverse_14 : decode cX10_inverse 14 = .ok (.ifCond .le 45, 3) := by decide +kernel
theorem dX10_inverse_17 : decode cX10_inverse 17 = .ok (.lload 6, 2) := by decide +kernel
theorem dX10_inverse_19 : decode cX10_inverse 19 = .ok (.ldc2_w 339, 3) := by decide +kernel
theorem dX10_inverse_22 : decode cX10_inverse 22 = .ok (.lrem, 1) := by decide +kernel
theorem dX10_inverse_23 : decode cX10_inverse 23 = .ok (.lconst 1, 1) := by decide +kernel
theorem dX10_inverse_24 : decode cX10_inverse 24 = .ok (.lcmp, 1) := by decide +kernel
theorem dX10_inverse_25 : decode cX10_inverse 25 = .ok (.ifCond .ne 12, 3) := by decide +kernel
theorem dX10_inverse_28 : decode cX10_inverse 28 = .ok (.lload_n 2, 1) := by decide +kernel
theorem dX10_inverse_29 : decode cX10_inverse 29 = .ok (.lload 4, 2) := by decide +kernel
theorem dX10_inverse_31 : decode cX10_inverse 31 = .ok (.lmul, 1) := by decide +kernel
theorem dX10_inverse_32 : decode cX10_inverse 32 = .ok (.ldc2_w 371, 3) := by decide +kernel
theorem dX10_inverse_35 : decode cX10_inverse 35 = .ok (.lrem, 1) := by decide +kernel
theorem dX10_inverse_36 : decode cX10_inverse 36 = .ok (.lstore_n 2, 1) := by decide +kernel
theorem dX10_inverse_37 : decode cX10_inverse 37 = .ok (.lload 4, 2) := by decide +kernel
theorem dX10_inverse_39 : decode cX10_inverse 39 = .ok (.lload 4, 2) := by decide +kernel
theorem dX10_inverse_41 : decode cX10_inverse 41 = .ok (.lmul, 1) := by decide +kernel
theorem dX10_inverse_42 : decode cX10_inverse 42 = .ok (.ldc2_w 371, 3) := by decide +kernel
theorem dX10_inverse_45 : decode cX10_inverse 45 = .ok (.lrem, 1) := by decide +kernel
theorem dX10_inverse_46 : decode cX10_inverse 46 = .ok (.lstore 4, 2) := by decide +kernel
theorem dX10_inverse_48 : decode cX10_inverse 48 = .ok (.lload 6, 2) := by decide +kernel
theorem dX10_inverse_50 : decode cX10_inverse 50 = .ok (.ldc2_w 339, 3) := by decide +kernel
theorem dX10_inverse_53 : decode cX10_inverse 53 = .ok (.ldiv, 1) := by decide +kernel
theorem dX10_inverse_54 : decode cX10_inverse 54 = .ok (.lstore 6, 2) := by decide +kernel
theorem dX10_inverse_56 : decode cX10_inverse 56 = .ok (.goto (-46), 3) := by decide +kernel
theorem dX10_inverse_59 : decode cX10_inverse 59 = .ok (.lload_n 2, 1) := by decide +kernel
theorem dX10_inverse_60 : decode cX10_inverse 60 = .ok (.lreturn, 1) := by decide +kernel
theorem dX10_swaps_0 : decode cX10_swaps 0 = .ok (.iconst 0, 1) := by decide +kernel
theorem dX10_swaps_1 : decode cX10_swaps 1 = .ok (.istore_n 3, 1) := by decide +kernel
theorem dX10_swaps_2 : decode cX10_swaps 2 = .ok (.iload_n 3, 1) := by decide +kernel
theorem dX10_swaps_3 : decode cX10_swaps 3 = .ok (.bipush 40, 2) := by decide +kernel
theorem dX10_swaps_5 : decode cX10_swaps 5 = .ok (.if_icmp .ge 57, 3) := by decide +kernel
theorem dX10_swaps_8 : decode cX10_swaps 8 = .ok (.aload_n 0, 1) := by decide +kernel
theorem dX10_swaps_9 : decode cX10_swaps 9 = .ok (.getfield 110, 3) := by decide +kernel
theorem dX10_swaps_12 : decode cX10_swaps 12 = .ok (.bipush 40, 2) := by decide +kernel
theorem dX10_swaps_14 : decode cX10_swaps 14 = .ok (.iload_n 1, 1) := by decide +kernel
theorem dX10_swaps_15 : decode cX10_swaps 15 = .ok (.imul, 1) := by decide +kernel
theorem dX10_swaps_16 : decode cX10_swaps 16 = .ok (.iload_n 3, 1) := by decide +kernel
theorem dX10_swaps_17 : decode cX10_swaps 17 = .ok (.iadd, 1) := by decide +kernel
theorem dX10_swaps_18 : decode cX10_swaps 18 = .ok (.laload, 1) := by decide +kernel
theorem dX10_swaps_19 : decode cX10_swaps 19 = .ok (.lstore 4, 2) := by decide +kernel
theorem dX10_swaps_21 : decode cX10_swaps 21 = .ok (.aload_n 0, 1) := by decide +kernel
theorem dX10_swaps_22 : decode cX10_swaps 22 = .ok (.getfield 110, 3) := by decide +kernel
theorem dX10_swaps_25 : decode cX10_swaps 25 = .ok (.bipush 40, 2) := by decide +kernel
theorem dX10_swaps_27 : decode cX10_swaps 27 = .ok (.iload_n 1, 1) := by decide +kernel
theorem dX10_swaps_28 : decode cX10_swaps 28 = .ok (.imul, 1) := by decide +kernel
theorem dX10_swaps_29 : decode cX10_swaps 29 = .ok (.iload_n 3, 1) := by decide +kernel
theorem dX10_swaps_30 : decode cX10_swaps 30 = .ok (.iadd, 1) := by decide +kernel
theorem dX10_swaps_31 : decode cX10_swaps 31 = .ok (.aload_n 0, 1) := by decide +kernel
theorem dX10_swaps_32 : decode cX10_swaps 32 = .ok (.getfield 110, 3) := by decide +kernel
theorem dX10_swaps_35 : decode cX10_swaps 35 = .ok (.bipush 40, 2) := by decide +kernel
theorem dX10_swaps_37 : decode cX10_swaps 37 = .ok (.iload_n 2, 1) := by decide +kernel
theorem dX10_swaps_38 : decode cX10_swaps 38 = .ok (.imul, 1) := by decide +kernel
theorem dX10_swaps_39 : decode cX10_swaps 39 = .ok (.iload_n 3, 1) := by decide +kernel
theorem dX10_swaps_40 : decode cX10_swaps 40 = .ok (.iadd, 1) := by decide +kernel
theorem dX10_swaps_41 : decode cX10_swaps 41 = .ok (.laload, 1) := by decide +kernel
theorem dX10_swaps_42 : decode cX10_swaps 42 = .ok (.lastore, 1) := by decide +kernel
theorem dX10_swaps_43 : decode cX10_swaps 43 = .ok (.aload_n 0, 1) := by decide +kernel
theorem dX10_swaps_44 : decode cX10_swaps 44 = .ok (.getfield 110, 3) := by decide +kernel
theorem dX10_swaps_47 : decode cX10_swaps 47 = .ok (.bipush 40, 2) := by decide +kernel
theorem dX10_swaps_49 : decode cX10_swaps 49 = .ok (.iload_n 2, 1) := by decide +kernel
theorem dX10_swaps_50 : decode cX10_swaps 50 = .ok (.imul, 1) := by decide +kernel
theorem dX10_swaps_51 : decode cX10_swaps 51 = .ok (.iload_n 3, 1) := by decide +kernel
theorem dX10_swaps_52 : decode cX10_swaps 52 = .ok (.iadd, 1) := by decide +kernel
theorem dX10_swaps_53 : decode cX10_swaps 53 = .ok (.lload 4, 2) := by decide +kernel
theorem dX10_swaps_55 : decode cX10_swaps 55 = .ok (.lastore, 1) := by decide +kernel
theorem dX10_swaps_56 : decode cX10_swaps 56 = .ok (.iinc 3 1, 3) := by decide +kernel
theorem dX10_swaps_59 : decode cX10_swaps 59 = .ok (.goto (-57), 3) := by decide +kernel
theorem dX10_swaps_62 : decode cX10_swaps 62 = .ok (.return_, 1) := by decide +kernel
theorem gcX10_isSolved__X10_isSolved_r1 : ∀ w ∈ wsX10_isSolved_r1, w ∈ wsX10_isSolved := fun w h => List.mem_cons_of_mem _ (List.mem_append_left _ (List.mem_append_left _ (h)))
theorem gcX10_isSolved__X10_isSolved_r2 : ∀ w ∈ wsX10_isSolved_r2, w ∈ wsX10_isSolved := fun w h => List.mem_cons_of_mem _ (List.mem_append_left _ (List.mem_append_right _ (List.mem_append_left _ (h))))
set_option maxRecDepth 20000 in
theorem gmX10_isSolved__X10_equations_r1 : ∀ w ∈ wsX10_equations_r1, w ∈ wsX10_isSolved := List.forall_mem_cons.mpr ⟨(gcX10_isSolved__X10_isSolved_r1 _ (List.mem_of_getElem? (i := 0) rfl)), List.forall_mem_cons.mpr ⟨(gcX10_isSolved__X10_isSolved_r1 _ (List.mem_of_getElem? (i := 8) rfl)), List.forall_mem_cons.mpr ⟨(gcX10_isSolved__X10_isSolved_r1 _ (List.mem_of_getElem? (i := 9) rfl)), List.forall_mem_cons.mpr ⟨(gcX10_isSolved__X10_isSolved_r1 _ (List.mem_of_getElem? (i := 1) rfl)), List.forall_mem_cons.mpr ⟨(gcX10_isSolved__X10_isSolved_r1 _ (List.mem_of_getElem? (i := 10) rfl)), List.forall_mem_cons.mpr ⟨(gcX10_isSolved__X10_isSolved_r1 _ (List.mem_of_getElem? (i := 11) rfl)), List.forall_mem_cons.mpr ⟨(gcX10_isSolved__X10_isSolved_r1 _ (List.mem_of_getElem? (i := 12) rfl)), List.forall_mem_cons.mpr ⟨(gcX10_isSolved__X10_isSolved_r1 _ (List.mem_of_getElem? (i := 13) rfl)), List.forall_mem_cons.mpr ⟨(gcX10_isSolved__X10_isSolved_r1 _ (List.mem_of_getElem? (i := 14) rfl)), List.forall_mem_cons.mpr ⟨(gcX10_isSolved__X10_isSolved_r1 _ (List.mem_of_getElem? (i := 15) rfl)), List.forall_mem_cons.mpr ⟨(gcX10_isSolved__X10_isSolved_r1 _ (List.mem_of_getElem? (i := 6) rfl)), List.forall_mem_cons.mpr ⟨(gcX10_isSolved__X10_isSolved_r1 _ (List.mem_of_getElem? (i := 16) rfl)), List.forall_mem_cons.mpr ⟨(gcX10_isSolved__X10_isSolved_r1 _ (List.mem_of_getElem? (i := 17) rfl)), List.forall_mem_cons.mpr ⟨(gcX10_isSolved__X10_isSolved_r1 _ (List.mem_of_getElem? (i := 18) rfl)), List.forall_mem_cons.mpr ⟨(gcX10_isSolved__X10_isSolved_r1 _ (List.mem_of_getElem? (i := 19) rfl)), List.forall_mem_cons.mpr ⟨(gcX10_isSolved__X10_isSolved_r1 _ (List.mem_of_getElem? (i := 20) rfl)), List.forall_mem_cons.mpr ⟨(gcX10_isSolved__X10_isSolved_r1 _ (List.mem_of_getElem? (i := 21) rfl)), List.forall_mem_cons.mpr ⟨(gcX10_isSolved__X10_isSolved_r1 _ (List.mem_of_getElem? (i := 22) rfl)), List.forall_mem_cons.mpr ⟨(gcX10_isSolved__X10_isSolved_r1 _ (List.mem_of_getElem? (i := 23) rfl)), List.forall_mem_cons.mpr ⟨(gcX10_isSolved__X10_isSolved_r2 _ (List.mem_of_getElem? (i := 0) rfl)), List.forall_mem_cons.mpr ⟨(gcX10_isSolved__X10_isSolved_r2 _ (List.mem_of_getElem? (i := 1) rfl)), List.forall_mem_cons.mpr ⟨(gcX10_isSolved__X10_isSolved_r2 _ (List.mem_of_getElem? (i := 2) rfl)), List.forall_mem_cons.mpr ⟨(gcX10_isSolved__X10_isSolved_r2 _ (List.mem_of_getElem? (i := 3) rfl)), List.forall_mem_cons.mpr ⟨(gcX10_isSolved__X10_isSolved_r2 _ (List.mem_of_getElem? (i := 4) rfl)), fun _ h => (List.not_mem_nil h).elim⟩⟩⟩⟩⟩⟩⟩⟩⟩⟩⟩⟩⟩⟩⟩⟩⟩⟩⟩⟩⟩⟩⟩⟩
theorem gcX10_isSolved__X10_isSolved_r3 : ∀ w ∈ wsX10_isSolved_r3, w ∈ wsX10_isSolved := fun w h => List.mem_cons_of_mem _ (List.mem_append_left _ (List.mem_append_right _ (List.mem_append_right _ (List.mem_append_left _ (h)))))
set_option maxRecDepth 20000 in
theorem gmX10_isSolved__X10_equations_r2 : ∀ w ∈ wsX10_equations_r2, w ∈ wsX10_isSolved := List.forall_mem_cons.mpr ⟨(gcX10_isSolved__X10_isSolved_r2 _ (List.mem_of_getElem? (i := 5) rfl)), List.forall_mem_cons.mpr ⟨(gcX10_isSolved__X10_isSolved_r2 _ (List.mem_of_getElem? (i := 6) rfl)), List.forall_mem_cons.mpr ⟨(gcX10_isSolved__X10_isSolved_r2 _ (List.mem_of_getElem? (i := 7) rfl)), List.forall_mem_cons.mpr ⟨(gcX10_isSolved__X10_isSolved_r2 _ (List.mem_of_getElem? (i := 8) rfl)), List.forall_mem_cons.mpr ⟨(gcX10_isSolved__X10_isSolved_r2 _ (List.mem_of_getElem? (i := 9) rfl)), List.forall_mem_cons.mpr ⟨(gcX10_isSolved__X10_isSolved_r2 _ (List.mem_of_getElem? (i := 10) rfl)), List.forall_mem_cons.mpr ⟨(gcX10_isSolved__X10_isSolved_r2 _ (List.mem_of_getElem? (i := 11) rfl)), List.forall_mem_cons.mpr ⟨(gcX10_isSolved__X10_isSolved_r2 _ (List.mem_of_getElem? (i := 12) rfl)), List.forall_mem_cons.mpr ⟨(gcX10_isSolved__X10_isSolved_r2 _ (List.mem_of_getElem? (i := 13) rfl)), List.forall_mem_cons.mpr ⟨(gcX10_isSolved__X10_isSolved_r2 _ (List.mem_of_getElem? (i := 14) rfl)), List.forall_mem_cons.mpr ⟨(gcX10_isSolved__X10_isSolved_r2 _ (List.mem_of_getElem? (i := 15) rfl)), List.forall_mem_cons.mpr ⟨(gcX10_isSolved__X10_isSolved_r2 _ (List.mem_of_getElem? (i := 16) rfl)), List.forall_mem_cons.mpr ⟨(gcX10_isSolved__X10_isSolved_r2 _ (List.mem_of_getElem? (i := 17) rfl)), List.forall_mem_cons.mpr ⟨(gcX10_isSolved__X10_isSolved_r2 _ (List.mem_of_getElem? (i := 18) rfl)), List.forall_mem_cons.mpr ⟨(gcX10_isSolved__X10_isSolved_r2 _ (List.mem_of_getElem? (i := 19) rfl)), List.forall_mem_cons.mpr ⟨(gcX10_isSolved__X10_isSolved_r2 _ (List.mem_of_getElem? (i := 20) rfl)), List.forall_mem_cons.mpr ⟨(gcX10_isSolved__X10_isSolved_r2 _ (List.mem_of_getElem? (i := 21) rfl)), List.forall_mem_cons.mpr ⟨(gcX10_isSolved__X10_isSolved_r2 _ (List.mem_of_getElem? (i := 22) rfl)), List.forall_mem_cons.mpr ⟨(gcX10_isSolved__X10_isSolved_r2 _ (List.mem_of_getElem? (i := 23) rfl)), List.forall_mem_cons.mpr ⟨(gcX10_isSolved__X10_isSolved_r3 _ (List.mem_of_getElem? (i := 0) rfl)), List.forall_mem_cons.mpr ⟨(gcX10_isSolved__X10_isSolved_r3 _ (List.mem_of_getElem? (i := 1) rfl)), List.forall_mem_cons.mpr ⟨(gcX10_isSolved__X10_isSolved_r3 _ (List.mem_of_getElem? (i := 2) rfl)), List.forall_mem_cons.mpr ⟨(gcX10_isSolved__X10_isSolved_r3 _ (List.mem_of_getElem? (i := 3) rfl)), List.forall_mem_cons.mpr ⟨(gcX10_isSolved__X10_isSolved_r3 _ (List.mem_of_getElem? (i := 4) rfl)), fun _ h => (List.not_mem_nil h).elim⟩⟩⟩⟩⟩⟩⟩⟩⟩⟩⟩⟩⟩⟩⟩⟩⟩⟩⟩⟩⟩⟩⟩⟩
theorem gcX10_isSolved__X10_isSolved_r4 : ∀ w ∈ wsX10_isSolved_r4, w ∈ wsX10_isSolved := fun w h => List.mem_cons_of_mem _ (List.mem_append_left _ (List.mem_append_right _ (List.mem_append_right _ (List.mem_append_right _ (List.mem_append_left _ (h))))))
set_option maxRecDepth 20000 in
theorem gmX10_isSolved__X10_equations_r3 : ∀ w ∈ wsX10_equations_r3, w ∈ wsX10_isSolved := List.forall_mem_cons.mpr ⟨(gcX10_isSolved__X10_isSolved_r3 _ (List.mem_of_getElem? (i := 5) rfl)), List.forall_mem_cons.mpr ⟨(gcX10_isSolved__X10_isSolved_r3 _ (List.mem_of_getElem? (i := 6) rfl)), List.forall_mem_cons.mpr ⟨(gcX10_isSolved__X10_isSolved_r3 _ (List.mem_of_getElem? (i := 7) rfl)), List.forall_mem_cons.mpr ⟨(gcX10_isSolved__X10_isSolved_r3 _ (List.mem_of_getElem? (i := 8) rfl)), List.forall_mem_cons.mpr ⟨(gcX10_isSolved__X10_isSolved_r3 _ (List.mem_of_getElem? (i := 9) rfl)), List.forall_mem_cons.mpr ⟨(gcX10_isSolved__X10_isSolved_r3 _ (List.mem_of_getElem? (i := 10) rfl)), List.forall_mem_cons.mpr ⟨(gcX10_isSolved__X10_isSolved_r3 _ (List.mem_of_getElem? (i := 11) rfl)), List.forall_mem_cons.mpr ⟨(gcX10_isSolved__X10_isSolved_r3 _ (List.mem_of_getElem? (i := 12) rfl)), List.forall_mem_cons.mpr ⟨(gcX10_isSolved__X10_isSolved_r3 _ (List.mem_of_getElem? (i := 13) rfl)), List.forall_mem_cons.mpr ⟨(gcX10_isSolved__X10_isSolved_r3 _ (List.mem_of_getElem? (i := 14) rfl)), List.forall_mem_cons.mpr ⟨(gcX10_isSolved__X10_isSolved_r3 _ (List.mem_of_getElem? (i := 15) rfl)), List.forall_mem_cons.mpr ⟨(gcX10_isSolved__X10_isSolved_r3 _ (List.mem_of_getElem? (i := 16) rfl)), List.forall_mem_cons.mpr ⟨(gcX10_isSolved__X10_isSolved_r3 _ (List.mem_of_getElem? (i := 17) rfl)), List.forall_mem_cons.mpr ⟨(gcX10_isSolved__X10_isSolved_r3 _ (List.mem_of_getElem? (i := 18) rfl)), List.forall_mem_cons.mpr ⟨(gcX10_isSolved__X10_isSolved_r3 _ (List.mem_of_getElem? (i := 19) rfl)), List.forall_mem_cons.mpr ⟨(gcX10_isSolved__X10_isSolved_r3 _ (List.mem_of_getElem? (i := 20) rfl)), List.forall_mem_cons.mpr ⟨(gcX10_isSolved__X10_isSolved_r3 _ (List.mem_of_getElem? (i := 21) rfl)), List.forall_mem_cons.mpr ⟨(gcX10_isSolved__X10_isSolved_r3 _ (List.mem_of_getElem? (i := 22) rfl)), List.forall_mem_cons.mpr ⟨(gcX10_isSolved__X10_isSolved_r3 _ (List.mem_of_getElem? (i := 23) rfl)), List.forall_mem_cons.mpr ⟨(gcX10_isSolved__X10_isSolved_r4 _ (List.mem_of_getElem? (i := 0) rfl)), List.forall_mem_cons.mpr ⟨(gcX10_isSolved__X10_isSolved_r4 _ (List.mem_of_getElem? (i := 1) rfl)), List.forall_mem_cons.mpr ⟨(gcX10_isSolved__X10_isSolved_r4 _ (List.mem_of_getElem? (i := 2) rfl)), List.forall_mem_cons.mpr ⟨(gcX10_isSolved__X10_isSolved_r4 _ (List.mem_of_getElem? (i := 3) rfl)), List.forall_mem_cons.mpr ⟨(gcX10_isSolved__X10_isSolved_r4 _ (List.mem_of_getElem? (i := 4) rfl)), fun _ h => (List.not_mem_nil h).elim⟩⟩⟩⟩⟩⟩⟩⟩⟩⟩⟩⟩⟩⟩⟩⟩⟩⟩⟩⟩⟩⟩⟩⟩
set_option maxRecDepth 20000 in
theorem gmX10_isSolved__X10_equations_r4 : ∀ w ∈ wsX10_equations_r4, w ∈ wsX10_isSolved := List.forall_mem_cons.mpr ⟨(gcX10_isSolved__X10_isSolved_r4 _ (List.mem_of_getElem? (i := 5) rfl)), List.forall_mem_cons.mpr ⟨(gcX10_isSolved__X10_isSolved_r4 _ (List.mem_of_getElem? (i := 6) rfl)), List.forall_mem_cons.mpr ⟨(gcX10_isSolved__X10_isSolved_r4 _ (List.mem_of_getElem? (i := 7) rfl)), List.forall_mem_cons.mpr ⟨(gcX10_isSolved__X10_isSolved_r4 _ (List.mem_of_getElem? (i := 8) rfl)), List.forall_mem_cons.mpr ⟨(gcX10_isSolved__X10_isSolved_r4 _ (List.mem_of_getElem? (i := 9) rfl)), List.forall_mem_cons.mpr ⟨(gcX10_isSolved__X10_isSolved_r4 _ (List.mem_of_getElem? (i := 10) rfl)), List.forall_mem_cons.mpr ⟨(gcX10_isSolved__X10_isSolved_r4 _ (List.mem_of_getElem? (i := 11) rfl)), List.forall_mem_cons.mpr ⟨(gcX10_isSolved__X10_isSolved_r4 _ (List.mem_of_getElem? (i := 12) rfl)), List.forall_mem_cons.mpr ⟨(gcX10_isSolved__X10_isSolved_r4 _ (List.mem_of_getElem? (i := 13) rfl)), List.forall_mem_cons.mpr ⟨(gcX10_isSolved__X10_isSolved_r4 _ (List.mem_of_getElem? (i := 14) rfl)), List.forall_mem_cons.mpr ⟨(gcX10_isSolved__X10_isSolved_r4 _ (List.mem_of_getElem? (i := 15) rfl)), List.forall_mem_cons.mpr ⟨(gcX10_isSolved__X10_isSolved_r4 _ (List.mem_of_getElem? (i := 16) rfl)), List.forall_mem_cons.mpr ⟨(gcX10_isSolved__X10_isSolved_r1 _ (List.mem_of_getElem? (i := 2) rfl)), fun _ h => (List.not_mem_nil h).elim⟩⟩⟩⟩⟩⟩⟩⟩⟩⟩⟩⟩⟩
theorem gcX10_isSolved__X100 : ∀ w ∈ wsX100, w ∈ wsX10_isSolved := fun w h => List.mem_cons_of_mem _ (List.mem_append_right _ (h))
set_option maxRecDepth 20000 in
theorem gwX10_equations : wsX10_equations.all goodWord = true := by decide +kernel
set_option maxRecDepth 20000 in
theorem ggX10_isSolved_X10_equations : GoodIn wsX10_isSolved wsX10_equations := goodIn_sub (List.forall_mem_cons.mpr ⟨(gcX10_isSolved__X10_isSolved_r1 _ (List.mem_of_getElem? (i := 7) rfl)), List.forall_mem_append.mpr ⟨List.forall_mem_append.mpr ⟨gmX10_isSolved__X10_equations_r1, List.forall_mem_append.mpr ⟨gmX10_isSolved__X10_equations_r2, List.forall_mem_append.mpr ⟨gmX10_isSolved__X10_equations_r3, gmX10_isSolved__X10_equations_r4⟩⟩⟩, gcX10_isSolved__X100⟩⟩) gwX10_equations
set_option maxRecDepth 20000 in
theorem gX10_isSolved_X10_equations : GoodIn wsX10_isSolved (wsV RX10 396 RX10 yX10_equations wsX10_equations) := goodIn_app (goodIn_sub (List.forall_mem_cons.mpr ⟨(gcX10_isSolved__X10_isSolved_r1 _ (List.mem_of_getElem? (i := 3) rfl)), List.forall_mem_cons.mpr ⟨(gcX10_isSolved__X10_isSolved_r1 _ (List.mem_of_getElem? (i := 4) rfl)), List.forall_mem_cons.mpr ⟨(gcX10_isSolved__X10_isSolved_r1 _ (List.mem_of_getElem? (i := 5) rfl)), List.forall_mem_cons.mpr ⟨(gcX10_isSolved__X10_isSolved_r1 _ (List.mem_of_getElem? (i := 6) rfl)), fun _ h => (List.not_mem_nil h).elim⟩⟩⟩⟩) (by decide +kernel)) ggX10_isSolved_X10_equations
set_option maxRecDepth 20000 in
theorem gwX10_swaps : wsX10_swaps.all goodWord = true := by decide +kernel
set_option maxRecDepth 20000 in
theorem ggX10_isSolved_X10_swaps : GoodIn wsX10_isSolved wsX10_swaps := goodIn_sub (List.forall_mem_cons.mpr ⟨(gcX10_isSolved__X10_isSolved_r4 _ (List.mem_of_getElem? (i := 20) rfl)), List.forall_mem_append.mpr ⟨List.forall_mem_cons.mpr ⟨(gcX10_isSolved__X10_isSolved_r1 _ (List.mem_of_getElem? (i := 1) rfl)), fun _ h => (List.not_mem_nil h).elim⟩, gcX10_isSolved__X100⟩⟩) gwX10_swaps
set_option maxRecDepth 20000 in
theorem gX10_isSolved_X10_swaps : GoodIn wsX10_isSolved (wsV RX10 399 RX10 yX10_swaps wsX10_swaps) := goodIn_app (goodIn_sub (List.forall_mem_cons.mpr ⟨(gcX10_isSolved__X10_isSolved_r4 _ (List.mem_of_getElem? (i := 17) rfl)), List.forall_mem_cons.mpr ⟨(gcX10_isSolved__X10_isSolved_r4 _ (List.mem_of_getElem? (i := 18) rfl)), List.forall_mem_cons.mpr ⟨(gcX10_isSolved__X10_isSolved_r4 _ (List.mem_of_getElem? (i := 19) rfl)), List.forall_mem_cons.mpr ⟨(gcX10_isSolved__X10_isSolved_r1 _ (List.mem_of_getElem? (i := 6) rfl)), fun _ h => (List.not_mem_nil h).elim⟩⟩⟩⟩) (by decide +kernel)) ggX10_isSolved_X10_swaps
theorem gcX10_isSolved__X10_isSolved_r5 : ∀ w ∈ wsX10_isSolved_r5, w ∈ wsX10_isSolved := fun w h => List.mem_cons_of_mem _ (List.mem_append_left _ (List.mem_append_right _ (List.mem_append_right _ (List.mem_append_right _ (List.mem_append_right _ (h))))))
set_option maxRecDepth 20000 in
theorem gwX10_inverse : wsX10_inverse.all goodWord = true := by decide +kernel
set_option maxRecDepth 20000 in
theorem ggX10_isSolved_X10_inverse : GoodIn wsX10_isSolved wsX10_inverse := goodIn_sub (List.forall_mem_cons.mpr ⟨(gcX10_isSolved__X10_isSolved_r4 _ (List.mem_of_getElem? (i := 23) rfl)), List.forall_mem_cons.mpr ⟨(gcX10_isSolved__X10_isSolved_r5 _ (List.mem_of_getElem? (i := 0) rfl)), List.forall_mem_cons.mpr ⟨(gcX10_isSolved__X10_isSolved_r5 _ (List.mem_of_getElem? (i := 1) rfl)), List.forall_mem_cons.mpr ⟨(gcX10_isSolved__X10_isSolved_r1 _ (List.mem_of_getElem? (i := 2) rfl)), fun _ h => (List.not_mem_nil h).elim⟩⟩⟩⟩) gwX10_inverse
set_option maxRecDepth 20000 in
theorem gX10_isSolved_X10_inverse : GoodIn wsX10_isSolved (va_wsS RX10 402 yX10_inverse wsX10_inverse) := goodIn_app (goodIn_sub (List.forall_mem_cons.mpr ⟨(gcX10_isSolved__X10_isSolved_r4 _ (List.mem_of_getElem? (i := 21) rfl)), List.forall_mem_cons.mpr ⟨(gcX10_isSolved__X10_isSolved_r4 _ (List.mem_of_getElem? (i := 22) rfl)), List.forall_mem_cons.mpr ⟨(gcX10_isSolved__X10_isSolved_r1 _ (List.mem_of_getElem? (i := 6) rfl)), fun _ h => (List.not_mem_nil h).elim⟩⟩⟩) (by decide +kernel)) ggX10_isSolved_X10_inverse
set_option maxRecDepth 20000 in
theorem ggX10_isSolved_X10_modulo : GoodIn wsX10_isSolved wsX10_modulo := goodIn_sub (List.forall_mem_cons.mpr ⟨(gcX10_isSolved__X10_isSolved_r4 _ (List.mem_of_getElem? (i := 16) rfl)), List.forall_mem_cons.mpr ⟨(gcX10_isSolved__X10_isSolved_r1 _ (List.mem_of_getElem? (i := 2) rfl)), fun _ h => (List.not_mem_nil h).elim⟩⟩) gwX10_modulo
set_option maxRecDepth 20000 in
theorem gX10_isSolved_X10_modulo : GoodIn wsX10_isSolved (va_wsS RX10 373 yX10_modulo wsX10_modulo) := goodIn_app (goodIn_sub (List.forall_mem_cons.mpr ⟨(gcX10_isSolved__X10_isSolved_r4 _ (List.mem_of_getElem? (i := 14) rfl)), List.forall_mem_cons.mpr ⟨(gcX10_isSolved__X10_isSolved_r4 _ (List.mem_of_getElem? (i := 15) rfl)), List.forall_mem_cons.mpr ⟨(gcX10_isSolved__X10_isSolved_r1 _ (List.mem_of_getElem? (i := 6) rfl)), fun _ h => (List.not_mem_nil h).elim⟩⟩⟩) (by decide +kernel)) ggX10_isSolved_X10_modulo
theorem dX10_isSolved_0 : decode cX10_isSolved 0 = .ok (.aload_n 0, 1) := by decide +kernel
theorem dX10_isSolved_1 : decode cX10_isSolved 1 = .ok (.invokevirtual 396, 3) := by decide +kernel
theorem dX10_isSolved_4 : decode cX10_isSolved 4 = .ok (.iconst 0, 1) := by decide +kernel
theorem dX10_isSolved_5 : decode cX10_isSolved 5 = .ok (.istore_n 1, 1) := by decide +kernel
theorem dX10_isSolved_6 : decode cX10_isSolved 6 = .ok (.iload_n 1, 1) := by decide +kernel
theorem dX10_isSolved_7 : decode cX10_isSolved 7 = .ok (.aload_n 0, 1) := by decide +kernel
theorem dX10_isSolved_8 : decode cX10_isSolved 8 = .ok (.getfield 381, 3) := by decide +kernel
theorem dX10_isSolved_11 : decode cX10_isSolved 11 = .ok (.if_icmp .ge 227, 3) := by decide +kernel
theorem dX10_isSolved_14 : decode cX10_isSolved 14 = .ok (.iload_n 1, 1) := by decide +kernel
theorem dX10_isSolved_15 : decode cX10_isSolved 15 = .ok (.istore_n 2, 1) := by decide +kernel
theorem dX10_isSolved_16 : decode cX10_isSolved 16 = .ok (.iload_n 2, 1) := by decide +kernel
theorem dX10_isSolved_17 : decode cX10_isSolved 17 = .ok (.aload_n 0, 1) := by decide +kernel
theorem dX10_isSolved_18 : decode cX10_isSolved 18 = .ok (.getfield 381, 3) := by decide +kernel
theorem dX10_isSolved_21 : decode cX10_isSolved 21 = .ok (.if_icmp .ge 25, 3) := by decide +kernel
theorem dX10_isSolved_24 : decode cX10_isSolved 24 = .ok (.aload_n 0, 1) := by decide +kernel
theorem dX10_isSolved_25 : decode cX10_isSolved 25 = .ok (.getfield 110, 3) := by decide +kernel
theorem dX10_isSolved_28 : decode cX10_isSolved 28 = .ok (.bipush 40, 2) := by decide +kernel
theorem dX10_isSolved_30 : decode cX10_isSolved 30 = .ok (.iload_n 2, 1) := by decide +kernel
theorem dX10_isSolved_31 : decode cX10_isSolved 31 = .ok (.imul, 1) := by decide +kernel
theorem dX10_isSolved_32 : decode cX10_isSolved 32 = .ok (.iload_n 1, 1) := by decide +kernel
theorem dX10_isSolved_33 : decode cX10_isSolved 33 = .ok (.iadd, 1) := by decide +kernel
theorem dX10_isSolved_34 : decode cX10_isSolved 34 = .ok (.laload, 1) := by decide +kernel
theorem dX10_isSolved_35 : decode cX10_isSolved 35 = .ok (.lconst 0, 1) := by decide +kernel
theorem dX10_isSolved_36 : decode cX10_isSolved 36 = .ok (.lcmp, 1) := by decide +kernel
theorem dX10_isSolved_37 : decode cX10_isSolved 37 = .ok (.ifCond .ne 9, 3) := by decide +kernel
theorem dX10_isSolved_40 : decode cX10_isSolved 40 = .ok (.iinc 2 1, 3) := by decide +kernel
theorem dX10_isSolved_43 : decode cX10_isSolved 43 = .ok (.goto (-27), 3) := by decide +kernel
theorem dX10_isSolved_46 : decode cX10_isSolved 46 = .ok (.iload_n 2, 1) := by decide +kernel
theorem dX10_isSolved_47 : decode cX10_isSolved 47 = .ok (.aload_n 0, 1) := by decide +kernel
theorem dX10_isSolved_48 : decode cX10_isSolved 48 = .ok (.getfield 381, 3) := by decide +kernel
theorem dX10_isSolved_51 : decode cX10_isSolved 51 = .ok (.if_icmp .ne 5, 3) := by decide +kernel
theorem dX10_isSolved_54 : decode cX10_isSolved 54 = .ok (.iconst 0, 1) := by decide +kernel
theorem dX10_isSolved_55 : decode cX10_isSolved 55 = .ok (.ireturn, 1) := by decide +kernel
theorem dX10_isSolved_56 : decode cX10_isSolved 56 = .ok (.aload_n 0, 1) := by decide +kernel
theorem dX10_isSolved_57 : decode cX10_isSolved 57 = .ok (.iload_n 1, 1) := by decide +kernel
theorem dX10_isSolved_58 : decode cX10_isSolved 58 = .ok (.iload_n 2, 1) := by decide +kernel
theorem dX10_isSolved_59 : decode cX10_isSolved 59 = .ok (.invokevirtual 399, 3) := by decide +kernel
theorem dX10_isSolved_62 : decode cX10_isSolved 62 = .ok (.aload_n 0, 1) := by decide +kernel
theorem dX10_isSolved_63 : decode cX10_isSolved 63 = .ok (.getfield 110, 3) := by decide +kernel
theorem dX10_isSolved_66 : decode cX10_isSolved 66 = .ok (.bipush 40, 2) := by decide +kernel
theorem dX10_isSolved_68 : decode cX10_isSolved 68 = .ok (.iload_n 1, 1) := by decide +kernel
theorem dX10_isSolved_69 : decode cX10_isSolved 69 = .ok (.imul, 1) := by decide +kernel
theorem dX10_isSolved_70 : decode cX10_isSolved 70 = .ok (.iload_n 1, 1) := by decide +kernel
theorem dX10_isSolved_71 : decode cX10_isSolved 71 = .ok (.iadd, 1) := by decide +kernel
theorem dX10_isSolved_72 : decode cX10_isSolved 72 = .ok (.laload, 1) := by decide +kernel
theorem dX10_isSolved_73 : decode cX10_isSolved 73 = .ok (.invokestatic 402, 3) := by decide +kernel
theorem dX10_isSolved_76 : decode cX10_isSolved 76 = .ok (.lstore_n 3, 1) := by decide +kernel
theorem dX10_isSolved_77 : decode cX10_isSolved 77 = .ok (.iconst 0, 1) := by decide +kernel
theorem dX10_isSolved_78 : decode cX10_isSolved 78 = .ok (.istore 5, 2) := by decide +kernel
theorem dX10_isSolved_80 : decode cX10_isSolved 80 = .ok (.iload 5, 2) := by decide +kernel
theorem dX10_isSolved_82 : decode cX10_isSolved 82 = .ok (.bipush 40, 2) := by decide +kernel
theorem dX10_isSolved_84 : decode cX10_isSolved 84 = .ok (.if_icmp .ge 39, 3) := by decide +kernel
theorem dX10_isSolved_87 : decode cX10_isSolved 87 = .ok (.aload_n 0, 1) := by decide +kernel
theorem dX10_isSolved_88 : decode cX10_isSolved 88 = .ok (.getfield 110, 3) := by decide +kernel
theorem dX10_isSolved_91 : decode cX10_isSolved 91 = .ok (.bipush 40, 2) := by decide +kernel
theorem dX10_isSolved_93 : decode cX10_isSolved 93 = .ok (.iload_n 1, 1) := by decide +kernel
theorem dX10_isSolved_94 : decode cX10_isSolved 94 = .ok (.imul, 1) := by decide +kernel
theorem dX10_isSolved_95 : decode cX10_isSolved 95 = .ok (.iload 5, 2) := by decide +kernel
theorem dX10_isSolved_97 : decode cX10_isSolved 97 = .ok (.iadd, 1) := by decide +kernel
theorem dX10_isSolved_98 : decode cX10_isSolved 98 = .ok (.aload_n 0, 1) := by decide +kernel
theorem dX10_isSolved_99 : decode cX10_isSolved 99 = .ok (.getfield 110, 3) := by decide +kernel
theorem dX10_isSolved_102 : decode cX10_isSolved 102 = .ok (.bipush 40, 2) := by decide +kernel
theorem dX10_isSolved_104 : decode cX10_isSolved 104 = .ok (.iload_n 1, 1) := by decide +kernel
theorem dX10_isSolved_105 : decode cX10_isSolved 105 = .ok (.imul, 1) := by decide +kernel
theorem dX10_isSolved_106 : decode cX10_isSolved 106 = .ok (.iload 5, 2) := by decide +kernel
theorem dX10_isSolved_108 : decode cX10_isSolved 108 = .ok (.iadd, 1) := by decide +kernel
theorem dX10_isSolved_109 : decode cX10_isSolved 109 = .ok (.laload, 1) := by decide +kernel
theorem dX10_isSolved_110 : decode cX10_isSolved 110 = .ok (.lload_n 3, 1) := by decide +kernel
theorem dX10_isSolved_111 : decode cX10_isSolved 111 = .ok (.lmul, 1) := by decide +kernel
theorem dX10_isSolved_112 : decode cX10_isSolved 112 = .ok (.ldc2_w 371, 3) := by decide +kernel
theorem dX10_isSolved_115 : decode cX10_isSolved 115 = .ok (.lrem, 1) := by decide +kernel
theorem dX10_isSolved_116 : decode cX10_isSolved 116 = .ok (.lastore, 1) := by decide +kernel
theorem dX10_isSolved_117 : decode cX10_isSolved 117 = .ok (.iinc 5 1, 3) := by decide +kernel
theorem dX10_isSolved_120 : decode cX10_isSolved 120 = .ok (.goto (-40), 3) := by decide +kernel
theorem dX10_isSolved_123 : decode cX10_isSolved 123 = .ok (.iconst 0, 1) := by decide +kernel
theorem dX10_isSolved_124 : decode cX10_isSolved 124 = .ok (.istore 5, 2) := by decide +kernel
theorem dX10_isSolved_126 : decode cX10_isSolved 126 = .ok (.iload 5, 2) := by decide +kernel
theorem dX10_isSolved_128 : decode cX10_isSolved 128 = .ok (.aload_n 0, 1) := by decide +kernel
theorem dX10_isSolved_129 : decode cX10_isSolved 129 = .ok (.getfield 381, 3) := by decide +kernel
theorem dX10_isSolved_132 : decode cX10_isSolved 132 = .ok (.if_icmp .ge 100, 3) := by decide +kernel
theorem dX10_isSolved_135 : decode cX10_isSolved 135 = .ok (.aload_n 0, 1) := by decide +kernel
theorem dX10_isSolved_136 : decode cX10_isSolved 136 = .ok (.getfield 110, 3) := by decide +kernel
theorem dX10_isSolved_139 : decode cX10_isSolved 139 = .ok (.bipush 40, 2) := by decide +kernel
theorem dX10_isSolved_141 : decode cX10_isSolved 141 = .ok (.iload 5, 2) := by decide +kernel
theorem dX10_isSolved_143 : decode cX10_isSolved 143 = .ok (.imul, 1) := by decide +kernel
theorem dX10_isSolved_144 : decode cX10_isSolved 144 = .ok (.iload_n 1, 1) := by decide +kernel
theorem dX10_isSolved_145 : decode cX10_isSolved 145 = .ok (.iadd, 1) := by decide +kernel
theorem dX10_isSolved_146 : decode cX10_isSolved 146 = .ok (.laload, 1) := by decide +kernel
theorem dX10_isSolved_147 : decode cX10_isSolved 147 = .ok (.lstore 6, 2) := by decide +kernel
theorem dX10_isSolved_149 : decode cX10_isSolved 149 = .ok (.iload 5, 2) := by decide +kernel
theorem dX10_isSolved_151 : decode cX10_isSolved 151 = .ok (.iload_n 1, 1) := by decide +kernel
theorem dX10_isSolved_152 : decode cX10_isSolved 152 = .ok (.if_icmp .eq 74, 3) := by decide +kernel
theorem dX10_isSolved_155 : decode cX10_isSolved 155 = .ok (.lload 6, 2) := by decide +kernel
theorem dX10_isSolved_157 : decode cX10_isSolved 157 = .ok (.lconst 0, 1) := by decide +kernel
theorem dX10_isSolved_158 : decode cX10_isSolved 158 = .ok (.lcmp, 1) := by decide +kernel
theorem dX10_isSolved_159 : decode cX10_isSolved 159 = .ok (.ifCond .ne 6, 3) := by decide +kernel
theorem dX10_isSolved_162 : decode cX10_isSolved 162 = .ok (.goto 64, 3) := by decide +kernel
theorem dX10_isSolved_165 : decode cX10_isSolved 165 = .ok (.iconst 0, 1) := by decide +kernel
theorem dX10_isSolved_166 : decode cX10_isSolved 166 = .ok (.istore 8, 2) := by decide +kernel
theorem dX10_isSolved_168 : decode cX10_isSolved 168 = .ok (.iload 8, 2) := by decide +kernel
theorem dX10_isSolved_170 : decode cX10_isSolved 170 = .ok (.bipush 40, 2) := by decide +kernel
theorem dX10_isSolved_172 : decode cX10_isSolved 172 = .ok (.if_icmp .ge 54, 3) := by decide +kernel
theorem dX10_isSolved_175 : decode cX10_isSolved 175 = .ok (.aload_n 0, 1) := by decide +kernel
theorem dX10_isSolved_176 : decode cX10_isSolved 176 = .ok (.getfield 110, 3) := by decide +kernel
theorem dX10_isSolved_179 : decode cX10_isSolved 179 = .ok (.bipush 40, 2) := by decide +kernel
theorem dX10_isSolved_181 : decode cX10_isSolved 181 = .ok (.iload 5, 2) := by decide +kernel
theorem dX10_isSolved_183 : decode cX10_isSolved 183 = .ok (.imul, 1) := by decide +kernel
theorem dX10_isSolved_184 : decode cX10_isSolved 184 = .ok (.iload 8, 2) := by decide +kernel
theorem dX10_isSolved_186 : decode cX10_isSolved 186 = .ok (.iadd, 1) := by decide +kernel
theorem dX10_isSolved_187 : decode cX10_isSolved 187 = .ok (.aload_n 0, 1) := by decide +kernel
theorem dX10_isSolved_188 : decode cX10_isSolved 188 = .ok (.getfield 110, 3) := by decide +kernel
theorem dX10_isSolved_191 : decode cX10_isSolved 191 = .ok (.bipush 40, 2) := by decide +kernel
theorem dX10_isSolved_193 : decode cX10_isSolved 193 = .ok (.iload 5, 2) := by decide +kernel
theorem dX10_isSolved_195 : decode cX10_isSolved 195 = .ok (.imul, 1) := by decide +kernel
theorem dX10_isSolved_196 : decode cX10_isSolved 196 = .ok (.iload 8, 2) := by decide +kernel
theorem dX10_isSolved_198 : decode cX10_isSolved 198 = .ok (.iadd, 1) := by decide +kernel
theorem dX10_isSolved_199 : decode cX10_isSolved 199 = .ok (.laload, 1) := by decide +kernel
theorem dX10_isSolved_200 : decode cX10_isSolved 200 = .ok (.lload 6, 2) := by decide +kernel
theorem dX10_isSolved_202 : decode cX10_isSolved 202 = .ok (.aload_n 0, 1) := by decide +kernel
theorem dX10_isSolved_203 : decode cX10_isSolved 203 = .ok (.getfield 110, 3) := by decide +kernel
theorem dX10_isSolved_206 : decode cX10_isSolved 206 = .ok (.bipush 40, 2) := by decide +kernel
theorem dX10_isSolved_208 : decode cX10_isSolved 208 = .ok (.iload_n 1, 1) := by decide +kernel
theorem dX10_isSolved_209 : decode cX10_isSolved 209 = .ok (.imul, 1) := by decide +kernel
theorem dX10_isSolved_210 : decode cX10_isSolved 210 = .ok (.iload 8, 2) := by decide +kernel
theorem dX10_isSolved_212 : decode cX10_isSolved 212 = .ok (.iadd, 1) := by decide +kernel
theorem dX10_isSolved_213 : decode cX10_isSolved 213 = .ok (.laload, 1) := by decide +kernel
theorem dX10_isSolved_214 : decode cX10_isSolved 214 = .ok (.lmul, 1) := by decide +kernel
theorem dX10_isSolved_215 : decode cX10_isSolved 215 = .ok (.lsub, 1) := by decide +kernel
theorem dX10_isSolved_216 : decode cX10_isSolved 216 = .ok (.invokestatic 373, 3) := by decide +kernel
theorem dX10_isSolved_219 : decode cX10_isSolved 219 = .ok (.lastore, 1) := by decide +kernel
theorem dX10_isSolved_220 : decode cX10_isSolved 220 = .ok (.iinc 8 1, 3) := by decide +kernel
theorem dX10_isSolved_223 : decode cX10_isSolved 223 = .ok (.goto (-55), 3) := by decide +kernel
theorem dX10_isSolved_226 : decode cX10_isSolved 226 = .ok (.iinc 5 1, 3) := by decide +kernel
theorem dX10_isSolved_229 : decode cX10_isSolved 229 = .ok (.goto (-103), 3) := by decide +kernel
theorem dX10_isSolved_232 : decode cX10_isSolved 232 = .ok (.iinc 1 1, 3) := by decide +kernel
theorem dX10_isSolved_235 : decode cX10_isSolved 235 = .ok (.goto (-229), 3) := by decide +kernel
theorem dX10_isSolved_238 : decode cX10_isSolved 238 = .ok (.iconst 1, 1) := by decide +kernel
theorem dX10_isSolved_239 : decode cX10_isSolved 239 = .ok (.ireturn, 1) := by decide +kernel
theorem gcX10_whole__X10_whole_r1 : ∀ w ∈ wsX10_whole_r1, w ∈ wsX10_whole := fun w h => List.mem_cons_of_mem _ (List.mem_append_left _ (List.mem_append_left _ (h)))
set_option maxRecDepth 20000 in
theorem ggX10_whole_X10_isIn : GoodIn wsX10_whole wsX10_isIn := goodIn_sub (List.forall_mem_cons.mpr ⟨(gcX10_whole__X10_whole_r1 _ (List.mem_of_getElem? (i := 7) rfl)), fun _ h => (List.not_mem_nil h).elim⟩) gwX10_isIn
set_option maxRecDepth 20000 in
theorem gX10_whole_X10_isIn : GoodIn wsX10_whole (va_wsS RX10 183 yX10_isIn wsX10_isIn) := goodIn_app (goodIn_sub (List.forall_mem_cons.mpr ⟨(gcX10_whole__X10_whole_r1 _ (List.mem_of_getElem? (i := 4) rfl)), List.forall_mem_cons.mpr ⟨(gcX10_whole__X10_whole_r1 _ (List.mem_of_getElem? (i := 5) rfl)), List.forall_mem_cons.mpr ⟨(gcX10_whole__X10_whole_r1 _ (List.mem_of_getElem? (i := 6) rfl)), fun _ h => (List.not_mem_nil h).elim⟩⟩⟩) (by decide +kernel)) ggX10_whole_X10_isIn
theorem gcX10_whole__X100 : ∀ w ∈ wsX100, w ∈ wsX10_whole := fun w h => List.mem_cons_of_mem _ (List.mem_append_right _ (h))
set_option maxRecDepth 20000 in
theorem ggX10_whole_X10_isControl : GoodIn wsX10_whole wsX10_isControl := goodIn_sub (List.forall_mem_cons.mpr ⟨(gcX10_whole__X10_whole_r1 _ (List.mem_of_getElem? (i := 11) rfl)), List.forall_mem_append.mpr ⟨List.forall_mem_cons.mpr ⟨(gcX10_whole__X10_whole_r1 _ (List.mem_of_getElem? (i := 12) rfl)), List.forall_mem_cons.mpr ⟨(gcX10_whole__X10_whole_r1 _ (List.mem_of_getElem? (i := 13) rfl)), fun _ h => (List.not_mem_nil h).elim⟩⟩, gcX10_whole__X100⟩⟩) gwX10_isControl
set_option maxRecDepth 20000 in
theorem gX10_whole_X10_isControl : GoodIn wsX10_whole (wsV RX10 287 RX10 yX10_isControl wsX10_isControl) := goodIn_app (goodIn_sub (List.forall_mem_cons.mpr ⟨(gcX10_whole__X10_whole_r1 _ (List.mem_of_getElem? (i := 8) rfl)), List.forall_mem_cons.mpr ⟨(gcX10_whole__X10_whole_r1 _ (List.mem_of_getElem? (i := 9) rfl)), List.forall_mem_cons.mpr ⟨(gcX10_whole__X10_whole_r1 _ (List.mem_of_getElem? (i := 10) rfl)), List.forall_mem_cons.mpr ⟨(gcX10_whole__X10_whole_r1 _ (List.mem_of_getElem? (i := 6) rfl)), fun _ h => (List.not_mem_nil h).elim⟩⟩⟩⟩) (by decide +kernel)) ggX10_whole_X10_isControl
set_option maxRecDepth 20000 in
theorem ggX10_whole_X10_modulo : GoodIn wsX10_whole wsX10_modulo := goodIn_sub (List.forall_mem_cons.mpr ⟨(gcX10_whole__X10_whole_r1 _ (List.mem_of_getElem? (i := 16) rfl)), List.forall_mem_cons.mpr ⟨(gcX10_whole__X10_whole_r1 _ (List.mem_of_getElem? (i := 17) rfl)), fun _ h => (List.not_mem_nil h).elim⟩⟩) gwX10_modulo
set_option maxRecDepth 20000 in
theorem gX10_whole_X10_modulo : GoodIn wsX10_whole (va_wsS RX10 373 yX10_modulo wsX10_modulo) := goodIn_app (goodIn_sub (List.forall_mem_cons.mpr ⟨(gcX10_whole__X10_whole_r1 _ (List.mem_of_getElem? (i := 14) rfl)), List.forall_mem_cons.mpr ⟨(gcX10_whole__X10_whole_r1 _ (List.mem_of_getElem? (i := 15) rfl)), List.forall_mem_cons.mpr ⟨(gcX10_whole__X10_whole_r1 _ (List.mem_of_getElem? (i := 6) rfl)), fun _ h => (List.not_mem_nil h).elim⟩⟩⟩) (by decide +kernel)) ggX10_whole_X10_modulo
theorem gcX10_whole__X10_whole_r2 : ∀ w ∈ wsX10_whole_r2, w ∈ wsX10_whole := fun w h => List.mem_cons_of_mem _ (List.mem_append_left _ (List.mem_append_right _ (List.mem_append_left _ (h))))
set_option maxRecDepth 20000 in
theorem gmX10_whole__X10_isUsed_r1 : ∀ w ∈ wsX10_isUsed_r1, w ∈ wsX10_whole := List.forall_mem_cons.mpr ⟨(gcX10_whole__X10_whole_r1 _ (List.mem_of_getElem? (i := 22) rfl)), List.forall_mem_cons.mpr ⟨(gcX10_whole__X10_whole_r1 _ (List.mem_of_getElem? (i := 23) rfl)), List.forall_mem_cons.mpr ⟨(gcX10_whole__X10_whole_r2 _ (List.mem_of_getElem? (i := 0) rfl)), List.forall_mem_cons.mpr ⟨(gcX10_whole__X10_whole_r2 _ (List.mem_of_getElem? (i := 1) rfl)), List.forall_mem_cons.mpr ⟨(gcX10_whole__X10_whole_r1 _ (List.mem_of_getElem? (i := 6) rfl)), List.forall_mem_cons.mpr ⟨(gcX10_whole__X10_whole_r2 _ (List.mem_of_getElem? (i := 2) rfl)), List.forall_mem_cons.mpr ⟨(gcX10_whole__X10_whole_r2 _ (List.mem_of_getElem? (i := 3) rfl)), List.forall_mem_cons.mpr ⟨(gcX10_whole__X10_whole_r2 _ (List.mem_of_getElem? (i := 4) rfl)), List.forall_mem_cons.mpr ⟨(gcX10_whole__X10_whole_r2 _ (List.mem_of_getElem? (i := 5) rfl)), List.forall_mem_cons.mpr ⟨(gcX10_whole__X10_whole_r2 _ (List.mem_of_getElem? (i := 6) rfl)), List.forall_mem_cons.mpr ⟨(gcX10_whole__X10_whole_r1 _ (List.mem_of_getElem? (i := 1) rfl)), List.forall_mem_cons.mpr ⟨(gcX10_whole__X10_whole_r2 _ (List.mem_of_getElem? (i := 7) rfl)), List.forall_mem_cons.mpr ⟨(gcX10_whole__X10_whole_r2 _ (List.mem_of_getElem? (i := 8) rfl)), List.forall_mem_cons.mpr ⟨(gcX10_whole__X10_whole_r2 _ (List.mem_of_getElem? (i := 9) rfl)), List.forall_mem_cons.mpr ⟨(gcX10_whole__X10_whole_r2 _ (List.mem_of_getElem? (i := 10) rfl)), List.forall_mem_cons.mpr ⟨(gcX10_whole__X10_whole_r2 _ (List.mem_of_getElem? (i := 11) rfl)), List.forall_mem_cons.mpr ⟨(gcX10_whole__X10_whole_r2 _ (List.mem_of_getElem? (i := 12) rfl)), List.forall_mem_cons.mpr ⟨(gcX10_whole__X10_whole_r2 _ (List.mem_of_getElem? (i := 13) rfl)), List.forall_mem_cons.mpr ⟨(gcX10_whole__X10_whole_r2 _ (List.mem_of_getElem? (i := 14) rfl)), List.forall_mem_cons.mpr ⟨(gcX10_whole__X10_whole_r2 _ (List.mem_of_getElem? (i := 15) rfl)), List.forall_mem_cons.mpr ⟨(gcX10_whole__X10_whole_r2 _ (List.mem_of_getElem? (i := 16) rfl)), List.forall_mem_cons.mpr ⟨(gcX10_whole__X10_whole_r2 _ (List.mem_of_getElem? (i := 17) rfl)), List.forall_mem_cons.mpr ⟨(gcX10_whole__X10_whole_r2 _ (List.mem_of_getElem? (i := 18) rfl)), List.forall_mem_cons.mpr ⟨(gcX10_whole__X10_whole_r2 _ (List.mem_of_getElem? (i := 19) rfl)), fun _ h => (List.not_mem_nil h).elim⟩⟩⟩⟩⟩⟩⟩⟩⟩⟩⟩⟩⟩⟩⟩⟩⟩⟩⟩⟩⟩⟩⟩⟩
theorem gcX10_whole__X10_whole_r3 : ∀ w ∈ wsX10_whole_r3, w ∈ wsX10_whole := fun w h => List.mem_cons_of_mem _ (List.mem_append_left _ (List.mem_append_right _ (List.mem_append_right _ (List.mem_append_left _ (h)))))
set_option maxRecDepth 20000 in
theorem gmX10_whole__X10_isUsed_r2 : ∀ w ∈ wsX10_isUsed_r2, w ∈ wsX10_whole := List.forall_mem_cons.mpr ⟨(gcX10_whole__X10_whole_r2 _ (List.mem_of_getElem? (i := 20) rfl)), List.forall_mem_cons.mpr ⟨(gcX10_whole__X10_whole_r2 _ (List.mem_of_getElem? (i := 21) rfl)), List.forall_mem_cons.mpr ⟨(gcX10_whole__X10_whole_r2 _ (List.mem_of_getElem? (i := 22) rfl)), List.forall_mem_cons.mpr ⟨(gcX10_whole__X10_whole_r2 _ (List.mem_of_getElem? (i := 23) rfl)), List.forall_mem_cons.mpr ⟨(gcX10_whole__X10_whole_r3 _ (List.mem_of_getElem? (i := 0) rfl)), List.forall_mem_cons.mpr ⟨(gcX10_whole__X10_whole_r3 _ (List.mem_of_getElem? (i := 1) rfl)), List.forall_mem_cons.mpr ⟨(gcX10_whole__X10_whole_r3 _ (List.mem_of_getElem? (i := 2) rfl)), List.forall_mem_cons.mpr ⟨(gcX10_whole__X10_whole_r3 _ (List.mem_of_getElem? (i := 3) rfl)), List.forall_mem_cons.mpr ⟨(gcX10_whole__X10_whole_r3 _ (List.mem_of_getElem? (i := 4) rfl)), List.forall_mem_cons.mpr ⟨(gcX10_whole__X10_whole_r3 _ (List.mem_of_getElem? (i := 5) rfl)), List.forall_mem_cons.mpr ⟨(gcX10_whole__X10_whole_r3 _ (List.mem_of_getElem? (i := 6) rfl)), fun _ h => (List.not_mem_nil h).elim⟩⟩⟩⟩⟩⟩⟩⟩⟩⟩⟩
set_option maxRecDepth 20000 in
theorem ggX10_whole_X10_isUsed : GoodIn wsX10_whole wsX10_isUsed := goodIn_sub (List.forall_mem_cons.mpr ⟨(gcX10_whole__X10_whole_r1 _ (List.mem_of_getElem? (i := 21) rfl)), List.forall_mem_append.mpr ⟨List.forall_mem_append.mpr ⟨gmX10_whole__X10_isUsed_r1, gmX10_whole__X10_isUsed_r2⟩, gcX10_whole__X100⟩⟩) gwX10_isUsed
set_option maxRecDepth 20000 in
theorem gX10_whole_X10_isUsed : GoodIn wsX10_whole (wsV RX10 384 RX10 yX10_isUsed wsX10_isUsed) := goodIn_app (goodIn_sub (List.forall_mem_cons.mpr ⟨(gcX10_whole__X10_whole_r1 _ (List.mem_of_getElem? (i := 18) rfl)), List.forall_mem_cons.mpr ⟨(gcX10_whole__X10_whole_r1 _ (List.mem_of_getElem? (i := 19) rfl)), List.forall_mem_cons.mpr ⟨(gcX10_whole__X10_whole_r1 _ (List.mem_of_getElem? (i := 20) rfl)), List.forall_mem_cons.mpr ⟨(gcX10_whole__X10_whole_r1 _ (List.mem_of_getElem? (i := 6) rfl)), fun _ h => (List.not_mem_nil h).elim⟩⟩⟩⟩) (by decide +kernel)) ggX10_whole_X10_isUsed
set_option maxRecDepth 20000 in
theorem gmX10_whole__X10_isSolved_r1 : ∀ w ∈ wsX10_isSolved_r1, w ∈ wsX10_whole := List.forall_mem_cons.mpr ⟨(gcX10_whole__X10_whole_r3 _ (List.mem_of_getElem? (i := 11) rfl)), List.forall_mem_cons.mpr ⟨(gcX10_whole__X10_whole_r1 _ (List.mem_of_getElem? (i := 3) rfl)), List.forall_mem_cons.mpr ⟨(gcX10_whole__X10_whole_r1 _ (List.mem_of_getElem? (i := 17) rfl)), List.forall_mem_cons.mpr ⟨(gcX10_whole__X10_whole_r3 _ (List.mem_of_getElem? (i := 12) rfl)), List.forall_mem_cons.mpr ⟨(gcX10_whole__X10_whole_r3 _ (List.mem_of_getElem? (i := 13) rfl)), List.forall_mem_cons.mpr ⟨(gcX10_whole__X10_whole_r3 _ (List.mem_of_getElem? (i := 14) rfl)), List.forall_mem_cons.mpr ⟨(gcX10_whole__X10_whole_r1 _ (List.mem_of_getElem? (i := 6) rfl)), List.forall_mem_cons.mpr ⟨(gcX10_whole__X10_whole_r3 _ (List.mem_of_getElem? (i := 15) rfl)), List.forall_mem_cons.mpr ⟨(gcX10_whole__X10_whole_r1 _ (List.mem_of_getElem? (i := 1) rfl)), List.forall_mem_cons.mpr ⟨(gcX10_whole__X10_whole_r3 _ (List.mem_of_getElem? (i := 16) rfl)), List.forall_mem_cons.mpr ⟨(gcX10_whole__X10_whole_r1 _ (List.mem_of_getElem? (i := 22) rfl)), List.forall_mem_cons.mpr ⟨(gcX10_whole__X10_whole_r1 _ (List.mem_of_getElem? (i := 2) rfl)), List.forall_mem_cons.mpr ⟨(gcX10_whole__X10_whole_r3 _ (List.mem_of_getElem? (i := 17) rfl)), List.forall_mem_cons.mpr ⟨(gcX10_whole__X10_whole_r2 _ (List.mem_of_getElem? (i := 3) rfl)), List.forall_mem_cons.mpr ⟨(gcX10_whole__X10_whole_r2 _ (List.mem_of_getElem? (i := 4) rfl)), List.forall_mem_cons.mpr ⟨(gcX10_whole__X10_whole_r2 _ (List.mem_of_getElem? (i := 5) rfl)), List.forall_mem_cons.mpr ⟨(gcX10_whole__X10_whole_r2 _ (List.mem_of_getElem? (i := 6) rfl)), List.forall_mem_cons.mpr ⟨(gcX10_whole__X10_whole_r3 _ (List.mem_of_getElem? (i := 18) rfl)), List.forall_mem_cons.mpr ⟨(gcX10_whole__X10_whole_r3 _ (List.mem_of_getElem? (i := 19) rfl)), List.forall_mem_cons.mpr ⟨(gcX10_whole__X10_whole_r3 _ (List.mem_of_getElem? (i := 20) rfl)), List.forall_mem_cons.mpr ⟨(gcX10_whole__X10_whole_r3 _ (List.mem_of_getElem? (i := 21) rfl)), List.forall_mem_cons.mpr ⟨(gcX10_whole__X10_whole_r1 _ (List.mem_of_getElem? (i := 8) rfl)), List.forall_mem_cons.mpr ⟨(gcX10_whole__X10_whole_r1 _ (List.mem_of_getElem? (i := 9) rfl)), List.forall_mem_cons.mpr ⟨(gcX10_whole__X10_whole_r1 _ (List.mem_of_getElem? (i := 10) rfl)), fun _ h => (List.not_mem_nil h).elim⟩⟩⟩⟩⟩⟩⟩⟩⟩⟩⟩⟩⟩⟩⟩⟩⟩⟩⟩⟩⟩⟩⟩⟩
set_option maxRecDepth 20000 in
theorem gmX10_whole__X10_isSolved_r2 : ∀ w ∈ wsX10_isSolved_r2, w ∈ wsX10_whole := List.forall_mem_cons.mpr ⟨(gcX10_whole__X10_whole_r1 _ (List.mem_of_getElem? (i := 11) rfl)), List.forall_mem_cons.mpr ⟨(gcX10_whole__X10_whole_r1 _ (List.mem_of_getElem? (i := 12) rfl)), List.forall_mem_cons.mpr ⟨(gcX10_whole__X10_whole_r1 _ (List.mem_of_getElem? (i := 13) rfl)), List.forall_mem_cons.mpr ⟨(gcX10_whole__X10_whole_r1 _ (List.mem_of_getElem? (i := 18) rfl)), List.forall_mem_cons.mpr ⟨(gcX10_whole__X10_whole_r1 _ (List.mem_of_getElem? (i := 19) rfl)), List.forall_mem_cons.mpr ⟨(gcX10_whole__X10_whole_r1 _ (List.mem_of_getElem? (i := 20) rfl)), List.forall_mem_cons.mpr ⟨(gcX10_whole__X10_whole_r1 _ (List.mem_of_getElem? (i := 21) rfl)), List.forall_mem_cons.mpr ⟨(gcX10_whole__X10_whole_r1 _ (List.mem_of_getElem? (i := 23) rfl)), List.forall_mem_cons.mpr ⟨(gcX10_whole__X10_whole_r2 _ (List.mem_of_getElem? (i := 0) rfl)), List.forall_mem_cons.mpr ⟨(gcX10_whole__X10_whole_r2 _ (List.mem_of_getElem? (i := 1) rfl)), List.forall_mem_cons.mpr ⟨(gcX10_whole__X10_whole_r2 _ (List.mem_of_getElem? (i := 2) rfl)), List.forall_mem_cons.mpr ⟨(gcX10_whole__X10_whole_r2 _ (List.mem_of_getElem? (i := 7) rfl)), List.forall_mem_cons.mpr ⟨(gcX10_whole__X10_whole_r2 _ (List.mem_of_getElem? (i := 8) rfl)), List.forall_mem_cons.mpr ⟨(gcX10_whole__X10_whole_r2 _ (List.mem_of_getElem? (i := 9) rfl)), List.forall_mem_cons.mpr ⟨(gcX10_whole__X10_whole_r2 _ (List.mem_of_getElem? (i := 10) rfl)), List.forall_mem_cons.mpr ⟨(gcX10_whole__X10_whole_r2 _ (List.mem_of_getElem? (i := 11) rfl)), List.forall_mem_cons.mpr ⟨(gcX10_whole__X10_whole_r2 _ (List.mem_of_getElem? (i := 12) rfl)), List.forall_mem_cons.mpr ⟨(gcX10_whole__X10_whole_r2 _ (List.mem_of_getElem? (i := 13) rfl)), List.forall_mem_cons.mpr ⟨(gcX10_whole__X10_whole_r2 _ (List.mem_of_getElem? (i := 14) rfl)), List.forall_mem_cons.mpr ⟨(gcX10_whole__X10_whole_r2 _ (List.mem_of_getElem? (i := 15) rfl)), List.forall_mem_cons.mpr ⟨(gcX10_whole__X10_whole_r2 _ (List.mem_of_getElem? (i := 16) rfl)), List.forall_mem_cons.mpr ⟨(gcX10_whole__X10_whole_r2 _ (List.mem_of_getElem? (i := 17) rfl)), List.forall_mem_cons.mpr ⟨(gcX10_whole__X10_whole_r2 _ (List.mem_of_getElem? (i := 18) rfl)), List.forall_mem_cons.mpr ⟨(gcX10_whole__X10_whole_r2 _ (List.mem_of_getElem? (i := 19) rfl)), fun _ h => (List.not_mem_nil h).elim⟩⟩⟩⟩⟩⟩⟩⟩⟩⟩⟩⟩⟩⟩⟩⟩⟩⟩⟩⟩⟩⟩⟩⟩
theorem gcX10_whole__X10_whole_r4 : ∀ w ∈ wsX10_whole_r4, w ∈ wsX10_whole := fun w h => List.mem_cons_of_mem _ (List.mem_append_left _ (List.mem_append_right _ (List.mem_append_right _ (List.mem_append_right _ (List.mem_append_left _ (h))))))
set_option maxRecDepth 20000 in
theorem gmX10_whole__X10_isSolved_r3 : ∀ w ∈ wsX10_isSolved_r3, w ∈ wsX10_whole := List.forall_mem_cons.mpr ⟨(gcX10_whole__X10_whole_r2 _ (List.mem_of_getElem? (i := 20) rfl)), List.forall_mem_cons.mpr ⟨(gcX10_whole__X10_whole_r2 _ (List.mem_of_getElem? (i := 21) rfl)), List.forall_mem_cons.mpr ⟨(gcX10_whole__X10_whole_r2 _ (List.mem_of_getElem? (i := 22) rfl)), List.forall_mem_cons.mpr ⟨(gcX10_whole__X10_whole_r2 _ (List.mem_of_getElem? (i := 23) rfl)), List.forall_mem_cons.mpr ⟨(gcX10_whole__X10_whole_r3 _ (List.mem_of_getElem? (i := 0) rfl)), List.forall_mem_cons.mpr ⟨(gcX10_whole__X10_whole_r3 _ (List.mem_of_getElem? (i := 1) rfl)), List.forall_mem_cons.mpr ⟨(gcX10_whole__X10_whole_r3 _ (List.mem_of_getElem? (i := 2) rfl)), List.forall_mem_cons.mpr ⟨(gcX10_whole__X10_whole_r3 _ (List.mem_of_getElem? (i := 3) rfl)), List.forall_mem_cons.mpr ⟨(gcX10_whole__X10_whole_r3 _ (List.mem_of_getElem? (i := 4) rfl)), List.forall_mem_cons.mpr ⟨(gcX10_whole__X10_whole_r3 _ (List.mem_of_getElem? (i := 5) rfl)), List.forall_mem_cons.mpr ⟨(gcX10_whole__X10_whole_r3 _ (List.mem_of_getElem? (i := 6) rfl)), List.forall_mem_cons.mpr ⟨(gcX10_whole__X10_whole_r3 _ (List.mem_of_getElem? (i := 22) rfl)), List.forall_mem_cons.mpr ⟨(gcX10_whole__X10_whole_r3 _ (List.mem_of_getElem? (i := 23) rfl)), List.forall_mem_cons.mpr ⟨(gcX10_whole__X10_whole_r4 _ (List.mem_of_getElem? (i := 0) rfl)), List.forall_mem_cons.mpr ⟨(gcX10_whole__X10_whole_r4 _ (List.mem_of_getElem? (i := 1) rfl)), List.forall_mem_cons.mpr ⟨(gcX10_whole__X10_whole_r4 _ (List.mem_of_getElem? (i := 2) rfl)), List.forall_mem_cons.mpr ⟨(gcX10_whole__X10_whole_r4 _ (List.mem_of_getElem? (i := 3) rfl)), List.forall_mem_cons.mpr ⟨(gcX10_whole__X10_whole_r4 _ (List.mem_of_getElem? (i := 4) rfl)), List.forall_mem_cons.mpr ⟨(gcX10_whole__X10_whole_r4 _ (List.mem_of_getElem? (i := 5) rfl)), List.forall_mem_cons.mpr ⟨(gcX10_whole__X10_whole_r4 _ (List.mem_of_getElem? (i := 6) rfl)), List.forall_mem_cons.mpr ⟨(gcX10_whole__X10_whole_r4 _ (List.mem_of_getElem? (i := 7) rfl)), List.forall_mem_cons.mpr ⟨(gcX10_whole__X10_whole_r4 _ (List.mem_of_getElem? (i := 8) rfl)), List.forall_mem_cons.mpr ⟨(gcX10_whole__X10_whole_r4 _ (List.mem_of_getElem? (i := 9) rfl)), List.forall_mem_cons.mpr ⟨(gcX10_whole__X10_whole_r4 _ (List.mem_of_getElem? (i := 10) rfl)), fun _ h => (List.not_mem_nil h).elim⟩⟩⟩⟩⟩⟩⟩⟩⟩⟩⟩⟩⟩⟩⟩⟩⟩⟩⟩⟩⟩⟩⟩⟩
theorem gcX10_whole__X10_whole_r5 : ∀ w ∈ wsX10_whole_r5, w ∈ wsX10_whole := fun w h => List.mem_cons_of_mem _ (List.mem_append_left _ (List.mem_append_right _ (List.mem_append_right _ (List.mem_append_right _ (List.mem_append_right _ (h))))))
set_option maxRecDepth 20000 in
theorem gmX10_whole__X10_isSolved_r4 : ∀ w ∈ wsX10_isSolved_r4, w ∈ wsX10_whole := List.forall_mem_cons.mpr ⟨(gcX10_whole__X10_whole_r4 _ (List.mem_of_getElem? (i := 11) rfl)), List.forall_mem_cons.mpr ⟨(gcX10_whole__X10_whole_r4 _ (List.mem_of_getElem? (i := 12) rfl)), List.forall_mem_cons.mpr ⟨(gcX10_whole__X10_whole_r4 _ (List.mem_of_getElem? (i := 13) rfl)), List.forall_mem_cons.mpr ⟨(gcX10_whole__X10_whole_r4 _ (List.mem_of_getElem? (i := 14) rfl)), List.forall_mem_cons.mpr ⟨(gcX10_whole__X10_whole_r4 _ (List.mem_of_getElem? (i := 15) rfl)), List.forall_mem_cons.mpr ⟨(gcX10_whole__X10_whole_r4 _ (List.mem_of_getElem? (i := 16) rfl)), List.forall_mem_cons.mpr ⟨(gcX10_whole__X10_whole_r4 _ (List.mem_of_getElem? (i := 17) rfl)), List.forall_mem_cons.mpr ⟨(gcX10_whole__X10_whole_r4 _ (List.mem_of_getElem? (i := 18) rfl)), List.forall_mem_cons.mpr ⟨(gcX10_whole__X10_whole_r4 _ (List.mem_of_getElem? (i := 19) rfl)), List.forall_mem_cons.mpr ⟨(gcX10_whole__X10_whole_r4 _ (List.mem_of_getElem? (i := 20) rfl)), List.forall_mem_cons.mpr ⟨(gcX10_whole__X10_whole_r4 _ (List.mem_of_getElem? (i := 21) rfl)), List.forall_mem_cons.mpr ⟨(gcX10_whole__X10_whole_r4 _ (List.mem_of_getElem? (i := 22) rfl)), List.forall_mem_cons.mpr ⟨(gcX10_whole__X10_whole_r4 _ (List.mem_of_getElem? (i := 23) rfl)), List.forall_mem_cons.mpr ⟨(gcX10_whole__X10_whole_r5 _ (List.mem_of_getElem? (i := 0) rfl)), List.forall_mem_cons.mpr ⟨(gcX10_whole__X10_whole_r1 _ (List.mem_of_getElem? (i := 14) rfl)), List.forall_mem_cons.mpr ⟨(gcX10_whole__X10_whole_r1 _ (List.mem_of_getElem? (i := 15) rfl)), List.forall_mem_cons.mpr ⟨(gcX10_whole__X10_whole_r1 _ (List.mem_of_getElem? (i := 16) rfl)), List.forall_mem_cons.mpr ⟨(gcX10_whole__X10_whole_r5 _ (List.mem_of_getElem? (i := 1) rfl)), List.forall_mem_cons.mpr ⟨(gcX10_whole__X10_whole_r5 _ (List.mem_of_getElem? (i := 2) rfl)), List.forall_mem_cons.mpr ⟨(gcX10_whole__X10_whole_r5 _ (List.mem_of_getElem? (i := 3) rfl)), List.forall_mem_cons.mpr ⟨(gcX10_whole__X10_whole_r5 _ (List.mem_of_getElem? (i := 4) rfl)), List.forall_mem_cons.mpr ⟨(gcX10_whole__X10_whole_r5 _ (List.mem_of_getElem? (i := 5) rfl)), List.forall_mem_cons.mpr ⟨(gcX10_whole__X10_whole_r5 _ (List.mem_of_getElem? (i := 6) rfl)), List.forall_mem_cons.mpr ⟨(gcX10_whole__X10_whole_r5 _ (List.mem_of_getElem? (i := 7) rfl)), fun _ h => (List.not_mem_nil h).elim⟩⟩⟩⟩⟩⟩⟩⟩⟩⟩⟩⟩⟩⟩⟩⟩⟩⟩⟩⟩⟩⟩⟩⟩
set_option maxRecDepth 20000 in
theorem gmX10_whole__X10_isSolved_r5 : ∀ w ∈ wsX10_isSolved_r5, w ∈ wsX10_whole := List.forall_mem_cons.mpr ⟨(gcX10_whole__X10_whole_r5 _ (List.mem_of_getElem? (i := 8) rfl)), List.forall_mem_cons.mpr ⟨(gcX10_whole__X10_whole_r1 _ (List.mem_of_getElem? (i := 0) rfl)), fun _ h => (List.not_mem_nil h).elim⟩⟩
set_option maxRecDepth 20000 in
theorem gwX10_isSolved : wsX10_isSolved.all goodWord = true := by decide +kernel
set_option maxRecDepth 20000 in
theorem ggX10_whole_X10_isSolved : GoodIn wsX10_whole wsX10_isSolved := goodIn_sub (List.forall_mem_cons.mpr ⟨(gcX10_whole__X10_whole_r3 _ (List.mem_of_getElem? (i := 10) rfl)), List.forall_mem_append.mpr ⟨List.forall_mem_append.mpr ⟨gmX10_whole__X10_isSolved_r1, List.forall_mem_append.mpr ⟨gmX10_whole__X10_isSolved_r2, List.forall_mem_append.mpr ⟨gmX10_whole__X10_isSolved_r3, List.forall_mem_append.mpr ⟨gmX10_whole__X10_isSolved_r4, gmX10_whole__X10_isSolved_r5⟩⟩⟩⟩, gcX10_whole__X100⟩⟩) gwX10_isSolved
set_option maxRecDepth 20000 in
theorem gX10_whole_X10_isSolved : GoodIn wsX10_whole (wsV RX10 405 RX10 yX10_isSolved wsX10_isSolved) := goodIn_app (goodIn_sub (List.forall_mem_cons.mpr ⟨(gcX10_whole__X10_whole_r3 _ (List.mem_of_getElem? (i := 7) rfl)), List.forall_mem_cons.mpr ⟨(gcX10_whole__X10_whole_r3 _ (List.mem_of_getElem? (i := 8) rfl)), List.forall_mem_cons.mpr ⟨(gcX10_whole__X10_whole_r3 _ (List.mem_of_getElem? (i := 9) rfl)), List.forall_mem_cons.mpr ⟨(gcX10_whole__X10_whole_r1 _ (List.mem_of_getElem? (i := 6) rfl)), fun _ h => (List.not_mem_nil h).elim⟩⟩⟩⟩) (by decide +kernel)) ggX10_whole_X10_isSolved
set_option maxRecDepth 20000 in
theorem ggX10_whole_X10_numberOf : GoodIn wsX10_whole wsX10_numberOf := goodIn_sub (List.forall_mem_cons.mpr ⟨(gcX10_whole__X10_whole_r4 _ (List.mem_of_getElem? (i := 1) rfl)), List.forall_mem_append.mpr ⟨List.forall_mem_cons.mpr ⟨(gcX10_whole__X10_whole_r3 _ (List.mem_of_getElem? (i := 11) rfl)), List.forall_mem_cons.mpr ⟨(gcX10_whole__X10_whole_r3 _ (List.mem_of_getElem? (i := 16) rfl)), fun _ h => (List.not_mem_nil h).elim⟩⟩, gcX10_whole__X100⟩⟩) gwX10_numberOf
set_option maxRecDepth 20000 in
theorem gX10_whole_X10_numberOf : GoodIn wsX10_whole (wsV RX10 387 RX10 yX10_numberOf wsX10_numberOf) := goodIn_app (goodIn_sub (List.forall_mem_cons.mpr ⟨(gcX10_whole__X10_whole_r3 _ (List.mem_of_getElem? (i := 22) rfl)), List.forall_mem_cons.mpr ⟨(gcX10_whole__X10_whole_r3 _ (List.mem_of_getElem? (i := 23) rfl)), List.forall_mem_cons.mpr ⟨(gcX10_whole__X10_whole_r4 _ (List.mem_of_getElem? (i := 0) rfl)), List.forall_mem_cons.mpr ⟨(gcX10_whole__X10_whole_r1 _ (List.mem_of_getElem? (i := 6) rfl)), fun _ h => (List.not_mem_nil h).elim⟩⟩⟩⟩) (by decide +kernel)) ggX10_whole_X10_numberOf
theorem dX10_whole_0 : decode cX10_whole 0 = .ok (.iload_n 1, 1) := by decide +kernel
theorem dX10_whole_1 : decode cX10_whole 1 = .ok (.i2l, 1) := by decide +kernel
theorem dX10_whole_2 : decode cX10_whole 2 = .ok (.lconst 0, 1) := by decide +kernel
theorem dX10_whole_3 : decode cX10_whole 3 = .ok (.ldc2_w 339, 3) := by decide +kernel
theorem dX10_whole_6 : decode cX10_whole 6 = .ok (.invokestatic 183, 3) := by decide +kernel
theorem dX10_whole_9 : decode cX10_whole 9 = .ok (.ifCond .eq 51, 3) := by decide +kernel
theorem dX10_whole_12 : decode cX10_whole 12 = .ok (.iload_n 3, 1) := by decide +kernel
theorem dX10_whole_13 : decode cX10_whole 13 = .ok (.i2l, 1) := by decide +kernel
theorem dX10_whole_14 : decode cX10_whole 14 = .ok (.lconst 0, 1) := by decide +kernel
theorem dX10_whole_15 : decode cX10_whole 15 = .ok (.lconst 1, 1) := by decide +kernel
theorem dX10_whole_16 : decode cX10_whole 16 = .ok (.invokestatic 183, 3) := by decide +kernel
theorem dX10_whole_19 : decode cX10_whole 19 = .ok (.ifCond .eq 41, 3) := by decide +kernel
theorem dX10_whole_22 : decode cX10_whole 22 = .ok (.iload_n 2, 1) := by decide +kernel
theorem dX10_whole_23 : decode cX10_whole 23 = .ok (.i2l, 1) := by decide +kernel
theorem dX10_whole_24 : decode cX10_whole 24 = .ok (.lconst 0, 1) := by decide +kernel
theorem dX10_whole_25 : decode cX10_whole 25 = .ok (.aload_n 0, 1) := by decide +kernel
theorem dX10_whole_26 : decode cX10_whole 26 = .ok (.getfield 58, 3) := by decide +kernel
theorem dX10_whole_29 : decode cX10_whole 29 = .ok (.bipush 6, 2) := by decide +kernel
theorem dX10_whole_31 : decode cX10_whole 31 = .ok (.iload_n 1, 1) := by decide +kernel
theorem dX10_whole_32 : decode cX10_whole 32 = .ok (.ifCond .ne 7, 3) := by decide +kernel
theorem dX10_whole_35 : decode cX10_whole 35 = .ok (.iconst 1, 1) := by decide +kernel
theorem dX10_whole_36 : decode cX10_whole 36 = .ok (.goto 13, 3) := by decide +kernel
theorem dX10_whole_39 : decode cX10_whole 39 = .ok (.iload_n 1, 1) := by decide +kernel
theorem dX10_whole_40 : decode cX10_whole 40 = .ok (.iconst 1, 1) := by decide +kernel
theorem dX10_whole_41 : decode cX10_whole 41 = .ok (.if_icmp .ne 7, 3) := by decide +kernel
theorem dX10_whole_44 : decode cX10_whole 44 = .ok (.iconst 2, 1) := by decide +kernel
theorem dX10_whole_45 : decode cX10_whole 45 = .ok (.goto 4, 3) := by decide +kernel
theorem dX10_whole_48 : decode cX10_whole 48 = .ok (.iconst 0, 1) := by decide +kernel
theorem dX10_whole_49 : decode cX10_whole 49 = .ok (.iadd, 1) := by decide +kernel
theorem dX10_whole_50 : decode cX10_whole 50 = .ok (.iaload, 1) := by decide +kernel
theorem dX10_whole_51 : decode cX10_whole 51 = .ok (.iconst 1, 1) := by decide +kernel
theorem dX10_whole_52 : decode cX10_whole 52 = .ok (.isub, 1) := by decide +kernel
theorem dX10_whole_53 : decode cX10_whole 53 = .ok (.i2l, 1) := by decide +kernel
theorem dX10_whole_54 : decode cX10_whole 54 = .ok (.invokestatic 183, 3) := by decide +kernel
theorem dX10_whole_57 : decode cX10_whole 57 = .ok (.ifCond .ne 5, 3) := by decide +kernel
theorem dX10_whole_60 : decode cX10_whole 60 = .ok (.iconst (-1), 1) := by decide +kernel
theorem dX10_whole_61 : decode cX10_whole 61 = .ok (.ireturn, 1) := by decide +kernel
theorem dX10_whole_62 : decode cX10_whole 62 = .ok (.iload_n 1, 1) := by decide +kernel
theorem dX10_whole_63 : decode cX10_whole 63 = .ok (.iconst 1, 1) := by decide +kernel
theorem dX10_whole_64 : decode cX10_whole 64 = .ok (.if_icmp .ne 33, 3) := by decide +kernel
theorem dX10_whole_67 : decode cX10_whole 67 = .ok (.aload_n 0, 1) := by decide +kernel
theorem dX10_whole_68 : decode cX10_whole 68 = .ok (.iload_n 2, 1) := by decide +kernel
theorem dX10_whole_69 : decode cX10_whole 69 = .ok (.invokevirtual 287, 3) := by decide +kernel
theorem dX10_whole_72 : decode cX10_whole 72 = .ok (.ifCond .eq 25, 3) := by decide +kernel
theorem dX10_whole_75 : decode cX10_whole 75 = .ok (.bipush 100, 2) := by decide +kernel
theorem dX10_whole_77 : decode cX10_whole 77 = .ok (.aload_n 0, 1) := by decide +kernel
theorem dX10_whole_78 : decode cX10_whole 78 = .ok (.getfield 76, 3) := by decide +kernel
theorem dX10_whole_81 : decode cX10_whole 81 = .ok (.bipush 40, 2) := by decide +kernel
theorem dX10_whole_83 : decode cX10_whole 83 = .ok (.iconst 2, 1) := by decide +kernel
theorem dX10_whole_84 : decode cX10_whole 84 = .ok (.iload_n 2, 1) := by decide +kernel
theorem dX10_whole_85 : decode cX10_whole 85 = .ok (.imul, 1) := by decide +kernel
theorem dX10_whole_86 : decode cX10_whole 86 = .ok (.iadd, 1) := by decide +kernel
theorem dX10_whole_87 : decode cX10_whole 87 = .ok (.iload_n 3, 1) := by decide +kernel
theorem dX10_whole_88 : decode cX10_whole 88 = .ok (.iadd, 1) := by decide +kernel
theorem dX10_whole_89 : decode cX10_whole 89 = .ok (.iaload, 1) := by decide +kernel
theorem dX10_whole_90 : decode cX10_whole 90 = .ok (.imul, 1) := by decide +kernel
theorem dX10_whole_91 : decode cX10_whole 91 = .ok (.i2l, 1) := by decide +kernel
theorem dX10_whole_92 : decode cX10_whole 92 = .ok (.invokestatic 373, 3) := by decide +kernel
theorem dX10_whole_95 : decode cX10_whole 95 = .ok (.l2i, 1) := by decide +kernel
theorem dX10_whole_96 : decode cX10_whole 96 = .ok (.ireturn, 1) := by decide +kernel
theorem dX10_whole_97 : decode cX10_whole 97 = .ok (.iload_n 2, 1) := by decide +kernel
theorem dX10_whole_98 : decode cX10_whole 98 = .ok (.iload_n 1, 1) := by decide +kernel
theorem dX10_whole_99 : decode cX10_whole 99 = .ok (.ifCond .ne 7, 3) := by decide +kernel
theorem dX10_whole_102 : decode cX10_whole 102 = .ok (.iconst 0, 1) := by decide +kernel
theorem dX10_whole_103 : decode cX10_whole 103 = .ok (.goto 15, 3) := by decide +kernel
theorem dX10_whole_106 : decode cX10_whole 106 = .ok (.iload_n 1, 1) := by decide +kernel
theorem dX10_whole_107 : decode cX10_whole 107 = .ok (.iconst 1, 1) := by decide +kernel
theorem dX10_whole_108 : decode cX10_whole 108 = .ok (.if_icmp .ne 8, 3) := by decide +kernel
theorem dX10_whole_111 : decode cX10_whole 111 = .ok (.bipush 12, 2) := by decide +kernel
theorem dX10_whole_113 : decode cX10_whole 113 = .ok (.goto 5, 3) := by decide +kernel
theorem dX10_whole_116 : decode cX10_whole 116 = .ok (.bipush 32, 2) := by decide +kernel
theorem dX10_whole_118 : decode cX10_whole 118 = .ok (.iadd, 1) := by decide +kernel
theorem dX10_whole_119 : decode cX10_whole 119 = .ok (.istore 4, 2) := by decide +kernel
theorem dX10_whole_121 : decode cX10_whole 121 = .ok (.aload_n 0, 1) := by decide +kernel
theorem dX10_whole_122 : decode cX10_whole 122 = .ok (.iload 4, 2) := by decide +kernel
theorem dX10_whole_124 : decode cX10_whole 124 = .ok (.invokevirtual 384, 3) := by decide +kernel
theorem dX10_whole_127 : decode cX10_whole 127 = .ok (.ifCond .eq 10, 3) := by decide +kernel
theorem dX10_whole_130 : decode cX10_whole 130 = .ok (.aload_n 0, 1) := by decide +kernel
theorem dX10_whole_131 : decode cX10_whole 131 = .ok (.invokevirtual 405, 3) := by decide +kernel
theorem dX10_whole_134 : decode cX10_whole 134 = .ok (.ifCond .ne 5, 3) := by decide +kernel
theorem dX10_whole_137 : decode cX10_whole 137 = .ok (.iconst (-1), 1) := by decide +kernel
theorem dX10_whole_138 : decode cX10_whole 138 = .ok (.ireturn, 1) := by decide +kernel
theorem dX10_whole_139 : decode cX10_whole 139 = .ok (.aload_n 0, 1) := by decide +kernel
theorem dX10_whole_140 : decode cX10_whole 140 = .ok (.getfield 110, 3) := by decide +kernel
theorem dX10_whole_143 : decode cX10_whole 143 = .ok (.bipush 40, 2) := by decide +kernel
theorem dX10_whole_145 : decode cX10_whole 145 = .ok (.aload_n 0, 1) := by decide +kernel
theorem dX10_whole_146 : decode cX10_whole 146 = .ok (.iload 4, 2) := by decide +kernel
theorem dX10_whole_148 : decode cX10_whole 148 = .ok (.invokevirtual 387, 3) := by decide +kernel
theorem dX10_whole_151 : decode cX10_whole 151 = .ok (.imul, 1) := by decide +kernel
theorem dX10_whole_152 : decode cX10_whole 152 = .ok (.bipush 38, 2) := by decide +kernel
theorem dX10_whole_154 : decode cX10_whole 154 = .ok (.iadd, 1) := by decide +kernel
theorem dX10_whole_155 : decode cX10_whole 155 = .ok (.iload_n 3, 1) := by decide +kernel
theorem dX10_whole_156 : decode cX10_whole 156 = .ok (.iadd, 1) := by decide +kernel
theorem dX10_whole_157 : decode cX10_whole 157 = .ok (.laload, 1) := by decide +kernel
theorem dX10_whole_158 : decode cX10_whole 158 = .ok (.l2i, 1) := by decide +kernel
theorem dX10_whole_159 : decode cX10_whole 159 = .ok (.ireturn, 1) := by decide +kernel
theorem gcX10_sets__X10_sets_r1 : ∀ w ∈ wsX10_sets_r1, w ∈ wsX10_sets := fun w h => List.mem_cons_of_mem _ (List.mem_append_left _ (List.mem_append_left _ (h)))
set_option maxRecDepth 20000 in
theorem ggX10_sets_X10_isIn : GoodIn wsX10_sets wsX10_isIn := goodIn_sub (List.forall_mem_cons.mpr ⟨(gcX10_sets__X10_sets_r1 _ (List.mem_of_getElem? (i := 5) rfl)), fun _ h => (List.not_mem_nil h).elim⟩) gwX10_isIn
set_option maxRecDepth 20000 in
theorem gX10_sets_X10_isIn : GoodIn wsX10_sets (va_wsS RX10 183 yX10_isIn wsX10_isIn) := goodIn_app (goodIn_sub (List.forall_mem_cons.mpr ⟨(gcX10_sets__X10_sets_r1 _ (List.mem_of_getElem? (i := 2) rfl)), List.forall_mem_cons.mpr ⟨(gcX10_sets__X10_sets_r1 _ (List.mem_of_getElem? (i := 3) rfl)), List.forall_mem_cons.mpr ⟨(gcX10_sets__X10_sets_r1 _ (List.mem_of_getElem? (i := 4) rfl)), fun _ h => (List.not_mem_nil h).elim⟩⟩⟩) (by decide +kernel)) ggX10_sets_X10_isIn
theorem gcX10_sets__X100 : ∀ w ∈ wsX100, w ∈ wsX10_sets := fun w h => List.mem_cons_of_mem _ (List.mem_append_right _ (h))
set_option maxRecDepth 20000 in
theorem ggX10_sets_X10_standControls : GoodIn wsX10_sets wsX10_standControls := goodIn_sub (List.forall_mem_cons.mpr ⟨(gcX10_sets__X10_sets_r1 _ (List.mem_of_getElem? (i := 9) rfl)), List.forall_mem_append.mpr ⟨List.forall_mem_cons.mpr ⟨(gcX10_sets__X10_sets_r1 _ (List.mem_of_getElem? (i := 10) rfl)), List.forall_mem_cons.mpr ⟨(gcX10_sets__X10_sets_r1 _ (List.mem_of_getElem? (i := 11) rfl)), List.forall_mem_cons.mpr ⟨(gcX10_sets__X10_sets_r1 _ (List.mem_of_getElem? (i := 12) rfl)), List.forall_mem_cons.mpr ⟨(gcX10_sets__X10_sets_r1 _ (List.mem_of_getElem? (i := 13) rfl)), List.forall_mem_cons.mpr ⟨(gcX10_sets__X10_sets_r1 _ (List.mem_of_getElem? (i := 14) rfl)), List.forall_mem_cons.mpr ⟨(gcX10_sets__X10_sets_r1 _ (List.mem_of_getElem? (i := 4) rfl)), List.forall_mem_cons.mpr ⟨(gcX10_sets__X10_sets_r1 _ (List.mem_of_getElem? (i := 15) rfl)), List.forall_mem_cons.mpr ⟨(gcX10_sets__X10_sets_r1 _ (List.mem_of_getElem? (i := 16) rfl)), List.forall_mem_cons.mpr ⟨(gcX10_sets__X10_sets_r1 _ (List.mem_of_getElem? (i := 17) rfl)), List.forall_mem_cons.mpr ⟨(gcX10_sets__X10_sets_r1 _ (List.mem_of_getElem? (i := 18) rfl)), List.forall_mem_cons.mpr ⟨(gcX10_sets__X10_sets_r1 _ (List.mem_of_getElem? (i := 19) rfl)), List.forall_mem_cons.mpr ⟨(gcX10_sets__X10_sets_r1 _ (List.mem_of_getElem? (i := 20) rfl)), List.forall_mem_cons.mpr ⟨(gcX10_sets__X10_sets_r1 _ (List.mem_of_getElem? (i := 21) rfl)), List.forall_mem_cons.mpr ⟨(gcX10_sets__X10_sets_r1 _ (List.mem_of_getElem? (i := 1) rfl)), fun _ h => (List.not_mem_nil h).elim⟩⟩⟩⟩⟩⟩⟩⟩⟩⟩⟩⟩⟩⟩, gcX10_sets__X100⟩⟩) gwX10_standControls
set_option maxRecDepth 20000 in
theorem gX10_sets_X10_standControls : GoodIn wsX10_sets (wsV RX10 319 RX10 yX10_standControls wsX10_standControls) := goodIn_app (goodIn_sub (List.forall_mem_cons.mpr ⟨(gcX10_sets__X10_sets_r1 _ (List.mem_of_getElem? (i := 6) rfl)), List.forall_mem_cons.mpr ⟨(gcX10_sets__X10_sets_r1 _ (List.mem_of_getElem? (i := 7) rfl)), List.forall_mem_cons.mpr ⟨(gcX10_sets__X10_sets_r1 _ (List.mem_of_getElem? (i := 8) rfl)), List.forall_mem_cons.mpr ⟨(gcX10_sets__X10_sets_r1 _ (List.mem_of_getElem? (i := 4) rfl)), fun _ h => (List.not_mem_nil h).elim⟩⟩⟩⟩) (by decide +kernel)) ggX10_sets_X10_standControls
theorem gcX10_sets__X10_sets_r2 : ∀ w ∈ wsX10_sets_r2, w ∈ wsX10_sets := fun w h => List.mem_cons_of_mem _ (List.mem_append_left _ (List.mem_append_right _ (h)))
set_option maxRecDepth 20000 in
theorem gwX10_controls : wsX10_controls.all goodWord = true := by decide +kernel
set_option maxRecDepth 20000 in
theorem ggX10_sets_X10_controls : GoodIn wsX10_sets wsX10_controls := goodIn_sub (List.forall_mem_cons.mpr ⟨(gcX10_sets__X10_sets_r2 _ (List.mem_of_getElem? (i := 1) rfl)), List.forall_mem_append.mpr ⟨List.forall_mem_cons.mpr ⟨(gcX10_sets__X10_sets_r1 _ (List.mem_of_getElem? (i := 12) rfl)), List.forall_mem_cons.mpr ⟨(gcX10_sets__X10_sets_r1 _ (List.mem_of_getElem? (i := 13) rfl)), List.forall_mem_cons.mpr ⟨(gcX10_sets__X10_sets_r1 _ (List.mem_of_getElem? (i := 14) rfl)), List.forall_mem_cons.mpr ⟨(gcX10_sets__X10_sets_r1 _ (List.mem_of_getElem? (i := 4) rfl)), List.forall_mem_cons.mpr ⟨(gcX10_sets__X10_sets_r1 _ (List.mem_of_getElem? (i := 15) rfl)), List.forall_mem_cons.mpr ⟨(gcX10_sets__X10_sets_r1 _ (List.mem_of_getElem? (i := 16) rfl)), List.forall_mem_cons.mpr ⟨(gcX10_sets__X10_sets_r1 _ (List.mem_of_getElem? (i := 17) rfl)), List.forall_mem_cons.mpr ⟨(gcX10_sets__X10_sets_r1 _ (List.mem_of_getElem? (i := 18) rfl)), List.forall_mem_cons.mpr ⟨(gcX10_sets__X10_sets_r1 _ (List.mem_of_getElem? (i := 19) rfl)), List.forall_mem_cons.mpr ⟨(gcX10_sets__X10_sets_r1 _ (List.mem_of_getElem? (i := 20) rfl)), List.forall_mem_cons.mpr ⟨(gcX10_sets__X10_sets_r1 _ (List.mem_of_getElem? (i := 21) rfl)), List.forall_mem_cons.mpr ⟨(gcX10_sets__X10_sets_r1 _ (List.mem_of_getElem? (i := 1) rfl)), fun _ h => (List.not_mem_nil h).elim⟩⟩⟩⟩⟩⟩⟩⟩⟩⟩⟩⟩, gcX10_sets__X100⟩⟩) gwX10_controls
set_option maxRecDepth 20000 in
theorem gX10_sets_X10_controls : GoodIn wsX10_sets (wsV RX10 410 RX10 yX10_controls wsX10_controls) := goodIn_app (goodIn_sub (List.forall_mem_cons.mpr ⟨(gcX10_sets__X10_sets_r1 _ (List.mem_of_getElem? (i := 22) rfl)), List.forall_mem_cons.mpr ⟨(gcX10_sets__X10_sets_r1 _ (List.mem_of_getElem? (i := 23) rfl)), List.forall_mem_cons.mpr ⟨(gcX10_sets__X10_sets_r2 _ (List.mem_of_getElem? (i := 0) rfl)), List.forall_mem_cons.mpr ⟨(gcX10_sets__X10_sets_r1 _ (List.mem_of_getElem? (i := 4) rfl)), fun _ h => (List.not_mem_nil h).elim⟩⟩⟩⟩) (by decide +kernel)) ggX10_sets_X10_controls
theorem dX10_sets_0 : decode cX10_sets 0 = .ok (.iload_n 1, 1) := by decide +kernel
theorem dX10_sets_1 : decode cX10_sets 1 = .ok (.i2l, 1) := by decide +kernel
theorem dX10_sets_2 : decode cX10_sets 2 = .ok (.lconst 0, 1) := by decide +kernel
theorem dX10_sets_3 : decode cX10_sets 3 = .ok (.ldc2_w 408, 3) := by decide +kernel
theorem dX10_sets_6 : decode cX10_sets 6 = .ok (.invokestatic 183, 3) := by decide +kernel
theorem dX10_sets_9 : decode cX10_sets 9 = .ok (.ifCond .ne 5, 3) := by decide +kernel
theorem dX10_sets_12 : decode cX10_sets 12 = .ok (.iconst (-1), 1) := by decide +kernel
theorem dX10_sets_13 : decode cX10_sets 13 = .ok (.ireturn, 1) := by decide +kernel
theorem dX10_sets_14 : decode cX10_sets 14 = .ok (.aload_n 0, 1) := by decide +kernel
theorem dX10_sets_15 : decode cX10_sets 15 = .ok (.iload_n 1, 1) := by decide +kernel
theorem dX10_sets_16 : decode cX10_sets 16 = .ok (.putfield 95, 3) := by decide +kernel
theorem dX10_sets_19 : decode cX10_sets 19 = .ok (.aload_n 0, 1) := by decide +kernel
theorem dX10_sets_20 : decode cX10_sets 20 = .ok (.invokevirtual 319, 3) := by decide +kernel
theorem dX10_sets_23 : decode cX10_sets 23 = .ok (.aload_n 0, 1) := by decide +kernel
theorem dX10_sets_24 : decode cX10_sets 24 = .ok (.invokevirtual 410, 3) := by decide +kernel
theorem dX10_sets_27 : decode cX10_sets 27 = .ok (.ireturn, 1) := by decide +kernel
theorem gcX10_controls__X100 : ∀ w ∈ wsX100, w ∈ wsX10_controls := fun w h => List.mem_cons_of_mem _ (List.mem_append_right _ (h))
set_option maxRecDepth 20000 in
theorem ggX10_controls_X10_points : GoodIn wsX10_controls wsX10_points := goodIn_sub (List.forall_mem_cons.mpr ⟨(List.mem_of_getElem? (i := 5) rfl), List.forall_mem_append.mpr ⟨List.forall_mem_cons.mpr ⟨(List.mem_of_getElem? (i := 6) rfl), fun _ h => (List.not_mem_nil h).elim⟩, gcX10_controls__X100⟩⟩) gwX10_points
set_option maxRecDepth 20000 in
theorem gX10_controls_X10_points : GoodIn wsX10_controls (wsV RX10 262 RX10 yX10_points wsX10_points) := goodIn_app (goodIn_sub (List.forall_mem_cons.mpr ⟨(List.mem_of_getElem? (i := 1) rfl), List.forall_mem_cons.mpr ⟨(List.mem_of_getElem? (i := 2) rfl), List.forall_mem_cons.mpr ⟨(List.mem_of_getElem? (i := 3) rfl), List.forall_mem_cons.mpr ⟨(List.mem_of_getElem? (i := 4) rfl), fun _ h => (List.not_mem_nil h).elim⟩⟩⟩⟩) (by decide +kernel)) ggX10_controls_X10_points
set_option maxRecDepth 20000 in
theorem ggX10_controls_X10_isControl : GoodIn wsX10_controls wsX10_isControl := goodIn_sub (List.forall_mem_cons.mpr ⟨(List.mem_of_getElem? (i := 10) rfl), List.forall_mem_append.mpr ⟨List.forall_mem_cons.mpr ⟨(List.mem_of_getElem? (i := 11) rfl), List.forall_mem_cons.mpr ⟨(List.mem_of_getElem? (i := 12) rfl), fun _ h => (List.not_mem_nil h).elim⟩⟩, gcX10_controls__X100⟩⟩) gwX10_isControl
set_option maxRecDepth 20000 in
theorem gX10_controls_X10_isControl : GoodIn wsX10_controls (wsV RX10 287 RX10 yX10_isControl wsX10_isControl) := goodIn_app (goodIn_sub (List.forall_mem_cons.mpr ⟨(List.mem_of_getElem? (i := 7) rfl), List.forall_mem_cons.mpr ⟨(List.mem_of_getElem? (i := 8) rfl), List.forall_mem_cons.mpr ⟨(List.mem_of_getElem? (i := 9) rfl), List.forall_mem_cons.mpr ⟨(List.mem_of_getElem? (i := 4) rfl), fun _ h => (List.not_mem_nil h).elim⟩⟩⟩⟩) (by decide +kernel)) ggX10_controls_X10_isControl
theorem dX10_controls_0 : decode cX10_controls 0 = .ok (.iconst 0, 1) := by decide +kernel
theorem dX10_controls_1 : decode cX10_controls 1 = .ok (.istore_n 1, 1) := by decide +kernel
theorem dX10_controls_2 : decode cX10_controls 2 = .ok (.iconst 0, 1) := by decide +kernel
theorem dX10_controls_3 : decode cX10_controls 3 = .ok (.istore_n 2, 1) := by decide +kernel
theorem dX10_controls_4 : decode cX10_controls 4 = .ok (.iload_n 2, 1) := by decide +kernel
theorem dX10_controls_5 : decode cX10_controls 5 = .ok (.aload_n 0, 1) := by decide +kernel
theorem dX10_controls_6 : decode cX10_controls 6 = .ok (.invokevirtual 262, 3) := by decide +kernel
theorem dX10_controls_9 : decode cX10_controls 9 = .ok (.if_icmp .ge 20, 3) := by decide +kernel
theorem dX10_controls_12 : decode cX10_controls 12 = .ok (.aload_n 0, 1) := by decide +kernel
theorem dX10_controls_13 : decode cX10_controls 13 = .ok (.iload_n 2, 1) := by decide +kernel
theorem dX10_controls_14 : decode cX10_controls 14 = .ok (.invokevirtual 287, 3) := by decide +kernel
theorem dX10_controls_17 : decode cX10_controls 17 = .ok (.ifCond .eq 6, 3) := by decide +kernel
theorem dX10_controls_20 : decode cX10_controls 20 = .ok (.iinc 1 1, 3) := by decide +kernel
theorem dX10_controls_23 : decode cX10_controls 23 = .ok (.iinc 2 1, 3) := by decide +kernel
theorem dX10_controls_26 : decode cX10_controls 26 = .ok (.goto (-22), 3) := by decide +kernel
theorem dX10_controls_29 : decode cX10_controls 29 = .ok (.iload_n 1, 1) := by decide +kernel
theorem dX10_controls_30 : decode cX10_controls 30 = .ok (.ireturn, 1) := by decide +kernel
theorem gcX10_dropped__X100 : ∀ w ∈ wsX100, w ∈ wsX10_dropped := fun w h => List.mem_cons_of_mem _ (List.mem_append_right _ (h))
set_option maxRecDepth 20000 in
theorem ggX10_dropped_X10_rows : GoodIn wsX10_dropped wsX10_rows := goodIn_sub (List.forall_mem_cons.mpr ⟨(List.mem_of_getElem? (i := 6) rfl), List.forall_mem_append.mpr ⟨List.forall_mem_cons.mpr ⟨(List.mem_of_getElem? (i := 7) rfl), fun _ h => (List.not_mem_nil h).elim⟩, gcX10_dropped__X100⟩⟩) gwX10_rows
set_option maxRecDepth 20000 in
theorem gX10_dropped_X10_rows : GoodIn wsX10_dropped (wsV RX10 265 RX10 yX10_rows wsX10_rows) := goodIn_app (goodIn_sub (List.forall_mem_cons.mpr ⟨(List.mem_of_getElem? (i := 2) rfl), List.forall_mem_cons.mpr ⟨(List.mem_of_getElem? (i := 3) rfl), List.forall_mem_cons.mpr ⟨(List.mem_of_getElem? (i := 4) rfl), List.forall_mem_cons.mpr ⟨(List.mem_of_getElem? (i := 5) rfl), fun _ h => (List.not_mem_nil h).elim⟩⟩⟩⟩) (by decide +kernel)) ggX10_dropped_X10_rows
theorem dX10_dropped_0 : decode cX10_dropped 0 = .ok (.iconst 0, 1) := by decide +kernel
theorem dX10_dropped_1 : decode cX10_dropped 1 = .ok (.istore_n 1, 1) := by decide +kernel
theorem dX10_dropped_2 : decode cX10_dropped 2 = .ok (.iconst 0, 1) := by decide +kernel
theorem dX10_dropped_3 : decode cX10_dropped 3 = .ok (.istore_n 2, 1) := by decide +kernel
theorem dX10_dropped_4 : decode cX10_dropped 4 = .ok (.iload_n 2, 1) := by decide +kernel
theorem dX10_dropped_5 : decode cX10_dropped 5 = .ok (.aload_n 0, 1) := by decide +kernel
theorem dX10_dropped_6 : decode cX10_dropped 6 = .ok (.invokevirtual 265, 3) := by decide +kernel
theorem dX10_dropped_9 : decode cX10_dropped 9 = .ok (.if_icmp .ge 21, 3) := by decide +kernel
theorem dX10_dropped_12 : decode cX10_dropped 12 = .ok (.aload_n 0, 1) := by decide +kernel
theorem dX10_dropped_13 : decode cX10_dropped 13 = .ok (.getfield 91, 3) := by decide +kernel
theorem dX10_dropped_16 : decode cX10_dropped 16 = .ok (.iload_n 2, 1) := by decide +kernel
theorem dX10_dropped_17 : decode cX10_dropped 17 = .ok (.baload, 1) := by decide +kernel
theorem dX10_dropped_18 : decode cX10_dropped 18 = .ok (.ifCond .eq 6, 3) := by decide +kernel
theorem dX10_dropped_21 : decode cX10_dropped 21 = .ok (.iinc 1 1, 3) := by decide +kernel
theorem dX10_dropped_24 : decode cX10_dropped 24 = .ok (.iinc 2 1, 3) := by decide +kernel
theorem dX10_dropped_27 : decode cX10_dropped 27 = .ok (.goto (-23), 3) := by decide +kernel
theorem dX10_dropped_30 : decode cX10_dropped 30 = .ok (.iload_n 1, 1) := by decide +kernel
theorem dX10_dropped_31 : decode cX10_dropped 31 = .ok (.ireturn, 1) := by decide +kernel
theorem gcX10_has__X10_has_r1 : ∀ w ∈ wsX10_has_r1, w ∈ wsX10_has := fun w h => List.mem_cons_of_mem _ (List.mem_append_left _ (List.mem_append_left _ (h)))
theorem gcX10_has__X100 : ∀ w ∈ wsX100, w ∈ wsX10_has := fun w h => List.mem_cons_of_mem _ (List.mem_append_right _ (h))
set_option maxRecDepth 20000 in
theorem gwX10_dropped : wsX10_dropped.all goodWord = true := by decide +kernel
set_option maxRecDepth 20000 in
theorem ggX10_has_X10_dropped : GoodIn wsX10_has wsX10_dropped := goodIn_sub (List.forall_mem_cons.mpr ⟨(gcX10_has__X10_has_r1 _ (List.mem_of_getElem? (i := 6) rfl)), List.forall_mem_append.mpr ⟨List.forall_mem_cons.mpr ⟨(gcX10_has__X10_has_r1 _ (List.mem_of_getElem? (i := 7) rfl)), List.forall_mem_cons.mpr ⟨(gcX10_has__X10_has_r1 _ (List.mem_of_getElem? (i := 8) rfl)), List.forall_mem_cons.mpr ⟨(gcX10_has__X10_has_r1 _ (List.mem_of_getElem? (i := 9) rfl)), List.forall_mem_cons.mpr ⟨(gcX10_has__X10_has_r1 _ (List.mem_of_getElem? (i := 10) rfl)), List.forall_mem_cons.mpr ⟨(gcX10_has__X10_has_r1 _ (List.mem_of_getElem? (i := 5) rfl)), List.forall_mem_cons.mpr ⟨(gcX10_has__X10_has_r1 _ (List.mem_of_getElem? (i := 11) rfl)), List.forall_mem_cons.mpr ⟨(gcX10_has__X10_has_r1 _ (List.mem_of_getElem? (i := 0) rfl)), fun _ h => (List.not_mem_nil h).elim⟩⟩⟩⟩⟩⟩⟩, gcX10_has__X100⟩⟩) gwX10_dropped
set_option maxRecDepth 20000 in
theorem gX10_has_X10_dropped : GoodIn wsX10_has (wsV RX10 413 RX10 yX10_dropped wsX10_dropped) := goodIn_app (goodIn_sub (List.forall_mem_cons.mpr ⟨(gcX10_has__X10_has_r1 _ (List.mem_of_getElem? (i := 2) rfl)), List.forall_mem_cons.mpr ⟨(gcX10_has__X10_has_r1 _ (List.mem_of_getElem? (i := 3) rfl)), List.forall_mem_cons.mpr ⟨(gcX10_has__X10_has_r1 _ (List.mem_of_getElem? (i := 4) rfl)), List.forall_mem_cons.mpr ⟨(gcX10_has__X10_has_r1 _ (List.mem_of_getElem? (i := 5) rfl)), fun _ h => (List.not_mem_nil h).elim⟩⟩⟩⟩) (by decide +kernel)) ggX10_has_X10_dropped
theorem gcX10_has__X10_has_r2 : ∀ w ∈ wsX10_has_r2, w ∈ wsX10_has := fun w h => List.mem_cons_of_mem _ (List.mem_append_left _ (List.mem_append_right _ (h)))
set_option maxRecDepth 20000 in
theorem ggX10_has_X10_controls : GoodIn wsX10_has wsX10_controls := goodIn_sub (List.forall_mem_cons.mpr ⟨(gcX10_has__X10_has_r1 _ (List.mem_of_getElem? (i := 15) rfl)), List.forall_mem_append.mpr ⟨List.forall_mem_cons.mpr ⟨(gcX10_has__X10_has_r1 _ (List.mem_of_getElem? (i := 16) rfl)), List.forall_mem_cons.mpr ⟨(gcX10_has__X10_has_r1 _ (List.mem_of_getElem? (i := 17) rfl)), List.forall_mem_cons.mpr ⟨(gcX10_has__X10_has_r1 _ (List.mem_of_getElem? (i := 18) rfl)), List.forall_mem_cons.mpr ⟨(gcX10_has__X10_has_r1 _ (List.mem_of_getElem? (i := 5) rfl)), List.forall_mem_cons.mpr ⟨(gcX10_has__X10_has_r1 _ (List.mem_of_getElem? (i := 19) rfl)), List.forall_mem_cons.mpr ⟨(gcX10_has__X10_has_r1 _ (List.mem_of_getElem? (i := 0) rfl)), List.forall_mem_cons.mpr ⟨(gcX10_has__X10_has_r1 _ (List.mem_of_getElem? (i := 20) rfl)), List.forall_mem_cons.mpr ⟨(gcX10_has__X10_has_r1 _ (List.mem_of_getElem? (i := 21) rfl)), List.forall_mem_cons.mpr ⟨(gcX10_has__X10_has_r1 _ (List.mem_of_getElem? (i := 22) rfl)), List.forall_mem_cons.mpr ⟨(gcX10_has__X10_has_r1 _ (List.mem_of_getElem? (i := 23) rfl)), List.forall_mem_cons.mpr ⟨(gcX10_has__X10_has_r2 _ (List.mem_of_getElem? (i := 0) rfl)), List.forall_mem_cons.mpr ⟨(gcX10_has__X10_has_r1 _ (List.mem_of_getElem? (i := 1) rfl)), fun _ h => (List.not_mem_nil h).elim⟩⟩⟩⟩⟩⟩⟩⟩⟩⟩⟩⟩, gcX10_has__X100⟩⟩) gwX10_controls
set_option maxRecDepth 20000 in
theorem gX10_has_X10_controls : GoodIn wsX10_has (wsV RX10 410 RX10 yX10_controls wsX10_controls) := goodIn_app (goodIn_sub (List.forall_mem_cons.mpr ⟨(gcX10_has__X10_has_r1 _ (List.mem_of_getElem? (i := 12) rfl)), List.forall_mem_cons.mpr ⟨(gcX10_has__X10_has_r1 _ (List.mem_of_getElem? (i := 13) rfl)), List.forall_mem_cons.mpr ⟨(gcX10_has__X10_has_r1 _ (List.mem_of_getElem? (i := 14) rfl)), List.forall_mem_cons.mpr ⟨(gcX10_has__X10_has_r1 _ (List.mem_of_getElem? (i := 5) rfl)), fun _ h => (List.not_mem_nil h).elim⟩⟩⟩⟩) (by decide +kernel)) ggX10_has_X10_controls
theorem dX10_has_0 : decode cX10_has 0 = .ok (.iload_n 1, 1) := by decide +kernel
theorem dX10_has_1 : decode cX10_has 1 = .ok (.tableswitch 76 0 8 #[51, 51, 51, 51, 51, 51, 61, 66, 71], 51) := by decide +kernel
theorem dX10_has_52 : decode cX10_has 52 = .ok (.aload_n 0, 1) := by decide +kernel
theorem dX10_has_53 : decode cX10_has 53 = .ok (.getfield 58, 3) := by decide +kernel
theorem dX10_has_56 : decode cX10_has 56 = .ok (.bipush 6, 2) := by decide +kernel
theorem dX10_has_58 : decode cX10_has 58 = .ok (.iload_n 1, 1) := by decide +kernel
theorem dX10_has_59 : decode cX10_has 59 = .ok (.iadd, 1) := by decide +kernel
theorem dX10_has_60 : decode cX10_has 60 = .ok (.iaload, 1) := by decide +kernel
theorem dX10_has_61 : decode cX10_has 61 = .ok (.ireturn, 1) := by decide +kernel
theorem dX10_has_62 : decode cX10_has 62 = .ok (.aload_n 0, 1) := by decide +kernel
theorem dX10_has_63 : decode cX10_has 63 = .ok (.invokevirtual 413, 3) := by decide +kernel
theorem dX10_has_66 : decode cX10_has 66 = .ok (.ireturn, 1) := by decide +kernel
theorem dX10_has_67 : decode cX10_has 67 = .ok (.aload_n 0, 1) := by decide +kernel
theorem dX10_has_68 : decode cX10_has 68 = .ok (.getfield 95, 3) := by decide +kernel
theorem dX10_has_71 : decode cX10_has 71 = .ok (.ireturn, 1) := by decide +kernel
theorem dX10_has_72 : decode cX10_has 72 = .ok (.aload_n 0, 1) := by decide +kernel
theorem dX10_has_73 : decode cX10_has 73 = .ok (.invokevirtual 410, 3) := by decide +kernel
theorem dX10_has_76 : decode cX10_has 76 = .ok (.ireturn, 1) := by decide +kernel
theorem dX10_has_77 : decode cX10_has 77 = .ok (.iconst (-1), 1) := by decide +kernel
theorem dX10_has_78 : decode cX10_has 78 = .ok (.ireturn, 1) := by decide +kernel
set_option maxRecDepth 20000 in
theorem ggX10_letter_X10_isIn : GoodIn wsX10_letter wsX10_isIn := goodIn_sub (List.forall_mem_cons.mpr ⟨(List.mem_of_getElem? (i := 9) rfl), fun _ h => (List.not_mem_nil h).elim⟩) gwX10_isIn
set_option maxRecDepth 20000 in
theorem gX10_letter_X10_isIn : GoodIn wsX10_letter (va_wsS RX10 183 yX10_isIn wsX10_isIn) := goodIn_app (goodIn_sub (List.forall_mem_cons.mpr ⟨(List.mem_of_getElem? (i := 6) rfl), List.forall_mem_cons.mpr ⟨(List.mem_of_getElem? (i := 7) rfl), List.forall_mem_cons.mpr ⟨(List.mem_of_getElem? (i := 8) rfl), fun _ h => (List.not_mem_nil h).elim⟩⟩⟩) (by decide +kernel)) ggX10_letter_X10_isIn
theorem dX10_letter_0 : decode cX10_letter 0 = .ok (.iload_n 1, 1) := by decide +kernel
theorem dX10_letter_1 : decode cX10_letter 1 = .ok (.i2l, 1) := by decide +kernel
theorem dX10_letter_2 : decode cX10_letter 2 = .ok (.lconst 0, 1) := by decide +kernel
theorem dX10_letter_3 : decode cX10_letter 3 = .ok (.ldc2_w 339, 3) := by decide +kernel
theorem dX10_letter_6 : decode cX10_letter 6 = .ok (.invokestatic 183, 3) := by decide +kernel
theorem dX10_letter_9 : decode cX10_letter 9 = .ok (.ifCond .eq 36, 3) := by decide +kernel
theorem dX10_letter_12 : decode cX10_letter 12 = .ok (.iload_n 2, 1) := by decide +kernel
theorem dX10_letter_13 : decode cX10_letter 13 = .ok (.i2l, 1) := by decide +kernel
theorem dX10_letter_14 : decode cX10_letter 14 = .ok (.lconst 0, 1) := by decide +kernel
theorem dX10_letter_15 : decode cX10_letter 15 = .ok (.aload_n 0, 1) := by decide +kernel
theorem dX10_letter_16 : decode cX10_letter 16 = .ok (.getfield 58, 3) := by decide +kernel
theorem dX10_letter_19 : decode cX10_letter 19 = .ok (.bipush 6, 2) := by decide +kernel
theorem dX10_letter_21 : decode cX10_letter 21 = .ok (.iload_n 1, 1) := by decide +kernel
theorem dX10_letter_22 : decode cX10_letter 22 = .ok (.iadd, 1) := by decide +kernel
theorem dX10_letter_23 : decode cX10_letter 23 = .ok (.iaload, 1) := by decide +kernel
theorem dX10_letter_24 : decode cX10_letter 24 = .ok (.iconst 1, 1) := by decide +kernel
theorem dX10_letter_25 : decode cX10_letter 25 = .ok (.isub, 1) := by decide +kernel
theorem dX10_letter_26 : decode cX10_letter 26 = .ok (.i2l, 1) := by decide +kernel
theorem dX10_letter_27 : decode cX10_letter 27 = .ok (.invokestatic 183, 3) := by decide +kernel
theorem dX10_letter_30 : decode cX10_letter 30 = .ok (.ifCond .eq 15, 3) := by decide +kernel
theorem dX10_letter_33 : decode cX10_letter 33 = .ok (.iload_n 3, 1) := by decide +kernel
theorem dX10_letter_34 : decode cX10_letter 34 = .ok (.i2l, 1) := by decide +kernel
theorem dX10_letter_35 : decode cX10_letter 35 = .ok (.lconst 0, 1) := by decide +kernel
theorem dX10_letter_36 : decode cX10_letter 36 = .ok (.ldc2_w 416, 3) := by decide +kernel
theorem dX10_letter_39 : decode cX10_letter 39 = .ok (.invokestatic 183, 3) := by decide +kernel
theorem dX10_letter_42 : decode cX10_letter 42 = .ok (.ifCond .ne 5, 3) := by decide +kernel
theorem dX10_letter_45 : decode cX10_letter 45 = .ok (.iconst (-1), 1) := by decide +kernel
theorem dX10_letter_46 : decode cX10_letter 46 = .ok (.ireturn, 1) := by decide +kernel
theorem dX10_letter_47 : decode cX10_letter 47 = .ok (.aload_n 0, 1) := by decide +kernel
theorem dX10_letter_48 : decode cX10_letter 48 = .ok (.getfield 54, 3) := by decide +kernel
theorem dX10_letter_51 : decode cX10_letter 51 = .ok (.bipush 60, 2) := by decide +kernel
theorem dX10_letter_53 : decode cX10_letter 53 = .ok (.bipush 20, 2) := by decide +kernel
theorem dX10_letter_55 : decode cX10_letter 55 = .ok (.iload_n 1, 1) := by decide +kernel
theorem dX10_letter_56 : decode cX10_letter 56 = .ok (.imul, 1) := by decide +kernel
theorem dX10_letter_57 : decode cX10_letter 57 = .ok (.iadd, 1) := by decide +kernel
theorem dX10_letter_58 : decode cX10_letter 58 = .ok (.iload_n 2, 1) := by decide +kernel
theorem dX10_letter_59 : decode cX10_letter 59 = .ok (.iadd, 1) := by decide +kernel
theorem dX10_letter_60 : decode cX10_letter 60 = .ok (.laload, 1) := by decide +kernel
theorem dX10_letter_61 : decode cX10_letter 61 = .ok (.lstore 4, 2) := by decide +kernel
theorem dX10_letter_63 : decode cX10_letter 63 = .ok (.iconst 0, 1) := by decide +kernel
theorem dX10_letter_64 : decode cX10_letter 64 = .ok (.istore 6, 2) := by decide +kernel
theorem dX10_letter_66 : decode cX10_letter 66 = .ok (.lload 4, 2) := by decide +kernel
theorem dX10_letter_68 : decode cX10_letter 68 = .ok (.lstore 7, 2) := by decide +kernel
theorem dX10_letter_70 : decode cX10_letter 70 = .ok (.lload 7, 2) := by decide +kernel
theorem dX10_letter_72 : decode cX10_letter 72 = .ok (.lconst 0, 1) := by decide +kernel
theorem dX10_letter_73 : decode cX10_letter 73 = .ok (.lcmp, 1) := by decide +kernel
theorem dX10_letter_74 : decode cX10_letter 74 = .ok (.ifCond .le 17, 3) := by decide +kernel
theorem dX10_letter_77 : decode cX10_letter 77 = .ok (.iinc 6 1, 3) := by decide +kernel
theorem dX10_letter_80 : decode cX10_letter 80 = .ok (.lload 7, 2) := by decide +kernel
theorem dX10_letter_82 : decode cX10_letter 82 = .ok (.ldc2_w 194, 3) := by decide +kernel
theorem dX10_letter_85 : decode cX10_letter 85 = .ok (.ldiv, 1) := by decide +kernel
theorem dX10_letter_86 : decode cX10_letter 86 = .ok (.lstore 7, 2) := by decide +kernel
theorem dX10_letter_88 : decode cX10_letter 88 = .ok (.goto (-18), 3) := by decide +kernel
theorem dX10_letter_91 : decode cX10_letter 91 = .ok (.iload_n 3, 1) := by decide +kernel
theorem dX10_letter_92 : decode cX10_letter 92 = .ok (.iload 6, 2) := by decide +kernel
theorem dX10_letter_94 : decode cX10_letter 94 = .ok (.if_icmp .lt 5, 3) := by decide +kernel
theorem dX10_letter_97 : decode cX10_letter 97 = .ok (.iconst 0, 1) := by decide +kernel
theorem dX10_letter_98 : decode cX10_letter 98 = .ok (.ireturn, 1) := by decide +kernel
theorem dX10_letter_99 : decode cX10_letter 99 = .ok (.iload 6, 2) := by decide +kernel
theorem dX10_letter_101 : decode cX10_letter 101 = .ok (.iconst 1, 1) := by decide +kernel
theorem dX10_letter_102 : decode cX10_letter 102 = .ok (.isub, 1) := by decide +kernel
theorem dX10_letter_103 : decode cX10_letter 103 = .ok (.istore 7, 2) := by decide +kernel
theorem dX10_letter_105 : decode cX10_letter 105 = .ok (.iload 7, 2) := by decide +kernel
theorem dX10_letter_107 : decode cX10_letter 107 = .ok (.iload_n 3, 1) := by decide +kernel
theorem dX10_letter_108 : decode cX10_letter 108 = .ok (.if_icmp .le 17, 3) := by decide +kernel
theorem dX10_letter_111 : decode cX10_letter 111 = .ok (.lload 4, 2) := by decide +kernel
theorem dX10_letter_113 : decode cX10_letter 113 = .ok (.ldc2_w 194, 3) := by decide +kernel
theorem dX10_letter_116 : decode cX10_letter 116 = .ok (.ldiv, 1) := by decide +kernel
theorem dX10_letter_117 : decode cX10_letter 117 = .ok (.lstore 4, 2) := by decide +kernel
theorem dX10_letter_119 : decode cX10_letter 119 = .ok (.iinc 7 (-1), 3) := by decide +kernel
theorem dX10_letter_122 : decode cX10_letter 122 = .ok (.goto (-17), 3) := by decide +kernel
theorem dX10_letter_125 : decode cX10_letter 125 = .ok (.lload 4, 2) := by decide +kernel
theorem dX10_letter_127 : decode cX10_letter 127 = .ok (.ldc2_w 194, 3) := by decide +kernel
theorem dX10_letter_130 : decode cX10_letter 130 = .ok (.lrem, 1) := by decide +kernel
theorem dX10_letter_131 : decode cX10_letter 131 = .ok (.l2i, 1) := by decide +kernel
theorem dX10_letter_132 : decode cX10_letter 132 = .ok (.ireturn, 1) := by decide +kernel
theorem dX10_joins_0 : decode cX10_joins 0 = .ok (.aload_n 0, 1) := by decide +kernel
theorem dX10_joins_1 : decode cX10_joins 1 = .ok (.getfield 113, 3) := by decide +kernel
theorem dX10_joins_4 : decode cX10_joins 4 = .ok (.iload_n 1, 1) := by decide +kernel
theorem dX10_joins_5 : decode cX10_joins 5 = .ok (.iaload, 1) := by decide +kernel
theorem dX10_joins_6 : decode cX10_joins 6 = .ok (.istore_n 3, 1) := by decide +kernel
theorem dX10_joins_7 : decode cX10_joins 7 = .ok (.aload_n 0, 1) := by decide +kernel
theorem dX10_joins_8 : decode cX10_joins 8 = .ok (.getfield 113, 3) := by decide +kernel
theorem dX10_joins_11 : decode cX10_joins 11 = .ok (.iload_n 2, 1) := by decide +kernel
theorem dX10_joins_12 : decode cX10_joins 12 = .ok (.iaload, 1) := by decide +kernel
theorem dX10_joins_13 : decode cX10_joins 13 = .ok (.istore 4, 2) := by decide +kernel
theorem dX10_joins_15 : decode cX10_joins 15 = .ok (.iload_n 3, 1) := by decide +kernel
theorem dX10_joins_16 : decode cX10_joins 16 = .ok (.iload 4, 2) := by decide +kernel
theorem dX10_joins_18 : decode cX10_joins 18 = .ok (.if_icmp .ne 5, 3) := by decide +kernel
theorem dX10_joins_21 : decode cX10_joins 21 = .ok (.iconst 0, 1) := by decide +kernel
theorem dX10_joins_22 : decode cX10_joins 22 = .ok (.ireturn, 1) := by decide +kernel
theorem dX10_joins_23 : decode cX10_joins 23 = .ok (.iconst 0, 1) := by decide +kernel
theorem dX10_joins_24 : decode cX10_joins 24 = .ok (.istore 5, 2) := by decide +kernel
theorem dX10_joins_26 : decode cX10_joins 26 = .ok (.iload 5, 2) := by decide +kernel
theorem dX10_joins_28 : decode cX10_joins 28 = .ok (.bipush 32, 2) := by decide +kernel
theorem dX10_joins_30 : decode cX10_joins 30 = .ok (.if_icmp .ge 29, 3) := by decide +kernel
theorem dX10_joins_33 : decode cX10_joins 33 = .ok (.aload_n 0, 1) := by decide +kernel
theorem dX10_joins_34 : decode cX10_joins 34 = .ok (.getfield 113, 3) := by decide +kernel
theorem dX10_joins_37 : decode cX10_joins 37 = .ok (.iload 5, 2) := by decide +kernel
theorem dX10_joins_39 : decode cX10_joins 39 = .ok (.iaload, 1) := by decide +kernel
theorem dX10_joins_40 : decode cX10_joins 40 = .ok (.iload 4, 2) := by decide +kernel
theorem dX10_joins_42 : decode cX10_joins 42 = .ok (.if_icmp .ne 11, 3) := by decide +kernel
theorem dX10_joins_45 : decode cX10_joins 45 = .ok (.aload_n 0, 1) := by decide +kernel
theorem dX10_joins_46 : decode cX10_joins 46 = .ok (.getfield 113, 3) := by decide +kernel
theorem dX10_joins_49 : decode cX10_joins 49 = .ok (.iload 5, 2) := by decide +kernel
theorem dX10_joins_51 : decode cX10_joins 51 = .ok (.iload_n 3, 1) := by decide +kernel
theorem dX10_joins_52 : decode cX10_joins 52 = .ok (.iastore, 1) := by decide +kernel
theorem dX10_joins_53 : decode cX10_joins 53 = .ok (.iinc 5 1, 3) := by decide +kernel
theorem dX10_joins_56 : decode cX10_joins 56 = .ok (.goto (-30), 3) := by decide +kernel
theorem dX10_joins_59 : decode cX10_joins 59 = .ok (.iconst 1, 1) := by decide +kernel
theorem dX10_joins_60 : decode cX10_joins 60 = .ok (.ireturn, 1) := by decide +kernel
theorem gcX10_hangs__X10_hangs_r1 : ∀ w ∈ wsX10_hangs_r1, w ∈ wsX10_hangs := fun w h => List.mem_cons_of_mem _ (List.mem_append_left _ (List.mem_append_left _ (h)))
theorem gcX10_hangs__X100 : ∀ w ∈ wsX100, w ∈ wsX10_hangs := fun w h => List.mem_cons_of_mem _ (List.mem_append_right _ (h))
set_option maxRecDepth 20000 in
theorem ggX10_hangs_X10_rows : GoodIn wsX10_hangs wsX10_rows := goodIn_sub (List.forall_mem_cons.mpr ⟨(gcX10_hangs__X10_hangs_r1 _ (List.mem_of_getElem? (i := 6) rfl)), List.forall_mem_append.mpr ⟨List.forall_mem_cons.mpr ⟨(gcX10_hangs__X10_hangs_r1 _ (List.mem_of_getElem? (i := 7) rfl)), fun _ h => (List.not_mem_nil h).elim⟩, gcX10_hangs__X100⟩⟩) gwX10_rows
set_option maxRecDepth 20000 in
theorem gX10_hangs_X10_rows : GoodIn wsX10_hangs (wsV RX10 265 RX10 yX10_rows wsX10_rows) := goodIn_app (goodIn_sub (List.forall_mem_cons.mpr ⟨(gcX10_hangs__X10_hangs_r1 _ (List.mem_of_getElem? (i := 2) rfl)), List.forall_mem_cons.mpr ⟨(gcX10_hangs__X10_hangs_r1 _ (List.mem_of_getElem? (i := 3) rfl)), List.forall_mem_cons.mpr ⟨(gcX10_hangs__X10_hangs_r1 _ (List.mem_of_getElem? (i := 4) rfl)), List.forall_mem_cons.mpr ⟨(gcX10_hangs__X10_hangs_r1 _ (List.mem_of_getElem? (i := 5) rfl)), fun _ h => (List.not_mem_nil h).elim⟩⟩⟩⟩) (by decide +kernel)) ggX10_hangs_X10_rows
set_option maxRecDepth 20000 in
theorem ggX10_hangs_X10_pictureOf : GoodIn wsX10_hangs wsX10_pictureOf := goodIn_sub (List.forall_mem_cons.mpr ⟨(gcX10_hangs__X10_hangs_r1 _ (List.mem_of_getElem? (i := 11) rfl)), List.forall_mem_append.mpr ⟨List.forall_mem_cons.mpr ⟨(gcX10_hangs__X10_hangs_r1 _ (List.mem_of_getElem? (i := 12) rfl)), fun _ h => (List.not_mem_nil h).elim⟩, gcX10_hangs__X100⟩⟩) gwX10_pictureOf
set_option maxRecDepth 20000 in
theorem gX10_hangs_X10_pictureOf : GoodIn wsX10_hangs (wsV RX10 274 RX10 yX10_pictureOf wsX10_pictureOf) := goodIn_app (goodIn_sub (List.forall_mem_cons.mpr ⟨(gcX10_hangs__X10_hangs_r1 _ (List.mem_of_getElem? (i := 8) rfl)), List.forall_mem_cons.mpr ⟨(gcX10_hangs__X10_hangs_r1 _ (List.mem_of_getElem? (i := 9) rfl)), List.forall_mem_cons.mpr ⟨(gcX10_hangs__X10_hangs_r1 _ (List.mem_of_getElem? (i := 10) rfl)), List.forall_mem_cons.mpr ⟨(gcX10_hangs__X10_hangs_r1 _ (List.mem_of_getElem? (i := 5) rfl)), fun _ h => (List.not_mem_nil h).elim⟩⟩⟩⟩) (by decide +kernel)) ggX10_hangs_X10_pictureOf
set_option maxRecDepth 20000 in
theorem ggX10_hangs_X10_pointOf : GoodIn wsX10_hangs wsX10_pointOf := goodIn_sub (List.forall_mem_cons.mpr ⟨(gcX10_hangs__X10_hangs_r1 _ (List.mem_of_getElem? (i := 16) rfl)), List.forall_mem_append.mpr ⟨List.forall_mem_cons.mpr ⟨(gcX10_hangs__X10_hangs_r1 _ (List.mem_of_getElem? (i := 17) rfl)), fun _ h => (List.not_mem_nil h).elim⟩, gcX10_hangs__X100⟩⟩) gwX10_pointOf
set_option maxRecDepth 20000 in
theorem gX10_hangs_X10_pointOf : GoodIn wsX10_hangs (wsV RX10 281 RX10 yX10_pointOf wsX10_pointOf) := goodIn_app (goodIn_sub (List.forall_mem_cons.mpr ⟨(gcX10_hangs__X10_hangs_r1 _ (List.mem_of_getElem? (i := 13) rfl)), List.forall_mem_cons.mpr ⟨(gcX10_hangs__X10_hangs_r1 _ (List.mem_of_getElem? (i := 14) rfl)), List.forall_mem_cons.mpr ⟨(gcX10_hangs__X10_hangs_r1 _ (List.mem_of_getElem? (i := 15) rfl)), List.forall_mem_cons.mpr ⟨(gcX10_hangs__X10_hangs_r1 _ (List.mem_of_getElem? (i := 5) rfl)), fun _ h => (List.not_mem_nil h).elim⟩⟩⟩⟩) (by decide +kernel)) ggX10_hangs_X10_pointOf
set_option maxRecDepth 20000 in
theorem gwX10_joins : wsX10_joins.all goodWord = true := by decide +kernel
set_option maxRecDepth 20000 in
theorem ggX10_hangs_X10_joins : GoodIn wsX10_hangs wsX10_joins := goodIn_sub (List.forall_mem_cons.mpr ⟨(gcX10_hangs__X10_hangs_r1 _ (List.mem_of_getElem? (i := 21) rfl)), List.forall_mem_append.mpr ⟨List.forall_mem_cons.mpr ⟨(gcX10_hangs__X10_hangs_r1 _ (List.mem_of_getElem? (i := 0) rfl)), fun _ h => (List.not_mem_nil h).elim⟩, gcX10_hangs__X100⟩⟩) gwX10_joins
set_option maxRecDepth 20000 in
theorem gX10_hangs_X10_joins : GoodIn wsX10_hangs (wsV RX10 418 RX10 yX10_joins wsX10_joins) := goodIn_app (goodIn_sub (List.forall_mem_cons.mpr ⟨(gcX10_hangs__X10_hangs_r1 _ (List.mem_of_getElem? (i := 18) rfl)), List.forall_mem_cons.mpr ⟨(gcX10_hangs__X10_hangs_r1 _ (List.mem_of_getElem? (i := 19) rfl)), List.forall_mem_cons.mpr ⟨(gcX10_hangs__X10_hangs_r1 _ (List.mem_of_getElem? (i := 20) rfl)), List.forall_mem_cons.mpr ⟨(gcX10_hangs__X10_hangs_r1 _ (List.mem_of_getElem? (i := 5) rfl)), fun _ h => (List.not_mem_nil h).elim⟩⟩⟩⟩) (by decide +kernel)) ggX10_hangs_X10_joins
theorem gcX10_hangs__X10_hangs_r2 : ∀ w ∈ wsX10_hangs_r2, w ∈ wsX10_hangs := fun w h => List.mem_cons_of_mem _ (List.mem_append_left _ (List.mem_append_right _ (h)))
set_option maxRecDepth 20000 in
theorem ggX10_hangs_X10_pictures : GoodIn wsX10_hangs wsX10_pictures := goodIn_sub (List.forall_mem_cons.mpr ⟨(gcX10_hangs__X10_hangs_r2 _ (List.mem_of_getElem? (i := 1) rfl)), List.forall_mem_append.mpr ⟨List.forall_mem_cons.mpr ⟨(gcX10_hangs__X10_hangs_r1 _ (List.mem_of_getElem? (i := 7) rfl)), fun _ h => (List.not_mem_nil h).elim⟩, gcX10_hangs__X100⟩⟩) gwX10_pictures
set_option maxRecDepth 20000 in
theorem gX10_hangs_X10_pictures : GoodIn wsX10_hangs (wsV RX10 259 RX10 yX10_pictures wsX10_pictures) := goodIn_app (goodIn_sub (List.forall_mem_cons.mpr ⟨(gcX10_hangs__X10_hangs_r1 _ (List.mem_of_getElem? (i := 22) rfl)), List.forall_mem_cons.mpr ⟨(gcX10_hangs__X10_hangs_r1 _ (List.mem_of_getElem? (i := 23) rfl)), List.forall_mem_cons.mpr ⟨(gcX10_hangs__X10_hangs_r2 _ (List.mem_of_getElem? (i := 0) rfl)), List.forall_mem_cons.mpr ⟨(gcX10_hangs__X10_hangs_r1 _ (List.mem_of_getElem? (i := 5) rfl)), fun _ h => (List.not_mem_nil h).elim⟩⟩⟩⟩) (by decide +kernel)) ggX10_hangs_X10_pictures
set_option maxRecDepth 20000 in
theorem ggX10_hangs_X10_centreOf : GoodIn wsX10_hangs wsX10_centreOf := goodIn_sub (List.forall_mem_cons.mpr ⟨(gcX10_hangs__X10_hangs_r2 _ (List.mem_of_getElem? (i := 5) rfl)), List.forall_mem_append.mpr ⟨List.forall_mem_cons.mpr ⟨(gcX10_hangs__X10_hangs_r2 _ (List.mem_of_getElem? (i := 6) rfl)), fun _ h => (List.not_mem_nil h).elim⟩, gcX10_hangs__X100⟩⟩) gwX10_centreOf
set_option maxRecDepth 20000 in
theorem gX10_hangs_X10_centreOf : GoodIn wsX10_hangs (wsV RX10 271 RX10 yX10_centreOf wsX10_centreOf) := goodIn_app (goodIn_sub (List.forall_mem_cons.mpr ⟨(gcX10_hangs__X10_hangs_r2 _ (List.mem_of_getElem? (i := 2) rfl)), List.forall_mem_cons.mpr ⟨(gcX10_hangs__X10_hangs_r2 _ (List.mem_of_getElem? (i := 3) rfl)), List.forall_mem_cons.mpr ⟨(gcX10_hangs__X10_hangs_r2 _ (List.mem_of_getElem? (i := 4) rfl)), List.forall_mem_cons.mpr ⟨(gcX10_hangs__X10_hangs_r1 _ (List.mem_of_getElem? (i := 5) rfl)), fun _ h => (List.not_mem_nil h).elim⟩⟩⟩⟩) (by decide +kernel)) ggX10_hangs_X10_centreOf
set_option maxRecDepth 20000 in
theorem ggX10_hangs_X10_strip : GoodIn wsX10_hangs wsX10_strip := goodIn_sub (List.forall_mem_cons.mpr ⟨(gcX10_hangs__X10_hangs_r2 _ (List.mem_of_getElem? (i := 10) rfl)), List.forall_mem_append.mpr ⟨List.forall_mem_cons.mpr ⟨(gcX10_hangs__X10_hangs_r2 _ (List.mem_of_getElem? (i := 11) rfl)), fun _ h => (List.not_mem_nil h).elim⟩, gcX10_hangs__X100⟩⟩) gwX10_strip
set_option maxRecDepth 20000 in
theorem gX10_hangs_X10_strip : GoodIn wsX10_hangs (wsV RX10 268 RX10 yX10_strip wsX10_strip) := goodIn_app (goodIn_sub (List.forall_mem_cons.mpr ⟨(gcX10_hangs__X10_hangs_r2 _ (List.mem_of_getElem? (i := 7) rfl)), List.forall_mem_cons.mpr ⟨(gcX10_hangs__X10_hangs_r2 _ (List.mem_of_getElem? (i := 8) rfl)), List.forall_mem_cons.mpr ⟨(gcX10_hangs__X10_hangs_r2 _ (List.mem_of_getElem? (i := 9) rfl)), List.forall_mem_cons.mpr ⟨(gcX10_hangs__X10_hangs_r1 _ (List.mem_of_getElem? (i := 5) rfl)), fun _ h => (List.not_mem_nil h).elim⟩⟩⟩⟩) (by decide +kernel)) ggX10_hangs_X10_strip
theorem dX10_hangs_0 : decode cX10_hangs 0 = .ok (.iconst 0, 1) := by decide +kernel
theorem dX10_hangs_1 : decode cX10_hangs 1 = .ok (.istore_n 1, 1) := by decide +kernel
theorem dX10_hangs_2 : decode cX10_hangs 2 = .ok (.iload_n 1, 1) := by decide +kernel
theorem dX10_hangs_3 : decode cX10_hangs 3 = .ok (.bipush 32, 2) := by decide +kernel
theorem dX10_hangs_5 : decode cX10_hangs 5 = .ok (.if_icmp .ge 16, 3) := by decide +kernel
theorem dX10_hangs_8 : decode cX10_hangs 8 = .ok (.aload_n 0, 1) := by decide +kernel
theorem dX10_hangs_9 : decode cX10_hangs 9 = .ok (.getfield 113, 3) := by decide +kernel
theorem dX10_hangs_12 : decode cX10_hangs 12 = .ok (.iload_n 1, 1) := by decide +kernel
theorem dX10_hangs_13 : decode cX10_hangs 13 = .ok (.iload_n 1, 1) := by decide +kernel
theorem dX10_hangs_14 : decode cX10_hangs 14 = .ok (.iastore, 1) := by decide +kernel
theorem dX10_hangs_15 : decode cX10_hangs 15 = .ok (.iinc 1 1, 3) := by decide +kernel
theorem dX10_hangs_18 : decode cX10_hangs 18 = .ok (.goto (-16), 3) := by decide +kernel
theorem dX10_hangs_21 : decode cX10_hangs 21 = .ok (.iconst 0, 1) := by decide +kernel
theorem dX10_hangs_22 : decode cX10_hangs 22 = .ok (.istore_n 1, 1) := by decide +kernel
theorem dX10_hangs_23 : decode cX10_hangs 23 = .ok (.iconst 0, 1) := by decide +kernel
theorem dX10_hangs_24 : decode cX10_hangs 24 = .ok (.istore_n 2, 1) := by decide +kernel
theorem dX10_hangs_25 : decode cX10_hangs 25 = .ok (.iload_n 2, 1) := by decide +kernel
theorem dX10_hangs_26 : decode cX10_hangs 26 = .ok (.aload_n 0, 1) := by decide +kernel
theorem dX10_hangs_27 : decode cX10_hangs 27 = .ok (.invokevirtual 265, 3) := by decide +kernel
theorem dX10_hangs_30 : decode cX10_hangs 30 = .ok (.if_icmp .ge 40, 3) := by decide +kernel
theorem dX10_hangs_33 : decode cX10_hangs 33 = .ok (.aload_n 0, 1) := by decide +kernel
theorem dX10_hangs_34 : decode cX10_hangs 34 = .ok (.getfield 91, 3) := by decide +kernel
theorem dX10_hangs_37 : decode cX10_hangs 37 = .ok (.iload_n 2, 1) := by decide +kernel
theorem dX10_hangs_38 : decode cX10_hangs 38 = .ok (.baload, 1) := by decide +kernel
theorem dX10_hangs_39 : decode cX10_hangs 39 = .ok (.ifCond .ne 25, 3) := by decide +kernel
theorem dX10_hangs_42 : decode cX10_hangs 42 = .ok (.aload_n 0, 1) := by decide +kernel
theorem dX10_hangs_43 : decode cX10_hangs 43 = .ok (.aload_n 0, 1) := by decide +kernel
theorem dX10_hangs_44 : decode cX10_hangs 44 = .ok (.iload_n 2, 1) := by decide +kernel
theorem dX10_hangs_45 : decode cX10_hangs 45 = .ok (.invokevirtual 274, 3) := by decide +kernel
theorem dX10_hangs_48 : decode cX10_hangs 48 = .ok (.bipush 12, 2) := by decide +kernel
theorem dX10_hangs_50 : decode cX10_hangs 50 = .ok (.aload_n 0, 1) := by decide +kernel
theorem dX10_hangs_51 : decode cX10_hangs 51 = .ok (.iload_n 2, 1) := by decide +kernel
theorem dX10_hangs_52 : decode cX10_hangs 52 = .ok (.invokevirtual 281, 3) := by decide +kernel
theorem dX10_hangs_55 : decode cX10_hangs 55 = .ok (.iadd, 1) := by decide +kernel
theorem dX10_hangs_56 : decode cX10_hangs 56 = .ok (.invokevirtual 418, 3) := by decide +kernel
theorem dX10_hangs_59 : decode cX10_hangs 59 = .ok (.ifCond .eq 5, 3) := by decide +kernel
theorem dX10_hangs_62 : decode cX10_hangs 62 = .ok (.iconst 1, 1) := by decide +kernel
theorem dX10_hangs_63 : decode cX10_hangs 63 = .ok (.istore_n 1, 1) := by decide +kernel
theorem dX10_hangs_64 : decode cX10_hangs 64 = .ok (.iinc 2 1, 3) := by decide +kernel
theorem dX10_hangs_67 : decode cX10_hangs 67 = .ok (.goto (-42), 3) := by decide +kernel
theorem dX10_hangs_70 : decode cX10_hangs 70 = .ok (.iconst 0, 1) := by decide +kernel
theorem dX10_hangs_71 : decode cX10_hangs 71 = .ok (.istore_n 2, 1) := by decide +kernel
theorem dX10_hangs_72 : decode cX10_hangs 72 = .ok (.iload_n 2, 1) := by decide +kernel
theorem dX10_hangs_73 : decode cX10_hangs 73 = .ok (.aload_n 0, 1) := by decide +kernel
theorem dX10_hangs_74 : decode cX10_hangs 74 = .ok (.invokevirtual 259, 3) := by decide +kernel
theorem dX10_hangs_77 : decode cX10_hangs 77 = .ok (.if_icmp .ge 62, 3) := by decide +kernel
theorem dX10_hangs_80 : decode cX10_hangs 80 = .ok (.iconst 0, 1) := by decide +kernel
theorem dX10_hangs_81 : decode cX10_hangs 81 = .ok (.istore_n 3, 1) := by decide +kernel
theorem dX10_hangs_82 : decode cX10_hangs 82 = .ok (.iload_n 3, 1) := by decide +kernel
theorem dX10_hangs_83 : decode cX10_hangs 83 = .ok (.iload_n 2, 1) := by decide +kernel
theorem dX10_hangs_84 : decode cX10_hangs 84 = .ok (.if_icmp .ge 49, 3) := by decide +kernel
theorem dX10_hangs_87 : decode cX10_hangs 87 = .ok (.aload_n 0, 1) := by decide +kernel
theorem dX10_hangs_88 : decode cX10_hangs 88 = .ok (.iload_n 2, 1) := by decide +kernel
theorem dX10_hangs_89 : decode cX10_hangs 89 = .ok (.invokevirtual 271, 3) := by decide +kernel
theorem dX10_hangs_92 : decode cX10_hangs 92 = .ok (.ifCond .le 35, 3) := by decide +kernel
theorem dX10_hangs_95 : decode cX10_hangs 95 = .ok (.aload_n 0, 1) := by decide +kernel
theorem dX10_hangs_96 : decode cX10_hangs 96 = .ok (.iload_n 3, 1) := by decide +kernel
theorem dX10_hangs_97 : decode cX10_hangs 97 = .ok (.invokevirtual 271, 3) := by decide +kernel
theorem dX10_hangs_100 : decode cX10_hangs 100 = .ok (.ifCond .le 27, 3) := by decide +kernel
theorem dX10_hangs_103 : decode cX10_hangs 103 = .ok (.aload_n 0, 1) := by decide +kernel
theorem dX10_hangs_104 : decode cX10_hangs 104 = .ok (.iload_n 2, 1) := by decide +kernel
theorem dX10_hangs_105 : decode cX10_hangs 105 = .ok (.invokevirtual 268, 3) := by decide +kernel
theorem dX10_hangs_108 : decode cX10_hangs 108 = .ok (.aload_n 0, 1) := by decide +kernel
theorem dX10_hangs_109 : decode cX10_hangs 109 = .ok (.iload_n 3, 1) := by decide +kernel
theorem dX10_hangs_110 : decode cX10_hangs 110 = .ok (.invokevirtual 268, 3) := by decide +kernel
theorem dX10_hangs_113 : decode cX10_hangs 113 = .ok (.if_icmp .ne 14, 3) := by decide +kernel
theorem dX10_hangs_116 : decode cX10_hangs 116 = .ok (.aload_n 0, 1) := by decide +kernel
theorem dX10_hangs_117 : decode cX10_hangs 117 = .ok (.iload_n 2, 1) := by decide +kernel
theorem dX10_hangs_118 : decode cX10_hangs 118 = .ok (.iload_n 3, 1) := by decide +kernel
theorem dX10_hangs_119 : decode cX10_hangs 119 = .ok (.invokevirtual 418, 3) := by decide +kernel
theorem dX10_hangs_122 : decode cX10_hangs 122 = .ok (.ifCond .eq 5, 3) := by decide +kernel
theorem dX10_hangs_125 : decode cX10_hangs 125 = .ok (.iconst 1, 1) := by decide +kernel
theorem dX10_hangs_126 : decode cX10_hangs 126 = .ok (.istore_n 1, 1) := by decide +kernel
theorem dX10_hangs_127 : decode cX10_hangs 127 = .ok (.iinc 3 1, 3) := by decide +kernel
theorem dX10_hangs_130 : decode cX10_hangs 130 = .ok (.goto (-48), 3) := by decide +kernel
theorem dX10_hangs_133 : decode cX10_hangs 133 = .ok (.iinc 2 1, 3) := by decide +kernel
theorem dX10_hangs_136 : decode cX10_hangs 136 = .ok (.goto (-64), 3) := by decide +kernel
theorem dX10_hangs_139 : decode cX10_hangs 139 = .ok (.return_, 1) := by decide +kernel
theorem gcX10_isLoose__X100 : ∀ w ∈ wsX100, w ∈ wsX10_isLoose := fun w h => List.mem_cons_of_mem _ (List.mem_append_right _ (h))
set_option maxRecDepth 20000 in
theorem ggX10_isLoose_X10_points : GoodIn wsX10_isLoose wsX10_points := goodIn_sub (List.forall_mem_cons.mpr ⟨(List.mem_of_getElem? (i := 6) rfl), List.forall_mem_append.mpr ⟨List.forall_mem_cons.mpr ⟨(List.mem_of_getElem? (i := 7) rfl), fun _ h => (List.not_mem_nil h).elim⟩, gcX10_isLoose__X100⟩⟩) gwX10_points
set_option maxRecDepth 20000 in
theorem gX10_isLoose_X10_points : GoodIn wsX10_isLoose (wsV RX10 262 RX10 yX10_points wsX10_points) := goodIn_app (goodIn_sub (List.forall_mem_cons.mpr ⟨(List.mem_of_getElem? (i := 2) rfl), List.forall_mem_cons.mpr ⟨(List.mem_of_getElem? (i := 3) rfl), List.forall_mem_cons.mpr ⟨(List.mem_of_getElem? (i := 4) rfl), List.forall_mem_cons.mpr ⟨(List.mem_of_getElem? (i := 5) rfl), fun _ h => (List.not_mem_nil h).elim⟩⟩⟩⟩) (by decide +kernel)) ggX10_isLoose_X10_points
set_option maxRecDepth 20000 in
theorem ggX10_isLoose_X10_isControl : GoodIn wsX10_isLoose wsX10_isControl := goodIn_sub (List.forall_mem_cons.mpr ⟨(List.mem_of_getElem? (i := 11) rfl), List.forall_mem_append.mpr ⟨List.forall_mem_cons.mpr ⟨(List.mem_of_getElem? (i := 12) rfl), List.forall_mem_cons.mpr ⟨(List.mem_of_getElem? (i := 13) rfl), fun _ h => (List.not_mem_nil h).elim⟩⟩, gcX10_isLoose__X100⟩⟩) gwX10_isControl
set_option maxRecDepth 20000 in
theorem gX10_isLoose_X10_isControl : GoodIn wsX10_isLoose (wsV RX10 287 RX10 yX10_isControl wsX10_isControl) := goodIn_app (goodIn_sub (List.forall_mem_cons.mpr ⟨(List.mem_of_getElem? (i := 8) rfl), List.forall_mem_cons.mpr ⟨(List.mem_of_getElem? (i := 9) rfl), List.forall_mem_cons.mpr ⟨(List.mem_of_getElem? (i := 10) rfl), List.forall_mem_cons.mpr ⟨(List.mem_of_getElem? (i := 5) rfl), fun _ h => (List.not_mem_nil h).elim⟩⟩⟩⟩) (by decide +kernel)) ggX10_isLoose_X10_isControl
theorem dX10_isLoose_0 : decode cX10_isLoose 0 = .ok (.iconst 0, 1) := by decide +kernel
theorem dX10_isLoose_1 : decode cX10_isLoose 1 = .ok (.istore_n 2, 1) := by decide +kernel
theorem dX10_isLoose_2 : decode cX10_isLoose 2 = .ok (.iload_n 2, 1) := by decide +kernel
theorem dX10_isLoose_3 : decode cX10_isLoose 3 = .ok (.aload_n 0, 1) := by decide +kernel
theorem dX10_isLoose_4 : decode cX10_isLoose 4 = .ok (.invokevirtual 262, 3) := by decide +kernel
theorem dX10_isLoose_7 : decode cX10_isLoose 7 = .ok (.if_icmp .ge 37, 3) := by decide +kernel
theorem dX10_isLoose_10 : decode cX10_isLoose 10 = .ok (.aload_n 0, 1) := by decide +kernel
theorem dX10_isLoose_11 : decode cX10_isLoose 11 = .ok (.iload_n 2, 1) := by decide +kernel
theorem dX10_isLoose_12 : decode cX10_isLoose 12 = .ok (.invokevirtual 287, 3) := by decide +kernel
theorem dX10_isLoose_15 : decode cX10_isLoose 15 = .ok (.ifCond .eq 23, 3) := by decide +kernel
theorem dX10_isLoose_18 : decode cX10_isLoose 18 = .ok (.aload_n 0, 1) := by decide +kernel
theorem dX10_isLoose_19 : decode cX10_isLoose 19 = .ok (.getfield 113, 3) := by decide +kernel
theorem dX10_isLoose_22 : decode cX10_isLoose 22 = .ok (.bipush 12, 2) := by decide +kernel
theorem dX10_isLoose_24 : decode cX10_isLoose 24 = .ok (.iload_n 2, 1) := by decide +kernel
theorem dX10_isLoose_25 : decode cX10_isLoose 25 = .ok (.iadd, 1) := by decide +kernel
theorem dX10_isLoose_26 : decode cX10_isLoose 26 = .ok (.iaload, 1) := by decide +kernel
theorem dX10_isLoose_27 : decode cX10_isLoose 27 = .ok (.aload_n 0, 1) := by decide +kernel
theorem dX10_isLoose_28 : decode cX10_isLoose 28 = .ok (.getfield 113, 3) := by decide +kernel
theorem dX10_isLoose_31 : decode cX10_isLoose 31 = .ok (.iload_n 1, 1) := by decide +kernel
theorem dX10_isLoose_32 : decode cX10_isLoose 32 = .ok (.iaload, 1) := by decide +kernel
theorem dX10_isLoose_33 : decode cX10_isLoose 33 = .ok (.if_icmp .ne 5, 3) := by decide +kernel
theorem dX10_isLoose_36 : decode cX10_isLoose 36 = .ok (.iconst 0, 1) := by decide +kernel
theorem dX10_isLoose_37 : decode cX10_isLoose 37 = .ok (.ireturn, 1) := by decide +kernel
theorem dX10_isLoose_38 : decode cX10_isLoose 38 = .ok (.iinc 2 1, 3) := by decide +kernel
theorem dX10_isLoose_41 : decode cX10_isLoose 41 = .ok (.goto (-39), 3) := by decide +kernel
theorem dX10_isLoose_44 : decode cX10_isLoose 44 = .ok (.iconst 1, 1) := by decide +kernel
theorem dX10_isLoose_45 : decode cX10_isLoose 45 = .ok (.ireturn, 1) := by decide +kernel
theorem gcX10_canShow__X10_canShow_r1 : ∀ w ∈ wsX10_canShow_r1, w ∈ wsX10_canShow := fun w h => List.mem_cons_of_mem _ (List.mem_append_left _ (List.mem_append_left _ (h)))
theorem gcX10_canShow__X10_canShow_r2 : ∀ w ∈ wsX10_canShow_r2, w ∈ wsX10_canShow := fun w h => List.mem_cons_of_mem _ (List.mem_append_left _ (List.mem_append_right _ (List.mem_append_left _ (h))))
set_option maxRecDepth 20000 in
theorem gmX10_canShow__X10_hangs_r1 : ∀ w ∈ wsX10_hangs_r1, w ∈ wsX10_canShow := List.forall_mem_cons.mpr ⟨(gcX10_canShow__X10_canShow_r1 _ (List.mem_of_getElem? (i := 1) rfl)), List.forall_mem_cons.mpr ⟨(gcX10_canShow__X10_canShow_r1 _ (List.mem_of_getElem? (i := 0) rfl)), List.forall_mem_cons.mpr ⟨(gcX10_canShow__X10_canShow_r1 _ (List.mem_of_getElem? (i := 7) rfl)), List.forall_mem_cons.mpr ⟨(gcX10_canShow__X10_canShow_r1 _ (List.mem_of_getElem? (i := 8) rfl)), List.forall_mem_cons.mpr ⟨(gcX10_canShow__X10_canShow_r1 _ (List.mem_of_getElem? (i := 9) rfl)), List.forall_mem_cons.mpr ⟨(gcX10_canShow__X10_canShow_r1 _ (List.mem_of_getElem? (i := 5) rfl)), List.forall_mem_cons.mpr ⟨(gcX10_canShow__X10_canShow_r1 _ (List.mem_of_getElem? (i := 10) rfl)), List.forall_mem_cons.mpr ⟨(gcX10_canShow__X10_canShow_r1 _ (List.mem_of_getElem? (i := 11) rfl)), List.forall_mem_cons.mpr ⟨(gcX10_canShow__X10_canShow_r1 _ (List.mem_of_getElem? (i := 12) rfl)), List.forall_mem_cons.mpr ⟨(gcX10_canShow__X10_canShow_r1 _ (List.mem_of_getElem? (i := 13) rfl)), List.forall_mem_cons.mpr ⟨(gcX10_canShow__X10_canShow_r1 _ (List.mem_of_getElem? (i := 14) rfl)), List.forall_mem_cons.mpr ⟨(gcX10_canShow__X10_canShow_r1 _ (List.mem_of_getElem? (i := 15) rfl)), List.forall_mem_cons.mpr ⟨(gcX10_canShow__X10_canShow_r1 _ (List.mem_of_getElem? (i := 16) rfl)), List.forall_mem_cons.mpr ⟨(gcX10_canShow__X10_canShow_r1 _ (List.mem_of_getElem? (i := 17) rfl)), List.forall_mem_cons.mpr ⟨(gcX10_canShow__X10_canShow_r1 _ (List.mem_of_getElem? (i := 18) rfl)), List.forall_mem_cons.mpr ⟨(gcX10_canShow__X10_canShow_r1 _ (List.mem_of_getElem? (i := 19) rfl)), List.forall_mem_cons.mpr ⟨(gcX10_canShow__X10_canShow_r1 _ (List.mem_of_getElem? (i := 20) rfl)), List.forall_mem_cons.mpr ⟨(gcX10_canShow__X10_canShow_r1 _ (List.mem_of_getElem? (i := 21) rfl)), List.forall_mem_cons.mpr ⟨(gcX10_canShow__X10_canShow_r1 _ (List.mem_of_getElem? (i := 22) rfl)), List.forall_mem_cons.mpr ⟨(gcX10_canShow__X10_canShow_r1 _ (List.mem_of_getElem? (i := 23) rfl)), List.forall_mem_cons.mpr ⟨(gcX10_canShow__X10_canShow_r2 _ (List.mem_of_getElem? (i := 0) rfl)), List.forall_mem_cons.mpr ⟨(gcX10_canShow__X10_canShow_r2 _ (List.mem_of_getElem? (i := 1) rfl)), List.forall_mem_cons.mpr ⟨(gcX10_canShow__X10_canShow_r2 _ (List.mem_of_getElem? (i := 2) rfl)), List.forall_mem_cons.mpr ⟨(gcX10_canShow__X10_canShow_r2 _ (List.mem_of_getElem? (i := 3) rfl)), fun _ h => (List.not_mem_nil h).elim⟩⟩⟩⟩⟩⟩⟩⟩⟩⟩⟩⟩⟩⟩⟩⟩⟩⟩⟩⟩⟩⟩⟩⟩
set_option maxRecDepth 20000 in
theorem gmX10_canShow__X10_hangs_r2 : ∀ w ∈ wsX10_hangs_r2, w ∈ wsX10_canShow := List.forall_mem_cons.mpr ⟨(gcX10_canShow__X10_canShow_r2 _ (List.mem_of_getElem? (i := 4) rfl)), List.forall_mem_cons.mpr ⟨(gcX10_canShow__X10_canShow_r2 _ (List.mem_of_getElem? (i := 5) rfl)), List.forall_mem_cons.mpr ⟨(gcX10_canShow__X10_canShow_r2 _ (List.mem_of_getElem? (i := 6) rfl)), List.forall_mem_cons.mpr ⟨(gcX10_canShow__X10_canShow_r2 _ (List.mem_of_getElem? (i := 7) rfl)), List.forall_mem_cons.mpr ⟨(gcX10_canShow__X10_canShow_r2 _ (List.mem_of_getElem? (i := 8) rfl)), List.forall_mem_cons.mpr ⟨(gcX10_canShow__X10_canShow_r2 _ (List.mem_of_getElem? (i := 9) rfl)), List.forall_mem_cons.mpr ⟨(gcX10_canShow__X10_canShow_r2 _ (List.mem_of_getElem? (i := 10) rfl)), List.forall_mem_cons.mpr ⟨(gcX10_canShow__X10_canShow_r2 _ (List.mem_of_getElem? (i := 11) rfl)), List.forall_mem_cons.mpr ⟨(gcX10_canShow__X10_canShow_r2 _ (List.mem_of_getElem? (i := 12) rfl)), List.forall_mem_cons.mpr ⟨(gcX10_canShow__X10_canShow_r2 _ (List.mem_of_getElem? (i := 13) rfl)), List.forall_mem_cons.mpr ⟨(gcX10_canShow__X10_canShow_r2 _ (List.mem_of_getElem? (i := 14) rfl)), List.forall_mem_cons.mpr ⟨(gcX10_canShow__X10_canShow_r2 _ (List.mem_of_getElem? (i := 15) rfl)), fun _ h => (List.not_mem_nil h).elim⟩⟩⟩⟩⟩⟩⟩⟩⟩⟩⟩⟩
theorem gcX10_canShow__X100 : ∀ w ∈ wsX100, w ∈ wsX10_canShow := fun w h => List.mem_cons_of_mem _ (List.mem_append_right _ (h))
set_option maxRecDepth 20000 in
theorem gwX10_hangs : wsX10_hangs.all goodWord = true := by decide +kernel
set_option maxRecDepth 20000 in
theorem ggX10_canShow_X10_hangs : GoodIn wsX10_canShow wsX10_hangs := goodIn_sub (List.forall_mem_cons.mpr ⟨(gcX10_canShow__X10_canShow_r1 _ (List.mem_of_getElem? (i := 6) rfl)), List.forall_mem_append.mpr ⟨List.forall_mem_append.mpr ⟨gmX10_canShow__X10_hangs_r1, gmX10_canShow__X10_hangs_r2⟩, gcX10_canShow__X100⟩⟩) gwX10_hangs
set_option maxRecDepth 20000 in
theorem gX10_canShow_X10_hangs : GoodIn wsX10_canShow (wsV RX10 421 RX10 yX10_hangs wsX10_hangs) := goodIn_app (goodIn_sub (List.forall_mem_cons.mpr ⟨(gcX10_canShow__X10_canShow_r1 _ (List.mem_of_getElem? (i := 2) rfl)), List.forall_mem_cons.mpr ⟨(gcX10_canShow__X10_canShow_r1 _ (List.mem_of_getElem? (i := 3) rfl)), List.forall_mem_cons.mpr ⟨(gcX10_canShow__X10_canShow_r1 _ (List.mem_of_getElem? (i := 4) rfl)), List.forall_mem_cons.mpr ⟨(gcX10_canShow__X10_canShow_r1 _ (List.mem_of_getElem? (i := 5) rfl)), fun _ h => (List.not_mem_nil h).elim⟩⟩⟩⟩) (by decide +kernel)) ggX10_canShow_X10_hangs
set_option maxRecDepth 20000 in
theorem ggX10_canShow_X10_pictureOf : GoodIn wsX10_canShow wsX10_pictureOf := goodIn_sub (List.forall_mem_cons.mpr ⟨(gcX10_canShow__X10_canShow_r1 _ (List.mem_of_getElem? (i := 15) rfl)), List.forall_mem_append.mpr ⟨List.forall_mem_cons.mpr ⟨(gcX10_canShow__X10_canShow_r1 _ (List.mem_of_getElem? (i := 16) rfl)), fun _ h => (List.not_mem_nil h).elim⟩, gcX10_canShow__X100⟩⟩) gwX10_pictureOf
set_option maxRecDepth 20000 in
theorem gX10_canShow_X10_pictureOf : GoodIn wsX10_canShow (wsV RX10 274 RX10 yX10_pictureOf wsX10_pictureOf) := goodIn_app (goodIn_sub (List.forall_mem_cons.mpr ⟨(gcX10_canShow__X10_canShow_r1 _ (List.mem_of_getElem? (i := 12) rfl)), List.forall_mem_cons.mpr ⟨(gcX10_canShow__X10_canShow_r1 _ (List.mem_of_getElem? (i := 13) rfl)), List.forall_mem_cons.mpr ⟨(gcX10_canShow__X10_canShow_r1 _ (List.mem_of_getElem? (i := 14) rfl)), List.forall_mem_cons.mpr ⟨(gcX10_canShow__X10_canShow_r1 _ (List.mem_of_getElem? (i := 5) rfl)), fun _ h => (List.not_mem_nil h).elim⟩⟩⟩⟩) (by decide +kernel)) ggX10_canShow_X10_pictureOf
set_option maxRecDepth 20000 in
theorem ggX10_canShow_X10_pointOf : GoodIn wsX10_canShow wsX10_pointOf := goodIn_sub (List.forall_mem_cons.mpr ⟨(gcX10_canShow__X10_canShow_r1 _ (List.mem_of_getElem? (i := 20) rfl)), List.forall_mem_append.mpr ⟨List.forall_mem_cons.mpr ⟨(gcX10_canShow__X10_canShow_r1 _ (List.mem_of_getElem? (i := 21) rfl)), fun _ h => (List.not_mem_nil h).elim⟩, gcX10_canShow__X100⟩⟩) gwX10_pointOf
set_option maxRecDepth 20000 in
theorem gX10_canShow_X10_pointOf : GoodIn wsX10_canShow (wsV RX10 281 RX10 yX10_pointOf wsX10_pointOf) := goodIn_app (goodIn_sub (List.forall_mem_cons.mpr ⟨(gcX10_canShow__X10_canShow_r1 _ (List.mem_of_getElem? (i := 17) rfl)), List.forall_mem_cons.mpr ⟨(gcX10_canShow__X10_canShow_r1 _ (List.mem_of_getElem? (i := 18) rfl)), List.forall_mem_cons.mpr ⟨(gcX10_canShow__X10_canShow_r1 _ (List.mem_of_getElem? (i := 19) rfl)), List.forall_mem_cons.mpr ⟨(gcX10_canShow__X10_canShow_r1 _ (List.mem_of_getElem? (i := 5) rfl)), fun _ h => (List.not_mem_nil h).elim⟩⟩⟩⟩) (by decide +kernel)) ggX10_canShow_X10_pointOf
theorem gcX10_canShow__X10_canShow_r3 : ∀ w ∈ wsX10_canShow_r3, w ∈ wsX10_canShow := fun w h => List.mem_cons_of_mem _ (List.mem_append_left _ (List.mem_append_right _ (List.mem_append_right _ (h))))
set_option maxRecDepth 20000 in
theorem gwX10_isLoose : wsX10_isLoose.all goodWord = true := by decide +kernel
set_option maxRecDepth 20000 in
theorem ggX10_canShow_X10_isLoose : GoodIn wsX10_canShow wsX10_isLoose := goodIn_sub (List.forall_mem_cons.mpr ⟨(gcX10_canShow__X10_canShow_r2 _ (List.mem_of_getElem? (i := 19) rfl)), List.forall_mem_append.mpr ⟨List.forall_mem_cons.mpr ⟨(gcX10_canShow__X10_canShow_r1 _ (List.mem_of_getElem? (i := 1) rfl)), List.forall_mem_cons.mpr ⟨(gcX10_canShow__X10_canShow_r2 _ (List.mem_of_getElem? (i := 20) rfl)), List.forall_mem_cons.mpr ⟨(gcX10_canShow__X10_canShow_r2 _ (List.mem_of_getElem? (i := 21) rfl)), List.forall_mem_cons.mpr ⟨(gcX10_canShow__X10_canShow_r2 _ (List.mem_of_getElem? (i := 22) rfl)), List.forall_mem_cons.mpr ⟨(gcX10_canShow__X10_canShow_r1 _ (List.mem_of_getElem? (i := 5) rfl)), List.forall_mem_cons.mpr ⟨(gcX10_canShow__X10_canShow_r2 _ (List.mem_of_getElem? (i := 23) rfl)), List.forall_mem_cons.mpr ⟨(gcX10_canShow__X10_canShow_r1 _ (List.mem_of_getElem? (i := 11) rfl)), List.forall_mem_cons.mpr ⟨(gcX10_canShow__X10_canShow_r3 _ (List.mem_of_getElem? (i := 0) rfl)), List.forall_mem_cons.mpr ⟨(gcX10_canShow__X10_canShow_r3 _ (List.mem_of_getElem? (i := 1) rfl)), List.forall_mem_cons.mpr ⟨(gcX10_canShow__X10_canShow_r3 _ (List.mem_of_getElem? (i := 2) rfl)), List.forall_mem_cons.mpr ⟨(gcX10_canShow__X10_canShow_r3 _ (List.mem_of_getElem? (i := 3) rfl)), List.forall_mem_cons.mpr ⟨(gcX10_canShow__X10_canShow_r3 _ (List.mem_of_getElem? (i := 4) rfl)), List.forall_mem_cons.mpr ⟨(gcX10_canShow__X10_canShow_r3 _ (List.mem_of_getElem? (i := 5) rfl)), fun _ h => (List.not_mem_nil h).elim⟩⟩⟩⟩⟩⟩⟩⟩⟩⟩⟩⟩⟩, gcX10_canShow__X100⟩⟩) gwX10_isLoose
set_option maxRecDepth 20000 in
theorem gX10_canShow_X10_isLoose : GoodIn wsX10_canShow (wsV RX10 424 RX10 yX10_isLoose wsX10_isLoose) := goodIn_app (goodIn_sub (List.forall_mem_cons.mpr ⟨(gcX10_canShow__X10_canShow_r2 _ (List.mem_of_getElem? (i := 16) rfl)), List.forall_mem_cons.mpr ⟨(gcX10_canShow__X10_canShow_r2 _ (List.mem_of_getElem? (i := 17) rfl)), List.forall_mem_cons.mpr ⟨(gcX10_canShow__X10_canShow_r2 _ (List.mem_of_getElem? (i := 18) rfl)), List.forall_mem_cons.mpr ⟨(gcX10_canShow__X10_canShow_r1 _ (List.mem_of_getElem? (i := 5) rfl)), fun _ h => (List.not_mem_nil h).elim⟩⟩⟩⟩) (by decide +kernel)) ggX10_canShow_X10_isLoose
theorem dX10_canShow_0 : decode cX10_canShow 0 = .ok (.aload_n 0, 1) := by decide +kernel
theorem dX10_canShow_1 : decode cX10_canShow 1 = .ok (.getfield 91, 3) := by decide +kernel
theorem dX10_canShow_4 : decode cX10_canShow 4 = .ok (.iload_n 1, 1) := by decide +kernel
theorem dX10_canShow_5 : decode cX10_canShow 5 = .ok (.baload, 1) := by decide +kernel
theorem dX10_canShow_6 : decode cX10_canShow 6 = .ok (.ifCond .eq 5, 3) := by decide +kernel
theorem dX10_canShow_9 : decode cX10_canShow 9 = .ok (.iconst 0, 1) := by decide +kernel
theorem dX10_canShow_10 : decode cX10_canShow 10 = .ok (.ireturn, 1) := by decide +kernel
theorem dX10_canShow_11 : decode cX10_canShow 11 = .ok (.aload_n 0, 1) := by decide +kernel
theorem dX10_canShow_12 : decode cX10_canShow 12 = .ok (.getfield 91, 3) := by decide +kernel
theorem dX10_canShow_15 : decode cX10_canShow 15 = .ok (.iload_n 1, 1) := by decide +kernel
theorem dX10_canShow_16 : decode cX10_canShow 16 = .ok (.iconst 1, 1) := by decide +kernel
theorem dX10_canShow_17 : decode cX10_canShow 17 = .ok (.bastore, 1) := by decide +kernel
theorem dX10_canShow_18 : decode cX10_canShow 18 = .ok (.aload_n 0, 1) := by decide +kernel
theorem dX10_canShow_19 : decode cX10_canShow 19 = .ok (.invokevirtual 421, 3) := by decide +kernel
theorem dX10_canShow_22 : decode cX10_canShow 22 = .ok (.aload_n 0, 1) := by decide +kernel
theorem dX10_canShow_23 : decode cX10_canShow 23 = .ok (.getfield 91, 3) := by decide +kernel
theorem dX10_canShow_26 : decode cX10_canShow 26 = .ok (.iload_n 1, 1) := by decide +kernel
theorem dX10_canShow_27 : decode cX10_canShow 27 = .ok (.iconst 0, 1) := by decide +kernel
theorem dX10_canShow_28 : decode cX10_canShow 28 = .ok (.bastore, 1) := by decide +kernel
theorem dX10_canShow_29 : decode cX10_canShow 29 = .ok (.aload_n 0, 1) := by decide +kernel
theorem dX10_canShow_30 : decode cX10_canShow 30 = .ok (.iload_n 1, 1) := by decide +kernel
theorem dX10_canShow_31 : decode cX10_canShow 31 = .ok (.invokevirtual 274, 3) := by decide +kernel
theorem dX10_canShow_34 : decode cX10_canShow 34 = .ok (.istore_n 2, 1) := by decide +kernel
theorem dX10_canShow_35 : decode cX10_canShow 35 = .ok (.bipush 12, 2) := by decide +kernel
theorem dX10_canShow_37 : decode cX10_canShow 37 = .ok (.aload_n 0, 1) := by decide +kernel
theorem dX10_canShow_38 : decode cX10_canShow 38 = .ok (.iload_n 1, 1) := by decide +kernel
theorem dX10_canShow_39 : decode cX10_canShow 39 = .ok (.invokevirtual 281, 3) := by decide +kernel
theorem dX10_canShow_42 : decode cX10_canShow 42 = .ok (.iadd, 1) := by decide +kernel
theorem dX10_canShow_43 : decode cX10_canShow 43 = .ok (.istore_n 3, 1) := by decide +kernel
theorem dX10_canShow_44 : decode cX10_canShow 44 = .ok (.aload_n 0, 1) := by decide +kernel
theorem dX10_canShow_45 : decode cX10_canShow 45 = .ok (.getfield 113, 3) := by decide +kernel
theorem dX10_canShow_48 : decode cX10_canShow 48 = .ok (.iload_n 2, 1) := by decide +kernel
theorem dX10_canShow_49 : decode cX10_canShow 49 = .ok (.iaload, 1) := by decide +kernel
theorem dX10_canShow_50 : decode cX10_canShow 50 = .ok (.aload_n 0, 1) := by decide +kernel
theorem dX10_canShow_51 : decode cX10_canShow 51 = .ok (.getfield 113, 3) := by decide +kernel
theorem dX10_canShow_54 : decode cX10_canShow 54 = .ok (.iload_n 3, 1) := by decide +kernel
theorem dX10_canShow_55 : decode cX10_canShow 55 = .ok (.iaload, 1) := by decide +kernel
theorem dX10_canShow_56 : decode cX10_canShow 56 = .ok (.if_icmp .eq 19, 3) := by decide +kernel
theorem dX10_canShow_59 : decode cX10_canShow 59 = .ok (.aload_n 0, 1) := by decide +kernel
theorem dX10_canShow_60 : decode cX10_canShow 60 = .ok (.iload_n 2, 1) := by decide +kernel
theorem dX10_canShow_61 : decode cX10_canShow 61 = .ok (.invokevirtual 424, 3) := by decide +kernel
theorem dX10_canShow_64 : decode cX10_canShow 64 = .ok (.ifCond .ne 15, 3) := by decide +kernel
theorem dX10_canShow_67 : decode cX10_canShow 67 = .ok (.aload_n 0, 1) := by decide +kernel
theorem dX10_canShow_68 : decode cX10_canShow 68 = .ok (.iload_n 3, 1) := by decide +kernel
theorem dX10_canShow_69 : decode cX10_canShow 69 = .ok (.invokevirtual 424, 3) := by decide +kernel
theorem dX10_canShow_72 : decode cX10_canShow 72 = .ok (.ifCond .ne 7, 3) := by decide +kernel
theorem dX10_canShow_75 : decode cX10_canShow 75 = .ok (.iconst 1, 1) := by decide +kernel
theorem dX10_canShow_76 : decode cX10_canShow 76 = .ok (.goto 4, 3) := by decide +kernel
theorem dX10_canShow_79 : decode cX10_canShow 79 = .ok (.iconst 0, 1) := by decide +kernel
theorem dX10_canShow_80 : decode cX10_canShow 80 = .ok (.ireturn, 1) := by decide +kernel
theorem gcX10_parts__X10_parts_r1 : ∀ w ∈ wsX10_parts_r1, w ∈ wsX10_parts := fun w h => List.mem_cons_of_mem _ (List.mem_append_left _ (List.mem_append_left _ (h)))
theorem gcX10_parts__X10_parts_r2 : ∀ w ∈ wsX10_parts_r2, w ∈ wsX10_parts := fun w h => List.mem_cons_of_mem _ (List.mem_append_left _ (List.mem_append_right _ (h)))
set_option maxRecDepth 20000 in
theorem gmX10_parts__X10_hangs_r1 : ∀ w ∈ wsX10_hangs_r1, w ∈ wsX10_parts := List.forall_mem_cons.mpr ⟨(gcX10_parts__X10_parts_r1 _ (List.mem_of_getElem? (i := 0) rfl)), List.forall_mem_cons.mpr ⟨(gcX10_parts__X10_parts_r1 _ (List.mem_of_getElem? (i := 6) rfl)), List.forall_mem_cons.mpr ⟨(gcX10_parts__X10_parts_r1 _ (List.mem_of_getElem? (i := 7) rfl)), List.forall_mem_cons.mpr ⟨(gcX10_parts__X10_parts_r1 _ (List.mem_of_getElem? (i := 8) rfl)), List.forall_mem_cons.mpr ⟨(gcX10_parts__X10_parts_r1 _ (List.mem_of_getElem? (i := 9) rfl)), List.forall_mem_cons.mpr ⟨(gcX10_parts__X10_parts_r1 _ (List.mem_of_getElem? (i := 4) rfl)), List.forall_mem_cons.mpr ⟨(gcX10_parts__X10_parts_r1 _ (List.mem_of_getElem? (i := 10) rfl)), List.forall_mem_cons.mpr ⟨(gcX10_parts__X10_parts_r1 _ (List.mem_of_getElem? (i := 11) rfl)), List.forall_mem_cons.mpr ⟨(gcX10_parts__X10_parts_r1 _ (List.mem_of_getElem? (i := 12) rfl)), List.forall_mem_cons.mpr ⟨(gcX10_parts__X10_parts_r1 _ (List.mem_of_getElem? (i := 13) rfl)), List.forall_mem_cons.mpr ⟨(gcX10_parts__X10_parts_r1 _ (List.mem_of_getElem? (i := 14) rfl)), List.forall_mem_cons.mpr ⟨(gcX10_parts__X10_parts_r1 _ (List.mem_of_getElem? (i := 15) rfl)), List.forall_mem_cons.mpr ⟨(gcX10_parts__X10_parts_r1 _ (List.mem_of_getElem? (i := 16) rfl)), List.forall_mem_cons.mpr ⟨(gcX10_parts__X10_parts_r1 _ (List.mem_of_getElem? (i := 17) rfl)), List.forall_mem_cons.mpr ⟨(gcX10_parts__X10_parts_r1 _ (List.mem_of_getElem? (i := 18) rfl)), List.forall_mem_cons.mpr ⟨(gcX10_parts__X10_parts_r1 _ (List.mem_of_getElem? (i := 19) rfl)), List.forall_mem_cons.mpr ⟨(gcX10_parts__X10_parts_r1 _ (List.mem_of_getElem? (i := 20) rfl)), List.forall_mem_cons.mpr ⟨(gcX10_parts__X10_parts_r1 _ (List.mem_of_getElem? (i := 21) rfl)), List.forall_mem_cons.mpr ⟨(gcX10_parts__X10_parts_r1 _ (List.mem_of_getElem? (i := 22) rfl)), List.forall_mem_cons.mpr ⟨(gcX10_parts__X10_parts_r1 _ (List.mem_of_getElem? (i := 23) rfl)), List.forall_mem_cons.mpr ⟨(gcX10_parts__X10_parts_r2 _ (List.mem_of_getElem? (i := 0) rfl)), List.forall_mem_cons.mpr ⟨(gcX10_parts__X10_parts_r2 _ (List.mem_of_getElem? (i := 1) rfl)), List.forall_mem_cons.mpr ⟨(gcX10_parts__X10_parts_r2 _ (List.mem_of_getElem? (i := 2) rfl)), List.forall_mem_cons.mpr ⟨(gcX10_parts__X10_parts_r2 _ (List.mem_of_getElem? (i := 3) rfl)), fun _ h => (List.not_mem_nil h).elim⟩⟩⟩⟩⟩⟩⟩⟩⟩⟩⟩⟩⟩⟩⟩⟩⟩⟩⟩⟩⟩⟩⟩⟩
