set_option maxRecDepth 20000 in
theorem gX6_gatherStarted_X5_putAt : GoodIn wsX6_gatherStarted (wsV RX6 94 RX5 yX5_putAt wsX5_putAt) := goodIn_app (goodIn_sub (List.forall_mem_cons.mpr ⟨(gcX6_gatherStarted__X6_gatherStarted_r1 _ (List.mem_of_getElem? (i := 18) rfl)), List.forall_mem_cons.mpr ⟨(gcX6_gatherStarted__X6_gatherStarted_r1 _ (List.mem_of_getElem? (i := 19) rfl)), List.forall_mem_cons.mpr ⟨(gcX6_gatherStarted__X6_gatherStarted_r1 _ (List.mem_of_getElem? (i := 20) rfl)), List.forall_mem_cons.mpr ⟨(gcX6_gatherStarted__X6_gatherStarted_r1 _ (List.mem_of_getElem? (i := 15) rfl)), fun _ h => (List.not_mem_nil h).elim⟩⟩⟩⟩) (by decide +kernel)) ggX6_gatherStarted_X5_putAt
theorem dX6_gatherStarted_0 : decode cX6_gatherStarted 0 = .ok (.aload_n 0, 1) := by decide +kernel
theorem dX6_gatherStarted_1 : decode cX6_gatherStarted 1 = .ok (.getfield 15, 3) := by decide +kernel
theorem dX6_gatherStarted_4 : decode cX6_gatherStarted 4 = .ok (.iconst 0, 1) := by decide +kernel
theorem dX6_gatherStarted_5 : decode cX6_gatherStarted 5 = .ok (.invokestatic 56, 3) := by decide +kernel
theorem dX6_gatherStarted_8 : decode cX6_gatherStarted 8 = .ok (.aload_n 0, 1) := by decide +kernel
theorem dX6_gatherStarted_9 : decode cX6_gatherStarted 9 = .ok (.getfield 26, 3) := by decide +kernel
theorem dX6_gatherStarted_12 : decode cX6_gatherStarted 12 = .ok (.getfield 37, 3) := by decide +kernel
theorem dX6_gatherStarted_15 : decode cX6_gatherStarted 15 = .ok (.iconst 3, 1) := by decide +kernel
theorem dX6_gatherStarted_16 : decode cX6_gatherStarted 16 = .ok (.iaload, 1) := by decide +kernel
theorem dX6_gatherStarted_17 : decode cX6_gatherStarted 17 = .ok (.iconst 1, 1) := by decide +kernel
theorem dX6_gatherStarted_18 : decode cX6_gatherStarted 18 = .ok (.isub, 1) := by decide +kernel
theorem dX6_gatherStarted_19 : decode cX6_gatherStarted 19 = .ok (.istore_n 1, 1) := by decide +kernel
theorem dX6_gatherStarted_20 : decode cX6_gatherStarted 20 = .ok (.iload_n 1, 1) := by decide +kernel
theorem dX6_gatherStarted_21 : decode cX6_gatherStarted 21 = .ok (.ifCond .lt 91, 3) := by decide +kernel
theorem dX6_gatherStarted_24 : decode cX6_gatherStarted 24 = .ok (.aload_n 0, 1) := by decide +kernel
theorem dX6_gatherStarted_25 : decode cX6_gatherStarted 25 = .ok (.getfield 30, 3) := by decide +kernel
theorem dX6_gatherStarted_28 : decode cX6_gatherStarted 28 = .ok (.iload_n 1, 1) := by decide +kernel
theorem dX6_gatherStarted_29 : decode cX6_gatherStarted 29 = .ok (.invokevirtual 84, 3) := by decide +kernel
theorem dX6_gatherStarted_32 : decode cX6_gatherStarted 32 = .ok (.ifCond .eq 74, 3) := by decide +kernel
theorem dX6_gatherStarted_35 : decode cX6_gatherStarted 35 = .ok (.aload_n 0, 1) := by decide +kernel
theorem dX6_gatherStarted_36 : decode cX6_gatherStarted 36 = .ok (.getfield 9, 3) := by decide +kernel
theorem dX6_gatherStarted_39 : decode cX6_gatherStarted 39 = .ok (.aload_n 0, 1) := by decide +kernel
theorem dX6_gatherStarted_40 : decode cX6_gatherStarted 40 = .ok (.getfield 26, 3) := by decide +kernel
theorem dX6_gatherStarted_43 : decode cX6_gatherStarted 43 = .ok (.getfield 88, 3) := by decide +kernel
theorem dX6_gatherStarted_46 : decode cX6_gatherStarted 46 = .ok (.iload_n 1, 1) := by decide +kernel
theorem dX6_gatherStarted_47 : decode cX6_gatherStarted 47 = .ok (.iaload, 1) := by decide +kernel
theorem dX6_gatherStarted_48 : decode cX6_gatherStarted 48 = .ok (.iaload, 1) := by decide +kernel
theorem dX6_gatherStarted_49 : decode cX6_gatherStarted 49 = .ok (.ifCond .ne 6, 3) := by decide +kernel
theorem dX6_gatherStarted_52 : decode cX6_gatherStarted 52 = .ok (.goto 54, 3) := by decide +kernel
theorem dX6_gatherStarted_55 : decode cX6_gatherStarted 55 = .ok (.aload_n 0, 1) := by decide +kernel
theorem dX6_gatherStarted_56 : decode cX6_gatherStarted 56 = .ok (.getfield 26, 3) := by decide +kernel
theorem dX6_gatherStarted_59 : decode cX6_gatherStarted 59 = .ok (.getfield 91, 3) := by decide +kernel
theorem dX6_gatherStarted_62 : decode cX6_gatherStarted 62 = .ok (.iload_n 1, 1) := by decide +kernel
theorem dX6_gatherStarted_63 : decode cX6_gatherStarted 63 = .ok (.iaload, 1) := by decide +kernel
theorem dX6_gatherStarted_64 : decode cX6_gatherStarted 64 = .ok (.istore_n 2, 1) := by decide +kernel
theorem dX6_gatherStarted_65 : decode cX6_gatherStarted 65 = .ok (.aload_n 0, 1) := by decide +kernel
theorem dX6_gatherStarted_66 : decode cX6_gatherStarted 66 = .ok (.getfield 15, 3) := by decide +kernel
theorem dX6_gatherStarted_69 : decode cX6_gatherStarted 69 = .ok (.iload_n 2, 1) := by decide +kernel
theorem dX6_gatherStarted_70 : decode cX6_gatherStarted 70 = .ok (.iconst 1, 1) := by decide +kernel
theorem dX6_gatherStarted_71 : decode cX6_gatherStarted 71 = .ok (.iastore, 1) := by decide +kernel
theorem dX6_gatherStarted_72 : decode cX6_gatherStarted 72 = .ok (.aload_n 0, 1) := by decide +kernel
theorem dX6_gatherStarted_73 : decode cX6_gatherStarted 73 = .ok (.getfield 23, 3) := by decide +kernel
theorem dX6_gatherStarted_76 : decode cX6_gatherStarted 76 = .ok (.iconst 0, 1) := by decide +kernel
theorem dX6_gatherStarted_77 : decode cX6_gatherStarted 77 = .ok (.aaload, 1) := by decide +kernel
theorem dX6_gatherStarted_78 : decode cX6_gatherStarted 78 = .ok (.iload_n 2, 1) := by decide +kernel
theorem dX6_gatherStarted_79 : decode cX6_gatherStarted 79 = .ok (.aload_n 0, 1) := by decide +kernel
theorem dX6_gatherStarted_80 : decode cX6_gatherStarted 80 = .ok (.getfield 30, 3) := by decide +kernel
theorem dX6_gatherStarted_83 : decode cX6_gatherStarted 83 = .ok (.iload_n 1, 1) := by decide +kernel
theorem dX6_gatherStarted_84 : decode cX6_gatherStarted 84 = .ok (.iconst 0, 1) := by decide +kernel
theorem dX6_gatherStarted_85 : decode cX6_gatherStarted 85 = .ok (.invokevirtual 94, 3) := by decide +kernel
theorem dX6_gatherStarted_88 : decode cX6_gatherStarted 88 = .ok (.iastore, 1) := by decide +kernel
theorem dX6_gatherStarted_89 : decode cX6_gatherStarted 89 = .ok (.aload_n 0, 1) := by decide +kernel
theorem dX6_gatherStarted_90 : decode cX6_gatherStarted 90 = .ok (.getfield 23, 3) := by decide +kernel
theorem dX6_gatherStarted_93 : decode cX6_gatherStarted 93 = .ok (.iconst 1, 1) := by decide +kernel
theorem dX6_gatherStarted_94 : decode cX6_gatherStarted 94 = .ok (.aaload, 1) := by decide +kernel
theorem dX6_gatherStarted_95 : decode cX6_gatherStarted 95 = .ok (.iload_n 2, 1) := by decide +kernel
theorem dX6_gatherStarted_96 : decode cX6_gatherStarted 96 = .ok (.aload_n 0, 1) := by decide +kernel
theorem dX6_gatherStarted_97 : decode cX6_gatherStarted 97 = .ok (.getfield 30, 3) := by decide +kernel
theorem dX6_gatherStarted_100 : decode cX6_gatherStarted 100 = .ok (.iload_n 1, 1) := by decide +kernel
theorem dX6_gatherStarted_101 : decode cX6_gatherStarted 101 = .ok (.iconst 1, 1) := by decide +kernel
theorem dX6_gatherStarted_102 : decode cX6_gatherStarted 102 = .ok (.invokevirtual 94, 3) := by decide +kernel
theorem dX6_gatherStarted_105 : decode cX6_gatherStarted 105 = .ok (.iastore, 1) := by decide +kernel
theorem dX6_gatherStarted_106 : decode cX6_gatherStarted 106 = .ok (.iinc 1 (-1), 3) := by decide +kernel
theorem dX6_gatherStarted_109 : decode cX6_gatherStarted 109 = .ok (.goto (-89), 3) := by decide +kernel
theorem dX6_gatherStarted_112 : decode cX6_gatherStarted 112 = .ok (.return_, 1) := by decide +kernel
set_option maxRecDepth 20000 in
theorem ggX6_gatherOwn_J7_fill_53178 : GoodIn wsX6_gatherOwn wsJ7_fill_53178 := goodIn_sub (List.forall_mem_cons.mpr ⟨(List.mem_of_getElem? (i := 11) rfl), fun _ h => (List.not_mem_nil h).elim⟩) gwJ7_fill_53178
set_option maxRecDepth 20000 in
theorem gX6_gatherOwn_J7_fill_53178 : GoodIn wsX6_gatherOwn (va_wsS RX6 56 yJ7_fill_53178 wsJ7_fill_53178) := goodIn_app (goodIn_sub (List.forall_mem_cons.mpr ⟨(List.mem_of_getElem? (i := 8) rfl), List.forall_mem_cons.mpr ⟨(List.mem_of_getElem? (i := 9) rfl), List.forall_mem_cons.mpr ⟨(List.mem_of_getElem? (i := 10) rfl), fun _ h => (List.not_mem_nil h).elim⟩⟩⟩) (by decide +kernel)) ggX6_gatherOwn_J7_fill_53178
theorem gcX6_gatherOwn__X50 : ∀ w ∈ wsX50, w ∈ wsX6_gatherOwn := fun w h => List.mem_cons_of_mem _ (List.mem_append_right _ (h))
set_option maxRecDepth 20000 in
theorem ggX6_gatherOwn_X5_uses : GoodIn wsX6_gatherOwn wsX5_uses := goodIn_sub (List.forall_mem_cons.mpr ⟨(List.mem_of_getElem? (i := 16) rfl), List.forall_mem_append.mpr ⟨List.forall_mem_cons.mpr ⟨(List.mem_of_getElem? (i := 17) rfl), fun _ h => (List.not_mem_nil h).elim⟩, gcX6_gatherOwn__X50⟩⟩) gwX5_uses
set_option maxRecDepth 20000 in
theorem gX6_gatherOwn_X5_uses : GoodIn wsX6_gatherOwn (wsV RX6 84 RX5 yX5_uses wsX5_uses) := goodIn_app (goodIn_sub (List.forall_mem_cons.mpr ⟨(List.mem_of_getElem? (i := 12) rfl), List.forall_mem_cons.mpr ⟨(List.mem_of_getElem? (i := 13) rfl), List.forall_mem_cons.mpr ⟨(List.mem_of_getElem? (i := 14) rfl), List.forall_mem_cons.mpr ⟨(List.mem_of_getElem? (i := 15) rfl), fun _ h => (List.not_mem_nil h).elim⟩⟩⟩⟩) (by decide +kernel)) ggX6_gatherOwn_X5_uses
theorem dX6_gatherOwn_0 : decode cX6_gatherOwn 0 = .ok (.aload_n 0, 1) := by decide +kernel
theorem dX6_gatherOwn_1 : decode cX6_gatherOwn 1 = .ok (.getfield 18, 3) := by decide +kernel
theorem dX6_gatherOwn_4 : decode cX6_gatherOwn 4 = .ok (.iconst (-1), 1) := by decide +kernel
theorem dX6_gatherOwn_5 : decode cX6_gatherOwn 5 = .ok (.invokestatic 56, 3) := by decide +kernel
theorem dX6_gatherOwn_8 : decode cX6_gatherOwn 8 = .ok (.iconst 0, 1) := by decide +kernel
theorem dX6_gatherOwn_9 : decode cX6_gatherOwn 9 = .ok (.istore_n 2, 1) := by decide +kernel
theorem dX6_gatherOwn_10 : decode cX6_gatherOwn 10 = .ok (.iconst 0, 1) := by decide +kernel
theorem dX6_gatherOwn_11 : decode cX6_gatherOwn 11 = .ok (.istore_n 3, 1) := by decide +kernel
theorem dX6_gatherOwn_12 : decode cX6_gatherOwn 12 = .ok (.iload_n 3, 1) := by decide +kernel
theorem dX6_gatherOwn_13 : decode cX6_gatherOwn 13 = .ok (.aload_n 0, 1) := by decide +kernel
theorem dX6_gatherOwn_14 : decode cX6_gatherOwn 14 = .ok (.getfield 26, 3) := by decide +kernel
theorem dX6_gatherOwn_17 : decode cX6_gatherOwn 17 = .ok (.getfield 37, 3) := by decide +kernel
theorem dX6_gatherOwn_20 : decode cX6_gatherOwn 20 = .ok (.iconst 3, 1) := by decide +kernel
theorem dX6_gatherOwn_21 : decode cX6_gatherOwn 21 = .ok (.iaload, 1) := by decide +kernel
theorem dX6_gatherOwn_22 : decode cX6_gatherOwn 22 = .ok (.if_icmp .ge 68, 3) := by decide +kernel
theorem dX6_gatherOwn_25 : decode cX6_gatherOwn 25 = .ok (.aload_n 0, 1) := by decide +kernel
theorem dX6_gatherOwn_26 : decode cX6_gatherOwn 26 = .ok (.getfield 26, 3) := by decide +kernel
theorem dX6_gatherOwn_29 : decode cX6_gatherOwn 29 = .ok (.getfield 91, 3) := by decide +kernel
theorem dX6_gatherOwn_32 : decode cX6_gatherOwn 32 = .ok (.iload_n 3, 1) := by decide +kernel
theorem dX6_gatherOwn_33 : decode cX6_gatherOwn 33 = .ok (.iaload, 1) := by decide +kernel
theorem dX6_gatherOwn_34 : decode cX6_gatherOwn 34 = .ok (.istore 4, 2) := by decide +kernel
theorem dX6_gatherOwn_36 : decode cX6_gatherOwn 36 = .ok (.aload_n 0, 1) := by decide +kernel
theorem dX6_gatherOwn_37 : decode cX6_gatherOwn 37 = .ok (.getfield 30, 3) := by decide +kernel
theorem dX6_gatherOwn_40 : decode cX6_gatherOwn 40 = .ok (.iload_n 3, 1) := by decide +kernel
theorem dX6_gatherOwn_41 : decode cX6_gatherOwn 41 = .ok (.invokevirtual 84, 3) := by decide +kernel
theorem dX6_gatherOwn_44 : decode cX6_gatherOwn 44 = .ok (.ifCond .eq 40, 3) := by decide +kernel
theorem dX6_gatherOwn_47 : decode cX6_gatherOwn 47 = .ok (.aload_n 0, 1) := by decide +kernel
theorem dX6_gatherOwn_48 : decode cX6_gatherOwn 48 = .ok (.getfield 26, 3) := by decide +kernel
theorem dX6_gatherOwn_51 : decode cX6_gatherOwn 51 = .ok (.getfield 88, 3) := by decide +kernel
theorem dX6_gatherOwn_54 : decode cX6_gatherOwn 54 = .ok (.iload_n 3, 1) := by decide +kernel
theorem dX6_gatherOwn_55 : decode cX6_gatherOwn 55 = .ok (.iaload, 1) := by decide +kernel
theorem dX6_gatherOwn_56 : decode cX6_gatherOwn 56 = .ok (.iload_n 1, 1) := by decide +kernel
theorem dX6_gatherOwn_57 : decode cX6_gatherOwn 57 = .ok (.if_icmp .ne 27, 3) := by decide +kernel
theorem dX6_gatherOwn_60 : decode cX6_gatherOwn 60 = .ok (.aload_n 0, 1) := by decide +kernel
theorem dX6_gatherOwn_61 : decode cX6_gatherOwn 61 = .ok (.getfield 15, 3) := by decide +kernel
theorem dX6_gatherOwn_64 : decode cX6_gatherOwn 64 = .ok (.iload 4, 2) := by decide +kernel
theorem dX6_gatherOwn_66 : decode cX6_gatherOwn 66 = .ok (.iaload, 1) := by decide +kernel
theorem dX6_gatherOwn_67 : decode cX6_gatherOwn 67 = .ok (.ifCond .ne 6, 3) := by decide +kernel
theorem dX6_gatherOwn_70 : decode cX6_gatherOwn 70 = .ok (.goto 14, 3) := by decide +kernel
theorem dX6_gatherOwn_73 : decode cX6_gatherOwn 73 = .ok (.aload_n 0, 1) := by decide +kernel
theorem dX6_gatherOwn_74 : decode cX6_gatherOwn 74 = .ok (.getfield 18, 3) := by decide +kernel
theorem dX6_gatherOwn_77 : decode cX6_gatherOwn 77 = .ok (.iload 4, 2) := by decide +kernel
theorem dX6_gatherOwn_79 : decode cX6_gatherOwn 79 = .ok (.iload_n 3, 1) := by decide +kernel
theorem dX6_gatherOwn_80 : decode cX6_gatherOwn 80 = .ok (.iastore, 1) := by decide +kernel
theorem dX6_gatherOwn_81 : decode cX6_gatherOwn 81 = .ok (.iinc 2 1, 3) := by decide +kernel
theorem dX6_gatherOwn_84 : decode cX6_gatherOwn 84 = .ok (.iinc 3 1, 3) := by decide +kernel
theorem dX6_gatherOwn_87 : decode cX6_gatherOwn 87 = .ok (.goto (-75), 3) := by decide +kernel
theorem dX6_gatherOwn_90 : decode cX6_gatherOwn 90 = .ok (.iload_n 2, 1) := by decide +kernel
theorem dX6_gatherOwn_91 : decode cX6_gatherOwn 91 = .ok (.ireturn, 1) := by decide +kernel
theorem dX6_findUnstarted_0 : decode cX6_findUnstarted 0 = .ok (.iconst 0, 1) := by decide +kernel
theorem dX6_findUnstarted_1 : decode cX6_findUnstarted 1 = .ok (.istore_n 1, 1) := by decide +kernel
theorem dX6_findUnstarted_2 : decode cX6_findUnstarted 2 = .ok (.iload_n 1, 1) := by decide +kernel
theorem dX6_findUnstarted_3 : decode cX6_findUnstarted 3 = .ok (.aload_n 0, 1) := by decide +kernel
theorem dX6_findUnstarted_4 : decode cX6_findUnstarted 4 = .ok (.getfield 26, 3) := by decide +kernel
theorem dX6_findUnstarted_7 : decode cX6_findUnstarted 7 = .ok (.getfield 37, 3) := by decide +kernel
theorem dX6_findUnstarted_10 : decode cX6_findUnstarted 10 = .ok (.iconst 1, 1) := by decide +kernel
theorem dX6_findUnstarted_11 : decode cX6_findUnstarted 11 = .ok (.iaload, 1) := by decide +kernel
theorem dX6_findUnstarted_12 : decode cX6_findUnstarted 12 = .ok (.if_icmp .ge 20, 3) := by decide +kernel
theorem dX6_findUnstarted_15 : decode cX6_findUnstarted 15 = .ok (.aload_n 0, 1) := by decide +kernel
theorem dX6_findUnstarted_16 : decode cX6_findUnstarted 16 = .ok (.getfield 9, 3) := by decide +kernel
theorem dX6_findUnstarted_19 : decode cX6_findUnstarted 19 = .ok (.iload_n 1, 1) := by decide +kernel
theorem dX6_findUnstarted_20 : decode cX6_findUnstarted 20 = .ok (.iaload, 1) := by decide +kernel
theorem dX6_findUnstarted_21 : decode cX6_findUnstarted 21 = .ok (.ifCond .ne 5, 3) := by decide +kernel
theorem dX6_findUnstarted_24 : decode cX6_findUnstarted 24 = .ok (.iload_n 1, 1) := by decide +kernel
theorem dX6_findUnstarted_25 : decode cX6_findUnstarted 25 = .ok (.ireturn, 1) := by decide +kernel
theorem dX6_findUnstarted_26 : decode cX6_findUnstarted 26 = .ok (.iinc 1 1, 3) := by decide +kernel
theorem dX6_findUnstarted_29 : decode cX6_findUnstarted 29 = .ok (.goto (-27), 3) := by decide +kernel
theorem dX6_findUnstarted_32 : decode cX6_findUnstarted 32 = .ok (.iconst (-1), 1) := by decide +kernel
theorem dX6_findUnstarted_33 : decode cX6_findUnstarted 33 = .ok (.ireturn, 1) := by decide +kernel
theorem gcX6_startLinked__X6_startLinked_r1 : ∀ w ∈ wsX6_startLinked_r1, w ∈ wsX6_startLinked := fun w h => List.mem_cons_of_mem _ (List.mem_append_left _ (List.mem_append_left _ (List.mem_append_left _ (List.mem_append_left _ (h)))))
theorem gcX6_startLinked__X60 : ∀ w ∈ wsX60, w ∈ wsX6_startLinked := fun w h => List.mem_cons_of_mem _ (List.mem_append_left _ (List.mem_append_left _ (List.mem_append_right _ (h))))
theorem gcX6_startLinked__X80 : ∀ w ∈ wsX80, w ∈ wsX6_startLinked := fun w h => List.mem_cons_of_mem _ (List.mem_append_left _ (List.mem_append_right _ (h)))
set_option maxRecDepth 20000 in
theorem gwX6_firstLink : wsX6_firstLink.all goodWord = true := by decide +kernel
set_option maxRecDepth 20000 in
theorem ggX6_startLinked_X6_firstLink : GoodIn wsX6_startLinked wsX6_firstLink := goodIn_sub (List.forall_mem_cons.mpr ⟨(gcX6_startLinked__X6_startLinked_r1 _ (List.mem_of_getElem? (i := 11) rfl)), List.forall_mem_append.mpr ⟨List.forall_mem_append.mpr ⟨List.forall_mem_cons.mpr ⟨(gcX6_startLinked__X6_startLinked_r1 _ (List.mem_of_getElem? (i := 0) rfl)), List.forall_mem_cons.mpr ⟨(gcX6_startLinked__X6_startLinked_r1 _ (List.mem_of_getElem? (i := 12) rfl)), List.forall_mem_cons.mpr ⟨(gcX6_startLinked__X6_startLinked_r1 _ (List.mem_of_getElem? (i := 6) rfl)), fun _ h => (List.not_mem_nil h).elim⟩⟩⟩, gcX6_startLinked__X60⟩, gcX6_startLinked__X80⟩⟩) gwX6_firstLink
set_option maxRecDepth 20000 in
theorem gX6_startLinked_X6_firstLink : GoodIn wsX6_startLinked (wsV RX6 98 RX6 yX6_firstLink wsX6_firstLink) := goodIn_app (goodIn_sub (List.forall_mem_cons.mpr ⟨(gcX6_startLinked__X6_startLinked_r1 _ (List.mem_of_getElem? (i := 7) rfl)), List.forall_mem_cons.mpr ⟨(gcX6_startLinked__X6_startLinked_r1 _ (List.mem_of_getElem? (i := 8) rfl)), List.forall_mem_cons.mpr ⟨(gcX6_startLinked__X6_startLinked_r1 _ (List.mem_of_getElem? (i := 9) rfl)), List.forall_mem_cons.mpr ⟨(gcX6_startLinked__X6_startLinked_r1 _ (List.mem_of_getElem? (i := 10) rfl)), fun _ h => (List.not_mem_nil h).elim⟩⟩⟩⟩) (by decide +kernel)) ggX6_startLinked_X6_firstLink
theorem gcX6_startLinked__X6_startLinked_r2 : ∀ w ∈ wsX6_startLinked_r2, w ∈ wsX6_startLinked := fun w h => List.mem_cons_of_mem _ (List.mem_append_left _ (List.mem_append_left _ (List.mem_append_left _ (List.mem_append_right _ (h)))))
set_option maxRecDepth 20000 in
theorem gwX6_leastUnlikeTurn : wsX6_leastUnlikeTurn.all goodWord = true := by decide +kernel
set_option maxRecDepth 20000 in
theorem ggX6_startLinked_X6_leastUnlikeTurn : GoodIn wsX6_startLinked wsX6_leastUnlikeTurn := goodIn_sub (List.forall_mem_cons.mpr ⟨(gcX6_startLinked__X6_startLinked_r1 _ (List.mem_of_getElem? (i := 16) rfl)), List.forall_mem_append.mpr ⟨List.forall_mem_append.mpr ⟨List.forall_mem_cons.mpr ⟨(gcX6_startLinked__X6_startLinked_r1 _ (List.mem_of_getElem? (i := 17) rfl)), List.forall_mem_cons.mpr ⟨(gcX6_startLinked__X6_startLinked_r1 _ (List.mem_of_getElem? (i := 18) rfl)), List.forall_mem_cons.mpr ⟨(gcX6_startLinked__X6_startLinked_r1 _ (List.mem_of_getElem? (i := 19) rfl)), List.forall_mem_cons.mpr ⟨(gcX6_startLinked__X6_startLinked_r1 _ (List.mem_of_getElem? (i := 10) rfl)), List.forall_mem_cons.mpr ⟨(gcX6_startLinked__X6_startLinked_r1 _ (List.mem_of_getElem? (i := 20) rfl)), List.forall_mem_cons.mpr ⟨(gcX6_startLinked__X6_startLinked_r1 _ (List.mem_of_getElem? (i := 0) rfl)), List.forall_mem_cons.mpr ⟨(gcX6_startLinked__X6_startLinked_r1 _ (List.mem_of_getElem? (i := 12) rfl)), List.forall_mem_cons.mpr ⟨(gcX6_startLinked__X6_startLinked_r1 _ (List.mem_of_getElem? (i := 6) rfl)), List.forall_mem_cons.mpr ⟨(gcX6_startLinked__X6_startLinked_r1 _ (List.mem_of_getElem? (i := 5) rfl)), List.forall_mem_cons.mpr ⟨(gcX6_startLinked__X6_startLinked_r1 _ (List.mem_of_getElem? (i := 21) rfl)), List.forall_mem_cons.mpr ⟨(gcX6_startLinked__X6_startLinked_r1 _ (List.mem_of_getElem? (i := 22) rfl)), List.forall_mem_cons.mpr ⟨(gcX6_startLinked__X6_startLinked_r1 _ (List.mem_of_getElem? (i := 23) rfl)), List.forall_mem_cons.mpr ⟨(gcX6_startLinked__X6_startLinked_r2 _ (List.mem_of_getElem? (i := 0) rfl)), List.forall_mem_cons.mpr ⟨(gcX6_startLinked__X6_startLinked_r2 _ (List.mem_of_getElem? (i := 1) rfl)), List.forall_mem_cons.mpr ⟨(gcX6_startLinked__X6_startLinked_r2 _ (List.mem_of_getElem? (i := 2) rfl)), List.forall_mem_cons.mpr ⟨(gcX6_startLinked__X6_startLinked_r2 _ (List.mem_of_getElem? (i := 3) rfl)), List.forall_mem_cons.mpr ⟨(gcX6_startLinked__X6_startLinked_r2 _ (List.mem_of_getElem? (i := 4) rfl)), List.forall_mem_cons.mpr ⟨(gcX6_startLinked__X6_startLinked_r2 _ (List.mem_of_getElem? (i := 5) rfl)), List.forall_mem_cons.mpr ⟨(gcX6_startLinked__X6_startLinked_r2 _ (List.mem_of_getElem? (i := 6) rfl)), fun _ h => (List.not_mem_nil h).elim⟩⟩⟩⟩⟩⟩⟩⟩⟩⟩⟩⟩⟩⟩⟩⟩⟩⟩⟩, gcX6_startLinked__X60⟩, gcX6_startLinked__X80⟩⟩) gwX6_leastUnlikeTurn
set_option maxRecDepth 20000 in
theorem gX6_startLinked_X6_leastUnlikeTurn : GoodIn wsX6_startLinked (wsV RX6 101 RX6 yX6_leastUnlikeTurn wsX6_leastUnlikeTurn) := goodIn_app (goodIn_sub (List.forall_mem_cons.mpr ⟨(gcX6_startLinked__X6_startLinked_r1 _ (List.mem_of_getElem? (i := 13) rfl)), List.forall_mem_cons.mpr ⟨(gcX6_startLinked__X6_startLinked_r1 _ (List.mem_of_getElem? (i := 14) rfl)), List.forall_mem_cons.mpr ⟨(gcX6_startLinked__X6_startLinked_r1 _ (List.mem_of_getElem? (i := 15) rfl)), List.forall_mem_cons.mpr ⟨(gcX6_startLinked__X6_startLinked_r1 _ (List.mem_of_getElem? (i := 10) rfl)), fun _ h => (List.not_mem_nil h).elim⟩⟩⟩⟩) (by decide +kernel)) ggX6_startLinked_X6_leastUnlikeTurn
theorem gcX6_startLinked__X50 : ∀ w ∈ wsX50, w ∈ wsX6_startLinked := fun w h => List.mem_cons_of_mem _ (List.mem_append_right _ (h))
set_option maxRecDepth 20000 in
theorem ggX6_startLinked_X5_turned : GoodIn wsX6_startLinked wsX5_turned := goodIn_sub (List.forall_mem_cons.mpr ⟨(gcX6_startLinked__X6_startLinked_r2 _ (List.mem_of_getElem? (i := 11) rfl)), List.forall_mem_append.mpr ⟨List.forall_mem_append.mpr ⟨List.forall_mem_cons.mpr ⟨(gcX6_startLinked__X6_startLinked_r2 _ (List.mem_of_getElem? (i := 12) rfl)), List.forall_mem_cons.mpr ⟨(gcX6_startLinked__X6_startLinked_r2 _ (List.mem_of_getElem? (i := 13) rfl)), List.forall_mem_cons.mpr ⟨(gcX6_startLinked__X6_startLinked_r2 _ (List.mem_of_getElem? (i := 14) rfl)), List.forall_mem_cons.mpr ⟨(gcX6_startLinked__X6_startLinked_r2 _ (List.mem_of_getElem? (i := 15) rfl)), List.forall_mem_cons.mpr ⟨(gcX6_startLinked__X6_startLinked_r2 _ (List.mem_of_getElem? (i := 2) rfl)), List.forall_mem_cons.mpr ⟨(gcX6_startLinked__X6_startLinked_r2 _ (List.mem_of_getElem? (i := 3) rfl)), List.forall_mem_cons.mpr ⟨(gcX6_startLinked__X6_startLinked_r2 _ (List.mem_of_getElem? (i := 4) rfl)), List.forall_mem_cons.mpr ⟨(gcX6_startLinked__X6_startLinked_r2 _ (List.mem_of_getElem? (i := 5) rfl)), List.forall_mem_cons.mpr ⟨(gcX6_startLinked__X6_startLinked_r2 _ (List.mem_of_getElem? (i := 6) rfl)), fun _ h => (List.not_mem_nil h).elim⟩⟩⟩⟩⟩⟩⟩⟩⟩, gcX6_startLinked__X50⟩, gcX6_startLinked__X80⟩⟩) gwX5_turned
set_option maxRecDepth 20000 in
theorem gX6_startLinked_X5_turned : GoodIn wsX6_startLinked (wsV RX6 104 RX5 yX5_turned wsX5_turned) := goodIn_app (goodIn_sub (List.forall_mem_cons.mpr ⟨(gcX6_startLinked__X6_startLinked_r2 _ (List.mem_of_getElem? (i := 7) rfl)), List.forall_mem_cons.mpr ⟨(gcX6_startLinked__X6_startLinked_r2 _ (List.mem_of_getElem? (i := 8) rfl)), List.forall_mem_cons.mpr ⟨(gcX6_startLinked__X6_startLinked_r2 _ (List.mem_of_getElem? (i := 9) rfl)), List.forall_mem_cons.mpr ⟨(gcX6_startLinked__X6_startLinked_r2 _ (List.mem_of_getElem? (i := 10) rfl)), fun _ h => (List.not_mem_nil h).elim⟩⟩⟩⟩) (by decide +kernel)) ggX6_startLinked_X5_turned
theorem dX6_startLinked_0 : decode cX6_startLinked 0 = .ok (.aload_n 0, 1) := by decide +kernel
theorem dX6_startLinked_1 : decode cX6_startLinked 1 = .ok (.invokevirtual 98, 3) := by decide +kernel
theorem dX6_startLinked_4 : decode cX6_startLinked 4 = .ok (.istore_n 2, 1) := by decide +kernel
theorem dX6_startLinked_5 : decode cX6_startLinked 5 = .ok (.iload_n 2, 1) := by decide +kernel
theorem dX6_startLinked_6 : decode cX6_startLinked 6 = .ok (.iconst (-1), 1) := by decide +kernel
theorem dX6_startLinked_7 : decode cX6_startLinked 7 = .ok (.if_icmp .ne 4, 3) := by decide +kernel
theorem dX6_startLinked_10 : decode cX6_startLinked 10 = .ok (.return_, 1) := by decide +kernel
theorem dX6_startLinked_11 : decode cX6_startLinked 11 = .ok (.aload_n 0, 1) := by decide +kernel
theorem dX6_startLinked_12 : decode cX6_startLinked 12 = .ok (.getfield 26, 3) := by decide +kernel
theorem dX6_startLinked_15 : decode cX6_startLinked 15 = .ok (.getfield 76, 3) := by decide +kernel
theorem dX6_startLinked_18 : decode cX6_startLinked 18 = .ok (.iload_n 1, 1) := by decide +kernel
theorem dX6_startLinked_19 : decode cX6_startLinked 19 = .ok (.iaload, 1) := by decide +kernel
theorem dX6_startLinked_20 : decode cX6_startLinked 20 = .ok (.iconst 4, 1) := by decide +kernel
theorem dX6_startLinked_21 : decode cX6_startLinked 21 = .ok (.if_icmp .ne 17, 3) := by decide +kernel
theorem dX6_startLinked_24 : decode cX6_startLinked 24 = .ok (.aload_n 0, 1) := by decide +kernel
theorem dX6_startLinked_25 : decode cX6_startLinked 25 = .ok (.getfield 30, 3) := by decide +kernel
theorem dX6_startLinked_28 : decode cX6_startLinked 28 = .ok (.getfield 73, 3) := by decide +kernel
theorem dX6_startLinked_31 : decode cX6_startLinked 31 = .ok (.iload_n 1, 1) := by decide +kernel
theorem dX6_startLinked_32 : decode cX6_startLinked 32 = .ok (.aload_n 0, 1) := by decide +kernel
theorem dX6_startLinked_33 : decode cX6_startLinked 33 = .ok (.iload_n 2, 1) := by decide +kernel
theorem dX6_startLinked_34 : decode cX6_startLinked 34 = .ok (.invokevirtual 101, 3) := by decide +kernel
theorem dX6_startLinked_37 : decode cX6_startLinked 37 = .ok (.iastore, 1) := by decide +kernel
theorem dX6_startLinked_38 : decode cX6_startLinked 38 = .ok (.iconst 0, 1) := by decide +kernel
theorem dX6_startLinked_39 : decode cX6_startLinked 39 = .ok (.istore_n 3, 1) := by decide +kernel
theorem dX6_startLinked_40 : decode cX6_startLinked 40 = .ok (.iload_n 3, 1) := by decide +kernel
theorem dX6_startLinked_41 : decode cX6_startLinked 41 = .ok (.iconst 2, 1) := by decide +kernel
theorem dX6_startLinked_42 : decode cX6_startLinked 42 = .ok (.if_icmp .ge 43, 3) := by decide +kernel
theorem dX6_startLinked_45 : decode cX6_startLinked 45 = .ok (.aload_n 0, 1) := by decide +kernel
theorem dX6_startLinked_46 : decode cX6_startLinked 46 = .ok (.getfield 30, 3) := by decide +kernel
theorem dX6_startLinked_49 : decode cX6_startLinked 49 = .ok (.getfield 62, 3) := by decide +kernel
theorem dX6_startLinked_52 : decode cX6_startLinked 52 = .ok (.iload_n 3, 1) := by decide +kernel
theorem dX6_startLinked_53 : decode cX6_startLinked 53 = .ok (.aaload, 1) := by decide +kernel
theorem dX6_startLinked_54 : decode cX6_startLinked 54 = .ok (.iload_n 1, 1) := by decide +kernel
theorem dX6_startLinked_55 : decode cX6_startLinked 55 = .ok (.aload_n 0, 1) := by decide +kernel
theorem dX6_startLinked_56 : decode cX6_startLinked 56 = .ok (.getfield 23, 3) := by decide +kernel
theorem dX6_startLinked_59 : decode cX6_startLinked 59 = .ok (.iload_n 3, 1) := by decide +kernel
theorem dX6_startLinked_60 : decode cX6_startLinked 60 = .ok (.aaload, 1) := by decide +kernel
theorem dX6_startLinked_61 : decode cX6_startLinked 61 = .ok (.iload_n 2, 1) := by decide +kernel
theorem dX6_startLinked_62 : decode cX6_startLinked 62 = .ok (.iaload, 1) := by decide +kernel
theorem dX6_startLinked_63 : decode cX6_startLinked 63 = .ok (.aload_n 0, 1) := by decide +kernel
theorem dX6_startLinked_64 : decode cX6_startLinked 64 = .ok (.getfield 30, 3) := by decide +kernel
theorem dX6_startLinked_67 : decode cX6_startLinked 67 = .ok (.aload_n 0, 1) := by decide +kernel
theorem dX6_startLinked_68 : decode cX6_startLinked 68 = .ok (.getfield 18, 3) := by decide +kernel
theorem dX6_startLinked_71 : decode cX6_startLinked 71 = .ok (.iload_n 2, 1) := by decide +kernel
theorem dX6_startLinked_72 : decode cX6_startLinked 72 = .ok (.iaload, 1) := by decide +kernel
theorem dX6_startLinked_73 : decode cX6_startLinked 73 = .ok (.iload_n 3, 1) := by decide +kernel
theorem dX6_startLinked_74 : decode cX6_startLinked 74 = .ok (.invokevirtual 104, 3) := by decide +kernel
theorem dX6_startLinked_77 : decode cX6_startLinked 77 = .ok (.isub, 1) := by decide +kernel
theorem dX6_startLinked_78 : decode cX6_startLinked 78 = .ok (.iastore, 1) := by decide +kernel
theorem dX6_startLinked_79 : decode cX6_startLinked 79 = .ok (.iinc 3 1, 3) := by decide +kernel
theorem dX6_startLinked_82 : decode cX6_startLinked 82 = .ok (.goto (-42), 3) := by decide +kernel
theorem dX6_startLinked_85 : decode cX6_startLinked 85 = .ok (.return_, 1) := by decide +kernel
theorem dX6_firstLink_0 : decode cX6_firstLink 0 = .ok (.iconst 0, 1) := by decide +kernel
theorem dX6_firstLink_1 : decode cX6_firstLink 1 = .ok (.istore_n 1, 1) := by decide +kernel
theorem dX6_firstLink_2 : decode cX6_firstLink 2 = .ok (.iload_n 1, 1) := by decide +kernel
theorem dX6_firstLink_3 : decode cX6_firstLink 3 = .ok (.aload_n 0, 1) := by decide +kernel
theorem dX6_firstLink_4 : decode cX6_firstLink 4 = .ok (.getfield 26, 3) := by decide +kernel
theorem dX6_firstLink_7 : decode cX6_firstLink 7 = .ok (.getfield 37, 3) := by decide +kernel
theorem dX6_firstLink_10 : decode cX6_firstLink 10 = .ok (.iconst 2, 1) := by decide +kernel
theorem dX6_firstLink_11 : decode cX6_firstLink 11 = .ok (.iaload, 1) := by decide +kernel
theorem dX6_firstLink_12 : decode cX6_firstLink 12 = .ok (.if_icmp .ge 21, 3) := by decide +kernel
theorem dX6_firstLink_15 : decode cX6_firstLink 15 = .ok (.aload_n 0, 1) := by decide +kernel
theorem dX6_firstLink_16 : decode cX6_firstLink 16 = .ok (.getfield 18, 3) := by decide +kernel
theorem dX6_firstLink_19 : decode cX6_firstLink 19 = .ok (.iload_n 1, 1) := by decide +kernel
theorem dX6_firstLink_20 : decode cX6_firstLink 20 = .ok (.iaload, 1) := by decide +kernel
theorem dX6_firstLink_21 : decode cX6_firstLink 21 = .ok (.iconst (-1), 1) := by decide +kernel
theorem dX6_firstLink_22 : decode cX6_firstLink 22 = .ok (.if_icmp .eq 5, 3) := by decide +kernel
theorem dX6_firstLink_25 : decode cX6_firstLink 25 = .ok (.iload_n 1, 1) := by decide +kernel
theorem dX6_firstLink_26 : decode cX6_firstLink 26 = .ok (.ireturn, 1) := by decide +kernel
theorem dX6_firstLink_27 : decode cX6_firstLink 27 = .ok (.iinc 1 1, 3) := by decide +kernel
theorem dX6_firstLink_30 : decode cX6_firstLink 30 = .ok (.goto (-28), 3) := by decide +kernel
theorem dX6_firstLink_33 : decode cX6_firstLink 33 = .ok (.iconst (-1), 1) := by decide +kernel
theorem dX6_firstLink_34 : decode cX6_firstLink 34 = .ok (.ireturn, 1) := by decide +kernel
theorem gcX6_leastUnlikeTurn__X60 : ∀ w ∈ wsX60, w ∈ wsX6_leastUnlikeTurn := fun w h => List.mem_cons_of_mem _ (List.mem_append_left _ (List.mem_append_right _ (h)))
theorem gcX6_leastUnlikeTurn__X80 : ∀ w ∈ wsX80, w ∈ wsX6_leastUnlikeTurn := fun w h => List.mem_cons_of_mem _ (List.mem_append_right _ (h))
set_option maxRecDepth 20000 in
theorem gwX6_unlikeness : wsX6_unlikeness.all goodWord = true := by decide +kernel
set_option maxRecDepth 20000 in
theorem ggX6_leastUnlikeTurn_X6_unlikeness : GoodIn wsX6_leastUnlikeTurn wsX6_unlikeness := goodIn_sub (List.forall_mem_cons.mpr ⟨(List.mem_of_getElem? (i := 5) rfl), List.forall_mem_append.mpr ⟨List.forall_mem_append.mpr ⟨List.forall_mem_cons.mpr ⟨(List.mem_of_getElem? (i := 6) rfl), List.forall_mem_cons.mpr ⟨(List.mem_of_getElem? (i := 7) rfl), List.forall_mem_cons.mpr ⟨(List.mem_of_getElem? (i := 8) rfl), List.forall_mem_cons.mpr ⟨(List.mem_of_getElem? (i := 9) rfl), List.forall_mem_cons.mpr ⟨(List.mem_of_getElem? (i := 10) rfl), List.forall_mem_cons.mpr ⟨(List.mem_of_getElem? (i := 11) rfl), List.forall_mem_cons.mpr ⟨(List.mem_of_getElem? (i := 12) rfl), List.forall_mem_cons.mpr ⟨(List.mem_of_getElem? (i := 13) rfl), List.forall_mem_cons.mpr ⟨(List.mem_of_getElem? (i := 14) rfl), List.forall_mem_cons.mpr ⟨(List.mem_of_getElem? (i := 15) rfl), List.forall_mem_cons.mpr ⟨(List.mem_of_getElem? (i := 16) rfl), List.forall_mem_cons.mpr ⟨(List.mem_of_getElem? (i := 17) rfl), List.forall_mem_cons.mpr ⟨(List.mem_of_getElem? (i := 18) rfl), List.forall_mem_cons.mpr ⟨(List.mem_of_getElem? (i := 19) rfl), fun _ h => (List.not_mem_nil h).elim⟩⟩⟩⟩⟩⟩⟩⟩⟩⟩⟩⟩⟩⟩, gcX6_leastUnlikeTurn__X60⟩, gcX6_leastUnlikeTurn__X80⟩⟩) gwX6_unlikeness
set_option maxRecDepth 20000 in
theorem gX6_leastUnlikeTurn_X6_unlikeness : GoodIn wsX6_leastUnlikeTurn (wsV RX6 107 RX6 yX6_unlikeness wsX6_unlikeness) := goodIn_app (goodIn_sub (List.forall_mem_cons.mpr ⟨(List.mem_of_getElem? (i := 1) rfl), List.forall_mem_cons.mpr ⟨(List.mem_of_getElem? (i := 2) rfl), List.forall_mem_cons.mpr ⟨(List.mem_of_getElem? (i := 3) rfl), List.forall_mem_cons.mpr ⟨(List.mem_of_getElem? (i := 4) rfl), fun _ h => (List.not_mem_nil h).elim⟩⟩⟩⟩) (by decide +kernel)) ggX6_leastUnlikeTurn_X6_unlikeness
theorem dX6_leastUnlikeTurn_0 : decode cX6_leastUnlikeTurn 0 = .ok (.iconst 0, 1) := by decide +kernel
theorem dX6_leastUnlikeTurn_1 : decode cX6_leastUnlikeTurn 1 = .ok (.istore_n 2, 1) := by decide +kernel
theorem dX6_leastUnlikeTurn_2 : decode cX6_leastUnlikeTurn 2 = .ok (.iconst 1, 1) := by decide +kernel
theorem dX6_leastUnlikeTurn_3 : decode cX6_leastUnlikeTurn 3 = .ok (.istore_n 3, 1) := by decide +kernel
theorem dX6_leastUnlikeTurn_4 : decode cX6_leastUnlikeTurn 4 = .ok (.iload_n 3, 1) := by decide +kernel
theorem dX6_leastUnlikeTurn_5 : decode cX6_leastUnlikeTurn 5 = .ok (.iconst 4, 1) := by decide +kernel
theorem dX6_leastUnlikeTurn_6 : decode cX6_leastUnlikeTurn 6 = .ok (.if_icmp .ge 27, 3) := by decide +kernel
theorem dX6_leastUnlikeTurn_9 : decode cX6_leastUnlikeTurn 9 = .ok (.aload_n 0, 1) := by decide +kernel
theorem dX6_leastUnlikeTurn_10 : decode cX6_leastUnlikeTurn 10 = .ok (.iload_n 3, 1) := by decide +kernel
theorem dX6_leastUnlikeTurn_11 : decode cX6_leastUnlikeTurn 11 = .ok (.iload_n 1, 1) := by decide +kernel
theorem dX6_leastUnlikeTurn_12 : decode cX6_leastUnlikeTurn 12 = .ok (.invokevirtual 107, 3) := by decide +kernel
theorem dX6_leastUnlikeTurn_15 : decode cX6_leastUnlikeTurn 15 = .ok (.aload_n 0, 1) := by decide +kernel
theorem dX6_leastUnlikeTurn_16 : decode cX6_leastUnlikeTurn 16 = .ok (.iload_n 2, 1) := by decide +kernel
theorem dX6_leastUnlikeTurn_17 : decode cX6_leastUnlikeTurn 17 = .ok (.iload_n 1, 1) := by decide +kernel
theorem dX6_leastUnlikeTurn_18 : decode cX6_leastUnlikeTurn 18 = .ok (.invokevirtual 107, 3) := by decide +kernel
theorem dX6_leastUnlikeTurn_21 : decode cX6_leastUnlikeTurn 21 = .ok (.lcmp, 1) := by decide +kernel
theorem dX6_leastUnlikeTurn_22 : decode cX6_leastUnlikeTurn 22 = .ok (.ifCond .ge 5, 3) := by decide +kernel
theorem dX6_leastUnlikeTurn_25 : decode cX6_leastUnlikeTurn 25 = .ok (.iload_n 3, 1) := by decide +kernel
theorem dX6_leastUnlikeTurn_26 : decode cX6_leastUnlikeTurn 26 = .ok (.istore_n 2, 1) := by decide +kernel
theorem dX6_leastUnlikeTurn_27 : decode cX6_leastUnlikeTurn 27 = .ok (.iinc 3 1, 3) := by decide +kernel
theorem dX6_leastUnlikeTurn_30 : decode cX6_leastUnlikeTurn 30 = .ok (.goto (-26), 3) := by decide +kernel
theorem dX6_leastUnlikeTurn_33 : decode cX6_leastUnlikeTurn 33 = .ok (.iload_n 2, 1) := by decide +kernel
theorem dX6_leastUnlikeTurn_34 : decode cX6_leastUnlikeTurn 34 = .ok (.ireturn, 1) := by decide +kernel
theorem gcX6_unlikeness__X80 : ∀ w ∈ wsX80, w ∈ wsX6_unlikeness := fun w h => List.mem_cons_of_mem _ (List.mem_append_right _ (h))
set_option maxRecDepth 20000 in
theorem ggX6_unlikeness_X8_turnedBy : GoodIn wsX6_unlikeness wsX8_turnedBy := goodIn_sub (List.forall_mem_cons.mpr ⟨(List.mem_of_getElem? (i := 13) rfl), List.forall_mem_append.mpr ⟨List.forall_mem_cons.mpr ⟨(List.mem_of_getElem? (i := 14) rfl), fun _ h => (List.not_mem_nil h).elim⟩, gcX6_unlikeness__X80⟩⟩) gwX8_turnedBy
set_option maxRecDepth 20000 in
theorem gX6_unlikeness_X8_turnedBy : GoodIn wsX6_unlikeness (wsV RX6 111 RX8 yX8_turnedBy wsX8_turnedBy) := goodIn_app (goodIn_sub (List.forall_mem_cons.mpr ⟨(List.mem_of_getElem? (i := 9) rfl), List.forall_mem_cons.mpr ⟨(List.mem_of_getElem? (i := 10) rfl), List.forall_mem_cons.mpr ⟨(List.mem_of_getElem? (i := 11) rfl), List.forall_mem_cons.mpr ⟨(List.mem_of_getElem? (i := 12) rfl), fun _ h => (List.not_mem_nil h).elim⟩⟩⟩⟩) (by decide +kernel)) ggX6_unlikeness_X8_turnedBy
theorem dX6_unlikeness_0 : decode cX6_unlikeness 0 = .ok (.lconst 0, 1) := by decide +kernel
theorem dX6_unlikeness_1 : decode cX6_unlikeness 1 = .ok (.lstore_n 3, 1) := by decide +kernel
theorem dX6_unlikeness_2 : decode cX6_unlikeness 2 = .ok (.iconst 0, 1) := by decide +kernel
theorem dX6_unlikeness_3 : decode cX6_unlikeness 3 = .ok (.istore 5, 2) := by decide +kernel
theorem dX6_unlikeness_5 : decode cX6_unlikeness 5 = .ok (.iload 5, 2) := by decide +kernel
theorem dX6_unlikeness_7 : decode cX6_unlikeness 7 = .ok (.aload_n 0, 1) := by decide +kernel
theorem dX6_unlikeness_8 : decode cX6_unlikeness 8 = .ok (.getfield 26, 3) := by decide +kernel
theorem dX6_unlikeness_11 : decode cX6_unlikeness 11 = .ok (.getfield 37, 3) := by decide +kernel
theorem dX6_unlikeness_14 : decode cX6_unlikeness 14 = .ok (.iconst 2, 1) := by decide +kernel
theorem dX6_unlikeness_15 : decode cX6_unlikeness 15 = .ok (.iaload, 1) := by decide +kernel
theorem dX6_unlikeness_16 : decode cX6_unlikeness 16 = .ok (.if_icmp .ge 108, 3) := by decide +kernel
theorem dX6_unlikeness_19 : decode cX6_unlikeness 19 = .ok (.aload_n 0, 1) := by decide +kernel
theorem dX6_unlikeness_20 : decode cX6_unlikeness 20 = .ok (.getfield 18, 3) := by decide +kernel
theorem dX6_unlikeness_23 : decode cX6_unlikeness 23 = .ok (.iload 5, 2) := by decide +kernel
theorem dX6_unlikeness_25 : decode cX6_unlikeness 25 = .ok (.iaload, 1) := by decide +kernel
theorem dX6_unlikeness_26 : decode cX6_unlikeness 26 = .ok (.iconst (-1), 1) := by decide +kernel
theorem dX6_unlikeness_27 : decode cX6_unlikeness 27 = .ok (.if_icmp .ne 6, 3) := by decide +kernel
theorem dX6_unlikeness_30 : decode cX6_unlikeness 30 = .ok (.goto 88, 3) := by decide +kernel
theorem dX6_unlikeness_33 : decode cX6_unlikeness 33 = .ok (.iconst 0, 1) := by decide +kernel
theorem dX6_unlikeness_34 : decode cX6_unlikeness 34 = .ok (.istore 6, 2) := by decide +kernel
theorem dX6_unlikeness_36 : decode cX6_unlikeness 36 = .ok (.iload 6, 2) := by decide +kernel
theorem dX6_unlikeness_38 : decode cX6_unlikeness 38 = .ok (.iconst 2, 1) := by decide +kernel
theorem dX6_unlikeness_39 : decode cX6_unlikeness 39 = .ok (.if_icmp .ge 79, 3) := by decide +kernel
theorem dX6_unlikeness_42 : decode cX6_unlikeness 42 = .ok (.aload_n 0, 1) := by decide +kernel
theorem dX6_unlikeness_43 : decode cX6_unlikeness 43 = .ok (.getfield 26, 3) := by decide +kernel
theorem dX6_unlikeness_46 : decode cX6_unlikeness 46 = .ok (.iload_n 1, 1) := by decide +kernel
theorem dX6_unlikeness_47 : decode cX6_unlikeness 47 = .ok (.aload_n 0, 1) := by decide +kernel
theorem dX6_unlikeness_48 : decode cX6_unlikeness 48 = .ok (.getfield 18, 3) := by decide +kernel
theorem dX6_unlikeness_51 : decode cX6_unlikeness 51 = .ok (.iload 5, 2) := by decide +kernel
theorem dX6_unlikeness_53 : decode cX6_unlikeness 53 = .ok (.iaload, 1) := by decide +kernel
theorem dX6_unlikeness_54 : decode cX6_unlikeness 54 = .ok (.iload 6, 2) := by decide +kernel
theorem dX6_unlikeness_56 : decode cX6_unlikeness 56 = .ok (.invokevirtual 111, 3) := by decide +kernel
theorem dX6_unlikeness_59 : decode cX6_unlikeness 59 = .ok (.aload_n 0, 1) := by decide +kernel
theorem dX6_unlikeness_60 : decode cX6_unlikeness 60 = .ok (.getfield 26, 3) := by decide +kernel
theorem dX6_unlikeness_63 : decode cX6_unlikeness 63 = .ok (.iload_n 1, 1) := by decide +kernel
theorem dX6_unlikeness_64 : decode cX6_unlikeness 64 = .ok (.aload_n 0, 1) := by decide +kernel
theorem dX6_unlikeness_65 : decode cX6_unlikeness 65 = .ok (.getfield 18, 3) := by decide +kernel
theorem dX6_unlikeness_68 : decode cX6_unlikeness 68 = .ok (.iload_n 2, 1) := by decide +kernel
theorem dX6_unlikeness_69 : decode cX6_unlikeness 69 = .ok (.iaload, 1) := by decide +kernel
theorem dX6_unlikeness_70 : decode cX6_unlikeness 70 = .ok (.iload 6, 2) := by decide +kernel
theorem dX6_unlikeness_72 : decode cX6_unlikeness 72 = .ok (.invokevirtual 111, 3) := by decide +kernel
theorem dX6_unlikeness_75 : decode cX6_unlikeness 75 = .ok (.isub, 1) := by decide +kernel
theorem dX6_unlikeness_76 : decode cX6_unlikeness 76 = .ok (.istore 7, 2) := by decide +kernel
theorem dX6_unlikeness_78 : decode cX6_unlikeness 78 = .ok (.aload_n 0, 1) := by decide +kernel
theorem dX6_unlikeness_79 : decode cX6_unlikeness 79 = .ok (.getfield 23, 3) := by decide +kernel
theorem dX6_unlikeness_82 : decode cX6_unlikeness 82 = .ok (.iload 6, 2) := by decide +kernel
theorem dX6_unlikeness_84 : decode cX6_unlikeness 84 = .ok (.aaload, 1) := by decide +kernel
theorem dX6_unlikeness_85 : decode cX6_unlikeness 85 = .ok (.iload 5, 2) := by decide +kernel
theorem dX6_unlikeness_87 : decode cX6_unlikeness 87 = .ok (.iaload, 1) := by decide +kernel
theorem dX6_unlikeness_88 : decode cX6_unlikeness 88 = .ok (.aload_n 0, 1) := by decide +kernel
theorem dX6_unlikeness_89 : decode cX6_unlikeness 89 = .ok (.getfield 23, 3) := by decide +kernel
theorem dX6_unlikeness_92 : decode cX6_unlikeness 92 = .ok (.iload 6, 2) := by decide +kernel
theorem dX6_unlikeness_94 : decode cX6_unlikeness 94 = .ok (.aaload, 1) := by decide +kernel
theorem dX6_unlikeness_95 : decode cX6_unlikeness 95 = .ok (.iload_n 2, 1) := by decide +kernel
theorem dX6_unlikeness_96 : decode cX6_unlikeness 96 = .ok (.iaload, 1) := by decide +kernel
theorem dX6_unlikeness_97 : decode cX6_unlikeness 97 = .ok (.isub, 1) := by decide +kernel
theorem dX6_unlikeness_98 : decode cX6_unlikeness 98 = .ok (.istore 8, 2) := by decide +kernel
theorem dX6_unlikeness_100 : decode cX6_unlikeness 100 = .ok (.lload_n 3, 1) := by decide +kernel
theorem dX6_unlikeness_101 : decode cX6_unlikeness 101 = .ok (.iload 7, 2) := by decide +kernel
theorem dX6_unlikeness_103 : decode cX6_unlikeness 103 = .ok (.iload 8, 2) := by decide +kernel
theorem dX6_unlikeness_105 : decode cX6_unlikeness 105 = .ok (.isub, 1) := by decide +kernel
theorem dX6_unlikeness_106 : decode cX6_unlikeness 106 = .ok (.invokestatic 115, 3) := by decide +kernel
theorem dX6_unlikeness_109 : decode cX6_unlikeness 109 = .ok (.i2l, 1) := by decide +kernel
theorem dX6_unlikeness_110 : decode cX6_unlikeness 110 = .ok (.ladd, 1) := by decide +kernel
theorem dX6_unlikeness_111 : decode cX6_unlikeness 111 = .ok (.lstore_n 3, 1) := by decide +kernel
theorem dX6_unlikeness_112 : decode cX6_unlikeness 112 = .ok (.iinc 6 1, 3) := by decide +kernel
theorem dX6_unlikeness_115 : decode cX6_unlikeness 115 = .ok (.goto (-79), 3) := by decide +kernel
theorem dX6_unlikeness_118 : decode cX6_unlikeness 118 = .ok (.iinc 5 1, 3) := by decide +kernel
theorem dX6_unlikeness_121 : decode cX6_unlikeness 121 = .ok (.goto (-116), 3) := by decide +kernel
theorem dX6_unlikeness_124 : decode cX6_unlikeness 124 = .ok (.lload_n 3, 1) := by decide +kernel
theorem dX6_unlikeness_125 : decode cX6_unlikeness 125 = .ok (.lreturn, 1) := by decide +kernel
theorem gcX6_putPoints__X6_putPoints_r1 : ∀ w ∈ wsX6_putPoints_r1, w ∈ wsX6_putPoints := fun w h => List.mem_cons_of_mem _ (List.mem_append_left _ (List.mem_append_left _ (List.mem_append_left _ (List.mem_append_left _ (h)))))
theorem gcX6_putPoints__X50 : ∀ w ∈ wsX50, w ∈ wsX6_putPoints := fun w h => List.mem_cons_of_mem _ (List.mem_append_right _ (h))
set_option maxRecDepth 20000 in
theorem ggX6_putPoints_X5_uses : GoodIn wsX6_putPoints wsX5_uses := goodIn_sub (List.forall_mem_cons.mpr ⟨(gcX6_putPoints__X6_putPoints_r1 _ (List.mem_of_getElem? (i := 9) rfl)), List.forall_mem_append.mpr ⟨List.forall_mem_cons.mpr ⟨(gcX6_putPoints__X6_putPoints_r1 _ (List.mem_of_getElem? (i := 10) rfl)), fun _ h => (List.not_mem_nil h).elim⟩, gcX6_putPoints__X50⟩⟩) gwX5_uses
set_option maxRecDepth 20000 in
theorem gX6_putPoints_X5_uses : GoodIn wsX6_putPoints (wsV RX6 84 RX5 yX5_uses wsX5_uses) := goodIn_app (goodIn_sub (List.forall_mem_cons.mpr ⟨(gcX6_putPoints__X6_putPoints_r1 _ (List.mem_of_getElem? (i := 5) rfl)), List.forall_mem_cons.mpr ⟨(gcX6_putPoints__X6_putPoints_r1 _ (List.mem_of_getElem? (i := 6) rfl)), List.forall_mem_cons.mpr ⟨(gcX6_putPoints__X6_putPoints_r1 _ (List.mem_of_getElem? (i := 7) rfl)), List.forall_mem_cons.mpr ⟨(gcX6_putPoints__X6_putPoints_r1 _ (List.mem_of_getElem? (i := 8) rfl)), fun _ h => (List.not_mem_nil h).elim⟩⟩⟩⟩) (by decide +kernel)) ggX6_putPoints_X5_uses
theorem gcX6_putPoints__X6_putPoints_r2 : ∀ w ∈ wsX6_putPoints_r2, w ∈ wsX6_putPoints := fun w h => List.mem_cons_of_mem _ (List.mem_append_left _ (List.mem_append_left _ (List.mem_append_left _ (List.mem_append_right _ (h)))))
theorem gcX6_putPoints__X80 : ∀ w ∈ wsX80, w ∈ wsX6_putPoints := fun w h => List.mem_cons_of_mem _ (List.mem_append_left _ (List.mem_append_right _ (h)))
set_option maxRecDepth 20000 in
theorem ggX6_putPoints_X5_putAt : GoodIn wsX6_putPoints wsX5_putAt := goodIn_sub (List.forall_mem_cons.mpr ⟨(gcX6_putPoints__X6_putPoints_r1 _ (List.mem_of_getElem? (i := 14) rfl)), List.forall_mem_append.mpr ⟨List.forall_mem_append.mpr ⟨List.forall_mem_cons.mpr ⟨(gcX6_putPoints__X6_putPoints_r1 _ (List.mem_of_getElem? (i := 15) rfl)), List.forall_mem_cons.mpr ⟨(gcX6_putPoints__X6_putPoints_r1 _ (List.mem_of_getElem? (i := 16) rfl)), List.forall_mem_cons.mpr ⟨(gcX6_putPoints__X6_putPoints_r1 _ (List.mem_of_getElem? (i := 17) rfl)), List.forall_mem_cons.mpr ⟨(gcX6_putPoints__X6_putPoints_r1 _ (List.mem_of_getElem? (i := 18) rfl)), List.forall_mem_cons.mpr ⟨(gcX6_putPoints__X6_putPoints_r1 _ (List.mem_of_getElem? (i := 19) rfl)), List.forall_mem_cons.mpr ⟨(gcX6_putPoints__X6_putPoints_r1 _ (List.mem_of_getElem? (i := 20) rfl)), List.forall_mem_cons.mpr ⟨(gcX6_putPoints__X6_putPoints_r1 _ (List.mem_of_getElem? (i := 21) rfl)), List.forall_mem_cons.mpr ⟨(gcX6_putPoints__X6_putPoints_r1 _ (List.mem_of_getElem? (i := 22) rfl)), List.forall_mem_cons.mpr ⟨(gcX6_putPoints__X6_putPoints_r1 _ (List.mem_of_getElem? (i := 23) rfl)), List.forall_mem_cons.mpr ⟨(gcX6_putPoints__X6_putPoints_r2 _ (List.mem_of_getElem? (i := 0) rfl)), fun _ h => (List.not_mem_nil h).elim⟩⟩⟩⟩⟩⟩⟩⟩⟩⟩, gcX6_putPoints__X50⟩, gcX6_putPoints__X80⟩⟩) gwX5_putAt
set_option maxRecDepth 20000 in
theorem gX6_putPoints_X5_putAt : GoodIn wsX6_putPoints (wsV RX6 94 RX5 yX5_putAt wsX5_putAt) := goodIn_app (goodIn_sub (List.forall_mem_cons.mpr ⟨(gcX6_putPoints__X6_putPoints_r1 _ (List.mem_of_getElem? (i := 11) rfl)), List.forall_mem_cons.mpr ⟨(gcX6_putPoints__X6_putPoints_r1 _ (List.mem_of_getElem? (i := 12) rfl)), List.forall_mem_cons.mpr ⟨(gcX6_putPoints__X6_putPoints_r1 _ (List.mem_of_getElem? (i := 13) rfl)), List.forall_mem_cons.mpr ⟨(gcX6_putPoints__X6_putPoints_r1 _ (List.mem_of_getElem? (i := 8) rfl)), fun _ h => (List.not_mem_nil h).elim⟩⟩⟩⟩) (by decide +kernel)) ggX6_putPoints_X5_putAt
set_option maxRecDepth 20000 in
theorem gwX5_placeFixed : wsX5_placeFixed.all goodWord = true := by decide +kernel
set_option maxRecDepth 20000 in
theorem ggX6_putPoints_X5_placeFixed : GoodIn wsX6_putPoints wsX5_placeFixed := goodIn_sub (List.forall_mem_cons.mpr ⟨(gcX6_putPoints__X6_putPoints_r2 _ (List.mem_of_getElem? (i := 4) rfl)), List.forall_mem_append.mpr ⟨List.forall_mem_append.mpr ⟨List.forall_mem_cons.mpr ⟨(gcX6_putPoints__X6_putPoints_r1 _ (List.mem_of_getElem? (i := 15) rfl)), List.forall_mem_cons.mpr ⟨(gcX6_putPoints__X6_putPoints_r2 _ (List.mem_of_getElem? (i := 5) rfl)), List.forall_mem_cons.mpr ⟨(gcX6_putPoints__X6_putPoints_r2 _ (List.mem_of_getElem? (i := 6) rfl)), List.forall_mem_cons.mpr ⟨(gcX6_putPoints__X6_putPoints_r2 _ (List.mem_of_getElem? (i := 7) rfl)), List.forall_mem_cons.mpr ⟨(gcX6_putPoints__X6_putPoints_r2 _ (List.mem_of_getElem? (i := 8) rfl)), List.forall_mem_cons.mpr ⟨(gcX6_putPoints__X6_putPoints_r2 _ (List.mem_of_getElem? (i := 9) rfl)), List.forall_mem_cons.mpr ⟨(gcX6_putPoints__X6_putPoints_r1 _ (List.mem_of_getElem? (i := 8) rfl)), List.forall_mem_cons.mpr ⟨(gcX6_putPoints__X6_putPoints_r2 _ (List.mem_of_getElem? (i := 10) rfl)), List.forall_mem_cons.mpr ⟨(gcX6_putPoints__X6_putPoints_r2 _ (List.mem_of_getElem? (i := 11) rfl)), List.forall_mem_cons.mpr ⟨(gcX6_putPoints__X6_putPoints_r2 _ (List.mem_of_getElem? (i := 12) rfl)), List.forall_mem_cons.mpr ⟨(gcX6_putPoints__X6_putPoints_r2 _ (List.mem_of_getElem? (i := 13) rfl)), List.forall_mem_cons.mpr ⟨(gcX6_putPoints__X6_putPoints_r2 _ (List.mem_of_getElem? (i := 14) rfl)), List.forall_mem_cons.mpr ⟨(gcX6_putPoints__X6_putPoints_r2 _ (List.mem_of_getElem? (i := 15) rfl)), List.forall_mem_cons.mpr ⟨(gcX6_putPoints__X6_putPoints_r2 _ (List.mem_of_getElem? (i := 16) rfl)), List.forall_mem_cons.mpr ⟨(gcX6_putPoints__X6_putPoints_r2 _ (List.mem_of_getElem? (i := 17) rfl)), fun _ h => (List.not_mem_nil h).elim⟩⟩⟩⟩⟩⟩⟩⟩⟩⟩⟩⟩⟩⟩⟩, gcX6_putPoints__X50⟩, gcX6_putPoints__X80⟩⟩) gwX5_placeFixed
set_option maxRecDepth 20000 in
theorem gX6_putPoints_X5_placeFixed : GoodIn wsX6_putPoints (wsV RX6 120 RX5 yX5_placeFixed wsX5_placeFixed) := goodIn_app (goodIn_sub (List.forall_mem_cons.mpr ⟨(gcX6_putPoints__X6_putPoints_r2 _ (List.mem_of_getElem? (i := 1) rfl)), List.forall_mem_cons.mpr ⟨(gcX6_putPoints__X6_putPoints_r2 _ (List.mem_of_getElem? (i := 2) rfl)), List.forall_mem_cons.mpr ⟨(gcX6_putPoints__X6_putPoints_r2 _ (List.mem_of_getElem? (i := 3) rfl)), List.forall_mem_cons.mpr ⟨(gcX6_putPoints__X6_putPoints_r1 _ (List.mem_of_getElem? (i := 8) rfl)), fun _ h => (List.not_mem_nil h).elim⟩⟩⟩⟩) (by decide +kernel)) ggX6_putPoints_X5_placeFixed
theorem dX6_putPoints_0 : decode cX6_putPoints 0 = .ok (.aload_n 0, 1) := by decide +kernel
theorem dX6_putPoints_1 : decode cX6_putPoints 1 = .ok (.getfield 26, 3) := by decide +kernel
theorem dX6_putPoints_4 : decode cX6_putPoints 4 = .ok (.getfield 37, 3) := by decide +kernel
theorem dX6_putPoints_7 : decode cX6_putPoints 7 = .ok (.iconst 3, 1) := by decide +kernel
theorem dX6_putPoints_8 : decode cX6_putPoints 8 = .ok (.iaload, 1) := by decide +kernel
theorem dX6_putPoints_9 : decode cX6_putPoints 9 = .ok (.iconst 1, 1) := by decide +kernel
theorem dX6_putPoints_10 : decode cX6_putPoints 10 = .ok (.isub, 1) := by decide +kernel
theorem dX6_putPoints_11 : decode cX6_putPoints 11 = .ok (.istore_n 1, 1) := by decide +kernel
theorem dX6_putPoints_12 : decode cX6_putPoints 12 = .ok (.iload_n 1, 1) := by decide +kernel
theorem dX6_putPoints_13 : decode cX6_putPoints 13 = .ok (.ifCond .lt 79, 3) := by decide +kernel
theorem dX6_putPoints_16 : decode cX6_putPoints 16 = .ok (.aload_n 0, 1) := by decide +kernel
theorem dX6_putPoints_17 : decode cX6_putPoints 17 = .ok (.getfield 30, 3) := by decide +kernel
theorem dX6_putPoints_20 : decode cX6_putPoints 20 = .ok (.iload_n 1, 1) := by decide +kernel
theorem dX6_putPoints_21 : decode cX6_putPoints 21 = .ok (.invokevirtual 84, 3) := by decide +kernel
theorem dX6_putPoints_24 : decode cX6_putPoints 24 = .ok (.ifCond .ne 6, 3) := by decide +kernel
theorem dX6_putPoints_27 : decode cX6_putPoints 27 = .ok (.goto 59, 3) := by decide +kernel
theorem dX6_putPoints_30 : decode cX6_putPoints 30 = .ok (.aload_n 0, 1) := by decide +kernel
theorem dX6_putPoints_31 : decode cX6_putPoints 31 = .ok (.getfield 30, 3) := by decide +kernel
theorem dX6_putPoints_34 : decode cX6_putPoints 34 = .ok (.getfield 67, 3) := by decide +kernel
theorem dX6_putPoints_37 : decode cX6_putPoints 37 = .ok (.iconst 0, 1) := by decide +kernel
theorem dX6_putPoints_38 : decode cX6_putPoints 38 = .ok (.aaload, 1) := by decide +kernel
theorem dX6_putPoints_39 : decode cX6_putPoints 39 = .ok (.aload_n 0, 1) := by decide +kernel
theorem dX6_putPoints_40 : decode cX6_putPoints 40 = .ok (.getfield 26, 3) := by decide +kernel
theorem dX6_putPoints_43 : decode cX6_putPoints 43 = .ok (.getfield 91, 3) := by decide +kernel
theorem dX6_putPoints_46 : decode cX6_putPoints 46 = .ok (.iload_n 1, 1) := by decide +kernel
theorem dX6_putPoints_47 : decode cX6_putPoints 47 = .ok (.iaload, 1) := by decide +kernel
theorem dX6_putPoints_48 : decode cX6_putPoints 48 = .ok (.aload_n 0, 1) := by decide +kernel
theorem dX6_putPoints_49 : decode cX6_putPoints 49 = .ok (.getfield 30, 3) := by decide +kernel
theorem dX6_putPoints_52 : decode cX6_putPoints 52 = .ok (.iload_n 1, 1) := by decide +kernel
theorem dX6_putPoints_53 : decode cX6_putPoints 53 = .ok (.iconst 0, 1) := by decide +kernel
theorem dX6_putPoints_54 : decode cX6_putPoints 54 = .ok (.invokevirtual 94, 3) := by decide +kernel
theorem dX6_putPoints_57 : decode cX6_putPoints 57 = .ok (.iastore, 1) := by decide +kernel
theorem dX6_putPoints_58 : decode cX6_putPoints 58 = .ok (.aload_n 0, 1) := by decide +kernel
theorem dX6_putPoints_59 : decode cX6_putPoints 59 = .ok (.getfield 30, 3) := by decide +kernel
theorem dX6_putPoints_62 : decode cX6_putPoints 62 = .ok (.getfield 67, 3) := by decide +kernel
theorem dX6_putPoints_65 : decode cX6_putPoints 65 = .ok (.iconst 1, 1) := by decide +kernel
theorem dX6_putPoints_66 : decode cX6_putPoints 66 = .ok (.aaload, 1) := by decide +kernel
theorem dX6_putPoints_67 : decode cX6_putPoints 67 = .ok (.aload_n 0, 1) := by decide +kernel
theorem dX6_putPoints_68 : decode cX6_putPoints 68 = .ok (.getfield 26, 3) := by decide +kernel
theorem dX6_putPoints_71 : decode cX6_putPoints 71 = .ok (.getfield 91, 3) := by decide +kernel
theorem dX6_putPoints_74 : decode cX6_putPoints 74 = .ok (.iload_n 1, 1) := by decide +kernel
theorem dX6_putPoints_75 : decode cX6_putPoints 75 = .ok (.iaload, 1) := by decide +kernel
theorem dX6_putPoints_76 : decode cX6_putPoints 76 = .ok (.aload_n 0, 1) := by decide +kernel
theorem dX6_putPoints_77 : decode cX6_putPoints 77 = .ok (.getfield 30, 3) := by decide +kernel
theorem dX6_putPoints_80 : decode cX6_putPoints 80 = .ok (.iload_n 1, 1) := by decide +kernel
theorem dX6_putPoints_81 : decode cX6_putPoints 81 = .ok (.iconst 1, 1) := by decide +kernel
theorem dX6_putPoints_82 : decode cX6_putPoints 82 = .ok (.invokevirtual 94, 3) := by decide +kernel
theorem dX6_putPoints_85 : decode cX6_putPoints 85 = .ok (.iastore, 1) := by decide +kernel
theorem dX6_putPoints_86 : decode cX6_putPoints 86 = .ok (.iinc 1 (-1), 3) := by decide +kernel
theorem dX6_putPoints_89 : decode cX6_putPoints 89 = .ok (.goto (-77), 3) := by decide +kernel
theorem dX6_putPoints_92 : decode cX6_putPoints 92 = .ok (.aload_n 0, 1) := by decide +kernel
theorem dX6_putPoints_93 : decode cX6_putPoints 93 = .ok (.getfield 30, 3) := by decide +kernel
theorem dX6_putPoints_96 : decode cX6_putPoints 96 = .ok (.invokevirtual 120, 3) := by decide +kernel
theorem dX6_putPoints_99 : decode cX6_putPoints 99 = .ok (.return_, 1) := by decide +kernel
theorem dX7_init_0 : decode cX7_init 0 = .ok (.aload_n 0, 1) := by decide +kernel
theorem dX7_init_1 : decode cX7_init 1 = .ok (.invokespecial 3, 3) := by decide +kernel
theorem dX7_init_4 : decode cX7_init 4 = .ok (.aload_n 0, 1) := by decide +kernel
theorem dX7_init_5 : decode cX7_init 5 = .ok (.bipush 12, 2) := by decide +kernel
theorem dX7_init_7 : decode cX7_init 7 = .ok (.bipush 20, 2) := by decide +kernel
theorem dX7_init_9 : decode cX7_init 9 = .ok (.multianewarray 9 2, 4) := by decide +kernel
theorem dX7_init_13 : decode cX7_init 13 = .ok (.putfield 11, 3) := by decide +kernel
theorem dX7_init_16 : decode cX7_init 16 = .ok (.aload_n 0, 1) := by decide +kernel
theorem dX7_init_17 : decode cX7_init 17 = .ok (.bipush 12, 2) := by decide +kernel
theorem dX7_init_19 : decode cX7_init 19 = .ok (.bipush 12, 2) := by decide +kernel
theorem dX7_init_21 : decode cX7_init 21 = .ok (.multianewarray 9 2, 4) := by decide +kernel
theorem dX7_init_25 : decode cX7_init 25 = .ok (.putfield 16, 3) := by decide +kernel
theorem dX7_init_28 : decode cX7_init 28 = .ok (.aload_n 0, 1) := by decide +kernel
theorem dX7_init_29 : decode cX7_init 29 = .ok (.bipush 12, 2) := by decide +kernel
theorem dX7_init_31 : decode cX7_init 31 = .ok (.bipush 12, 2) := by decide +kernel
theorem dX7_init_33 : decode cX7_init 33 = .ok (.multianewarray 9 2, 4) := by decide +kernel
theorem dX7_init_37 : decode cX7_init 37 = .ok (.putfield 19, 3) := by decide +kernel
theorem dX7_init_40 : decode cX7_init 40 = .ok (.aload_n 0, 1) := by decide +kernel
theorem dX7_init_41 : decode cX7_init 41 = .ok (.bipush 12, 2) := by decide +kernel
theorem dX7_init_43 : decode cX7_init 43 = .ok (.bipush 12, 2) := by decide +kernel
theorem dX7_init_45 : decode cX7_init 45 = .ok (.multianewarray 9 2, 4) := by decide +kernel
theorem dX7_init_49 : decode cX7_init 49 = .ok (.putfield 22, 3) := by decide +kernel
theorem dX7_init_52 : decode cX7_init 52 = .ok (.aload_n 0, 1) := by decide +kernel
theorem dX7_init_53 : decode cX7_init 53 = .ok (.bipush 12, 2) := by decide +kernel
theorem dX7_init_55 : decode cX7_init 55 = .ok (.newarray .int, 2) := by decide +kernel
theorem dX7_init_57 : decode cX7_init 57 = .ok (.putfield 25, 3) := by decide +kernel
theorem dX7_init_60 : decode cX7_init 60 = .ok (.aload_n 0, 1) := by decide +kernel
theorem dX7_init_61 : decode cX7_init 61 = .ok (.bipush 12, 2) := by decide +kernel
theorem dX7_init_63 : decode cX7_init 63 = .ok (.newarray .int, 2) := by decide +kernel
theorem dX7_init_65 : decode cX7_init 65 = .ok (.putfield 29, 3) := by decide +kernel
theorem dX7_init_68 : decode cX7_init 68 = .ok (.aload_n 0, 1) := by decide +kernel
theorem dX7_init_69 : decode cX7_init 69 = .ok (.bipush 12, 2) := by decide +kernel
theorem dX7_init_71 : decode cX7_init 71 = .ok (.newarray .int, 2) := by decide +kernel
theorem dX7_init_73 : decode cX7_init 73 = .ok (.putfield 32, 3) := by decide +kernel
theorem dX7_init_76 : decode cX7_init 76 = .ok (.aload_n 0, 1) := by decide +kernel
theorem dX7_init_77 : decode cX7_init 77 = .ok (.bipush 60, 2) := by decide +kernel
theorem dX7_init_79 : decode cX7_init 79 = .ok (.newarray .int, 2) := by decide +kernel
theorem dX7_init_81 : decode cX7_init 81 = .ok (.putfield 35, 3) := by decide +kernel
theorem dX7_init_84 : decode cX7_init 84 = .ok (.aload_n 0, 1) := by decide +kernel
theorem dX7_init_85 : decode cX7_init 85 = .ok (.iconst 0, 1) := by decide +kernel
theorem dX7_init_86 : decode cX7_init 86 = .ok (.putfield 38, 3) := by decide +kernel
theorem dX7_init_89 : decode cX7_init 89 = .ok (.aload_n 0, 1) := by decide +kernel
theorem dX7_init_90 : decode cX7_init 90 = .ok (.iconst (-1), 1) := by decide +kernel
theorem dX7_init_91 : decode cX7_init 91 = .ok (.putfield 42, 3) := by decide +kernel
theorem dX7_init_94 : decode cX7_init 94 = .ok (.aload_n 0, 1) := by decide +kernel
theorem dX7_init_95 : decode cX7_init 95 = .ok (.iconst (-1), 1) := by decide +kernel
theorem dX7_init_96 : decode cX7_init 96 = .ok (.putfield 45, 3) := by decide +kernel
theorem dX7_init_99 : decode cX7_init 99 = .ok (.aload_n 0, 1) := by decide +kernel
theorem dX7_init_100 : decode cX7_init 100 = .ok (.aload_n 1, 1) := by decide +kernel
theorem dX7_init_101 : decode cX7_init 101 = .ok (.putfield 48, 3) := by decide +kernel
theorem dX7_init_104 : decode cX7_init 104 = .ok (.aload_n 0, 1) := by decide +kernel
theorem dX7_init_105 : decode cX7_init 105 = .ok (.aload_n 2, 1) := by decide +kernel
theorem dX7_init_106 : decode cX7_init 106 = .ok (.putfield 52, 3) := by decide +kernel
theorem dX7_init_109 : decode cX7_init 109 = .ok (.return_, 1) := by decide +kernel
theorem gcX7_survey__X7_survey_r1 : ∀ w ∈ wsX7_survey_r1, w ∈ wsX7_survey := fun w h => List.mem_cons_of_mem _ (List.mem_append_left _ (List.mem_append_left _ (List.mem_append_left _ (List.mem_append_left _ (h)))))
set_option maxRecDepth 20000 in
theorem ggX7_survey_J7_fill_53178 : GoodIn wsX7_survey wsJ7_fill_53178 := goodIn_sub (List.forall_mem_cons.mpr ⟨(gcX7_survey__X7_survey_r1 _ (List.mem_of_getElem? (i := 9) rfl)), fun _ h => (List.not_mem_nil h).elim⟩) gwJ7_fill_53178
set_option maxRecDepth 20000 in
theorem gX7_survey_J7_fill_53178 : GoodIn wsX7_survey (va_wsS RX7 61 yJ7_fill_53178 wsJ7_fill_53178) := goodIn_app (goodIn_sub (List.forall_mem_cons.mpr ⟨(gcX7_survey__X7_survey_r1 _ (List.mem_of_getElem? (i := 6) rfl)), List.forall_mem_cons.mpr ⟨(gcX7_survey__X7_survey_r1 _ (List.mem_of_getElem? (i := 7) rfl)), List.forall_mem_cons.mpr ⟨(gcX7_survey__X7_survey_r1 _ (List.mem_of_getElem? (i := 8) rfl)), fun _ h => (List.not_mem_nil h).elim⟩⟩⟩) (by decide +kernel)) ggX7_survey_J7_fill_53178
theorem gcX7_survey__X50 : ∀ w ∈ wsX50, w ∈ wsX7_survey := fun w h => List.mem_cons_of_mem _ (List.mem_append_right _ (h))
set_option maxRecDepth 20000 in
theorem ggX7_survey_X5_uses : GoodIn wsX7_survey wsX5_uses := goodIn_sub (List.forall_mem_cons.mpr ⟨(gcX7_survey__X7_survey_r1 _ (List.mem_of_getElem? (i := 14) rfl)), List.forall_mem_append.mpr ⟨List.forall_mem_cons.mpr ⟨(gcX7_survey__X7_survey_r1 _ (List.mem_of_getElem? (i := 15) rfl)), fun _ h => (List.not_mem_nil h).elim⟩, gcX7_survey__X50⟩⟩) gwX5_uses
set_option maxRecDepth 20000 in
theorem gX7_survey_X5_uses : GoodIn wsX7_survey (wsV RX7 67 RX5 yX5_uses wsX5_uses) := goodIn_app (goodIn_sub (List.forall_mem_cons.mpr ⟨(gcX7_survey__X7_survey_r1 _ (List.mem_of_getElem? (i := 10) rfl)), List.forall_mem_cons.mpr ⟨(gcX7_survey__X7_survey_r1 _ (List.mem_of_getElem? (i := 11) rfl)), List.forall_mem_cons.mpr ⟨(gcX7_survey__X7_survey_r1 _ (List.mem_of_getElem? (i := 12) rfl)), List.forall_mem_cons.mpr ⟨(gcX7_survey__X7_survey_r1 _ (List.mem_of_getElem? (i := 13) rfl)), fun _ h => (List.not_mem_nil h).elim⟩⟩⟩⟩) (by decide +kernel)) ggX7_survey_X5_uses
theorem gcX7_survey__X7_survey_r2 : ∀ w ∈ wsX7_survey_r2, w ∈ wsX7_survey := fun w h => List.mem_cons_of_mem _ (List.mem_append_left _ (List.mem_append_left _ (List.mem_append_left _ (List.mem_append_right _ (h)))))
set_option maxRecDepth 20000 in
theorem gmX7_survey__X7_surveyTie_r1 : ∀ w ∈ wsX7_surveyTie_r1, w ∈ wsX7_survey := List.forall_mem_cons.mpr ⟨(gcX7_survey__X7_survey_r1 _ (List.mem_of_getElem? (i := 0) rfl)), List.forall_mem_cons.mpr ⟨(gcX7_survey__X7_survey_r1 _ (List.mem_of_getElem? (i := 1) rfl)), List.forall_mem_cons.mpr ⟨(gcX7_survey__X7_survey_r1 _ (List.mem_of_getElem? (i := 2) rfl)), List.forall_mem_cons.mpr ⟨(gcX7_survey__X7_survey_r1 _ (List.mem_of_getElem? (i := 3) rfl)), List.forall_mem_cons.mpr ⟨(gcX7_survey__X7_survey_r1 _ (List.mem_of_getElem? (i := 21) rfl)), List.forall_mem_cons.mpr ⟨(gcX7_survey__X7_survey_r1 _ (List.mem_of_getElem? (i := 22) rfl)), List.forall_mem_cons.mpr ⟨(gcX7_survey__X7_survey_r1 _ (List.mem_of_getElem? (i := 23) rfl)), List.forall_mem_cons.mpr ⟨(gcX7_survey__X7_survey_r2 _ (List.mem_of_getElem? (i := 0) rfl)), List.forall_mem_cons.mpr ⟨(gcX7_survey__X7_survey_r2 _ (List.mem_of_getElem? (i := 1) rfl)), List.forall_mem_cons.mpr ⟨(gcX7_survey__X7_survey_r2 _ (List.mem_of_getElem? (i := 2) rfl)), List.forall_mem_cons.mpr ⟨(gcX7_survey__X7_survey_r1 _ (List.mem_of_getElem? (i := 13) rfl)), List.forall_mem_cons.mpr ⟨(gcX7_survey__X7_survey_r2 _ (List.mem_of_getElem? (i := 3) rfl)), List.forall_mem_cons.mpr ⟨(gcX7_survey__X7_survey_r2 _ (List.mem_of_getElem? (i := 4) rfl)), List.forall_mem_cons.mpr ⟨(gcX7_survey__X7_survey_r2 _ (List.mem_of_getElem? (i := 5) rfl)), List.forall_mem_cons.mpr ⟨(gcX7_survey__X7_survey_r2 _ (List.mem_of_getElem? (i := 6) rfl)), List.forall_mem_cons.mpr ⟨(gcX7_survey__X7_survey_r2 _ (List.mem_of_getElem? (i := 7) rfl)), List.forall_mem_cons.mpr ⟨(gcX7_survey__X7_survey_r2 _ (List.mem_of_getElem? (i := 8) rfl)), List.forall_mem_cons.mpr ⟨(gcX7_survey__X7_survey_r2 _ (List.mem_of_getElem? (i := 9) rfl)), List.forall_mem_cons.mpr ⟨(gcX7_survey__X7_survey_r2 _ (List.mem_of_getElem? (i := 10) rfl)), List.forall_mem_cons.mpr ⟨(gcX7_survey__X7_survey_r2 _ (List.mem_of_getElem? (i := 11) rfl)), List.forall_mem_cons.mpr ⟨(gcX7_survey__X7_survey_r2 _ (List.mem_of_getElem? (i := 12) rfl)), List.forall_mem_cons.mpr ⟨(gcX7_survey__X7_survey_r2 _ (List.mem_of_getElem? (i := 13) rfl)), List.forall_mem_cons.mpr ⟨(gcX7_survey__X7_survey_r2 _ (List.mem_of_getElem? (i := 14) rfl)), List.forall_mem_cons.mpr ⟨(gcX7_survey__X7_survey_r2 _ (List.mem_of_getElem? (i := 15) rfl)), fun _ h => (List.not_mem_nil h).elim⟩⟩⟩⟩⟩⟩⟩⟩⟩⟩⟩⟩⟩⟩⟩⟩⟩⟩⟩⟩⟩⟩⟩⟩
set_option maxRecDepth 20000 in
theorem gmX7_survey__X7_surveyTie_r2 : ∀ w ∈ wsX7_surveyTie_r2, w ∈ wsX7_survey := List.forall_mem_cons.mpr ⟨(gcX7_survey__X7_survey_r2 _ (List.mem_of_getElem? (i := 16) rfl)), fun _ h => (List.not_mem_nil h).elim⟩
theorem gcX7_survey__X70 : ∀ w ∈ wsX70, w ∈ wsX7_survey := fun w h => List.mem_cons_of_mem _ (List.mem_append_left _ (List.mem_append_left _ (List.mem_append_right _ (h))))
theorem gcX7_survey__X80 : ∀ w ∈ wsX80, w ∈ wsX7_survey := fun w h => List.mem_cons_of_mem _ (List.mem_append_left _ (List.mem_append_right _ (h)))
set_option maxRecDepth 20000 in
theorem gwX7_surveyTie : wsX7_surveyTie.all goodWord = true := by decide +kernel
set_option maxRecDepth 20000 in
theorem ggX7_survey_X7_surveyTie : GoodIn wsX7_survey wsX7_surveyTie := goodIn_sub (List.forall_mem_cons.mpr ⟨(gcX7_survey__X7_survey_r1 _ (List.mem_of_getElem? (i := 20) rfl)), List.forall_mem_append.mpr ⟨List.forall_mem_append.mpr ⟨List.forall_mem_append.mpr ⟨List.forall_mem_append.mpr ⟨gmX7_survey__X7_surveyTie_r1, gmX7_survey__X7_surveyTie_r2⟩, gcX7_survey__X70⟩, gcX7_survey__X80⟩, gcX7_survey__X50⟩⟩) gwX7_surveyTie
set_option maxRecDepth 20000 in
theorem gX7_survey_X7_surveyTie : GoodIn wsX7_survey (wsV RX7 79 RX7 yX7_surveyTie wsX7_surveyTie) := goodIn_app (goodIn_sub (List.forall_mem_cons.mpr ⟨(gcX7_survey__X7_survey_r1 _ (List.mem_of_getElem? (i := 16) rfl)), List.forall_mem_cons.mpr ⟨(gcX7_survey__X7_survey_r1 _ (List.mem_of_getElem? (i := 17) rfl)), List.forall_mem_cons.mpr ⟨(gcX7_survey__X7_survey_r1 _ (List.mem_of_getElem? (i := 18) rfl)), List.forall_mem_cons.mpr ⟨(gcX7_survey__X7_survey_r1 _ (List.mem_of_getElem? (i := 19) rfl)), fun _ h => (List.not_mem_nil h).elim⟩⟩⟩⟩) (by decide +kernel)) ggX7_survey_X7_surveyTie
theorem dX7_survey_0 : decode cX7_survey 0 = .ok (.aload_n 0, 1) := by decide +kernel
theorem dX7_survey_1 : decode cX7_survey 1 = .ok (.getfield 48, 3) := by decide +kernel
theorem dX7_survey_4 : decode cX7_survey 4 = .ok (.getfield 56, 3) := by decide +kernel
theorem dX7_survey_7 : decode cX7_survey 7 = .ok (.iconst 1, 1) := by decide +kernel
theorem dX7_survey_8 : decode cX7_survey 8 = .ok (.iaload, 1) := by decide +kernel
theorem dX7_survey_9 : decode cX7_survey 9 = .ok (.istore_n 1, 1) := by decide +kernel
theorem dX7_survey_10 : decode cX7_survey 10 = .ok (.iconst 0, 1) := by decide +kernel
theorem dX7_survey_11 : decode cX7_survey 11 = .ok (.istore_n 2, 1) := by decide +kernel
theorem dX7_survey_12 : decode cX7_survey 12 = .ok (.iload_n 2, 1) := by decide +kernel
theorem dX7_survey_13 : decode cX7_survey 13 = .ok (.iload_n 1, 1) := by decide +kernel
theorem dX7_survey_14 : decode cX7_survey 14 = .ok (.if_icmp .ge 19, 3) := by decide +kernel
theorem dX7_survey_17 : decode cX7_survey 17 = .ok (.aload_n 0, 1) := by decide +kernel
theorem dX7_survey_18 : decode cX7_survey 18 = .ok (.getfield 11, 3) := by decide +kernel
theorem dX7_survey_21 : decode cX7_survey 21 = .ok (.iload_n 2, 1) := by decide +kernel
theorem dX7_survey_22 : decode cX7_survey 22 = .ok (.aaload, 1) := by decide +kernel
theorem dX7_survey_23 : decode cX7_survey 23 = .ok (.iconst (-1), 1) := by decide +kernel
theorem dX7_survey_24 : decode cX7_survey 24 = .ok (.invokestatic 61, 3) := by decide +kernel
theorem dX7_survey_27 : decode cX7_survey 27 = .ok (.iinc 2 1, 3) := by decide +kernel
theorem dX7_survey_30 : decode cX7_survey 30 = .ok (.goto (-18), 3) := by decide +kernel
theorem dX7_survey_33 : decode cX7_survey 33 = .ok (.iconst 0, 1) := by decide +kernel
theorem dX7_survey_34 : decode cX7_survey 34 = .ok (.istore_n 2, 1) := by decide +kernel
theorem dX7_survey_35 : decode cX7_survey 35 = .ok (.iload_n 2, 1) := by decide +kernel
theorem dX7_survey_36 : decode cX7_survey 36 = .ok (.aload_n 0, 1) := by decide +kernel
theorem dX7_survey_37 : decode cX7_survey 37 = .ok (.getfield 48, 3) := by decide +kernel
theorem dX7_survey_40 : decode cX7_survey 40 = .ok (.getfield 56, 3) := by decide +kernel
theorem dX7_survey_43 : decode cX7_survey 43 = .ok (.iconst 3, 1) := by decide +kernel
theorem dX7_survey_44 : decode cX7_survey 44 = .ok (.iaload, 1) := by decide +kernel
theorem dX7_survey_45 : decode cX7_survey 45 = .ok (.if_icmp .ge 45, 3) := by decide +kernel
theorem dX7_survey_48 : decode cX7_survey 48 = .ok (.aload_n 0, 1) := by decide +kernel
theorem dX7_survey_49 : decode cX7_survey 49 = .ok (.getfield 52, 3) := by decide +kernel
theorem dX7_survey_52 : decode cX7_survey 52 = .ok (.iload_n 2, 1) := by decide +kernel
theorem dX7_survey_53 : decode cX7_survey 53 = .ok (.invokevirtual 67, 3) := by decide +kernel
theorem dX7_survey_56 : decode cX7_survey 56 = .ok (.ifCond .eq 28, 3) := by decide +kernel
theorem dX7_survey_59 : decode cX7_survey 59 = .ok (.aload_n 0, 1) := by decide +kernel
theorem dX7_survey_60 : decode cX7_survey 60 = .ok (.getfield 11, 3) := by decide +kernel
theorem dX7_survey_63 : decode cX7_survey 63 = .ok (.aload_n 0, 1) := by decide +kernel
theorem dX7_survey_64 : decode cX7_survey 64 = .ok (.getfield 48, 3) := by decide +kernel
theorem dX7_survey_67 : decode cX7_survey 67 = .ok (.getfield 73, 3) := by decide +kernel
theorem dX7_survey_70 : decode cX7_survey 70 = .ok (.iload_n 2, 1) := by decide +kernel
theorem dX7_survey_71 : decode cX7_survey 71 = .ok (.iaload, 1) := by decide +kernel
theorem dX7_survey_72 : decode cX7_survey 72 = .ok (.aaload, 1) := by decide +kernel
theorem dX7_survey_73 : decode cX7_survey 73 = .ok (.aload_n 0, 1) := by decide +kernel
theorem dX7_survey_74 : decode cX7_survey 74 = .ok (.getfield 48, 3) := by decide +kernel
theorem dX7_survey_77 : decode cX7_survey 77 = .ok (.getfield 76, 3) := by decide +kernel
theorem dX7_survey_80 : decode cX7_survey 80 = .ok (.iload_n 2, 1) := by decide +kernel
theorem dX7_survey_81 : decode cX7_survey 81 = .ok (.iaload, 1) := by decide +kernel
theorem dX7_survey_82 : decode cX7_survey 82 = .ok (.iload_n 2, 1) := by decide +kernel
theorem dX7_survey_83 : decode cX7_survey 83 = .ok (.iastore, 1) := by decide +kernel
theorem dX7_survey_84 : decode cX7_survey 84 = .ok (.iinc 2 1, 3) := by decide +kernel
theorem dX7_survey_87 : decode cX7_survey 87 = .ok (.goto (-52), 3) := by decide +kernel
theorem dX7_survey_90 : decode cX7_survey 90 = .ok (.iconst 0, 1) := by decide +kernel
theorem dX7_survey_91 : decode cX7_survey 91 = .ok (.istore_n 2, 1) := by decide +kernel
theorem dX7_survey_92 : decode cX7_survey 92 = .ok (.iload_n 2, 1) := by decide +kernel
theorem dX7_survey_93 : decode cX7_survey 93 = .ok (.iload_n 1, 1) := by decide +kernel
theorem dX7_survey_94 : decode cX7_survey 94 = .ok (.if_icmp .ge 33, 3) := by decide +kernel
theorem dX7_survey_97 : decode cX7_survey 97 = .ok (.iconst 0, 1) := by decide +kernel
theorem dX7_survey_98 : decode cX7_survey 98 = .ok (.istore_n 3, 1) := by decide +kernel
theorem dX7_survey_99 : decode cX7_survey 99 = .ok (.iload_n 3, 1) := by decide +kernel
theorem dX7_survey_100 : decode cX7_survey 100 = .ok (.iload_n 1, 1) := by decide +kernel
theorem dX7_survey_101 : decode cX7_survey 101 = .ok (.if_icmp .ge 20, 3) := by decide +kernel
theorem dX7_survey_104 : decode cX7_survey 104 = .ok (.iload_n 2, 1) := by decide +kernel
theorem dX7_survey_105 : decode cX7_survey 105 = .ok (.iload_n 3, 1) := by decide +kernel
theorem dX7_survey_106 : decode cX7_survey 106 = .ok (.if_icmp .eq 9, 3) := by decide +kernel
theorem dX7_survey_109 : decode cX7_survey 109 = .ok (.aload_n 0, 1) := by decide +kernel
theorem dX7_survey_110 : decode cX7_survey 110 = .ok (.iload_n 2, 1) := by decide +kernel
theorem dX7_survey_111 : decode cX7_survey 111 = .ok (.iload_n 3, 1) := by decide +kernel
theorem dX7_survey_112 : decode cX7_survey 112 = .ok (.invokevirtual 79, 3) := by decide +kernel
theorem dX7_survey_115 : decode cX7_survey 115 = .ok (.iinc 3 1, 3) := by decide +kernel
theorem dX7_survey_118 : decode cX7_survey 118 = .ok (.goto (-19), 3) := by decide +kernel
theorem dX7_survey_121 : decode cX7_survey 121 = .ok (.iinc 2 1, 3) := by decide +kernel
theorem dX7_survey_124 : decode cX7_survey 124 = .ok (.goto (-32), 3) := by decide +kernel
theorem dX7_survey_127 : decode cX7_survey 127 = .ok (.return_, 1) := by decide +kernel
theorem gcX7_surveyTie__X7_surveyTie_r1 : ∀ w ∈ wsX7_surveyTie_r1, w ∈ wsX7_surveyTie := fun w h => List.mem_cons_of_mem _ (List.mem_append_left _ (List.mem_append_left _ (List.mem_append_left _ (List.mem_append_left _ (h)))))
theorem gcX7_surveyTie__X50 : ∀ w ∈ wsX50, w ∈ wsX7_surveyTie := fun w h => List.mem_cons_of_mem _ (List.mem_append_right _ (h))
theorem gcX7_surveyTie__X80 : ∀ w ∈ wsX80, w ∈ wsX7_surveyTie := fun w h => List.mem_cons_of_mem _ (List.mem_append_left _ (List.mem_append_right _ (h)))
set_option maxRecDepth 20000 in
theorem ggX7_surveyTie_X5_turned : GoodIn wsX7_surveyTie wsX5_turned := goodIn_sub (List.forall_mem_cons.mpr ⟨(gcX7_surveyTie__X7_surveyTie_r1 _ (List.mem_of_getElem? (i := 11) rfl)), List.forall_mem_append.mpr ⟨List.forall_mem_append.mpr ⟨List.forall_mem_cons.mpr ⟨(gcX7_surveyTie__X7_surveyTie_r1 _ (List.mem_of_getElem? (i := 12) rfl)), List.forall_mem_cons.mpr ⟨(gcX7_surveyTie__X7_surveyTie_r1 _ (List.mem_of_getElem? (i := 13) rfl)), List.forall_mem_cons.mpr ⟨(gcX7_surveyTie__X7_surveyTie_r1 _ (List.mem_of_getElem? (i := 14) rfl)), List.forall_mem_cons.mpr ⟨(gcX7_surveyTie__X7_surveyTie_r1 _ (List.mem_of_getElem? (i := 15) rfl)), List.forall_mem_cons.mpr ⟨(gcX7_surveyTie__X7_surveyTie_r1 _ (List.mem_of_getElem? (i := 16) rfl)), List.forall_mem_cons.mpr ⟨(gcX7_surveyTie__X7_surveyTie_r1 _ (List.mem_of_getElem? (i := 17) rfl)), List.forall_mem_cons.mpr ⟨(gcX7_surveyTie__X7_surveyTie_r1 _ (List.mem_of_getElem? (i := 18) rfl)), List.forall_mem_cons.mpr ⟨(gcX7_surveyTie__X7_surveyTie_r1 _ (List.mem_of_getElem? (i := 19) rfl)), List.forall_mem_cons.mpr ⟨(gcX7_surveyTie__X7_surveyTie_r1 _ (List.mem_of_getElem? (i := 20) rfl)), fun _ h => (List.not_mem_nil h).elim⟩⟩⟩⟩⟩⟩⟩⟩⟩, gcX7_surveyTie__X50⟩, gcX7_surveyTie__X80⟩⟩) gwX5_turned
set_option maxRecDepth 20000 in
theorem gX7_surveyTie_X5_turned : GoodIn wsX7_surveyTie (wsV RX7 83 RX5 yX5_turned wsX5_turned) := goodIn_app (goodIn_sub (List.forall_mem_cons.mpr ⟨(gcX7_surveyTie__X7_surveyTie_r1 _ (List.mem_of_getElem? (i := 7) rfl)), List.forall_mem_cons.mpr ⟨(gcX7_surveyTie__X7_surveyTie_r1 _ (List.mem_of_getElem? (i := 8) rfl)), List.forall_mem_cons.mpr ⟨(gcX7_surveyTie__X7_surveyTie_r1 _ (List.mem_of_getElem? (i := 9) rfl)), List.forall_mem_cons.mpr ⟨(gcX7_surveyTie__X7_surveyTie_r1 _ (List.mem_of_getElem? (i := 10) rfl)), fun _ h => (List.not_mem_nil h).elim⟩⟩⟩⟩) (by decide +kernel)) ggX7_surveyTie_X5_turned
theorem gcX7_surveyTie__X7_surveyTie_r2 : ∀ w ∈ wsX7_surveyTie_r2, w ∈ wsX7_surveyTie := fun w h => List.mem_cons_of_mem _ (List.mem_append_left _ (List.mem_append_left _ (List.mem_append_left _ (List.mem_append_right _ (h)))))
set_option maxRecDepth 20000 in
theorem ggX7_surveyTie_J9_floorDiv_f86c9 : GoodIn wsX7_surveyTie wsJ9_floorDiv_f86c9 := goodIn_sub (List.forall_mem_cons.mpr ⟨(gcX7_surveyTie__X7_surveyTie_r2 _ (List.mem_of_getElem? (i := 0) rfl)), fun _ h => (List.not_mem_nil h).elim⟩) gwJ9_floorDiv_f86c9
set_option maxRecDepth 20000 in
theorem gX7_surveyTie_J9_floorDiv_f86c9 : GoodIn wsX7_surveyTie (va_wsS RX7 87 yJ9_floorDiv_f86c9 wsJ9_floorDiv_f86c9) := goodIn_app (goodIn_sub (List.forall_mem_cons.mpr ⟨(gcX7_surveyTie__X7_surveyTie_r1 _ (List.mem_of_getElem? (i := 21) rfl)), List.forall_mem_cons.mpr ⟨(gcX7_surveyTie__X7_surveyTie_r1 _ (List.mem_of_getElem? (i := 22) rfl)), List.forall_mem_cons.mpr ⟨(gcX7_surveyTie__X7_surveyTie_r1 _ (List.mem_of_getElem? (i := 23) rfl)), fun _ h => (List.not_mem_nil h).elim⟩⟩⟩) (by decide +kernel)) ggX7_surveyTie_J9_floorDiv_f86c9
theorem dX7_surveyTie_0 : decode cX7_surveyTie 0 = .ok (.iconst 0, 1) := by decide +kernel
theorem dX7_surveyTie_1 : decode cX7_surveyTie 1 = .ok (.istore_n 3, 1) := by decide +kernel
theorem dX7_surveyTie_2 : decode cX7_surveyTie 2 = .ok (.lconst 0, 1) := by decide +kernel
theorem dX7_surveyTie_3 : decode cX7_surveyTie 3 = .ok (.lstore 4, 2) := by decide +kernel
theorem dX7_surveyTie_5 : decode cX7_surveyTie 5 = .ok (.lconst 0, 1) := by decide +kernel
theorem dX7_surveyTie_6 : decode cX7_surveyTie 6 = .ok (.lstore 6, 2) := by decide +kernel
theorem dX7_surveyTie_8 : decode cX7_surveyTie 8 = .ok (.iconst 0, 1) := by decide +kernel
theorem dX7_surveyTie_9 : decode cX7_surveyTie 9 = .ok (.istore 8, 2) := by decide +kernel
theorem dX7_surveyTie_11 : decode cX7_surveyTie 11 = .ok (.iload 8, 2) := by decide +kernel
theorem dX7_surveyTie_13 : decode cX7_surveyTie 13 = .ok (.aload_n 0, 1) := by decide +kernel
theorem dX7_surveyTie_14 : decode cX7_surveyTie 14 = .ok (.getfield 48, 3) := by decide +kernel
theorem dX7_surveyTie_17 : decode cX7_surveyTie 17 = .ok (.getfield 56, 3) := by decide +kernel
theorem dX7_surveyTie_20 : decode cX7_surveyTie 20 = .ok (.iconst 2, 1) := by decide +kernel
theorem dX7_surveyTie_21 : decode cX7_surveyTie 21 = .ok (.iaload, 1) := by decide +kernel
theorem dX7_surveyTie_22 : decode cX7_surveyTie 22 = .ok (.if_icmp .ge 103, 3) := by decide +kernel
theorem dX7_surveyTie_25 : decode cX7_surveyTie 25 = .ok (.aload_n 0, 1) := by decide +kernel
theorem dX7_surveyTie_26 : decode cX7_surveyTie 26 = .ok (.getfield 11, 3) := by decide +kernel
theorem dX7_surveyTie_29 : decode cX7_surveyTie 29 = .ok (.iload_n 1, 1) := by decide +kernel
theorem dX7_surveyTie_30 : decode cX7_surveyTie 30 = .ok (.aaload, 1) := by decide +kernel
theorem dX7_surveyTie_31 : decode cX7_surveyTie 31 = .ok (.iload 8, 2) := by decide +kernel
theorem dX7_surveyTie_33 : decode cX7_surveyTie 33 = .ok (.iaload, 1) := by decide +kernel
theorem dX7_surveyTie_34 : decode cX7_surveyTie 34 = .ok (.istore 9, 2) := by decide +kernel
theorem dX7_surveyTie_36 : decode cX7_surveyTie 36 = .ok (.aload_n 0, 1) := by decide +kernel
theorem dX7_surveyTie_37 : decode cX7_surveyTie 37 = .ok (.getfield 11, 3) := by decide +kernel
theorem dX7_surveyTie_40 : decode cX7_surveyTie 40 = .ok (.iload_n 2, 1) := by decide +kernel
theorem dX7_surveyTie_41 : decode cX7_surveyTie 41 = .ok (.aaload, 1) := by decide +kernel
theorem dX7_surveyTie_42 : decode cX7_surveyTie 42 = .ok (.iload 8, 2) := by decide +kernel
theorem dX7_surveyTie_44 : decode cX7_surveyTie 44 = .ok (.iaload, 1) := by decide +kernel
theorem dX7_surveyTie_45 : decode cX7_surveyTie 45 = .ok (.istore 10, 2) := by decide +kernel
theorem dX7_surveyTie_47 : decode cX7_surveyTie 47 = .ok (.iload 9, 2) := by decide +kernel
theorem dX7_surveyTie_49 : decode cX7_surveyTie 49 = .ok (.iconst (-1), 1) := by decide +kernel
theorem dX7_surveyTie_50 : decode cX7_surveyTie 50 = .ok (.if_icmp .eq 69, 3) := by decide +kernel
theorem dX7_surveyTie_53 : decode cX7_surveyTie 53 = .ok (.iload 10, 2) := by decide +kernel
theorem dX7_surveyTie_55 : decode cX7_surveyTie 55 = .ok (.iconst (-1), 1) := by decide +kernel
theorem dX7_surveyTie_56 : decode cX7_surveyTie 56 = .ok (.if_icmp .ne 6, 3) := by decide +kernel
theorem dX7_surveyTie_59 : decode cX7_surveyTie 59 = .ok (.goto 60, 3) := by decide +kernel
theorem dX7_surveyTie_62 : decode cX7_surveyTie 62 = .ok (.iinc 3 1, 3) := by decide +kernel
theorem dX7_surveyTie_65 : decode cX7_surveyTie 65 = .ok (.lload 4, 2) := by decide +kernel
theorem dX7_surveyTie_67 : decode cX7_surveyTie 67 = .ok (.aload_n 0, 1) := by decide +kernel
theorem dX7_surveyTie_68 : decode cX7_surveyTie 68 = .ok (.getfield 52, 3) := by decide +kernel
theorem dX7_surveyTie_71 : decode cX7_surveyTie 71 = .ok (.iload 9, 2) := by decide +kernel
theorem dX7_surveyTie_73 : decode cX7_surveyTie 73 = .ok (.iconst 0, 1) := by decide +kernel
theorem dX7_surveyTie_74 : decode cX7_surveyTie 74 = .ok (.invokevirtual 83, 3) := by decide +kernel
theorem dX7_surveyTie_77 : decode cX7_surveyTie 77 = .ok (.aload_n 0, 1) := by decide +kernel
theorem dX7_surveyTie_78 : decode cX7_surveyTie 78 = .ok (.getfield 52, 3) := by decide +kernel
theorem dX7_surveyTie_81 : decode cX7_surveyTie 81 = .ok (.iload 10, 2) := by decide +kernel
theorem dX7_surveyTie_83 : decode cX7_surveyTie 83 = .ok (.iconst 0, 1) := by decide +kernel
theorem dX7_surveyTie_84 : decode cX7_surveyTie 84 = .ok (.invokevirtual 83, 3) := by decide +kernel
theorem dX7_surveyTie_87 : decode cX7_surveyTie 87 = .ok (.isub, 1) := by decide +kernel
theorem dX7_surveyTie_88 : decode cX7_surveyTie 88 = .ok (.i2l, 1) := by decide +kernel
theorem dX7_surveyTie_89 : decode cX7_surveyTie 89 = .ok (.ladd, 1) := by decide +kernel
theorem dX7_surveyTie_90 : decode cX7_surveyTie 90 = .ok (.lstore 4, 2) := by decide +kernel
theorem dX7_surveyTie_92 : decode cX7_surveyTie 92 = .ok (.lload 6, 2) := by decide +kernel
theorem dX7_surveyTie_94 : decode cX7_surveyTie 94 = .ok (.aload_n 0, 1) := by decide +kernel
theorem dX7_surveyTie_95 : decode cX7_surveyTie 95 = .ok (.getfield 52, 3) := by decide +kernel
theorem dX7_surveyTie_98 : decode cX7_surveyTie 98 = .ok (.iload 9, 2) := by decide +kernel
theorem dX7_surveyTie_100 : decode cX7_surveyTie 100 = .ok (.iconst 1, 1) := by decide +kernel
theorem dX7_surveyTie_101 : decode cX7_surveyTie 101 = .ok (.invokevirtual 83, 3) := by decide +kernel
theorem dX7_surveyTie_104 : decode cX7_surveyTie 104 = .ok (.aload_n 0, 1) := by decide +kernel
theorem dX7_surveyTie_105 : decode cX7_surveyTie 105 = .ok (.getfield 52, 3) := by decide +kernel
theorem dX7_surveyTie_108 : decode cX7_surveyTie 108 = .ok (.iload 10, 2) := by decide +kernel
theorem dX7_surveyTie_110 : decode cX7_surveyTie 110 = .ok (.iconst 1, 1) := by decide +kernel
theorem dX7_surveyTie_111 : decode cX7_surveyTie 111 = .ok (.invokevirtual 83, 3) := by decide +kernel
theorem dX7_surveyTie_114 : decode cX7_surveyTie 114 = .ok (.isub, 1) := by decide +kernel
theorem dX7_surveyTie_115 : decode cX7_surveyTie 115 = .ok (.i2l, 1) := by decide +kernel
theorem dX7_surveyTie_116 : decode cX7_surveyTie 116 = .ok (.ladd, 1) := by decide +kernel
theorem dX7_surveyTie_117 : decode cX7_surveyTie 117 = .ok (.lstore 6, 2) := by decide +kernel
theorem dX7_surveyTie_119 : decode cX7_surveyTie 119 = .ok (.iinc 8 1, 3) := by decide +kernel
theorem dX7_surveyTie_122 : decode cX7_surveyTie 122 = .ok (.goto (-111), 3) := by decide +kernel
theorem dX7_surveyTie_125 : decode cX7_surveyTie 125 = .ok (.aload_n 0, 1) := by decide +kernel
theorem dX7_surveyTie_126 : decode cX7_surveyTie 126 = .ok (.getfield 16, 3) := by decide +kernel
theorem dX7_surveyTie_129 : decode cX7_surveyTie 129 = .ok (.iload_n 1, 1) := by decide +kernel
theorem dX7_surveyTie_130 : decode cX7_surveyTie 130 = .ok (.aaload, 1) := by decide +kernel
theorem dX7_surveyTie_131 : decode cX7_surveyTie 131 = .ok (.iload_n 2, 1) := by decide +kernel
theorem dX7_surveyTie_132 : decode cX7_surveyTie 132 = .ok (.iload_n 3, 1) := by decide +kernel
theorem dX7_surveyTie_133 : decode cX7_surveyTie 133 = .ok (.iastore, 1) := by decide +kernel
theorem dX7_surveyTie_134 : decode cX7_surveyTie 134 = .ok (.aload_n 0, 1) := by decide +kernel
theorem dX7_surveyTie_135 : decode cX7_surveyTie 135 = .ok (.getfield 19, 3) := by decide +kernel
theorem dX7_surveyTie_138 : decode cX7_surveyTie 138 = .ok (.iload_n 1, 1) := by decide +kernel
theorem dX7_surveyTie_139 : decode cX7_surveyTie 139 = .ok (.aaload, 1) := by decide +kernel
theorem dX7_surveyTie_140 : decode cX7_surveyTie 140 = .ok (.iload_n 2, 1) := by decide +kernel
theorem dX7_surveyTie_141 : decode cX7_surveyTie 141 = .ok (.iload_n 3, 1) := by decide +kernel
theorem dX7_surveyTie_142 : decode cX7_surveyTie 142 = .ok (.ifCond .ne 7, 3) := by decide +kernel
theorem dX7_surveyTie_145 : decode cX7_surveyTie 145 = .ok (.iconst 0, 1) := by decide +kernel
theorem dX7_surveyTie_146 : decode cX7_surveyTie 146 = .ok (.goto 11, 3) := by decide +kernel
theorem dX7_surveyTie_149 : decode cX7_surveyTie 149 = .ok (.lload 4, 2) := by decide +kernel
theorem dX7_surveyTie_151 : decode cX7_surveyTie 151 = .ok (.iload_n 3, 1) := by decide +kernel
theorem dX7_surveyTie_152 : decode cX7_surveyTie 152 = .ok (.i2l, 1) := by decide +kernel
theorem dX7_surveyTie_153 : decode cX7_surveyTie 153 = .ok (.invokestatic 87, 3) := by decide +kernel
theorem dX7_surveyTie_156 : decode cX7_surveyTie 156 = .ok (.l2i, 1) := by decide +kernel
theorem dX7_surveyTie_157 : decode cX7_surveyTie 157 = .ok (.iastore, 1) := by decide +kernel
theorem dX7_surveyTie_158 : decode cX7_surveyTie 158 = .ok (.aload_n 0, 1) := by decide +kernel
theorem dX7_surveyTie_159 : decode cX7_surveyTie 159 = .ok (.getfield 22, 3) := by decide +kernel
theorem dX7_surveyTie_162 : decode cX7_surveyTie 162 = .ok (.iload_n 1, 1) := by decide +kernel
theorem dX7_surveyTie_163 : decode cX7_surveyTie 163 = .ok (.aaload, 1) := by decide +kernel
theorem dX7_surveyTie_164 : decode cX7_surveyTie 164 = .ok (.iload_n 2, 1) := by decide +kernel
theorem dX7_surveyTie_165 : decode cX7_surveyTie 165 = .ok (.iload_n 3, 1) := by decide +kernel
theorem dX7_surveyTie_166 : decode cX7_surveyTie 166 = .ok (.ifCond .ne 7, 3) := by decide +kernel
theorem dX7_surveyTie_169 : decode cX7_surveyTie 169 = .ok (.iconst 0, 1) := by decide +kernel
theorem dX7_surveyTie_170 : decode cX7_surveyTie 170 = .ok (.goto 11, 3) := by decide +kernel
theorem dX7_surveyTie_173 : decode cX7_surveyTie 173 = .ok (.lload 6, 2) := by decide +kernel
theorem dX7_surveyTie_175 : decode cX7_surveyTie 175 = .ok (.iload_n 3, 1) := by decide +kernel
theorem dX7_surveyTie_176 : decode cX7_surveyTie 176 = .ok (.i2l, 1) := by decide +kernel
theorem dX7_surveyTie_177 : decode cX7_surveyTie 177 = .ok (.invokestatic 87, 3) := by decide +kernel
theorem dX7_surveyTie_180 : decode cX7_surveyTie 180 = .ok (.l2i, 1) := by decide +kernel
theorem dX7_surveyTie_181 : decode cX7_surveyTie 181 = .ok (.iastore, 1) := by decide +kernel
theorem dX7_surveyTie_182 : decode cX7_surveyTie 182 = .ok (.return_, 1) := by decide +kernel
theorem dX7_stepOf_0 : decode cX7_stepOf 0 = .ok (.iload_n 3, 1) := by decide +kernel
theorem dX7_stepOf_1 : decode cX7_stepOf 1 = .ok (.ifCond .ne 14, 3) := by decide +kernel
theorem dX7_stepOf_4 : decode cX7_stepOf 4 = .ok (.aload_n 0, 1) := by decide +kernel
theorem dX7_stepOf_5 : decode cX7_stepOf 5 = .ok (.getfield 19, 3) := by decide +kernel
theorem dX7_stepOf_8 : decode cX7_stepOf 8 = .ok (.iload_n 1, 1) := by decide +kernel
theorem dX7_stepOf_9 : decode cX7_stepOf 9 = .ok (.aaload, 1) := by decide +kernel
theorem dX7_stepOf_10 : decode cX7_stepOf 10 = .ok (.iload_n 2, 1) := by decide +kernel
theorem dX7_stepOf_11 : decode cX7_stepOf 11 = .ok (.iaload, 1) := by decide +kernel
theorem dX7_stepOf_12 : decode cX7_stepOf 12 = .ok (.goto 11, 3) := by decide +kernel
theorem dX7_stepOf_15 : decode cX7_stepOf 15 = .ok (.aload_n 0, 1) := by decide +kernel
theorem dX7_stepOf_16 : decode cX7_stepOf 16 = .ok (.getfield 22, 3) := by decide +kernel
theorem dX7_stepOf_19 : decode cX7_stepOf 19 = .ok (.iload_n 1, 1) := by decide +kernel
theorem dX7_stepOf_20 : decode cX7_stepOf 20 = .ok (.aaload, 1) := by decide +kernel
theorem dX7_stepOf_21 : decode cX7_stepOf 21 = .ok (.iload_n 2, 1) := by decide +kernel
theorem dX7_stepOf_22 : decode cX7_stepOf 22 = .ok (.iaload, 1) := by decide +kernel
theorem dX7_stepOf_23 : decode cX7_stepOf 23 = .ok (.ireturn, 1) := by decide +kernel
theorem dX7_isLoop_0 : decode cX7_isLoop 0 = .ok (.aload_n 0, 1) := by decide +kernel
theorem dX7_isLoop_1 : decode cX7_isLoop 1 = .ok (.getfield 16, 3) := by decide +kernel
theorem dX7_isLoop_4 : decode cX7_isLoop 4 = .ok (.iload_n 1, 1) := by decide +kernel
theorem dX7_isLoop_5 : decode cX7_isLoop 5 = .ok (.aaload, 1) := by decide +kernel
theorem dX7_isLoop_6 : decode cX7_isLoop 6 = .ok (.iload_n 2, 1) := by decide +kernel
theorem dX7_isLoop_7 : decode cX7_isLoop 7 = .ok (.iaload, 1) := by decide +kernel
theorem dX7_isLoop_8 : decode cX7_isLoop 8 = .ok (.ifCond .le 29, 3) := by decide +kernel
theorem dX7_isLoop_11 : decode cX7_isLoop 11 = .ok (.aload_n 0, 1) := by decide +kernel
theorem dX7_isLoop_12 : decode cX7_isLoop 12 = .ok (.getfield 16, 3) := by decide +kernel
theorem dX7_isLoop_15 : decode cX7_isLoop 15 = .ok (.iload_n 2, 1) := by decide +kernel
theorem dX7_isLoop_16 : decode cX7_isLoop 16 = .ok (.aaload, 1) := by decide +kernel
theorem dX7_isLoop_17 : decode cX7_isLoop 17 = .ok (.iload_n 3, 1) := by decide +kernel
theorem dX7_isLoop_18 : decode cX7_isLoop 18 = .ok (.iaload, 1) := by decide +kernel
theorem dX7_isLoop_19 : decode cX7_isLoop 19 = .ok (.ifCond .le 18, 3) := by decide +kernel
theorem dX7_isLoop_22 : decode cX7_isLoop 22 = .ok (.aload_n 0, 1) := by decide +kernel
theorem dX7_isLoop_23 : decode cX7_isLoop 23 = .ok (.getfield 16, 3) := by decide +kernel
theorem dX7_isLoop_26 : decode cX7_isLoop 26 = .ok (.iload_n 3, 1) := by decide +kernel
theorem dX7_isLoop_27 : decode cX7_isLoop 27 = .ok (.aaload, 1) := by decide +kernel
theorem dX7_isLoop_28 : decode cX7_isLoop 28 = .ok (.iload_n 1, 1) := by decide +kernel
theorem dX7_isLoop_29 : decode cX7_isLoop 29 = .ok (.iaload, 1) := by decide +kernel
theorem dX7_isLoop_30 : decode cX7_isLoop 30 = .ok (.ifCond .le 7, 3) := by decide +kernel
theorem dX7_isLoop_33 : decode cX7_isLoop 33 = .ok (.iconst 1, 1) := by decide +kernel
theorem dX7_isLoop_34 : decode cX7_isLoop 34 = .ok (.goto 4, 3) := by decide +kernel
theorem dX7_isLoop_37 : decode cX7_isLoop 37 = .ok (.iconst 0, 1) := by decide +kernel
theorem dX7_isLoop_38 : decode cX7_isLoop 38 = .ok (.ireturn, 1) := by decide +kernel
theorem gcX7_loopOf__X70 : ∀ w ∈ wsX70, w ∈ wsX7_loopOf := fun w h => List.mem_cons_of_mem _ (List.mem_append_right _ (h))
set_option maxRecDepth 20000 in
theorem gwX7_stepOf : wsX7_stepOf.all goodWord = true := by decide +kernel
set_option maxRecDepth 20000 in
theorem ggX7_loopOf_X7_stepOf : GoodIn wsX7_loopOf wsX7_stepOf := goodIn_sub (List.forall_mem_cons.mpr ⟨(List.mem_of_getElem? (i := 5) rfl), List.forall_mem_append.mpr ⟨List.forall_mem_cons.mpr ⟨(List.mem_of_getElem? (i := 6) rfl), List.forall_mem_cons.mpr ⟨(List.mem_of_getElem? (i := 7) rfl), fun _ h => (List.not_mem_nil h).elim⟩⟩, gcX7_loopOf__X70⟩⟩) gwX7_stepOf
set_option maxRecDepth 20000 in
theorem gX7_loopOf_X7_stepOf : GoodIn wsX7_loopOf (wsV RX7 93 RX7 yX7_stepOf wsX7_stepOf) := goodIn_app (goodIn_sub (List.forall_mem_cons.mpr ⟨(List.mem_of_getElem? (i := 1) rfl), List.forall_mem_cons.mpr ⟨(List.mem_of_getElem? (i := 2) rfl), List.forall_mem_cons.mpr ⟨(List.mem_of_getElem? (i := 3) rfl), List.forall_mem_cons.mpr ⟨(List.mem_of_getElem? (i := 4) rfl), fun _ h => (List.not_mem_nil h).elim⟩⟩⟩⟩) (by decide +kernel)) ggX7_loopOf_X7_stepOf
theorem dX7_loopOf_0 : decode cX7_loopOf 0 = .ok (.aload_n 0, 1) := by decide +kernel
theorem dX7_loopOf_1 : decode cX7_loopOf 1 = .ok (.iload_n 1, 1) := by decide +kernel
theorem dX7_loopOf_2 : decode cX7_loopOf 2 = .ok (.iload_n 2, 1) := by decide +kernel
theorem dX7_loopOf_3 : decode cX7_loopOf 3 = .ok (.iload 4, 2) := by decide +kernel
theorem dX7_loopOf_5 : decode cX7_loopOf 5 = .ok (.invokevirtual 93, 3) := by decide +kernel
theorem dX7_loopOf_8 : decode cX7_loopOf 8 = .ok (.aload_n 0, 1) := by decide +kernel
theorem dX7_loopOf_9 : decode cX7_loopOf 9 = .ok (.iload_n 2, 1) := by decide +kernel
theorem dX7_loopOf_10 : decode cX7_loopOf 10 = .ok (.iload_n 3, 1) := by decide +kernel
theorem dX7_loopOf_11 : decode cX7_loopOf 11 = .ok (.iload 4, 2) := by decide +kernel
theorem dX7_loopOf_13 : decode cX7_loopOf 13 = .ok (.invokevirtual 93, 3) := by decide +kernel
theorem dX7_loopOf_16 : decode cX7_loopOf 16 = .ok (.iadd, 1) := by decide +kernel
theorem dX7_loopOf_17 : decode cX7_loopOf 17 = .ok (.aload_n 0, 1) := by decide +kernel
theorem dX7_loopOf_18 : decode cX7_loopOf 18 = .ok (.iload_n 3, 1) := by decide +kernel
theorem dX7_loopOf_19 : decode cX7_loopOf 19 = .ok (.iload_n 1, 1) := by decide +kernel
theorem dX7_loopOf_20 : decode cX7_loopOf 20 = .ok (.iload 4, 2) := by decide +kernel
theorem dX7_loopOf_22 : decode cX7_loopOf 22 = .ok (.invokevirtual 93, 3) := by decide +kernel
theorem dX7_loopOf_25 : decode cX7_loopOf 25 = .ok (.iadd, 1) := by decide +kernel
theorem dX7_loopOf_26 : decode cX7_loopOf 26 = .ok (.ireturn, 1) := by decide +kernel
theorem gcX7_findGap__X7_findGap_r1 : ∀ w ∈ wsX7_findGap_r1, w ∈ wsX7_findGap := fun w h => List.mem_cons_of_mem _ (List.mem_append_left _ (List.mem_append_left _ (List.mem_append_left _ (h))))
theorem gcX7_findGap__X70 : ∀ w ∈ wsX70, w ∈ wsX7_findGap := fun w h => List.mem_cons_of_mem _ (List.mem_append_left _ (List.mem_append_right _ (h)))
set_option maxRecDepth 20000 in
theorem gwX7_isLoop : wsX7_isLoop.all goodWord = true := by decide +kernel
set_option maxRecDepth 20000 in
theorem ggX7_findGap_X7_isLoop : GoodIn wsX7_findGap wsX7_isLoop := goodIn_sub (List.forall_mem_cons.mpr ⟨(gcX7_findGap__X7_findGap_r1 _ (List.mem_of_getElem? (i := 8) rfl)), List.forall_mem_append.mpr ⟨List.forall_mem_cons.mpr ⟨(gcX7_findGap__X7_findGap_r1 _ (List.mem_of_getElem? (i := 9) rfl)), fun _ h => (List.not_mem_nil h).elim⟩, gcX7_findGap__X70⟩⟩) gwX7_isLoop
set_option maxRecDepth 20000 in
theorem gX7_findGap_X7_isLoop : GoodIn wsX7_findGap (wsV RX7 97 RX7 yX7_isLoop wsX7_isLoop) := goodIn_app (goodIn_sub (List.forall_mem_cons.mpr ⟨(gcX7_findGap__X7_findGap_r1 _ (List.mem_of_getElem? (i := 4) rfl)), List.forall_mem_cons.mpr ⟨(gcX7_findGap__X7_findGap_r1 _ (List.mem_of_getElem? (i := 5) rfl)), List.forall_mem_cons.mpr ⟨(gcX7_findGap__X7_findGap_r1 _ (List.mem_of_getElem? (i := 6) rfl)), List.forall_mem_cons.mpr ⟨(gcX7_findGap__X7_findGap_r1 _ (List.mem_of_getElem? (i := 7) rfl)), fun _ h => (List.not_mem_nil h).elim⟩⟩⟩⟩) (by decide +kernel)) ggX7_findGap_X7_isLoop
theorem gcX7_findGap__X7_findGap_r2 : ∀ w ∈ wsX7_findGap_r2, w ∈ wsX7_findGap := fun w h => List.mem_cons_of_mem _ (List.mem_append_left _ (List.mem_append_left _ (List.mem_append_right _ (h))))
set_option maxRecDepth 20000 in
theorem gwX7_takeGap : wsX7_takeGap.all goodWord = true := by decide +kernel
set_option maxRecDepth 20000 in
theorem ggX7_findGap_X7_takeGap : GoodIn wsX7_findGap wsX7_takeGap := goodIn_sub (List.forall_mem_cons.mpr ⟨(gcX7_findGap__X7_findGap_r1 _ (List.mem_of_getElem? (i := 13) rfl)), List.forall_mem_append.mpr ⟨List.forall_mem_cons.mpr ⟨(gcX7_findGap__X7_findGap_r1 _ (List.mem_of_getElem? (i := 14) rfl)), List.forall_mem_cons.mpr ⟨(gcX7_findGap__X7_findGap_r1 _ (List.mem_of_getElem? (i := 15) rfl)), List.forall_mem_cons.mpr ⟨(gcX7_findGap__X7_findGap_r1 _ (List.mem_of_getElem? (i := 16) rfl)), List.forall_mem_cons.mpr ⟨(gcX7_findGap__X7_findGap_r1 _ (List.mem_of_getElem? (i := 17) rfl)), List.forall_mem_cons.mpr ⟨(gcX7_findGap__X7_findGap_r1 _ (List.mem_of_getElem? (i := 1) rfl)), List.forall_mem_cons.mpr ⟨(gcX7_findGap__X7_findGap_r1 _ (List.mem_of_getElem? (i := 0) rfl)), List.forall_mem_cons.mpr ⟨(gcX7_findGap__X7_findGap_r1 _ (List.mem_of_getElem? (i := 18) rfl)), List.forall_mem_cons.mpr ⟨(gcX7_findGap__X7_findGap_r1 _ (List.mem_of_getElem? (i := 19) rfl)), List.forall_mem_cons.mpr ⟨(gcX7_findGap__X7_findGap_r1 _ (List.mem_of_getElem? (i := 20) rfl)), List.forall_mem_cons.mpr ⟨(gcX7_findGap__X7_findGap_r1 _ (List.mem_of_getElem? (i := 7) rfl)), List.forall_mem_cons.mpr ⟨(gcX7_findGap__X7_findGap_r1 _ (List.mem_of_getElem? (i := 21) rfl)), List.forall_mem_cons.mpr ⟨(gcX7_findGap__X7_findGap_r1 _ (List.mem_of_getElem? (i := 22) rfl)), List.forall_mem_cons.mpr ⟨(gcX7_findGap__X7_findGap_r1 _ (List.mem_of_getElem? (i := 23) rfl)), List.forall_mem_cons.mpr ⟨(gcX7_findGap__X7_findGap_r2 _ (List.mem_of_getElem? (i := 0) rfl)), List.forall_mem_cons.mpr ⟨(gcX7_findGap__X7_findGap_r2 _ (List.mem_of_getElem? (i := 1) rfl)), List.forall_mem_cons.mpr ⟨(gcX7_findGap__X7_findGap_r2 _ (List.mem_of_getElem? (i := 2) rfl)), List.forall_mem_cons.mpr ⟨(gcX7_findGap__X7_findGap_r2 _ (List.mem_of_getElem? (i := 3) rfl)), fun _ h => (List.not_mem_nil h).elim⟩⟩⟩⟩⟩⟩⟩⟩⟩⟩⟩⟩⟩⟩⟩⟩⟩, gcX7_findGap__X70⟩⟩) gwX7_takeGap
set_option maxRecDepth 20000 in
theorem gX7_findGap_X7_takeGap : GoodIn wsX7_findGap (wsV RX7 101 RX7 yX7_takeGap wsX7_takeGap) := goodIn_app (goodIn_sub (List.forall_mem_cons.mpr ⟨(gcX7_findGap__X7_findGap_r1 _ (List.mem_of_getElem? (i := 10) rfl)), List.forall_mem_cons.mpr ⟨(gcX7_findGap__X7_findGap_r1 _ (List.mem_of_getElem? (i := 11) rfl)), List.forall_mem_cons.mpr ⟨(gcX7_findGap__X7_findGap_r1 _ (List.mem_of_getElem? (i := 12) rfl)), List.forall_mem_cons.mpr ⟨(gcX7_findGap__X7_findGap_r1 _ (List.mem_of_getElem? (i := 7) rfl)), fun _ h => (List.not_mem_nil h).elim⟩⟩⟩⟩) (by decide +kernel)) ggX7_findGap_X7_takeGap
theorem dX7_findGap_0 : decode cX7_findGap 0 = .ok (.aload_n 0, 1) := by decide +kernel
theorem dX7_findGap_1 : decode cX7_findGap 1 = .ok (.iconst (-1), 1) := by decide +kernel
theorem dX7_findGap_2 : decode cX7_findGap 2 = .ok (.putfield 42, 3) := by decide +kernel
theorem dX7_findGap_5 : decode cX7_findGap 5 = .ok (.aload_n 0, 1) := by decide +kernel
theorem dX7_findGap_6 : decode cX7_findGap 6 = .ok (.iconst (-1), 1) := by decide +kernel
theorem dX7_findGap_7 : decode cX7_findGap 7 = .ok (.putfield 45, 3) := by decide +kernel
theorem dX7_findGap_10 : decode cX7_findGap 10 = .ok (.aload_n 0, 1) := by decide +kernel
theorem dX7_findGap_11 : decode cX7_findGap 11 = .ok (.getfield 48, 3) := by decide +kernel
theorem dX7_findGap_14 : decode cX7_findGap 14 = .ok (.getfield 56, 3) := by decide +kernel
theorem dX7_findGap_17 : decode cX7_findGap 17 = .ok (.iconst 1, 1) := by decide +kernel
theorem dX7_findGap_18 : decode cX7_findGap 18 = .ok (.iaload, 1) := by decide +kernel
theorem dX7_findGap_19 : decode cX7_findGap 19 = .ok (.istore_n 1, 1) := by decide +kernel
theorem dX7_findGap_20 : decode cX7_findGap 20 = .ok (.iconst 0, 1) := by decide +kernel
theorem dX7_findGap_21 : decode cX7_findGap 21 = .ok (.istore_n 2, 1) := by decide +kernel
theorem dX7_findGap_22 : decode cX7_findGap 22 = .ok (.iload_n 2, 1) := by decide +kernel
theorem dX7_findGap_23 : decode cX7_findGap 23 = .ok (.iload_n 1, 1) := by decide +kernel
theorem dX7_findGap_24 : decode cX7_findGap 24 = .ok (.if_icmp .ge 60, 3) := by decide +kernel
theorem dX7_findGap_27 : decode cX7_findGap 27 = .ok (.iload_n 2, 1) := by decide +kernel
theorem dX7_findGap_28 : decode cX7_findGap 28 = .ok (.iconst 1, 1) := by decide +kernel
theorem dX7_findGap_29 : decode cX7_findGap 29 = .ok (.iadd, 1) := by decide +kernel
theorem dX7_findGap_30 : decode cX7_findGap 30 = .ok (.istore_n 3, 1) := by decide +kernel
theorem dX7_findGap_31 : decode cX7_findGap 31 = .ok (.iload_n 3, 1) := by decide +kernel
theorem dX7_findGap_32 : decode cX7_findGap 32 = .ok (.iload_n 1, 1) := by decide +kernel
theorem dX7_findGap_33 : decode cX7_findGap 33 = .ok (.if_icmp .ge 45, 3) := by decide +kernel
theorem dX7_findGap_36 : decode cX7_findGap 36 = .ok (.iload_n 3, 1) := by decide +kernel
theorem dX7_findGap_37 : decode cX7_findGap 37 = .ok (.iconst 1, 1) := by decide +kernel
theorem dX7_findGap_38 : decode cX7_findGap 38 = .ok (.iadd, 1) := by decide +kernel
theorem dX7_findGap_39 : decode cX7_findGap 39 = .ok (.istore 4, 2) := by decide +kernel
theorem dX7_findGap_41 : decode cX7_findGap 41 = .ok (.iload 4, 2) := by decide +kernel
theorem dX7_findGap_43 : decode cX7_findGap 43 = .ok (.iload_n 1, 1) := by decide +kernel
theorem dX7_findGap_44 : decode cX7_findGap 44 = .ok (.if_icmp .ge 28, 3) := by decide +kernel
theorem dX7_findGap_47 : decode cX7_findGap 47 = .ok (.aload_n 0, 1) := by decide +kernel
theorem dX7_findGap_48 : decode cX7_findGap 48 = .ok (.iload_n 2, 1) := by decide +kernel
theorem dX7_findGap_49 : decode cX7_findGap 49 = .ok (.iload_n 3, 1) := by decide +kernel
theorem dX7_findGap_50 : decode cX7_findGap 50 = .ok (.iload 4, 2) := by decide +kernel
theorem dX7_findGap_52 : decode cX7_findGap 52 = .ok (.invokevirtual 97, 3) := by decide +kernel
theorem dX7_findGap_55 : decode cX7_findGap 55 = .ok (.ifCond .eq 11, 3) := by decide +kernel
theorem dX7_findGap_58 : decode cX7_findGap 58 = .ok (.aload_n 0, 1) := by decide +kernel
theorem dX7_findGap_59 : decode cX7_findGap 59 = .ok (.iload_n 2, 1) := by decide +kernel
theorem dX7_findGap_60 : decode cX7_findGap 60 = .ok (.iload_n 3, 1) := by decide +kernel
theorem dX7_findGap_61 : decode cX7_findGap 61 = .ok (.iload 4, 2) := by decide +kernel
theorem dX7_findGap_63 : decode cX7_findGap 63 = .ok (.invokevirtual 101, 3) := by decide +kernel
theorem dX7_findGap_66 : decode cX7_findGap 66 = .ok (.iinc 4 1, 3) := by decide +kernel
theorem dX7_findGap_69 : decode cX7_findGap 69 = .ok (.goto (-28), 3) := by decide +kernel
theorem dX7_findGap_72 : decode cX7_findGap 72 = .ok (.iinc 3 1, 3) := by decide +kernel
theorem dX7_findGap_75 : decode cX7_findGap 75 = .ok (.goto (-44), 3) := by decide +kernel
theorem dX7_findGap_78 : decode cX7_findGap 78 = .ok (.iinc 2 1, 3) := by decide +kernel
theorem dX7_findGap_81 : decode cX7_findGap 81 = .ok (.goto (-59), 3) := by decide +kernel
theorem dX7_findGap_84 : decode cX7_findGap 84 = .ok (.return_, 1) := by decide +kernel
theorem gcX7_takeGap__X70 : ∀ w ∈ wsX70, w ∈ wsX7_takeGap := fun w h => List.mem_cons_of_mem _ (List.mem_append_right _ (h))
set_option maxRecDepth 20000 in
theorem gwX7_loopOf : wsX7_loopOf.all goodWord = true := by decide +kernel
set_option maxRecDepth 20000 in
theorem ggX7_takeGap_X7_loopOf : GoodIn wsX7_takeGap wsX7_loopOf := goodIn_sub (List.forall_mem_cons.mpr ⟨(List.mem_of_getElem? (i := 11) rfl), List.forall_mem_append.mpr ⟨List.forall_mem_cons.mpr ⟨(List.mem_of_getElem? (i := 12) rfl), List.forall_mem_cons.mpr ⟨(List.mem_of_getElem? (i := 13) rfl), List.forall_mem_cons.mpr ⟨(List.mem_of_getElem? (i := 14) rfl), List.forall_mem_cons.mpr ⟨(List.mem_of_getElem? (i := 10) rfl), List.forall_mem_cons.mpr ⟨(List.mem_of_getElem? (i := 15) rfl), List.forall_mem_cons.mpr ⟨(List.mem_of_getElem? (i := 16) rfl), List.forall_mem_cons.mpr ⟨(List.mem_of_getElem? (i := 17) rfl), fun _ h => (List.not_mem_nil h).elim⟩⟩⟩⟩⟩⟩⟩, gcX7_takeGap__X70⟩⟩) gwX7_loopOf
set_option maxRecDepth 20000 in
theorem gX7_takeGap_X7_loopOf : GoodIn wsX7_takeGap (wsV RX7 105 RX7 yX7_loopOf wsX7_loopOf) := goodIn_app (goodIn_sub (List.forall_mem_cons.mpr ⟨(List.mem_of_getElem? (i := 7) rfl), List.forall_mem_cons.mpr ⟨(List.mem_of_getElem? (i := 8) rfl), List.forall_mem_cons.mpr ⟨(List.mem_of_getElem? (i := 9) rfl), List.forall_mem_cons.mpr ⟨(List.mem_of_getElem? (i := 10) rfl), fun _ h => (List.not_mem_nil h).elim⟩⟩⟩⟩) (by decide +kernel)) ggX7_takeGap_X7_loopOf
theorem dX7_takeGap_0 : decode cX7_takeGap 0 = .ok (.aload_n 0, 1) := by decide +kernel
theorem dX7_takeGap_1 : decode cX7_takeGap 1 = .ok (.iload_n 1, 1) := by decide +kernel
theorem dX7_takeGap_2 : decode cX7_takeGap 2 = .ok (.iload_n 2, 1) := by decide +kernel
theorem dX7_takeGap_3 : decode cX7_takeGap 3 = .ok (.iload_n 3, 1) := by decide +kernel
theorem dX7_takeGap_4 : decode cX7_takeGap 4 = .ok (.iconst 0, 1) := by decide +kernel
theorem dX7_takeGap_5 : decode cX7_takeGap 5 = .ok (.invokevirtual 105, 3) := by decide +kernel
theorem dX7_takeGap_8 : decode cX7_takeGap 8 = .ok (.invokestatic 109, 3) := by decide +kernel
theorem dX7_takeGap_11 : decode cX7_takeGap 11 = .ok (.aload_n 0, 1) := by decide +kernel
theorem dX7_takeGap_12 : decode cX7_takeGap 12 = .ok (.iload_n 1, 1) := by decide +kernel
theorem dX7_takeGap_13 : decode cX7_takeGap 13 = .ok (.iload_n 2, 1) := by decide +kernel
theorem dX7_takeGap_14 : decode cX7_takeGap 14 = .ok (.iload_n 3, 1) := by decide +kernel
theorem dX7_takeGap_15 : decode cX7_takeGap 15 = .ok (.iconst 1, 1) := by decide +kernel
theorem dX7_takeGap_16 : decode cX7_takeGap 16 = .ok (.invokevirtual 105, 3) := by decide +kernel
theorem dX7_takeGap_19 : decode cX7_takeGap 19 = .ok (.invokestatic 109, 3) := by decide +kernel
theorem dX7_takeGap_22 : decode cX7_takeGap 22 = .ok (.iadd, 1) := by decide +kernel
theorem dX7_takeGap_23 : decode cX7_takeGap 23 = .ok (.istore 4, 2) := by decide +kernel
theorem dX7_takeGap_25 : decode cX7_takeGap 25 = .ok (.iload 4, 2) := by decide +kernel
theorem dX7_takeGap_27 : decode cX7_takeGap 27 = .ok (.aload_n 0, 1) := by decide +kernel
theorem dX7_takeGap_28 : decode cX7_takeGap 28 = .ok (.getfield 45, 3) := by decide +kernel
theorem dX7_takeGap_31 : decode cX7_takeGap 31 = .ok (.if_icmp .gt 4, 3) := by decide +kernel
theorem dX7_takeGap_34 : decode cX7_takeGap 34 = .ok (.return_, 1) := by decide +kernel
theorem dX7_takeGap_35 : decode cX7_takeGap 35 = .ok (.aload_n 0, 1) := by decide +kernel
theorem dX7_takeGap_36 : decode cX7_takeGap 36 = .ok (.iload 4, 2) := by decide +kernel
theorem dX7_takeGap_38 : decode cX7_takeGap 38 = .ok (.putfield 45, 3) := by decide +kernel
theorem dX7_takeGap_41 : decode cX7_takeGap 41 = .ok (.aload_n 0, 1) := by decide +kernel
theorem dX7_takeGap_42 : decode cX7_takeGap 42 = .ok (.sipush 10000, 3) := by decide +kernel
theorem dX7_takeGap_45 : decode cX7_takeGap 45 = .ok (.iload_n 1, 1) := by decide +kernel
theorem dX7_takeGap_46 : decode cX7_takeGap 46 = .ok (.imul, 1) := by decide +kernel
theorem dX7_takeGap_47 : decode cX7_takeGap 47 = .ok (.bipush 100, 2) := by decide +kernel
theorem dX7_takeGap_49 : decode cX7_takeGap 49 = .ok (.iload_n 2, 1) := by decide +kernel
theorem dX7_takeGap_50 : decode cX7_takeGap 50 = .ok (.imul, 1) := by decide +kernel
theorem dX7_takeGap_51 : decode cX7_takeGap 51 = .ok (.iadd, 1) := by decide +kernel
theorem dX7_takeGap_52 : decode cX7_takeGap 52 = .ok (.iload_n 3, 1) := by decide +kernel
theorem dX7_takeGap_53 : decode cX7_takeGap 53 = .ok (.iadd, 1) := by decide +kernel
theorem dX7_takeGap_54 : decode cX7_takeGap 54 = .ok (.putfield 42, 3) := by decide +kernel
theorem dX7_takeGap_57 : decode cX7_takeGap 57 = .ok (.return_, 1) := by decide +kernel
theorem gcX7_growTree__X70 : ∀ w ∈ wsX70, w ∈ wsX7_growTree := fun w h => List.mem_cons_of_mem _ (List.mem_append_left _ (List.mem_append_right _ (h)))
theorem gcX7_growTree__X80 : ∀ w ∈ wsX80, w ∈ wsX7_growTree := fun w h => List.mem_cons_of_mem _ (List.mem_append_right _ (h))
set_option maxRecDepth 20000 in
theorem gwX7_addBranch : wsX7_addBranch.all goodWord = true := by decide +kernel
set_option maxRecDepth 20000 in
theorem ggX7_growTree_X7_addBranch : GoodIn wsX7_growTree wsX7_addBranch := goodIn_sub (List.forall_mem_cons.mpr ⟨(List.mem_of_getElem? (i := 9) rfl), List.forall_mem_append.mpr ⟨List.forall_mem_append.mpr ⟨List.forall_mem_cons.mpr ⟨(List.mem_of_getElem? (i := 3) rfl), List.forall_mem_cons.mpr ⟨(List.mem_of_getElem? (i := 4) rfl), List.forall_mem_cons.mpr ⟨(List.mem_of_getElem? (i := 2) rfl), List.forall_mem_cons.mpr ⟨(List.mem_of_getElem? (i := 10) rfl), List.forall_mem_cons.mpr ⟨(List.mem_of_getElem? (i := 11) rfl), List.forall_mem_cons.mpr ⟨(List.mem_of_getElem? (i := 1) rfl), List.forall_mem_cons.mpr ⟨(List.mem_of_getElem? (i := 12) rfl), fun _ h => (List.not_mem_nil h).elim⟩⟩⟩⟩⟩⟩⟩, gcX7_growTree__X70⟩, gcX7_growTree__X80⟩⟩) gwX7_addBranch
set_option maxRecDepth 20000 in
theorem gX7_growTree_X7_addBranch : GoodIn wsX7_growTree (wsV RX7 113 RX7 yX7_addBranch wsX7_addBranch) := goodIn_app (goodIn_sub (List.forall_mem_cons.mpr ⟨(List.mem_of_getElem? (i := 5) rfl), List.forall_mem_cons.mpr ⟨(List.mem_of_getElem? (i := 6) rfl), List.forall_mem_cons.mpr ⟨(List.mem_of_getElem? (i := 7) rfl), List.forall_mem_cons.mpr ⟨(List.mem_of_getElem? (i := 8) rfl), fun _ h => (List.not_mem_nil h).elim⟩⟩⟩⟩) (by decide +kernel)) ggX7_growTree_X7_addBranch
theorem dX7_growTree_0 : decode cX7_growTree 0 = .ok (.aload_n 0, 1) := by decide +kernel
theorem dX7_growTree_1 : decode cX7_growTree 1 = .ok (.iconst 0, 1) := by decide +kernel
theorem dX7_growTree_2 : decode cX7_growTree 2 = .ok (.putfield 38, 3) := by decide +kernel
theorem dX7_growTree_5 : decode cX7_growTree 5 = .ok (.iconst 0, 1) := by decide +kernel
theorem dX7_growTree_6 : decode cX7_growTree 6 = .ok (.istore_n 1, 1) := by decide +kernel
theorem dX7_growTree_7 : decode cX7_growTree 7 = .ok (.iload_n 1, 1) := by decide +kernel
theorem dX7_growTree_8 : decode cX7_growTree 8 = .ok (.bipush 12, 2) := by decide +kernel
theorem dX7_growTree_10 : decode cX7_growTree 10 = .ok (.if_icmp .ge 16, 3) := by decide +kernel
theorem dX7_growTree_13 : decode cX7_growTree 13 = .ok (.aload_n 0, 1) := by decide +kernel
theorem dX7_growTree_14 : decode cX7_growTree 14 = .ok (.getfield 25, 3) := by decide +kernel
theorem dX7_growTree_17 : decode cX7_growTree 17 = .ok (.iload_n 1, 1) := by decide +kernel
theorem dX7_growTree_18 : decode cX7_growTree 18 = .ok (.iload_n 1, 1) := by decide +kernel
theorem dX7_growTree_19 : decode cX7_growTree 19 = .ok (.iastore, 1) := by decide +kernel
theorem dX7_growTree_20 : decode cX7_growTree 20 = .ok (.iinc 1 1, 3) := by decide +kernel
theorem dX7_growTree_23 : decode cX7_growTree 23 = .ok (.goto (-16), 3) := by decide +kernel
theorem dX7_growTree_26 : decode cX7_growTree 26 = .ok (.iconst 1, 1) := by decide +kernel
theorem dX7_growTree_27 : decode cX7_growTree 27 = .ok (.istore_n 1, 1) := by decide +kernel
theorem dX7_growTree_28 : decode cX7_growTree 28 = .ok (.iload_n 1, 1) := by decide +kernel
theorem dX7_growTree_29 : decode cX7_growTree 29 = .ok (.aload_n 0, 1) := by decide +kernel
theorem dX7_growTree_30 : decode cX7_growTree 30 = .ok (.getfield 48, 3) := by decide +kernel
theorem dX7_growTree_33 : decode cX7_growTree 33 = .ok (.getfield 56, 3) := by decide +kernel
theorem dX7_growTree_36 : decode cX7_growTree 36 = .ok (.iconst 1, 1) := by decide +kernel
theorem dX7_growTree_37 : decode cX7_growTree 37 = .ok (.iaload, 1) := by decide +kernel
theorem dX7_growTree_38 : decode cX7_growTree 38 = .ok (.if_icmp .ge 17, 3) := by decide +kernel
theorem dX7_growTree_41 : decode cX7_growTree 41 = .ok (.aload_n 0, 1) := by decide +kernel
theorem dX7_growTree_42 : decode cX7_growTree 42 = .ok (.invokevirtual 113, 3) := by decide +kernel
theorem dX7_growTree_45 : decode cX7_growTree 45 = .ok (.ifCond .ne 4, 3) := by decide +kernel
theorem dX7_growTree_48 : decode cX7_growTree 48 = .ok (.return_, 1) := by decide +kernel
theorem dX7_growTree_49 : decode cX7_growTree 49 = .ok (.iinc 1 1, 3) := by decide +kernel
theorem dX7_growTree_52 : decode cX7_growTree 52 = .ok (.goto (-24), 3) := by decide +kernel
theorem dX7_growTree_55 : decode cX7_growTree 55 = .ok (.return_, 1) := by decide +kernel
theorem dX7_addBranch_0 : decode cX7_addBranch 0 = .ok (.iconst 0, 1) := by decide +kernel
theorem dX7_addBranch_1 : decode cX7_addBranch 1 = .ok (.istore_n 1, 1) := by decide +kernel
theorem dX7_addBranch_2 : decode cX7_addBranch 2 = .ok (.iconst 0, 1) := by decide +kernel
theorem dX7_addBranch_3 : decode cX7_addBranch 3 = .ok (.istore_n 2, 1) := by decide +kernel
theorem dX7_addBranch_4 : decode cX7_addBranch 4 = .ok (.iload_n 2, 1) := by decide +kernel
theorem dX7_addBranch_5 : decode cX7_addBranch 5 = .ok (.aload_n 0, 1) := by decide +kernel
theorem dX7_addBranch_6 : decode cX7_addBranch 6 = .ok (.getfield 48, 3) := by decide +kernel
theorem dX7_addBranch_9 : decode cX7_addBranch 9 = .ok (.getfield 56, 3) := by decide +kernel
theorem dX7_addBranch_12 : decode cX7_addBranch 12 = .ok (.iconst 1, 1) := by decide +kernel
theorem dX7_addBranch_13 : decode cX7_addBranch 13 = .ok (.iaload, 1) := by decide +kernel
theorem dX7_addBranch_14 : decode cX7_addBranch 14 = .ok (.if_icmp .ge 91, 3) := by decide +kernel
theorem dX7_addBranch_17 : decode cX7_addBranch 17 = .ok (.iload_n 2, 1) := by decide +kernel
theorem dX7_addBranch_18 : decode cX7_addBranch 18 = .ok (.iconst 1, 1) := by decide +kernel
theorem dX7_addBranch_19 : decode cX7_addBranch 19 = .ok (.iadd, 1) := by decide +kernel
theorem dX7_addBranch_20 : decode cX7_addBranch 20 = .ok (.istore_n 3, 1) := by decide +kernel
theorem dX7_addBranch_21 : decode cX7_addBranch 21 = .ok (.iload_n 3, 1) := by decide +kernel
theorem dX7_addBranch_22 : decode cX7_addBranch 22 = .ok (.aload_n 0, 1) := by decide +kernel
theorem dX7_addBranch_23 : decode cX7_addBranch 23 = .ok (.getfield 48, 3) := by decide +kernel
theorem dX7_addBranch_26 : decode cX7_addBranch 26 = .ok (.getfield 56, 3) := by decide +kernel
theorem dX7_addBranch_29 : decode cX7_addBranch 29 = .ok (.iconst 1, 1) := by decide +kernel
theorem dX7_addBranch_30 : decode cX7_addBranch 30 = .ok (.iaload, 1) := by decide +kernel
theorem dX7_addBranch_31 : decode cX7_addBranch 31 = .ok (.if_icmp .ge 68, 3) := by decide +kernel
theorem dX7_addBranch_34 : decode cX7_addBranch 34 = .ok (.aload_n 0, 1) := by decide +kernel
theorem dX7_addBranch_35 : decode cX7_addBranch 35 = .ok (.getfield 25, 3) := by decide +kernel
theorem dX7_addBranch_38 : decode cX7_addBranch 38 = .ok (.iload_n 2, 1) := by decide +kernel
theorem dX7_addBranch_39 : decode cX7_addBranch 39 = .ok (.iaload, 1) := by decide +kernel
theorem dX7_addBranch_40 : decode cX7_addBranch 40 = .ok (.aload_n 0, 1) := by decide +kernel
theorem dX7_addBranch_41 : decode cX7_addBranch 41 = .ok (.getfield 25, 3) := by decide +kernel
theorem dX7_addBranch_44 : decode cX7_addBranch 44 = .ok (.iload_n 3, 1) := by decide +kernel
theorem dX7_addBranch_45 : decode cX7_addBranch 45 = .ok (.iaload, 1) := by decide +kernel
theorem dX7_addBranch_46 : decode cX7_addBranch 46 = .ok (.if_icmp .eq 47, 3) := by decide +kernel
theorem dX7_addBranch_49 : decode cX7_addBranch 49 = .ok (.aload_n 0, 1) := by decide +kernel
theorem dX7_addBranch_50 : decode cX7_addBranch 50 = .ok (.getfield 16, 3) := by decide +kernel
theorem dX7_addBranch_53 : decode cX7_addBranch 53 = .ok (.iload_n 2, 1) := by decide +kernel
theorem dX7_addBranch_54 : decode cX7_addBranch 54 = .ok (.aaload, 1) := by decide +kernel
theorem dX7_addBranch_55 : decode cX7_addBranch 55 = .ok (.iload_n 3, 1) := by decide +kernel
theorem dX7_addBranch_56 : decode cX7_addBranch 56 = .ok (.iaload, 1) := by decide +kernel
theorem dX7_addBranch_57 : decode cX7_addBranch 57 = .ok (.iload_n 1, 1) := by decide +kernel
theorem dX7_addBranch_58 : decode cX7_addBranch 58 = .ok (.if_icmp .gt 6, 3) := by decide +kernel
theorem dX7_addBranch_61 : decode cX7_addBranch 61 = .ok (.goto 32, 3) := by decide +kernel
theorem dX7_addBranch_64 : decode cX7_addBranch 64 = .ok (.aload_n 0, 1) := by decide +kernel
theorem dX7_addBranch_65 : decode cX7_addBranch 65 = .ok (.getfield 16, 3) := by decide +kernel
theorem dX7_addBranch_68 : decode cX7_addBranch 68 = .ok (.iload_n 2, 1) := by decide +kernel
theorem dX7_addBranch_69 : decode cX7_addBranch 69 = .ok (.aaload, 1) := by decide +kernel
theorem dX7_addBranch_70 : decode cX7_addBranch 70 = .ok (.iload_n 3, 1) := by decide +kernel
theorem dX7_addBranch_71 : decode cX7_addBranch 71 = .ok (.iaload, 1) := by decide +kernel
theorem dX7_addBranch_72 : decode cX7_addBranch 72 = .ok (.istore_n 1, 1) := by decide +kernel
theorem dX7_addBranch_73 : decode cX7_addBranch 73 = .ok (.aload_n 0, 1) := by decide +kernel
theorem dX7_addBranch_74 : decode cX7_addBranch 74 = .ok (.getfield 29, 3) := by decide +kernel
theorem dX7_addBranch_77 : decode cX7_addBranch 77 = .ok (.aload_n 0, 1) := by decide +kernel
theorem dX7_addBranch_78 : decode cX7_addBranch 78 = .ok (.getfield 38, 3) := by decide +kernel
theorem dX7_addBranch_81 : decode cX7_addBranch 81 = .ok (.iload_n 2, 1) := by decide +kernel
theorem dX7_addBranch_82 : decode cX7_addBranch 82 = .ok (.iastore, 1) := by decide +kernel
theorem dX7_addBranch_83 : decode cX7_addBranch 83 = .ok (.aload_n 0, 1) := by decide +kernel
theorem dX7_addBranch_84 : decode cX7_addBranch 84 = .ok (.getfield 32, 3) := by decide +kernel
theorem dX7_addBranch_87 : decode cX7_addBranch 87 = .ok (.aload_n 0, 1) := by decide +kernel
theorem dX7_addBranch_88 : decode cX7_addBranch 88 = .ok (.getfield 38, 3) := by decide +kernel
theorem dX7_addBranch_91 : decode cX7_addBranch 91 = .ok (.iload_n 3, 1) := by decide +kernel
theorem dX7_addBranch_92 : decode cX7_addBranch 92 = .ok (.iastore, 1) := by decide +kernel
theorem dX7_addBranch_93 : decode cX7_addBranch 93 = .ok (.iinc 3 1, 3) := by decide +kernel
theorem dX7_addBranch_96 : decode cX7_addBranch 96 = .ok (.goto (-75), 3) := by decide +kernel
theorem dX7_addBranch_99 : decode cX7_addBranch 99 = .ok (.iinc 2 1, 3) := by decide +kernel
theorem dX7_addBranch_102 : decode cX7_addBranch 102 = .ok (.goto (-98), 3) := by decide +kernel
theorem dX7_addBranch_105 : decode cX7_addBranch 105 = .ok (.iload_n 1, 1) := by decide +kernel
theorem dX7_addBranch_106 : decode cX7_addBranch 106 = .ok (.ifCond .ne 5, 3) := by decide +kernel
theorem dX7_addBranch_109 : decode cX7_addBranch 109 = .ok (.iconst 0, 1) := by decide +kernel
theorem dX7_addBranch_110 : decode cX7_addBranch 110 = .ok (.ireturn, 1) := by decide +kernel
theorem dX7_addBranch_111 : decode cX7_addBranch 111 = .ok (.aload_n 0, 1) := by decide +kernel
theorem dX7_addBranch_112 : decode cX7_addBranch 112 = .ok (.getfield 25, 3) := by decide +kernel
theorem dX7_addBranch_115 : decode cX7_addBranch 115 = .ok (.aload_n 0, 1) := by decide +kernel
theorem dX7_addBranch_116 : decode cX7_addBranch 116 = .ok (.getfield 32, 3) := by decide +kernel
theorem dX7_addBranch_119 : decode cX7_addBranch 119 = .ok (.aload_n 0, 1) := by decide +kernel
theorem dX7_addBranch_120 : decode cX7_addBranch 120 = .ok (.getfield 38, 3) := by decide +kernel
theorem dX7_addBranch_123 : decode cX7_addBranch 123 = .ok (.iaload, 1) := by decide +kernel
theorem dX7_addBranch_124 : decode cX7_addBranch 124 = .ok (.iaload, 1) := by decide +kernel
theorem dX7_addBranch_125 : decode cX7_addBranch 125 = .ok (.istore_n 2, 1) := by decide +kernel
theorem dX7_addBranch_126 : decode cX7_addBranch 126 = .ok (.aload_n 0, 1) := by decide +kernel
theorem dX7_addBranch_127 : decode cX7_addBranch 127 = .ok (.getfield 25, 3) := by decide +kernel
theorem dX7_addBranch_130 : decode cX7_addBranch 130 = .ok (.aload_n 0, 1) := by decide +kernel
theorem dX7_addBranch_131 : decode cX7_addBranch 131 = .ok (.getfield 29, 3) := by decide +kernel
theorem dX7_addBranch_134 : decode cX7_addBranch 134 = .ok (.aload_n 0, 1) := by decide +kernel
theorem dX7_addBranch_135 : decode cX7_addBranch 135 = .ok (.getfield 38, 3) := by decide +kernel
theorem dX7_addBranch_138 : decode cX7_addBranch 138 = .ok (.iaload, 1) := by decide +kernel
theorem dX7_addBranch_139 : decode cX7_addBranch 139 = .ok (.iaload, 1) := by decide +kernel
theorem dX7_addBranch_140 : decode cX7_addBranch 140 = .ok (.istore_n 3, 1) := by decide +kernel
theorem dX7_addBranch_141 : decode cX7_addBranch 141 = .ok (.iconst 0, 1) := by decide +kernel
theorem dX7_addBranch_142 : decode cX7_addBranch 142 = .ok (.istore 4, 2) := by decide +kernel
theorem dX7_addBranch_144 : decode cX7_addBranch 144 = .ok (.iload 4, 2) := by decide +kernel
theorem dX7_addBranch_146 : decode cX7_addBranch 146 = .ok (.bipush 12, 2) := by decide +kernel
theorem dX7_addBranch_148 : decode cX7_addBranch 148 = .ok (.if_icmp .ge 28, 3) := by decide +kernel
theorem dX7_addBranch_151 : decode cX7_addBranch 151 = .ok (.aload_n 0, 1) := by decide +kernel
theorem dX7_addBranch_152 : decode cX7_addBranch 152 = .ok (.getfield 25, 3) := by decide +kernel
theorem dX7_addBranch_155 : decode cX7_addBranch 155 = .ok (.iload 4, 2) := by decide +kernel
theorem dX7_addBranch_157 : decode cX7_addBranch 157 = .ok (.iaload, 1) := by decide +kernel
theorem dX7_addBranch_158 : decode cX7_addBranch 158 = .ok (.iload_n 2, 1) := by decide +kernel
theorem dX7_addBranch_159 : decode cX7_addBranch 159 = .ok (.if_icmp .ne 11, 3) := by decide +kernel
theorem dX7_addBranch_162 : decode cX7_addBranch 162 = .ok (.aload_n 0, 1) := by decide +kernel
theorem dX7_addBranch_163 : decode cX7_addBranch 163 = .ok (.getfield 25, 3) := by decide +kernel
theorem dX7_addBranch_166 : decode cX7_addBranch 166 = .ok (.iload 4, 2) := by decide +kernel
theorem dX7_addBranch_168 : decode cX7_addBranch 168 = .ok (.iload_n 3, 1) := by decide +kernel
theorem dX7_addBranch_169 : decode cX7_addBranch 169 = .ok (.iastore, 1) := by decide +kernel
theorem dX7_addBranch_170 : decode cX7_addBranch 170 = .ok (.iinc 4 1, 3) := by decide +kernel
theorem dX7_addBranch_173 : decode cX7_addBranch 173 = .ok (.goto (-29), 3) := by decide +kernel
theorem dX7_addBranch_176 : decode cX7_addBranch 176 = .ok (.aload_n 0, 1) := by decide +kernel
theorem dX7_addBranch_177 : decode cX7_addBranch 177 = .ok (.dup, 1) := by decide +kernel
theorem dX7_addBranch_178 : decode cX7_addBranch 178 = .ok (.getfield 38, 3) := by decide +kernel
theorem dX7_addBranch_181 : decode cX7_addBranch 181 = .ok (.iconst 1, 1) := by decide +kernel
theorem dX7_addBranch_182 : decode cX7_addBranch 182 = .ok (.iadd, 1) := by decide +kernel
theorem dX7_addBranch_183 : decode cX7_addBranch 183 = .ok (.putfield 38, 3) := by decide +kernel
theorem dX7_addBranch_186 : decode cX7_addBranch 186 = .ok (.iconst 1, 1) := by decide +kernel
theorem dX7_addBranch_187 : decode cX7_addBranch 187 = .ok (.ireturn, 1) := by decide +kernel
set_option maxRecDepth 20000 in
theorem ggX7_countPlanned_J7_fill_53178 : GoodIn wsX7_countPlanned wsJ7_fill_53178 := goodIn_sub (List.forall_mem_cons.mpr ⟨(List.mem_of_getElem? (i := 10) rfl), fun _ h => (List.not_mem_nil h).elim⟩) gwJ7_fill_53178
set_option maxRecDepth 20000 in
theorem gX7_countPlanned_J7_fill_53178 : GoodIn wsX7_countPlanned (va_wsS RX7 61 yJ7_fill_53178 wsJ7_fill_53178) := goodIn_app (goodIn_sub (List.forall_mem_cons.mpr ⟨(List.mem_of_getElem? (i := 7) rfl), List.forall_mem_cons.mpr ⟨(List.mem_of_getElem? (i := 8) rfl), List.forall_mem_cons.mpr ⟨(List.mem_of_getElem? (i := 9) rfl), fun _ h => (List.not_mem_nil h).elim⟩⟩⟩) (by decide +kernel)) ggX7_countPlanned_J7_fill_53178
theorem gcX7_countPlanned__X70 : ∀ w ∈ wsX70, w ∈ wsX7_countPlanned := fun w h => List.mem_cons_of_mem _ (List.mem_append_left _ (List.mem_append_right _ (h)))
theorem gcX7_countPlanned__X80 : ∀ w ∈ wsX80, w ∈ wsX7_countPlanned := fun w h => List.mem_cons_of_mem _ (List.mem_append_right _ (h))
set_option maxRecDepth 20000 in
theorem gwX7_markPlanned : wsX7_markPlanned.all goodWord = true := by decide +kernel
set_option maxRecDepth 20000 in
theorem ggX7_countPlanned_X7_markPlanned : GoodIn wsX7_countPlanned wsX7_markPlanned := goodIn_sub (List.forall_mem_cons.mpr ⟨(List.mem_of_getElem? (i := 15) rfl), List.forall_mem_append.mpr ⟨List.forall_mem_append.mpr ⟨List.forall_mem_cons.mpr ⟨(List.mem_of_getElem? (i := 5) rfl), List.forall_mem_cons.mpr ⟨(List.mem_of_getElem? (i := 6) rfl), List.forall_mem_cons.mpr ⟨(List.mem_of_getElem? (i := 16) rfl), List.forall_mem_cons.mpr ⟨(List.mem_of_getElem? (i := 1) rfl), fun _ h => (List.not_mem_nil h).elim⟩⟩⟩⟩, gcX7_countPlanned__X70⟩, gcX7_countPlanned__X80⟩⟩) gwX7_markPlanned
set_option maxRecDepth 20000 in
theorem gX7_countPlanned_X7_markPlanned : GoodIn wsX7_countPlanned (wsV RX7 117 RX7 yX7_markPlanned wsX7_markPlanned) := goodIn_app (goodIn_sub (List.forall_mem_cons.mpr ⟨(List.mem_of_getElem? (i := 11) rfl), List.forall_mem_cons.mpr ⟨(List.mem_of_getElem? (i := 12) rfl), List.forall_mem_cons.mpr ⟨(List.mem_of_getElem? (i := 13) rfl), List.forall_mem_cons.mpr ⟨(List.mem_of_getElem? (i := 14) rfl), fun _ h => (List.not_mem_nil h).elim⟩⟩⟩⟩) (by decide +kernel)) ggX7_countPlanned_X7_markPlanned
theorem dX7_countPlanned_0 : decode cX7_countPlanned 0 = .ok (.aload_n 0, 1) := by decide +kernel
theorem dX7_countPlanned_1 : decode cX7_countPlanned 1 = .ok (.getfield 35, 3) := by decide +kernel
theorem dX7_countPlanned_4 : decode cX7_countPlanned 4 = .ok (.iconst 0, 1) := by decide +kernel
theorem dX7_countPlanned_5 : decode cX7_countPlanned 5 = .ok (.invokestatic 61, 3) := by decide +kernel
theorem dX7_countPlanned_8 : decode cX7_countPlanned 8 = .ok (.iconst 0, 1) := by decide +kernel
theorem dX7_countPlanned_9 : decode cX7_countPlanned 9 = .ok (.istore_n 2, 1) := by decide +kernel
theorem dX7_countPlanned_10 : decode cX7_countPlanned 10 = .ok (.iload_n 2, 1) := by decide +kernel
theorem dX7_countPlanned_11 : decode cX7_countPlanned 11 = .ok (.aload_n 0, 1) := by decide +kernel
theorem dX7_countPlanned_12 : decode cX7_countPlanned 12 = .ok (.getfield 38, 3) := by decide +kernel
theorem dX7_countPlanned_15 : decode cX7_countPlanned 15 = .ok (.if_icmp .ge 26, 3) := by decide +kernel
theorem dX7_countPlanned_18 : decode cX7_countPlanned 18 = .ok (.aload_n 0, 1) := by decide +kernel
theorem dX7_countPlanned_19 : decode cX7_countPlanned 19 = .ok (.aload_n 0, 1) := by decide +kernel
theorem dX7_countPlanned_20 : decode cX7_countPlanned 20 = .ok (.getfield 29, 3) := by decide +kernel
theorem dX7_countPlanned_23 : decode cX7_countPlanned 23 = .ok (.iload_n 2, 1) := by decide +kernel
theorem dX7_countPlanned_24 : decode cX7_countPlanned 24 = .ok (.iaload, 1) := by decide +kernel
theorem dX7_countPlanned_25 : decode cX7_countPlanned 25 = .ok (.aload_n 0, 1) := by decide +kernel
theorem dX7_countPlanned_26 : decode cX7_countPlanned 26 = .ok (.getfield 32, 3) := by decide +kernel
theorem dX7_countPlanned_29 : decode cX7_countPlanned 29 = .ok (.iload_n 2, 1) := by decide +kernel
theorem dX7_countPlanned_30 : decode cX7_countPlanned 30 = .ok (.iaload, 1) := by decide +kernel
theorem dX7_countPlanned_31 : decode cX7_countPlanned 31 = .ok (.iload_n 1, 1) := by decide +kernel
theorem dX7_countPlanned_32 : decode cX7_countPlanned 32 = .ok (.invokevirtual 117, 3) := by decide +kernel
theorem dX7_countPlanned_35 : decode cX7_countPlanned 35 = .ok (.iinc 2 1, 3) := by decide +kernel
theorem dX7_countPlanned_38 : decode cX7_countPlanned 38 = .ok (.goto (-28), 3) := by decide +kernel
theorem dX7_countPlanned_41 : decode cX7_countPlanned 41 = .ok (.iconst 0, 1) := by decide +kernel
theorem dX7_countPlanned_42 : decode cX7_countPlanned 42 = .ok (.istore_n 2, 1) := by decide +kernel
theorem dX7_countPlanned_43 : decode cX7_countPlanned 43 = .ok (.iconst 0, 1) := by decide +kernel
theorem dX7_countPlanned_44 : decode cX7_countPlanned 44 = .ok (.istore_n 3, 1) := by decide +kernel
theorem dX7_countPlanned_45 : decode cX7_countPlanned 45 = .ok (.iload_n 3, 1) := by decide +kernel
theorem dX7_countPlanned_46 : decode cX7_countPlanned 46 = .ok (.aload_n 0, 1) := by decide +kernel
theorem dX7_countPlanned_47 : decode cX7_countPlanned 47 = .ok (.getfield 48, 3) := by decide +kernel
theorem dX7_countPlanned_50 : decode cX7_countPlanned 50 = .ok (.getfield 56, 3) := by decide +kernel
theorem dX7_countPlanned_53 : decode cX7_countPlanned 53 = .ok (.iconst 3, 1) := by decide +kernel
theorem dX7_countPlanned_54 : decode cX7_countPlanned 54 = .ok (.iaload, 1) := by decide +kernel
theorem dX7_countPlanned_55 : decode cX7_countPlanned 55 = .ok (.if_icmp .ge 18, 3) := by decide +kernel
theorem dX7_countPlanned_58 : decode cX7_countPlanned 58 = .ok (.iload_n 2, 1) := by decide +kernel
theorem dX7_countPlanned_59 : decode cX7_countPlanned 59 = .ok (.aload_n 0, 1) := by decide +kernel
theorem dX7_countPlanned_60 : decode cX7_countPlanned 60 = .ok (.getfield 35, 3) := by decide +kernel
theorem dX7_countPlanned_63 : decode cX7_countPlanned 63 = .ok (.iload_n 3, 1) := by decide +kernel
theorem dX7_countPlanned_64 : decode cX7_countPlanned 64 = .ok (.iaload, 1) := by decide +kernel
theorem dX7_countPlanned_65 : decode cX7_countPlanned 65 = .ok (.iadd, 1) := by decide +kernel
theorem dX7_countPlanned_66 : decode cX7_countPlanned 66 = .ok (.istore_n 2, 1) := by decide +kernel
theorem dX7_countPlanned_67 : decode cX7_countPlanned 67 = .ok (.iinc 3 1, 3) := by decide +kernel
theorem dX7_countPlanned_70 : decode cX7_countPlanned 70 = .ok (.goto (-25), 3) := by decide +kernel
theorem dX7_countPlanned_73 : decode cX7_countPlanned 73 = .ok (.iload_n 2, 1) := by decide +kernel
theorem dX7_countPlanned_74 : decode cX7_countPlanned 74 = .ok (.ireturn, 1) := by decide +kernel
theorem dX7_markPlanned_0 : decode cX7_markPlanned 0 = .ok (.iconst 0, 1) := by decide +kernel
theorem dX7_markPlanned_1 : decode cX7_markPlanned 1 = .ok (.istore 4, 2) := by decide +kernel
theorem dX7_markPlanned_3 : decode cX7_markPlanned 3 = .ok (.iconst 0, 1) := by decide +kernel
theorem dX7_markPlanned_4 : decode cX7_markPlanned 4 = .ok (.istore 5, 2) := by decide +kernel
theorem dX7_markPlanned_6 : decode cX7_markPlanned 6 = .ok (.iload 5, 2) := by decide +kernel
theorem dX7_markPlanned_8 : decode cX7_markPlanned 8 = .ok (.aload_n 0, 1) := by decide +kernel
theorem dX7_markPlanned_9 : decode cX7_markPlanned 9 = .ok (.getfield 48, 3) := by decide +kernel
theorem dX7_markPlanned_12 : decode cX7_markPlanned 12 = .ok (.getfield 56, 3) := by decide +kernel
theorem dX7_markPlanned_15 : decode cX7_markPlanned 15 = .ok (.iconst 2, 1) := by decide +kernel
theorem dX7_markPlanned_16 : decode cX7_markPlanned 16 = .ok (.iaload, 1) := by decide +kernel
theorem dX7_markPlanned_17 : decode cX7_markPlanned 17 = .ok (.if_icmp .ge 71, 3) := by decide +kernel
theorem dX7_markPlanned_20 : decode cX7_markPlanned 20 = .ok (.iload 4, 2) := by decide +kernel
theorem dX7_markPlanned_22 : decode cX7_markPlanned 22 = .ok (.iload_n 3, 1) := by decide +kernel
theorem dX7_markPlanned_23 : decode cX7_markPlanned 23 = .ok (.if_icmp .ge 65, 3) := by decide +kernel
theorem dX7_markPlanned_26 : decode cX7_markPlanned 26 = .ok (.aload_n 0, 1) := by decide +kernel
theorem dX7_markPlanned_27 : decode cX7_markPlanned 27 = .ok (.getfield 11, 3) := by decide +kernel
theorem dX7_markPlanned_30 : decode cX7_markPlanned 30 = .ok (.iload_n 1, 1) := by decide +kernel
theorem dX7_markPlanned_31 : decode cX7_markPlanned 31 = .ok (.aaload, 1) := by decide +kernel
theorem dX7_markPlanned_32 : decode cX7_markPlanned 32 = .ok (.iload 5, 2) := by decide +kernel
theorem dX7_markPlanned_34 : decode cX7_markPlanned 34 = .ok (.iaload, 1) := by decide +kernel
theorem dX7_markPlanned_35 : decode cX7_markPlanned 35 = .ok (.istore 6, 2) := by decide +kernel
theorem dX7_markPlanned_37 : decode cX7_markPlanned 37 = .ok (.aload_n 0, 1) := by decide +kernel
theorem dX7_markPlanned_38 : decode cX7_markPlanned 38 = .ok (.getfield 11, 3) := by decide +kernel
theorem dX7_markPlanned_41 : decode cX7_markPlanned 41 = .ok (.iload_n 2, 1) := by decide +kernel
theorem dX7_markPlanned_42 : decode cX7_markPlanned 42 = .ok (.aaload, 1) := by decide +kernel
theorem dX7_markPlanned_43 : decode cX7_markPlanned 43 = .ok (.iload 5, 2) := by decide +kernel
theorem dX7_markPlanned_45 : decode cX7_markPlanned 45 = .ok (.iaload, 1) := by decide +kernel
theorem dX7_markPlanned_46 : decode cX7_markPlanned 46 = .ok (.istore 7, 2) := by decide +kernel
theorem dX7_markPlanned_48 : decode cX7_markPlanned 48 = .ok (.iload 6, 2) := by decide +kernel
theorem dX7_markPlanned_50 : decode cX7_markPlanned 50 = .ok (.iconst (-1), 1) := by decide +kernel
theorem dX7_markPlanned_51 : decode cX7_markPlanned 51 = .ok (.if_icmp .eq 31, 3) := by decide +kernel
theorem dX7_markPlanned_54 : decode cX7_markPlanned 54 = .ok (.iload 7, 2) := by decide +kernel
theorem dX7_markPlanned_56 : decode cX7_markPlanned 56 = .ok (.iconst (-1), 1) := by decide +kernel
theorem dX7_markPlanned_57 : decode cX7_markPlanned 57 = .ok (.if_icmp .ne 6, 3) := by decide +kernel
theorem dX7_markPlanned_60 : decode cX7_markPlanned 60 = .ok (.goto 22, 3) := by decide +kernel
theorem dX7_markPlanned_63 : decode cX7_markPlanned 63 = .ok (.aload_n 0, 1) := by decide +kernel
theorem dX7_markPlanned_64 : decode cX7_markPlanned 64 = .ok (.getfield 35, 3) := by decide +kernel
theorem dX7_markPlanned_67 : decode cX7_markPlanned 67 = .ok (.iload 6, 2) := by decide +kernel
theorem dX7_markPlanned_69 : decode cX7_markPlanned 69 = .ok (.iconst 1, 1) := by decide +kernel
theorem dX7_markPlanned_70 : decode cX7_markPlanned 70 = .ok (.iastore, 1) := by decide +kernel
theorem dX7_markPlanned_71 : decode cX7_markPlanned 71 = .ok (.aload_n 0, 1) := by decide +kernel
theorem dX7_markPlanned_72 : decode cX7_markPlanned 72 = .ok (.getfield 35, 3) := by decide +kernel
theorem dX7_markPlanned_75 : decode cX7_markPlanned 75 = .ok (.iload 7, 2) := by decide +kernel
theorem dX7_markPlanned_77 : decode cX7_markPlanned 77 = .ok (.iconst 1, 1) := by decide +kernel
theorem dX7_markPlanned_78 : decode cX7_markPlanned 78 = .ok (.iastore, 1) := by decide +kernel
theorem dX7_markPlanned_79 : decode cX7_markPlanned 79 = .ok (.iinc 4 1, 3) := by decide +kernel
theorem dX7_markPlanned_82 : decode cX7_markPlanned 82 = .ok (.iinc 5 1, 3) := by decide +kernel
theorem dX7_markPlanned_85 : decode cX7_markPlanned 85 = .ok (.goto (-79), 3) := by decide +kernel
theorem dX7_markPlanned_88 : decode cX7_markPlanned 88 = .ok (.return_, 1) := by decide +kernel
theorem dX8_init_0 : decode cX8_init 0 = .ok (.aload_n 0, 1) := by decide +kernel
theorem dX8_init_1 : decode cX8_init 1 = .ok (.invokespecial 3, 3) := by decide +kernel
theorem dX8_init_4 : decode cX8_init 4 = .ok (.aload_n 0, 1) := by decide +kernel
theorem dX8_init_5 : decode cX8_init 5 = .ok (.bipush 6, 2) := by decide +kernel
theorem dX8_init_7 : decode cX8_init 7 = .ok (.newarray .int, 2) := by decide +kernel
theorem dX8_init_9 : decode cX8_init 9 = .ok (.putfield 9, 3) := by decide +kernel
theorem dX8_init_12 : decode cX8_init 12 = .ok (.aload_n 0, 1) := by decide +kernel
theorem dX8_init_13 : decode cX8_init 13 = .ok (.iconst 3, 1) := by decide +kernel
theorem dX8_init_14 : decode cX8_init 14 = .ok (.bipush 20, 2) := by decide +kernel
theorem dX8_init_16 : decode cX8_init 16 = .ok (.multianewarray 15 2, 4) := by decide +kernel
theorem dX8_init_20 : decode cX8_init 20 = .ok (.putfield 17, 3) := by decide +kernel
theorem dX8_init_23 : decode cX8_init 23 = .ok (.aload_n 0, 1) := by decide +kernel
theorem dX8_init_24 : decode cX8_init 24 = .ok (.bipush 12, 2) := by decide +kernel
theorem dX8_init_26 : decode cX8_init 26 = .ok (.newarray .int, 2) := by decide +kernel
theorem dX8_init_28 : decode cX8_init 28 = .ok (.putfield 20, 3) := by decide +kernel
theorem dX8_init_31 : decode cX8_init 31 = .ok (.aload_n 0, 1) := by decide +kernel
theorem dX8_init_32 : decode cX8_init 32 = .ok (.bipush 12, 2) := by decide +kernel
theorem dX8_init_34 : decode cX8_init 34 = .ok (.newarray .int, 2) := by decide +kernel
theorem dX8_init_36 : decode cX8_init 36 = .ok (.putfield 23, 3) := by decide +kernel
theorem dX8_init_39 : decode cX8_init 39 = .ok (.aload_n 0, 1) := by decide +kernel
theorem dX8_init_40 : decode cX8_init 40 = .ok (.bipush 60, 2) := by decide +kernel
theorem dX8_init_42 : decode cX8_init 42 = .ok (.newarray .int, 2) := by decide +kernel
theorem dX8_init_44 : decode cX8_init 44 = .ok (.putfield 26, 3) := by decide +kernel
theorem dX8_init_47 : decode cX8_init 47 = .ok (.aload_n 0, 1) := by decide +kernel
theorem dX8_init_48 : decode cX8_init 48 = .ok (.bipush 60, 2) := by decide +kernel
theorem dX8_init_50 : decode cX8_init 50 = .ok (.newarray .int, 2) := by decide +kernel
theorem dX8_init_52 : decode cX8_init 52 = .ok (.putfield 29, 3) := by decide +kernel
theorem dX8_init_55 : decode cX8_init 55 = .ok (.aload_n 0, 1) := by decide +kernel
theorem dX8_init_56 : decode cX8_init 56 = .ok (.iconst 2, 1) := by decide +kernel
theorem dX8_init_57 : decode cX8_init 57 = .ok (.bipush 60, 2) := by decide +kernel
theorem dX8_init_59 : decode cX8_init 59 = .ok (.multianewarray 15 2, 4) := by decide +kernel
theorem dX8_init_63 : decode cX8_init 63 = .ok (.putfield 32, 3) := by decide +kernel
theorem dX8_init_66 : decode cX8_init 66 = .ok (.aload_n 0, 1) := by decide +kernel
theorem dX8_init_67 : decode cX8_init 67 = .ok (.bipush 60, 2) := by decide +kernel
theorem dX8_init_69 : decode cX8_init 69 = .ok (.newarray .int, 2) := by decide +kernel
theorem dX8_init_71 : decode cX8_init 71 = .ok (.putfield 35, 3) := by decide +kernel
theorem dX8_init_74 : decode cX8_init 74 = .ok (.aload_n 0, 1) := by decide +kernel
theorem dX8_init_75 : decode cX8_init 75 = .ok (.bipush 20, 2) := by decide +kernel
theorem dX8_init_77 : decode cX8_init 77 = .ok (.newarray .int, 2) := by decide +kernel
theorem dX8_init_79 : decode cX8_init 79 = .ok (.putfield 38, 3) := by decide +kernel
theorem dX8_init_82 : decode cX8_init 82 = .ok (.aload_n 0, 1) := by decide +kernel
theorem dX8_init_83 : decode cX8_init 83 = .ok (.iconst 2, 1) := by decide +kernel
theorem dX8_init_84 : decode cX8_init 84 = .ok (.bipush 20, 2) := by decide +kernel
theorem dX8_init_86 : decode cX8_init 86 = .ok (.multianewarray 15 2, 4) := by decide +kernel
theorem dX8_init_90 : decode cX8_init 90 = .ok (.putfield 41, 3) := by decide +kernel
theorem dX8_init_93 : decode cX8_init 93 = .ok (.aload_n 0, 1) := by decide +kernel
theorem dX8_init_94 : decode cX8_init 94 = .ok (.bipush 12, 2) := by decide +kernel
theorem dX8_init_96 : decode cX8_init 96 = .ok (.newarray .int, 2) := by decide +kernel
theorem dX8_init_98 : decode cX8_init 98 = .ok (.putfield 44, 3) := by decide +kernel
theorem dX8_init_101 : decode cX8_init 101 = .ok (.aload_n 0, 1) := by decide +kernel
theorem dX8_init_102 : decode cX8_init 102 = .ok (.iconst 2, 1) := by decide +kernel
theorem dX8_init_103 : decode cX8_init 103 = .ok (.bipush 12, 2) := by decide +kernel
theorem dX8_init_105 : decode cX8_init 105 = .ok (.multianewarray 15 2, 4) := by decide +kernel
theorem dX8_init_109 : decode cX8_init 109 = .ok (.putfield 47, 3) := by decide +kernel
theorem dX8_init_112 : decode cX8_init 112 = .ok (.return_, 1) := by decide +kernel
set_option maxRecDepth 20000 in
theorem ggX8_clear_J7_fill_53178 : GoodIn wsX8_clear wsJ7_fill_53178 := goodIn_sub (List.forall_mem_cons.mpr ⟨(List.mem_of_getElem? (i := 7) rfl), fun _ h => (List.not_mem_nil h).elim⟩) gwJ7_fill_53178
set_option maxRecDepth 20000 in
theorem gX8_clear_J7_fill_53178 : GoodIn wsX8_clear (va_wsS RX8 50 yJ7_fill_53178 wsJ7_fill_53178) := goodIn_app (goodIn_sub (List.forall_mem_cons.mpr ⟨(List.mem_of_getElem? (i := 4) rfl), List.forall_mem_cons.mpr ⟨(List.mem_of_getElem? (i := 5) rfl), List.forall_mem_cons.mpr ⟨(List.mem_of_getElem? (i := 6) rfl), fun _ h => (List.not_mem_nil h).elim⟩⟩⟩) (by decide +kernel)) ggX8_clear_J7_fill_53178
theorem dX8_clear_0 : decode cX8_clear 0 = .ok (.aload_n 0, 1) := by decide +kernel
theorem dX8_clear_1 : decode cX8_clear 1 = .ok (.getfield 9, 3) := by decide +kernel
theorem dX8_clear_4 : decode cX8_clear 4 = .ok (.iconst 0, 1) := by decide +kernel
theorem dX8_clear_5 : decode cX8_clear 5 = .ok (.invokestatic 50, 3) := by decide +kernel
theorem dX8_clear_8 : decode cX8_clear 8 = .ok (.aload_n 0, 1) := by decide +kernel
theorem dX8_clear_9 : decode cX8_clear 9 = .ok (.getfield 38, 3) := by decide +kernel
theorem dX8_clear_12 : decode cX8_clear 12 = .ok (.iconst 0, 1) := by decide +kernel
theorem dX8_clear_13 : decode cX8_clear 13 = .ok (.invokestatic 50, 3) := by decide +kernel
theorem dX8_clear_16 : decode cX8_clear 16 = .ok (.aload_n 0, 1) := by decide +kernel
theorem dX8_clear_17 : decode cX8_clear 17 = .ok (.getfield 44, 3) := by decide +kernel
theorem dX8_clear_20 : decode cX8_clear 20 = .ok (.iconst 0, 1) := by decide +kernel
theorem dX8_clear_21 : decode cX8_clear 21 = .ok (.invokestatic 50, 3) := by decide +kernel
theorem dX8_clear_24 : decode cX8_clear 24 = .ok (.return_, 1) := by decide +kernel
set_option maxRecDepth 20000 in
theorem ggX8_takeFrom_X9_copyAll : GoodIn wsX8_takeFrom wsX9_copyAll := goodIn_sub (List.forall_mem_cons.mpr ⟨(List.mem_of_getElem? (i := 15) rfl), List.forall_mem_cons.mpr ⟨(List.mem_of_getElem? (i := 16) rfl), List.forall_mem_cons.mpr ⟨(List.mem_of_getElem? (i := 17) rfl), List.forall_mem_cons.mpr ⟨(List.mem_of_getElem? (i := 18) rfl), List.forall_mem_cons.mpr ⟨(List.mem_of_getElem? (i := 19) rfl), List.forall_mem_cons.mpr ⟨(List.mem_of_getElem? (i := 20) rfl), List.forall_mem_cons.mpr ⟨(List.mem_of_getElem? (i := 21) rfl), List.forall_mem_cons.mpr ⟨(List.mem_of_getElem? (i := 22) rfl), List.forall_mem_cons.mpr ⟨(List.mem_of_getElem? (i := 23) rfl), fun _ h => (List.not_mem_nil h).elim⟩⟩⟩⟩⟩⟩⟩⟩⟩) gwX9_copyAll
set_option maxRecDepth 20000 in
theorem gX8_takeFrom_X9_copyAll_n56 : GoodIn wsX8_takeFrom (wsX9_copyAll) := ggX8_takeFrom_X9_copyAll
theorem dX8_takeFrom_0 : decode cX8_takeFrom 0 = .ok (.aload_n 1, 1) := by decide +kernel
theorem dX8_takeFrom_1 : decode cX8_takeFrom 1 = .ok (.getfield 9, 3) := by decide +kernel
theorem dX8_takeFrom_4 : decode cX8_takeFrom 4 = .ok (.aload_n 0, 1) := by decide +kernel
theorem dX8_takeFrom_5 : decode cX8_takeFrom 5 = .ok (.getfield 9, 3) := by decide +kernel
theorem dX8_takeFrom_8 : decode cX8_takeFrom 8 = .ok (.invokestatic 56, 3) := by decide +kernel
theorem dX8_takeFrom_11 : decode cX8_takeFrom 11 = .ok (.iconst 0, 1) := by decide +kernel
theorem dX8_takeFrom_12 : decode cX8_takeFrom 12 = .ok (.istore_n 2, 1) := by decide +kernel
theorem dX8_takeFrom_13 : decode cX8_takeFrom 13 = .ok (.iload_n 2, 1) := by decide +kernel
theorem dX8_takeFrom_14 : decode cX8_takeFrom 14 = .ok (.iconst 2, 1) := by decide +kernel
theorem dX8_takeFrom_15 : decode cX8_takeFrom 15 = .ok (.if_icmp .gt 24, 3) := by decide +kernel
theorem dX8_takeFrom_18 : decode cX8_takeFrom 18 = .ok (.aload_n 1, 1) := by decide +kernel
theorem dX8_takeFrom_19 : decode cX8_takeFrom 19 = .ok (.getfield 17, 3) := by decide +kernel
theorem dX8_takeFrom_22 : decode cX8_takeFrom 22 = .ok (.iload_n 2, 1) := by decide +kernel
theorem dX8_takeFrom_23 : decode cX8_takeFrom 23 = .ok (.aaload, 1) := by decide +kernel
theorem dX8_takeFrom_24 : decode cX8_takeFrom 24 = .ok (.aload_n 0, 1) := by decide +kernel
theorem dX8_takeFrom_25 : decode cX8_takeFrom 25 = .ok (.getfield 17, 3) := by decide +kernel
theorem dX8_takeFrom_28 : decode cX8_takeFrom 28 = .ok (.iload_n 2, 1) := by decide +kernel
theorem dX8_takeFrom_29 : decode cX8_takeFrom 29 = .ok (.aaload, 1) := by decide +kernel
theorem dX8_takeFrom_30 : decode cX8_takeFrom 30 = .ok (.invokestatic 56, 3) := by decide +kernel
theorem dX8_takeFrom_33 : decode cX8_takeFrom 33 = .ok (.iinc 2 1, 3) := by decide +kernel
theorem dX8_takeFrom_36 : decode cX8_takeFrom 36 = .ok (.goto (-23), 3) := by decide +kernel
theorem dX8_takeFrom_39 : decode cX8_takeFrom 39 = .ok (.aload_n 1, 1) := by decide +kernel
theorem dX8_takeFrom_40 : decode cX8_takeFrom 40 = .ok (.getfield 20, 3) := by decide +kernel
theorem dX8_takeFrom_43 : decode cX8_takeFrom 43 = .ok (.aload_n 0, 1) := by decide +kernel
theorem dX8_takeFrom_44 : decode cX8_takeFrom 44 = .ok (.getfield 20, 3) := by decide +kernel
theorem dX8_takeFrom_47 : decode cX8_takeFrom 47 = .ok (.invokestatic 56, 3) := by decide +kernel
theorem dX8_takeFrom_50 : decode cX8_takeFrom 50 = .ok (.aload_n 1, 1) := by decide +kernel
theorem dX8_takeFrom_51 : decode cX8_takeFrom 51 = .ok (.getfield 23, 3) := by decide +kernel
theorem dX8_takeFrom_54 : decode cX8_takeFrom 54 = .ok (.aload_n 0, 1) := by decide +kernel
theorem dX8_takeFrom_55 : decode cX8_takeFrom 55 = .ok (.getfield 23, 3) := by decide +kernel
theorem dX8_takeFrom_58 : decode cX8_takeFrom 58 = .ok (.invokestatic 56, 3) := by decide +kernel
theorem dX8_takeFrom_61 : decode cX8_takeFrom 61 = .ok (.aload_n 1, 1) := by decide +kernel
theorem dX8_takeFrom_62 : decode cX8_takeFrom 62 = .ok (.getfield 26, 3) := by decide +kernel
theorem dX8_takeFrom_65 : decode cX8_takeFrom 65 = .ok (.aload_n 0, 1) := by decide +kernel
theorem dX8_takeFrom_66 : decode cX8_takeFrom 66 = .ok (.getfield 26, 3) := by decide +kernel
theorem dX8_takeFrom_69 : decode cX8_takeFrom 69 = .ok (.invokestatic 56, 3) := by decide +kernel
theorem dX8_takeFrom_72 : decode cX8_takeFrom 72 = .ok (.aload_n 1, 1) := by decide +kernel
theorem dX8_takeFrom_73 : decode cX8_takeFrom 73 = .ok (.getfield 29, 3) := by decide +kernel
theorem dX8_takeFrom_76 : decode cX8_takeFrom 76 = .ok (.aload_n 0, 1) := by decide +kernel
theorem dX8_takeFrom_77 : decode cX8_takeFrom 77 = .ok (.getfield 29, 3) := by decide +kernel
theorem dX8_takeFrom_80 : decode cX8_takeFrom 80 = .ok (.invokestatic 56, 3) := by decide +kernel
theorem dX8_takeFrom_83 : decode cX8_takeFrom 83 = .ok (.aload_n 1, 1) := by decide +kernel
theorem dX8_takeFrom_84 : decode cX8_takeFrom 84 = .ok (.getfield 35, 3) := by decide +kernel
theorem dX8_takeFrom_87 : decode cX8_takeFrom 87 = .ok (.aload_n 0, 1) := by decide +kernel
theorem dX8_takeFrom_88 : decode cX8_takeFrom 88 = .ok (.getfield 35, 3) := by decide +kernel
theorem dX8_takeFrom_91 : decode cX8_takeFrom 91 = .ok (.invokestatic 56, 3) := by decide +kernel
theorem dX8_takeFrom_94 : decode cX8_takeFrom 94 = .ok (.aload_n 1, 1) := by decide +kernel
theorem dX8_takeFrom_95 : decode cX8_takeFrom 95 = .ok (.getfield 38, 3) := by decide +kernel
theorem dX8_takeFrom_98 : decode cX8_takeFrom 98 = .ok (.aload_n 0, 1) := by decide +kernel
theorem dX8_takeFrom_99 : decode cX8_takeFrom 99 = .ok (.getfield 38, 3) := by decide +kernel
theorem dX8_takeFrom_102 : decode cX8_takeFrom 102 = .ok (.invokestatic 56, 3) := by decide +kernel
theorem dX8_takeFrom_105 : decode cX8_takeFrom 105 = .ok (.aload_n 1, 1) := by decide +kernel
theorem dX8_takeFrom_106 : decode cX8_takeFrom 106 = .ok (.getfield 44, 3) := by decide +kernel
theorem dX8_takeFrom_109 : decode cX8_takeFrom 109 = .ok (.aload_n 0, 1) := by decide +kernel
theorem dX8_takeFrom_110 : decode cX8_takeFrom 110 = .ok (.getfield 44, 3) := by decide +kernel
theorem dX8_takeFrom_113 : decode cX8_takeFrom 113 = .ok (.invokestatic 56, 3) := by decide +kernel
theorem dX8_takeFrom_116 : decode cX8_takeFrom 116 = .ok (.iconst 0, 1) := by decide +kernel
theorem dX8_takeFrom_117 : decode cX8_takeFrom 117 = .ok (.istore_n 2, 1) := by decide +kernel
theorem dX8_takeFrom_118 : decode cX8_takeFrom 118 = .ok (.iload_n 2, 1) := by decide +kernel
theorem dX8_takeFrom_119 : decode cX8_takeFrom 119 = .ok (.iconst 2, 1) := by decide +kernel
theorem dX8_takeFrom_120 : decode cX8_takeFrom 120 = .ok (.if_icmp .ge 54, 3) := by decide +kernel
theorem dX8_takeFrom_123 : decode cX8_takeFrom 123 = .ok (.aload_n 1, 1) := by decide +kernel
theorem dX8_takeFrom_124 : decode cX8_takeFrom 124 = .ok (.getfield 32, 3) := by decide +kernel
theorem dX8_takeFrom_127 : decode cX8_takeFrom 127 = .ok (.iload_n 2, 1) := by decide +kernel
theorem dX8_takeFrom_128 : decode cX8_takeFrom 128 = .ok (.aaload, 1) := by decide +kernel
theorem dX8_takeFrom_129 : decode cX8_takeFrom 129 = .ok (.aload_n 0, 1) := by decide +kernel
theorem dX8_takeFrom_130 : decode cX8_takeFrom 130 = .ok (.getfield 32, 3) := by decide +kernel
theorem dX8_takeFrom_133 : decode cX8_takeFrom 133 = .ok (.iload_n 2, 1) := by decide +kernel
theorem dX8_takeFrom_134 : decode cX8_takeFrom 134 = .ok (.aaload, 1) := by decide +kernel
theorem dX8_takeFrom_135 : decode cX8_takeFrom 135 = .ok (.invokestatic 56, 3) := by decide +kernel
theorem dX8_takeFrom_138 : decode cX8_takeFrom 138 = .ok (.aload_n 1, 1) := by decide +kernel
theorem dX8_takeFrom_139 : decode cX8_takeFrom 139 = .ok (.getfield 41, 3) := by decide +kernel
theorem dX8_takeFrom_142 : decode cX8_takeFrom 142 = .ok (.iload_n 2, 1) := by decide +kernel
theorem dX8_takeFrom_143 : decode cX8_takeFrom 143 = .ok (.aaload, 1) := by decide +kernel
theorem dX8_takeFrom_144 : decode cX8_takeFrom 144 = .ok (.aload_n 0, 1) := by decide +kernel
theorem dX8_takeFrom_145 : decode cX8_takeFrom 145 = .ok (.getfield 41, 3) := by decide +kernel
theorem dX8_takeFrom_148 : decode cX8_takeFrom 148 = .ok (.iload_n 2, 1) := by decide +kernel
theorem dX8_takeFrom_149 : decode cX8_takeFrom 149 = .ok (.aaload, 1) := by decide +kernel
theorem dX8_takeFrom_150 : decode cX8_takeFrom 150 = .ok (.invokestatic 56, 3) := by decide +kernel
theorem dX8_takeFrom_153 : decode cX8_takeFrom 153 = .ok (.aload_n 1, 1) := by decide +kernel
theorem dX8_takeFrom_154 : decode cX8_takeFrom 154 = .ok (.getfield 47, 3) := by decide +kernel
theorem dX8_takeFrom_157 : decode cX8_takeFrom 157 = .ok (.iload_n 2, 1) := by decide +kernel
theorem dX8_takeFrom_158 : decode cX8_takeFrom 158 = .ok (.aaload, 1) := by decide +kernel
theorem dX8_takeFrom_159 : decode cX8_takeFrom 159 = .ok (.aload_n 0, 1) := by decide +kernel
theorem dX8_takeFrom_160 : decode cX8_takeFrom 160 = .ok (.getfield 47, 3) := by decide +kernel
theorem dX8_takeFrom_163 : decode cX8_takeFrom 163 = .ok (.iload_n 2, 1) := by decide +kernel
theorem dX8_takeFrom_164 : decode cX8_takeFrom 164 = .ok (.aaload, 1) := by decide +kernel
theorem dX8_takeFrom_165 : decode cX8_takeFrom 165 = .ok (.invokestatic 56, 3) := by decide +kernel
theorem dX8_takeFrom_168 : decode cX8_takeFrom 168 = .ok (.iinc 2 1, 3) := by decide +kernel
theorem dX8_takeFrom_171 : decode cX8_takeFrom 171 = .ok (.goto (-53), 3) := by decide +kernel
theorem dX8_takeFrom_174 : decode cX8_takeFrom 174 = .ok (.return_, 1) := by decide +kernel
theorem dX8_exists_0 : decode cX8_exists 0 = .ok (.iload_n 2, 1) := by decide +kernel
theorem dX8_exists_1 : decode cX8_exists 1 = .ok (.ifCond .lt 17, 3) := by decide +kernel
theorem dX8_exists_4 : decode cX8_exists 4 = .ok (.iload_n 2, 1) := by decide +kernel
theorem dX8_exists_5 : decode cX8_exists 5 = .ok (.aload_n 0, 1) := by decide +kernel
theorem dX8_exists_6 : decode cX8_exists 6 = .ok (.getfield 9, 3) := by decide +kernel
theorem dX8_exists_9 : decode cX8_exists 9 = .ok (.iload_n 1, 1) := by decide +kernel
theorem dX8_exists_10 : decode cX8_exists 10 = .ok (.iaload, 1) := by decide +kernel
theorem dX8_exists_11 : decode cX8_exists 11 = .ok (.if_icmp .ge 7, 3) := by decide +kernel
theorem dX8_exists_14 : decode cX8_exists 14 = .ok (.iconst 1, 1) := by decide +kernel
theorem dX8_exists_15 : decode cX8_exists 15 = .ok (.goto 4, 3) := by decide +kernel
theorem dX8_exists_18 : decode cX8_exists 18 = .ok (.iconst 0, 1) := by decide +kernel
theorem dX8_exists_19 : decode cX8_exists 19 = .ok (.ireturn, 1) := by decide +kernel
theorem dX8_isFull_0 : decode cX8_isFull 0 = .ok (.iload_n 1, 1) := by decide +kernel
theorem dX8_isFull_1 : decode cX8_isFull 1 = .ok (.ifCond .lt 29, 3) := by decide +kernel
theorem dX8_isFull_4 : decode cX8_isFull 4 = .ok (.iload_n 1, 1) := by decide +kernel
theorem dX8_isFull_5 : decode cX8_isFull 5 = .ok (.getstatic 60, 3) := by decide +kernel
theorem dX8_isFull_8 : decode cX8_isFull 8 = .ok (.arraylength, 1) := by decide +kernel
theorem dX8_isFull_9 : decode cX8_isFull 9 = .ok (.if_icmp .ge 21, 3) := by decide +kernel
theorem dX8_isFull_12 : decode cX8_isFull 12 = .ok (.aload_n 0, 1) := by decide +kernel
theorem dX8_isFull_13 : decode cX8_isFull 13 = .ok (.getfield 9, 3) := by decide +kernel
theorem dX8_isFull_16 : decode cX8_isFull 16 = .ok (.iload_n 1, 1) := by decide +kernel
theorem dX8_isFull_17 : decode cX8_isFull 17 = .ok (.iaload, 1) := by decide +kernel
theorem dX8_isFull_18 : decode cX8_isFull 18 = .ok (.getstatic 60, 3) := by decide +kernel
theorem dX8_isFull_21 : decode cX8_isFull 21 = .ok (.iload_n 1, 1) := by decide +kernel
theorem dX8_isFull_22 : decode cX8_isFull 22 = .ok (.iaload, 1) := by decide +kernel
theorem dX8_isFull_23 : decode cX8_isFull 23 = .ok (.if_icmp .lt 7, 3) := by decide +kernel
theorem dX8_isFull_26 : decode cX8_isFull 26 = .ok (.iconst 1, 1) := by decide +kernel
theorem dX8_isFull_27 : decode cX8_isFull 27 = .ok (.goto 4, 3) := by decide +kernel
theorem dX8_isFull_30 : decode cX8_isFull 30 = .ok (.iconst 0, 1) := by decide +kernel
theorem dX8_isFull_31 : decode cX8_isFull 31 = .ok (.ireturn, 1) := by decide +kernel
theorem dX8_find_0 : decode cX8_find 0 = .ok (.iconst 0, 1) := by decide +kernel
theorem dX8_find_1 : decode cX8_find 1 = .ok (.istore_n 3, 1) := by decide +kernel
theorem dX8_find_2 : decode cX8_find 2 = .ok (.iload_n 3, 1) := by decide +kernel
theorem dX8_find_3 : decode cX8_find 3 = .ok (.aload_n 0, 1) := by decide +kernel
theorem dX8_find_4 : decode cX8_find 4 = .ok (.getfield 9, 3) := by decide +kernel
theorem dX8_find_7 : decode cX8_find 7 = .ok (.iload_n 1, 1) := by decide +kernel
theorem dX8_find_8 : decode cX8_find 8 = .ok (.iaload, 1) := by decide +kernel
theorem dX8_find_9 : decode cX8_find 9 = .ok (.if_icmp .ge 23, 3) := by decide +kernel
theorem dX8_find_12 : decode cX8_find 12 = .ok (.aload_n 0, 1) := by decide +kernel
theorem dX8_find_13 : decode cX8_find 13 = .ok (.getfield 17, 3) := by decide +kernel
theorem dX8_find_16 : decode cX8_find 16 = .ok (.iload_n 1, 1) := by decide +kernel
theorem dX8_find_17 : decode cX8_find 17 = .ok (.aaload, 1) := by decide +kernel
theorem dX8_find_18 : decode cX8_find 18 = .ok (.iload_n 3, 1) := by decide +kernel
theorem dX8_find_19 : decode cX8_find 19 = .ok (.iaload, 1) := by decide +kernel
theorem dX8_find_20 : decode cX8_find 20 = .ok (.iload_n 2, 1) := by decide +kernel
theorem dX8_find_21 : decode cX8_find 21 = .ok (.if_icmp .ne 5, 3) := by decide +kernel
theorem dX8_find_24 : decode cX8_find 24 = .ok (.iload_n 3, 1) := by decide +kernel
theorem dX8_find_25 : decode cX8_find 25 = .ok (.ireturn, 1) := by decide +kernel
theorem dX8_find_26 : decode cX8_find 26 = .ok (.iinc 3 1, 3) := by decide +kernel
theorem dX8_find_29 : decode cX8_find 29 = .ok (.goto (-27), 3) := by decide +kernel
theorem dX8_find_32 : decode cX8_find 32 = .ok (.iconst (-1), 1) := by decide +kernel
theorem dX8_find_33 : decode cX8_find 33 = .ok (.ireturn, 1) := by decide +kernel
theorem gcX8_isNamed__X80 : ∀ w ∈ wsX80, w ∈ wsX8_isNamed := fun w h => List.mem_cons_of_mem _ (List.mem_append_right _ (h))
set_option maxRecDepth 20000 in
theorem ggX8_isNamed_X8_find : GoodIn wsX8_isNamed wsX8_find := goodIn_sub (List.forall_mem_cons.mpr ⟨(List.mem_of_getElem? (i := 5) rfl), List.forall_mem_append.mpr ⟨List.forall_mem_cons.mpr ⟨(List.mem_of_getElem? (i := 6) rfl), List.forall_mem_cons.mpr ⟨(List.mem_of_getElem? (i := 7) rfl), fun _ h => (List.not_mem_nil h).elim⟩⟩, gcX8_isNamed__X80⟩⟩) gwX8_find
set_option maxRecDepth 20000 in
theorem gX8_isNamed_X8_find : GoodIn wsX8_isNamed (wsV RX8 63 RX8 yX8_find wsX8_find) := goodIn_app (goodIn_sub (List.forall_mem_cons.mpr ⟨(List.mem_of_getElem? (i := 1) rfl), List.forall_mem_cons.mpr ⟨(List.mem_of_getElem? (i := 2) rfl), List.forall_mem_cons.mpr ⟨(List.mem_of_getElem? (i := 3) rfl), List.forall_mem_cons.mpr ⟨(List.mem_of_getElem? (i := 4) rfl), fun _ h => (List.not_mem_nil h).elim⟩⟩⟩⟩) (by decide +kernel)) ggX8_isNamed_X8_find
theorem dX8_isNamed_0 : decode cX8_isNamed 0 = .ok (.aload_n 0, 1) := by decide +kernel
theorem dX8_isNamed_1 : decode cX8_isNamed 1 = .ok (.iconst 0, 1) := by decide +kernel
theorem dX8_isNamed_2 : decode cX8_isNamed 2 = .ok (.iload_n 1, 1) := by decide +kernel
theorem dX8_isNamed_3 : decode cX8_isNamed 3 = .ok (.invokevirtual 63, 3) := by decide +kernel
theorem dX8_isNamed_6 : decode cX8_isNamed 6 = .ok (.iconst (-1), 1) := by decide +kernel
theorem dX8_isNamed_7 : decode cX8_isNamed 7 = .ok (.if_icmp .ne 23, 3) := by decide +kernel
theorem dX8_isNamed_10 : decode cX8_isNamed 10 = .ok (.aload_n 0, 1) := by decide +kernel
theorem dX8_isNamed_11 : decode cX8_isNamed 11 = .ok (.iconst 1, 1) := by decide +kernel
theorem dX8_isNamed_12 : decode cX8_isNamed 12 = .ok (.iload_n 1, 1) := by decide +kernel
theorem dX8_isNamed_13 : decode cX8_isNamed 13 = .ok (.invokevirtual 63, 3) := by decide +kernel
theorem dX8_isNamed_16 : decode cX8_isNamed 16 = .ok (.iconst (-1), 1) := by decide +kernel
theorem dX8_isNamed_17 : decode cX8_isNamed 17 = .ok (.if_icmp .ne 13, 3) := by decide +kernel
theorem dX8_isNamed_20 : decode cX8_isNamed 20 = .ok (.aload_n 0, 1) := by decide +kernel
theorem dX8_isNamed_21 : decode cX8_isNamed 21 = .ok (.iconst 2, 1) := by decide +kernel
theorem dX8_isNamed_22 : decode cX8_isNamed 22 = .ok (.iload_n 1, 1) := by decide +kernel
theorem dX8_isNamed_23 : decode cX8_isNamed 23 = .ok (.invokevirtual 63, 3) := by decide +kernel
theorem dX8_isNamed_26 : decode cX8_isNamed 26 = .ok (.iconst (-1), 1) := by decide +kernel
theorem dX8_isNamed_27 : decode cX8_isNamed 27 = .ok (.if_icmp .eq 7, 3) := by decide +kernel
theorem dX8_isNamed_30 : decode cX8_isNamed 30 = .ok (.iconst 1, 1) := by decide +kernel
theorem dX8_isNamed_31 : decode cX8_isNamed 31 = .ok (.goto 4, 3) := by decide +kernel
theorem dX8_isNamed_34 : decode cX8_isNamed 34 = .ok (.iconst 0, 1) := by decide +kernel
theorem dX8_isNamed_35 : decode cX8_isNamed 35 = .ok (.ireturn, 1) := by decide +kernel
theorem dX8_findRow_0 : decode cX8_findRow 0 = .ok (.iconst 0, 1) := by decide +kernel
theorem dX8_findRow_1 : decode cX8_findRow 1 = .ok (.istore_n 3, 1) := by decide +kernel
theorem dX8_findRow_2 : decode cX8_findRow 2 = .ok (.iload_n 3, 1) := by decide +kernel
theorem dX8_findRow_3 : decode cX8_findRow 3 = .ok (.aload_n 0, 1) := by decide +kernel
theorem dX8_findRow_4 : decode cX8_findRow 4 = .ok (.getfield 9, 3) := by decide +kernel
theorem dX8_findRow_7 : decode cX8_findRow 7 = .ok (.iconst 3, 1) := by decide +kernel
theorem dX8_findRow_8 : decode cX8_findRow 8 = .ok (.iaload, 1) := by decide +kernel
theorem dX8_findRow_9 : decode cX8_findRow 9 = .ok (.if_icmp .ge 31, 3) := by decide +kernel
theorem dX8_findRow_12 : decode cX8_findRow 12 = .ok (.aload_n 0, 1) := by decide +kernel
theorem dX8_findRow_13 : decode cX8_findRow 13 = .ok (.getfield 26, 3) := by decide +kernel
theorem dX8_findRow_16 : decode cX8_findRow 16 = .ok (.iload_n 3, 1) := by decide +kernel
theorem dX8_findRow_17 : decode cX8_findRow 17 = .ok (.iaload, 1) := by decide +kernel
theorem dX8_findRow_18 : decode cX8_findRow 18 = .ok (.iload_n 1, 1) := by decide +kernel
theorem dX8_findRow_19 : decode cX8_findRow 19 = .ok (.if_icmp .ne 15, 3) := by decide +kernel
theorem dX8_findRow_22 : decode cX8_findRow 22 = .ok (.aload_n 0, 1) := by decide +kernel
theorem dX8_findRow_23 : decode cX8_findRow 23 = .ok (.getfield 29, 3) := by decide +kernel
theorem dX8_findRow_26 : decode cX8_findRow 26 = .ok (.iload_n 3, 1) := by decide +kernel
theorem dX8_findRow_27 : decode cX8_findRow 27 = .ok (.iaload, 1) := by decide +kernel
theorem dX8_findRow_28 : decode cX8_findRow 28 = .ok (.iload_n 2, 1) := by decide +kernel
theorem dX8_findRow_29 : decode cX8_findRow 29 = .ok (.if_icmp .ne 5, 3) := by decide +kernel
theorem dX8_findRow_32 : decode cX8_findRow 32 = .ok (.iload_n 3, 1) := by decide +kernel
theorem dX8_findRow_33 : decode cX8_findRow 33 = .ok (.ireturn, 1) := by decide +kernel
theorem dX8_findRow_34 : decode cX8_findRow 34 = .ok (.iinc 3 1, 3) := by decide +kernel
theorem dX8_findRow_37 : decode cX8_findRow 37 = .ok (.goto (-35), 3) := by decide +kernel
theorem dX8_findRow_40 : decode cX8_findRow 40 = .ok (.iconst (-1), 1) := by decide +kernel
theorem dX8_findRow_41 : decode cX8_findRow 41 = .ok (.ireturn, 1) := by decide +kernel
theorem gcX8_addNamed__X80 : ∀ w ∈ wsX80, w ∈ wsX8_addNamed := fun w h => List.mem_cons_of_mem _ (List.mem_append_right _ (h))
set_option maxRecDepth 20000 in
theorem ggX8_addNamed_X8_isFull : GoodIn wsX8_addNamed wsX8_isFull := goodIn_sub (List.forall_mem_cons.mpr ⟨(List.mem_of_getElem? (i := 7) rfl), List.forall_mem_append.mpr ⟨List.forall_mem_cons.mpr ⟨(List.mem_of_getElem? (i := 2) rfl), fun _ h => (List.not_mem_nil h).elim⟩, gcX8_addNamed__X80⟩⟩) gwX8_isFull
set_option maxRecDepth 20000 in
theorem gX8_addNamed_X8_isFull : GoodIn wsX8_addNamed (wsV RX8 67 RX8 yX8_isFull wsX8_isFull) := goodIn_app (goodIn_sub (List.forall_mem_cons.mpr ⟨(List.mem_of_getElem? (i := 3) rfl), List.forall_mem_cons.mpr ⟨(List.mem_of_getElem? (i := 4) rfl), List.forall_mem_cons.mpr ⟨(List.mem_of_getElem? (i := 5) rfl), List.forall_mem_cons.mpr ⟨(List.mem_of_getElem? (i := 6) rfl), fun _ h => (List.not_mem_nil h).elim⟩⟩⟩⟩) (by decide +kernel)) ggX8_addNamed_X8_isFull
theorem dX8_addNamed_0 : decode cX8_addNamed 0 = .ok (.aload_n 0, 1) := by decide +kernel
theorem dX8_addNamed_1 : decode cX8_addNamed 1 = .ok (.iload_n 1, 1) := by decide +kernel
theorem dX8_addNamed_2 : decode cX8_addNamed 2 = .ok (.invokevirtual 67, 3) := by decide +kernel
theorem dX8_addNamed_5 : decode cX8_addNamed 5 = .ok (.ifCond .eq 4, 3) := by decide +kernel
theorem dX8_addNamed_8 : decode cX8_addNamed 8 = .ok (.return_, 1) := by decide +kernel
theorem dX8_addNamed_9 : decode cX8_addNamed 9 = .ok (.aload_n 0, 1) := by decide +kernel
theorem dX8_addNamed_10 : decode cX8_addNamed 10 = .ok (.getfield 17, 3) := by decide +kernel
theorem dX8_addNamed_13 : decode cX8_addNamed 13 = .ok (.iload_n 1, 1) := by decide +kernel
theorem dX8_addNamed_14 : decode cX8_addNamed 14 = .ok (.aaload, 1) := by decide +kernel
theorem dX8_addNamed_15 : decode cX8_addNamed 15 = .ok (.aload_n 0, 1) := by decide +kernel
theorem dX8_addNamed_16 : decode cX8_addNamed 16 = .ok (.getfield 9, 3) := by decide +kernel
theorem dX8_addNamed_19 : decode cX8_addNamed 19 = .ok (.iload_n 1, 1) := by decide +kernel
theorem dX8_addNamed_20 : decode cX8_addNamed 20 = .ok (.iaload, 1) := by decide +kernel
theorem dX8_addNamed_21 : decode cX8_addNamed 21 = .ok (.iload_n 2, 1) := by decide +kernel
theorem dX8_addNamed_22 : decode cX8_addNamed 22 = .ok (.iastore, 1) := by decide +kernel
theorem dX8_addNamed_23 : decode cX8_addNamed 23 = .ok (.aload_n 0, 1) := by decide +kernel
theorem dX8_addNamed_24 : decode cX8_addNamed 24 = .ok (.getfield 9, 3) := by decide +kernel
theorem dX8_addNamed_27 : decode cX8_addNamed 27 = .ok (.iload_n 1, 1) := by decide +kernel
theorem dX8_addNamed_28 : decode cX8_addNamed 28 = .ok (.dup2, 1) := by decide +kernel
theorem dX8_addNamed_29 : decode cX8_addNamed 29 = .ok (.iaload, 1) := by decide +kernel
theorem dX8_addNamed_30 : decode cX8_addNamed 30 = .ok (.iconst 1, 1) := by decide +kernel
theorem dX8_addNamed_31 : decode cX8_addNamed 31 = .ok (.iadd, 1) := by decide +kernel
theorem dX8_addNamed_32 : decode cX8_addNamed 32 = .ok (.iastore, 1) := by decide +kernel
theorem dX8_addNamed_33 : decode cX8_addNamed 33 = .ok (.return_, 1) := by decide +kernel
theorem gcX8_addPicture__X80 : ∀ w ∈ wsX80, w ∈ wsX8_addPicture := fun w h => List.mem_cons_of_mem _ (List.mem_append_right _ (h))
set_option maxRecDepth 20000 in
theorem ggX8_addPicture_X8_isFull : GoodIn wsX8_addPicture wsX8_isFull := goodIn_sub (List.forall_mem_cons.mpr ⟨(List.mem_of_getElem? (i := 8) rfl), List.forall_mem_append.mpr ⟨List.forall_mem_cons.mpr ⟨(List.mem_of_getElem? (i := 2) rfl), fun _ h => (List.not_mem_nil h).elim⟩, gcX8_addPicture__X80⟩⟩) gwX8_isFull
set_option maxRecDepth 20000 in
theorem gX8_addPicture_X8_isFull : GoodIn wsX8_addPicture (wsV RX8 67 RX8 yX8_isFull wsX8_isFull) := goodIn_app (goodIn_sub (List.forall_mem_cons.mpr ⟨(List.mem_of_getElem? (i := 4) rfl), List.forall_mem_cons.mpr ⟨(List.mem_of_getElem? (i := 5) rfl), List.forall_mem_cons.mpr ⟨(List.mem_of_getElem? (i := 6) rfl), List.forall_mem_cons.mpr ⟨(List.mem_of_getElem? (i := 7) rfl), fun _ h => (List.not_mem_nil h).elim⟩⟩⟩⟩) (by decide +kernel)) ggX8_addPicture_X8_isFull
set_option maxRecDepth 20000 in
theorem ggX8_addPicture_X8_addNamed : GoodIn wsX8_addPicture wsX8_addNamed := goodIn_sub (List.forall_mem_cons.mpr ⟨(List.mem_of_getElem? (i := 12) rfl), List.forall_mem_append.mpr ⟨List.forall_mem_cons.mpr ⟨(List.mem_of_getElem? (i := 13) rfl), List.forall_mem_cons.mpr ⟨(List.mem_of_getElem? (i := 2) rfl), List.forall_mem_cons.mpr ⟨(List.mem_of_getElem? (i := 4) rfl), List.forall_mem_cons.mpr ⟨(List.mem_of_getElem? (i := 5) rfl), List.forall_mem_cons.mpr ⟨(List.mem_of_getElem? (i := 6) rfl), List.forall_mem_cons.mpr ⟨(List.mem_of_getElem? (i := 7) rfl), List.forall_mem_cons.mpr ⟨(List.mem_of_getElem? (i := 8) rfl), fun _ h => (List.not_mem_nil h).elim⟩⟩⟩⟩⟩⟩⟩, gcX8_addPicture__X80⟩⟩) gwX8_addNamed
set_option maxRecDepth 20000 in
theorem gX8_addPicture_X8_addNamed : GoodIn wsX8_addPicture (wsV RX8 71 RX8 yX8_addNamed wsX8_addNamed) := goodIn_app (goodIn_sub (List.forall_mem_cons.mpr ⟨(List.mem_of_getElem? (i := 9) rfl), List.forall_mem_cons.mpr ⟨(List.mem_of_getElem? (i := 10) rfl), List.forall_mem_cons.mpr ⟨(List.mem_of_getElem? (i := 11) rfl), List.forall_mem_cons.mpr ⟨(List.mem_of_getElem? (i := 7) rfl), fun _ h => (List.not_mem_nil h).elim⟩⟩⟩⟩) (by decide +kernel)) ggX8_addPicture_X8_addNamed
theorem dX8_addPicture_0 : decode cX8_addPicture 0 = .ok (.aload_n 0, 1) := by decide +kernel
theorem dX8_addPicture_1 : decode cX8_addPicture 1 = .ok (.iconst 1, 1) := by decide +kernel
theorem dX8_addPicture_2 : decode cX8_addPicture 2 = .ok (.invokevirtual 67, 3) := by decide +kernel
theorem dX8_addPicture_5 : decode cX8_addPicture 5 = .ok (.ifCond .eq 4, 3) := by decide +kernel
theorem dX8_addPicture_8 : decode cX8_addPicture 8 = .ok (.return_, 1) := by decide +kernel
theorem dX8_addPicture_9 : decode cX8_addPicture 9 = .ok (.aload_n 0, 1) := by decide +kernel
theorem dX8_addPicture_10 : decode cX8_addPicture 10 = .ok (.getfield 20, 3) := by decide +kernel
theorem dX8_addPicture_13 : decode cX8_addPicture 13 = .ok (.aload_n 0, 1) := by decide +kernel
theorem dX8_addPicture_14 : decode cX8_addPicture 14 = .ok (.getfield 9, 3) := by decide +kernel
theorem dX8_addPicture_17 : decode cX8_addPicture 17 = .ok (.iconst 1, 1) := by decide +kernel
theorem dX8_addPicture_18 : decode cX8_addPicture 18 = .ok (.iaload, 1) := by decide +kernel
theorem dX8_addPicture_19 : decode cX8_addPicture 19 = .ok (.iload_n 2, 1) := by decide +kernel
theorem dX8_addPicture_20 : decode cX8_addPicture 20 = .ok (.iastore, 1) := by decide +kernel
theorem dX8_addPicture_21 : decode cX8_addPicture 21 = .ok (.aload_n 0, 1) := by decide +kernel
theorem dX8_addPicture_22 : decode cX8_addPicture 22 = .ok (.getfield 23, 3) := by decide +kernel
theorem dX8_addPicture_25 : decode cX8_addPicture 25 = .ok (.aload_n 0, 1) := by decide +kernel
theorem dX8_addPicture_26 : decode cX8_addPicture 26 = .ok (.getfield 9, 3) := by decide +kernel
theorem dX8_addPicture_29 : decode cX8_addPicture 29 = .ok (.iconst 1, 1) := by decide +kernel
theorem dX8_addPicture_30 : decode cX8_addPicture 30 = .ok (.iaload, 1) := by decide +kernel
theorem dX8_addPicture_31 : decode cX8_addPicture 31 = .ok (.iload_n 3, 1) := by decide +kernel
theorem dX8_addPicture_32 : decode cX8_addPicture 32 = .ok (.iastore, 1) := by decide +kernel
theorem dX8_addPicture_33 : decode cX8_addPicture 33 = .ok (.aload_n 0, 1) := by decide +kernel
theorem dX8_addPicture_34 : decode cX8_addPicture 34 = .ok (.iconst 1, 1) := by decide +kernel
theorem dX8_addPicture_35 : decode cX8_addPicture 35 = .ok (.iload_n 1, 1) := by decide +kernel
theorem dX8_addPicture_36 : decode cX8_addPicture 36 = .ok (.invokevirtual 71, 3) := by decide +kernel
theorem dX8_addPicture_39 : decode cX8_addPicture 39 = .ok (.return_, 1) := by decide +kernel
theorem gcX8_addRow__X80 : ∀ w ∈ wsX80, w ∈ wsX8_addRow := fun w h => List.mem_cons_of_mem _ (List.mem_append_right _ (h))
set_option maxRecDepth 20000 in
theorem ggX8_addRow_X8_isFull : GoodIn wsX8_addRow wsX8_isFull := goodIn_sub (List.forall_mem_cons.mpr ⟨(List.mem_of_getElem? (i := 9) rfl), List.forall_mem_append.mpr ⟨List.forall_mem_cons.mpr ⟨(List.mem_of_getElem? (i := 1) rfl), fun _ h => (List.not_mem_nil h).elim⟩, gcX8_addRow__X80⟩⟩) gwX8_isFull
set_option maxRecDepth 20000 in
theorem gX8_addRow_X8_isFull : GoodIn wsX8_addRow (wsV RX8 67 RX8 yX8_isFull wsX8_isFull) := goodIn_app (goodIn_sub (List.forall_mem_cons.mpr ⟨(List.mem_of_getElem? (i := 5) rfl), List.forall_mem_cons.mpr ⟨(List.mem_of_getElem? (i := 6) rfl), List.forall_mem_cons.mpr ⟨(List.mem_of_getElem? (i := 7) rfl), List.forall_mem_cons.mpr ⟨(List.mem_of_getElem? (i := 8) rfl), fun _ h => (List.not_mem_nil h).elim⟩⟩⟩⟩) (by decide +kernel)) ggX8_addRow_X8_isFull
set_option maxRecDepth 20000 in
theorem gwX8_setMeasured : wsX8_setMeasured.all goodWord = true := by decide +kernel
set_option maxRecDepth 20000 in
theorem ggX8_addRow_X8_setMeasured : GoodIn wsX8_addRow wsX8_setMeasured := goodIn_sub (List.forall_mem_cons.mpr ⟨(List.mem_of_getElem? (i := 13) rfl), List.forall_mem_append.mpr ⟨List.forall_mem_cons.mpr ⟨(List.mem_of_getElem? (i := 14) rfl), fun _ h => (List.not_mem_nil h).elim⟩, gcX8_addRow__X80⟩⟩) gwX8_setMeasured
set_option maxRecDepth 20000 in
theorem gX8_addRow_X8_setMeasured : GoodIn wsX8_addRow (wsV RX8 75 RX8 yX8_setMeasured wsX8_setMeasured) := goodIn_app (goodIn_sub (List.forall_mem_cons.mpr ⟨(List.mem_of_getElem? (i := 10) rfl), List.forall_mem_cons.mpr ⟨(List.mem_of_getElem? (i := 11) rfl), List.forall_mem_cons.mpr ⟨(List.mem_of_getElem? (i := 12) rfl), List.forall_mem_cons.mpr ⟨(List.mem_of_getElem? (i := 8) rfl), fun _ h => (List.not_mem_nil h).elim⟩⟩⟩⟩) (by decide +kernel)) ggX8_addRow_X8_setMeasured
theorem dX8_addRow_0 : decode cX8_addRow 0 = .ok (.aload_n 0, 1) := by decide +kernel
theorem dX8_addRow_1 : decode cX8_addRow 1 = .ok (.iconst 3, 1) := by decide +kernel
theorem dX8_addRow_2 : decode cX8_addRow 2 = .ok (.invokevirtual 67, 3) := by decide +kernel
theorem dX8_addRow_5 : decode cX8_addRow 5 = .ok (.ifCond .eq 4, 3) := by decide +kernel
theorem dX8_addRow_8 : decode cX8_addRow 8 = .ok (.return_, 1) := by decide +kernel
theorem dX8_addRow_9 : decode cX8_addRow 9 = .ok (.aload_n 0, 1) := by decide +kernel
theorem dX8_addRow_10 : decode cX8_addRow 10 = .ok (.getfield 9, 3) := by decide +kernel
theorem dX8_addRow_13 : decode cX8_addRow 13 = .ok (.iconst 3, 1) := by decide +kernel
theorem dX8_addRow_14 : decode cX8_addRow 14 = .ok (.iaload, 1) := by decide +kernel
theorem dX8_addRow_15 : decode cX8_addRow 15 = .ok (.istore 6, 2) := by decide +kernel
theorem dX8_addRow_17 : decode cX8_addRow 17 = .ok (.aload_n 0, 1) := by decide +kernel
theorem dX8_addRow_18 : decode cX8_addRow 18 = .ok (.getfield 26, 3) := by decide +kernel
theorem dX8_addRow_21 : decode cX8_addRow 21 = .ok (.iload 6, 2) := by decide +kernel
theorem dX8_addRow_23 : decode cX8_addRow 23 = .ok (.iload_n 1, 1) := by decide +kernel
theorem dX8_addRow_24 : decode cX8_addRow 24 = .ok (.iastore, 1) := by decide +kernel
theorem dX8_addRow_25 : decode cX8_addRow 25 = .ok (.aload_n 0, 1) := by decide +kernel
theorem dX8_addRow_26 : decode cX8_addRow 26 = .ok (.getfield 29, 3) := by decide +kernel
theorem dX8_addRow_29 : decode cX8_addRow 29 = .ok (.iload 6, 2) := by decide +kernel
theorem dX8_addRow_31 : decode cX8_addRow 31 = .ok (.iload_n 2, 1) := by decide +kernel
theorem dX8_addRow_32 : decode cX8_addRow 32 = .ok (.iastore, 1) := by decide +kernel
theorem dX8_addRow_33 : decode cX8_addRow 33 = .ok (.aload_n 0, 1) := by decide +kernel
theorem dX8_addRow_34 : decode cX8_addRow 34 = .ok (.getfield 35, 3) := by decide +kernel
theorem dX8_addRow_37 : decode cX8_addRow 37 = .ok (.iload 6, 2) := by decide +kernel
theorem dX8_addRow_39 : decode cX8_addRow 39 = .ok (.iload 5, 2) := by decide +kernel
theorem dX8_addRow_41 : decode cX8_addRow 41 = .ok (.iastore, 1) := by decide +kernel
theorem dX8_addRow_42 : decode cX8_addRow 42 = .ok (.aload_n 0, 1) := by decide +kernel
theorem dX8_addRow_43 : decode cX8_addRow 43 = .ok (.getfield 9, 3) := by decide +kernel
theorem dX8_addRow_46 : decode cX8_addRow 46 = .ok (.iconst 3, 1) := by decide +kernel
theorem dX8_addRow_47 : decode cX8_addRow 47 = .ok (.dup2, 1) := by decide +kernel
theorem dX8_addRow_48 : decode cX8_addRow 48 = .ok (.iaload, 1) := by decide +kernel
theorem dX8_addRow_49 : decode cX8_addRow 49 = .ok (.iconst 1, 1) := by decide +kernel
theorem dX8_addRow_50 : decode cX8_addRow 50 = .ok (.iadd, 1) := by decide +kernel
theorem dX8_addRow_51 : decode cX8_addRow 51 = .ok (.iastore, 1) := by decide +kernel
theorem dX8_addRow_52 : decode cX8_addRow 52 = .ok (.aload_n 0, 1) := by decide +kernel
theorem dX8_addRow_53 : decode cX8_addRow 53 = .ok (.iload 6, 2) := by decide +kernel
theorem dX8_addRow_55 : decode cX8_addRow 55 = .ok (.iload_n 3, 1) := by decide +kernel
theorem dX8_addRow_56 : decode cX8_addRow 56 = .ok (.iload 4, 2) := by decide +kernel
theorem dX8_addRow_58 : decode cX8_addRow 58 = .ok (.invokevirtual 75, 3) := by decide +kernel
theorem dX8_addRow_61 : decode cX8_addRow 61 = .ok (.return_, 1) := by decide +kernel
theorem dX8_addControl_0 : decode cX8_addControl 0 = .ok (.aload_n 0, 1) := by decide +kernel
theorem dX8_addControl_1 : decode cX8_addControl 1 = .ok (.getfield 38, 3) := by decide +kernel
theorem dX8_addControl_4 : decode cX8_addControl 4 = .ok (.iload_n 1, 1) := by decide +kernel
theorem dX8_addControl_5 : decode cX8_addControl 5 = .ok (.iload 4, 2) := by decide +kernel
theorem dX8_addControl_7 : decode cX8_addControl 7 = .ok (.iastore, 1) := by decide +kernel
theorem dX8_addControl_8 : decode cX8_addControl 8 = .ok (.aload_n 0, 1) := by decide +kernel
theorem dX8_addControl_9 : decode cX8_addControl 9 = .ok (.getfield 41, 3) := by decide +kernel
theorem dX8_addControl_12 : decode cX8_addControl 12 = .ok (.iconst 0, 1) := by decide +kernel
theorem dX8_addControl_13 : decode cX8_addControl 13 = .ok (.aaload, 1) := by decide +kernel
theorem dX8_addControl_14 : decode cX8_addControl 14 = .ok (.iload_n 1, 1) := by decide +kernel
theorem dX8_addControl_15 : decode cX8_addControl 15 = .ok (.iload_n 2, 1) := by decide +kernel
theorem dX8_addControl_16 : decode cX8_addControl 16 = .ok (.iastore, 1) := by decide +kernel
theorem dX8_addControl_17 : decode cX8_addControl 17 = .ok (.aload_n 0, 1) := by decide +kernel
theorem dX8_addControl_18 : decode cX8_addControl 18 = .ok (.getfield 41, 3) := by decide +kernel
theorem dX8_addControl_21 : decode cX8_addControl 21 = .ok (.iconst 1, 1) := by decide +kernel
theorem dX8_addControl_22 : decode cX8_addControl 22 = .ok (.aaload, 1) := by decide +kernel
theorem dX8_addControl_23 : decode cX8_addControl 23 = .ok (.iload_n 1, 1) := by decide +kernel
theorem dX8_addControl_24 : decode cX8_addControl 24 = .ok (.iload_n 3, 1) := by decide +kernel
theorem dX8_addControl_25 : decode cX8_addControl 25 = .ok (.iastore, 1) := by decide +kernel
theorem dX8_addControl_26 : decode cX8_addControl 26 = .ok (.aload_n 0, 1) := by decide +kernel
theorem dX8_addControl_27 : decode cX8_addControl 27 = .ok (.getfield 9, 3) := by decide +kernel
theorem dX8_addControl_30 : decode cX8_addControl 30 = .ok (.iconst 4, 1) := by decide +kernel
theorem dX8_addControl_31 : decode cX8_addControl 31 = .ok (.dup2, 1) := by decide +kernel
theorem dX8_addControl_32 : decode cX8_addControl 32 = .ok (.iaload, 1) := by decide +kernel
theorem dX8_addControl_33 : decode cX8_addControl 33 = .ok (.iconst 1, 1) := by decide +kernel
theorem dX8_addControl_34 : decode cX8_addControl 34 = .ok (.iadd, 1) := by decide +kernel
theorem dX8_addControl_35 : decode cX8_addControl 35 = .ok (.iastore, 1) := by decide +kernel
theorem dX8_addControl_36 : decode cX8_addControl 36 = .ok (.return_, 1) := by decide +kernel
theorem dX8_addCentre_0 : decode cX8_addCentre 0 = .ok (.aload_n 0, 1) := by decide +kernel
theorem dX8_addCentre_1 : decode cX8_addCentre 1 = .ok (.getfield 44, 3) := by decide +kernel
theorem dX8_addCentre_4 : decode cX8_addCentre 4 = .ok (.iload_n 1, 1) := by decide +kernel
theorem dX8_addCentre_5 : decode cX8_addCentre 5 = .ok (.iload 4, 2) := by decide +kernel
theorem dX8_addCentre_7 : decode cX8_addCentre 7 = .ok (.iastore, 1) := by decide +kernel
theorem dX8_addCentre_8 : decode cX8_addCentre 8 = .ok (.aload_n 0, 1) := by decide +kernel
theorem dX8_addCentre_9 : decode cX8_addCentre 9 = .ok (.getfield 47, 3) := by decide +kernel
theorem dX8_addCentre_12 : decode cX8_addCentre 12 = .ok (.iconst 0, 1) := by decide +kernel
theorem dX8_addCentre_13 : decode cX8_addCentre 13 = .ok (.aaload, 1) := by decide +kernel
theorem dX8_addCentre_14 : decode cX8_addCentre 14 = .ok (.iload_n 1, 1) := by decide +kernel
theorem dX8_addCentre_15 : decode cX8_addCentre 15 = .ok (.iload_n 2, 1) := by decide +kernel
theorem dX8_addCentre_16 : decode cX8_addCentre 16 = .ok (.iastore, 1) := by decide +kernel
theorem dX8_addCentre_17 : decode cX8_addCentre 17 = .ok (.aload_n 0, 1) := by decide +kernel
theorem dX8_addCentre_18 : decode cX8_addCentre 18 = .ok (.getfield 47, 3) := by decide +kernel
theorem dX8_addCentre_21 : decode cX8_addCentre 21 = .ok (.iconst 1, 1) := by decide +kernel
theorem dX8_addCentre_22 : decode cX8_addCentre 22 = .ok (.aaload, 1) := by decide +kernel
theorem dX8_addCentre_23 : decode cX8_addCentre 23 = .ok (.iload_n 1, 1) := by decide +kernel
theorem dX8_addCentre_24 : decode cX8_addCentre 24 = .ok (.iload_n 3, 1) := by decide +kernel
theorem dX8_addCentre_25 : decode cX8_addCentre 25 = .ok (.iastore, 1) := by decide +kernel
theorem dX8_addCentre_26 : decode cX8_addCentre 26 = .ok (.aload_n 0, 1) := by decide +kernel
theorem dX8_addCentre_27 : decode cX8_addCentre 27 = .ok (.getfield 9, 3) := by decide +kernel
theorem dX8_addCentre_30 : decode cX8_addCentre 30 = .ok (.iconst 5, 1) := by decide +kernel
theorem dX8_addCentre_31 : decode cX8_addCentre 31 = .ok (.dup2, 1) := by decide +kernel
theorem dX8_addCentre_32 : decode cX8_addCentre 32 = .ok (.iaload, 1) := by decide +kernel
theorem dX8_addCentre_33 : decode cX8_addCentre 33 = .ok (.iconst 1, 1) := by decide +kernel
theorem dX8_addCentre_34 : decode cX8_addCentre 34 = .ok (.iadd, 1) := by decide +kernel
theorem dX8_addCentre_35 : decode cX8_addCentre 35 = .ok (.iastore, 1) := by decide +kernel
theorem dX8_addCentre_36 : decode cX8_addCentre 36 = .ok (.return_, 1) := by decide +kernel
theorem dX8_setMeasured_0 : decode cX8_setMeasured 0 = .ok (.aload_n 0, 1) := by decide +kernel
theorem dX8_setMeasured_1 : decode cX8_setMeasured 1 = .ok (.getfield 32, 3) := by decide +kernel
theorem dX8_setMeasured_4 : decode cX8_setMeasured 4 = .ok (.iconst 0, 1) := by decide +kernel
theorem dX8_setMeasured_5 : decode cX8_setMeasured 5 = .ok (.aaload, 1) := by decide +kernel
theorem dX8_setMeasured_6 : decode cX8_setMeasured 6 = .ok (.iload_n 1, 1) := by decide +kernel
theorem dX8_setMeasured_7 : decode cX8_setMeasured 7 = .ok (.iload_n 2, 1) := by decide +kernel
theorem dX8_setMeasured_8 : decode cX8_setMeasured 8 = .ok (.iastore, 1) := by decide +kernel
theorem dX8_setMeasured_9 : decode cX8_setMeasured 9 = .ok (.aload_n 0, 1) := by decide +kernel
theorem dX8_setMeasured_10 : decode cX8_setMeasured 10 = .ok (.getfield 32, 3) := by decide +kernel
theorem dX8_setMeasured_13 : decode cX8_setMeasured 13 = .ok (.iconst 1, 1) := by decide +kernel
theorem dX8_setMeasured_14 : decode cX8_setMeasured 14 = .ok (.aaload, 1) := by decide +kernel
theorem dX8_setMeasured_15 : decode cX8_setMeasured 15 = .ok (.iload_n 1, 1) := by decide +kernel
theorem dX8_setMeasured_16 : decode cX8_setMeasured 16 = .ok (.iload_n 3, 1) := by decide +kernel
theorem dX8_setMeasured_17 : decode cX8_setMeasured 17 = .ok (.iastore, 1) := by decide +kernel
theorem dX8_setMeasured_18 : decode cX8_setMeasured 18 = .ok (.return_, 1) := by decide +kernel
theorem dX8_drifts_0 : decode cX8_drifts 0 = .ok (.iconst 0, 1) := by decide +kernel
theorem dX8_drifts_1 : decode cX8_drifts 1 = .ok (.istore_n 2, 1) := by decide +kernel
theorem dX8_drifts_2 : decode cX8_drifts 2 = .ok (.iload_n 2, 1) := by decide +kernel
theorem dX8_drifts_3 : decode cX8_drifts 3 = .ok (.aload_n 0, 1) := by decide +kernel
theorem dX8_drifts_4 : decode cX8_drifts 4 = .ok (.getfield 9, 3) := by decide +kernel
theorem dX8_drifts_7 : decode cX8_drifts 7 = .ok (.iconst 1, 1) := by decide +kernel
theorem dX8_drifts_8 : decode cX8_drifts 8 = .ok (.iaload, 1) := by decide +kernel
theorem dX8_drifts_9 : decode cX8_drifts 9 = .ok (.if_icmp .ge 30, 3) := by decide +kernel
theorem dX8_drifts_12 : decode cX8_drifts 12 = .ok (.aload_n 0, 1) := by decide +kernel
theorem dX8_drifts_13 : decode cX8_drifts 13 = .ok (.getfield 20, 3) := by decide +kernel
theorem dX8_drifts_16 : decode cX8_drifts 16 = .ok (.iload_n 2, 1) := by decide +kernel
theorem dX8_drifts_17 : decode cX8_drifts 17 = .ok (.iaload, 1) := by decide +kernel
theorem dX8_drifts_18 : decode cX8_drifts 18 = .ok (.iload_n 1, 1) := by decide +kernel
theorem dX8_drifts_19 : decode cX8_drifts 19 = .ok (.if_icmp .ne 14, 3) := by decide +kernel
theorem dX8_drifts_22 : decode cX8_drifts 22 = .ok (.aload_n 0, 1) := by decide +kernel
theorem dX8_drifts_23 : decode cX8_drifts 23 = .ok (.getfield 44, 3) := by decide +kernel
theorem dX8_drifts_26 : decode cX8_drifts 26 = .ok (.iload_n 2, 1) := by decide +kernel
theorem dX8_drifts_27 : decode cX8_drifts 27 = .ok (.iaload, 1) := by decide +kernel
theorem dX8_drifts_28 : decode cX8_drifts 28 = .ok (.ifCond .le 5, 3) := by decide +kernel
theorem dX8_drifts_31 : decode cX8_drifts 31 = .ok (.iconst 1, 1) := by decide +kernel
theorem dX8_drifts_32 : decode cX8_drifts 32 = .ok (.ireturn, 1) := by decide +kernel
theorem dX8_drifts_33 : decode cX8_drifts 33 = .ok (.iinc 2 1, 3) := by decide +kernel
theorem dX8_drifts_36 : decode cX8_drifts 36 = .ok (.goto (-34), 3) := by decide +kernel
theorem dX8_drifts_39 : decode cX8_drifts 39 = .ok (.iconst 0, 1) := by decide +kernel
theorem dX8_drifts_40 : decode cX8_drifts 40 = .ok (.ireturn, 1) := by decide +kernel
theorem dX8_turnedBy_0 : decode cX8_turnedBy 0 = .ok (.iload_n 3, 1) := by decide +kernel
theorem dX8_turnedBy_1 : decode cX8_turnedBy 1 = .ok (.ifCond .ne 9, 3) := by decide +kernel
theorem dX8_turnedBy_4 : decode cX8_turnedBy 4 = .ok (.iload_n 1, 1) := by decide +kernel
theorem dX8_turnedBy_5 : decode cX8_turnedBy 5 = .ok (.iconst 3, 1) := by decide +kernel
theorem dX8_turnedBy_6 : decode cX8_turnedBy 6 = .ok (.iand, 1) := by decide +kernel
theorem dX8_turnedBy_7 : decode cX8_turnedBy 7 = .ok (.goto 8, 3) := by decide +kernel
theorem dX8_turnedBy_10 : decode cX8_turnedBy 10 = .ok (.iload_n 1, 1) := by decide +kernel
theorem dX8_turnedBy_11 : decode cX8_turnedBy 11 = .ok (.iconst 3, 1) := by decide +kernel
theorem dX8_turnedBy_12 : decode cX8_turnedBy 12 = .ok (.iadd, 1) := by decide +kernel
theorem dX8_turnedBy_13 : decode cX8_turnedBy 13 = .ok (.iconst 3, 1) := by decide +kernel
theorem dX8_turnedBy_14 : decode cX8_turnedBy 14 = .ok (.iand, 1) := by decide +kernel
theorem dX8_turnedBy_15 : decode cX8_turnedBy 15 = .ok (.istore 4, 2) := by decide +kernel
theorem dX8_turnedBy_17 : decode cX8_turnedBy 17 = .ok (.bipush 100, 2) := by decide +kernel
theorem dX8_turnedBy_19 : decode cX8_turnedBy 19 = .ok (.aload_n 0, 1) := by decide +kernel
theorem dX8_turnedBy_20 : decode cX8_turnedBy 20 = .ok (.getfield 32, 3) := by decide +kernel
theorem dX8_turnedBy_23 : decode cX8_turnedBy 23 = .ok (.iconst 0, 1) := by decide +kernel
theorem dX8_turnedBy_24 : decode cX8_turnedBy 24 = .ok (.aaload, 1) := by decide +kernel
theorem dX8_turnedBy_25 : decode cX8_turnedBy 25 = .ok (.iload_n 2, 1) := by decide +kernel
theorem dX8_turnedBy_26 : decode cX8_turnedBy 26 = .ok (.iaload, 1) := by decide +kernel
theorem dX8_turnedBy_27 : decode cX8_turnedBy 27 = .ok (.imul, 1) := by decide +kernel
theorem dX8_turnedBy_28 : decode cX8_turnedBy 28 = .ok (.istore 5, 2) := by decide +kernel
theorem dX8_turnedBy_30 : decode cX8_turnedBy 30 = .ok (.bipush 100, 2) := by decide +kernel
theorem dX8_turnedBy_32 : decode cX8_turnedBy 32 = .ok (.aload_n 0, 1) := by decide +kernel
theorem dX8_turnedBy_33 : decode cX8_turnedBy 33 = .ok (.getfield 32, 3) := by decide +kernel
theorem dX8_turnedBy_36 : decode cX8_turnedBy 36 = .ok (.iconst 1, 1) := by decide +kernel
theorem dX8_turnedBy_37 : decode cX8_turnedBy 37 = .ok (.aaload, 1) := by decide +kernel
theorem dX8_turnedBy_38 : decode cX8_turnedBy 38 = .ok (.iload_n 2, 1) := by decide +kernel
theorem dX8_turnedBy_39 : decode cX8_turnedBy 39 = .ok (.iaload, 1) := by decide +kernel
theorem dX8_turnedBy_40 : decode cX8_turnedBy 40 = .ok (.imul, 1) := by decide +kernel
theorem dX8_turnedBy_41 : decode cX8_turnedBy 41 = .ok (.istore 6, 2) := by decide +kernel
theorem dX8_turnedBy_43 : decode cX8_turnedBy 43 = .ok (.iload 4, 2) := by decide +kernel
theorem dX8_turnedBy_45 : decode cX8_turnedBy 45 = .ok (.tableswitch 38 0 2 #[27, 30, 34], 27) := by decide +kernel
theorem dX8_turnedBy_72 : decode cX8_turnedBy 72 = .ok (.iload 5, 2) := by decide +kernel
theorem dX8_turnedBy_74 : decode cX8_turnedBy 74 = .ok (.ireturn, 1) := by decide +kernel
theorem dX8_turnedBy_75 : decode cX8_turnedBy 75 = .ok (.iload 6, 2) := by decide +kernel
theorem dX8_turnedBy_77 : decode cX8_turnedBy 77 = .ok (.ineg, 1) := by decide +kernel
theorem dX8_turnedBy_78 : decode cX8_turnedBy 78 = .ok (.ireturn, 1) := by decide +kernel
theorem dX8_turnedBy_79 : decode cX8_turnedBy 79 = .ok (.iload 5, 2) := by decide +kernel
theorem dX8_turnedBy_81 : decode cX8_turnedBy 81 = .ok (.ineg, 1) := by decide +kernel
theorem dX8_turnedBy_82 : decode cX8_turnedBy 82 = .ok (.ireturn, 1) := by decide +kernel
theorem dX8_turnedBy_83 : decode cX8_turnedBy 83 = .ok (.iload 6, 2) := by decide +kernel
theorem dX8_turnedBy_85 : decode cX8_turnedBy 85 = .ok (.ireturn, 1) := by decide +kernel
theorem gcX9_init__X9_init_r3 : ∀ w ∈ wsX9_init_r3, w ∈ wsX9_init := fun w h => List.mem_cons_of_mem _ (List.mem_append_left _ (List.mem_append_left _ (List.mem_append_left _ (List.mem_append_left _ (List.mem_append_left _ (List.mem_append_left _ (List.mem_append_left _ (List.mem_append_left _ (List.mem_append_left _ (List.mem_append_left _ (List.mem_append_right _ (List.mem_append_right _ (List.mem_append_left _ (h))))))))))))))
theorem gcX9_init__X9_init_r1 : ∀ w ∈ wsX9_init_r1, w ∈ wsX9_init := fun w h => List.mem_cons_of_mem _ (List.mem_append_left _ (List.mem_append_left _ (List.mem_append_left _ (List.mem_append_left _ (List.mem_append_left _ (List.mem_append_left _ (List.mem_append_left _ (List.mem_append_left _ (List.mem_append_left _ (List.mem_append_left _ (List.mem_append_left _ (h))))))))))))
theorem gcX9_init__X80 : ∀ w ∈ wsX80, w ∈ wsX9_init := fun w h => List.mem_cons_of_mem _ (List.mem_append_left _ (List.mem_append_left _ (List.mem_append_left _ (List.mem_append_left _ (List.mem_append_left _ (List.mem_append_left _ (List.mem_append_left _ (List.mem_append_left _ (List.mem_append_right _ (h))))))))))
set_option maxRecDepth 20000 in
theorem gwX8_init : wsX8_init.all goodWord = true := by decide +kernel
set_option maxRecDepth 20000 in
theorem ggX9_init_X8_init : GoodIn wsX9_init wsX8_init := goodIn_sub (List.forall_mem_cons.mpr ⟨(gcX9_init__X9_init_r3 _ (List.mem_of_getElem? (i := 1) rfl)), List.forall_mem_append.mpr ⟨List.forall_mem_cons.mpr ⟨(gcX9_init__X9_init_r3 _ (List.mem_of_getElem? (i := 2) rfl)), List.forall_mem_cons.mpr ⟨(gcX9_init__X9_init_r1 _ (List.mem_of_getElem? (i := 1) rfl)), List.forall_mem_cons.mpr ⟨(gcX9_init__X9_init_r1 _ (List.mem_of_getElem? (i := 2) rfl)), List.forall_mem_cons.mpr ⟨(gcX9_init__X9_init_r1 _ (List.mem_of_getElem? (i := 3) rfl)), List.forall_mem_cons.mpr ⟨(gcX9_init__X9_init_r3 _ (List.mem_of_getElem? (i := 3) rfl)), List.forall_mem_cons.mpr ⟨(gcX9_init__X9_init_r3 _ (List.mem_of_getElem? (i := 4) rfl)), List.forall_mem_cons.mpr ⟨(gcX9_init__X9_init_r3 _ (List.mem_of_getElem? (i := 5) rfl)), List.forall_mem_cons.mpr ⟨(gcX9_init__X9_init_r3 _ (List.mem_of_getElem? (i := 6) rfl)), List.forall_mem_cons.mpr ⟨(gcX9_init__X9_init_r3 _ (List.mem_of_getElem? (i := 7) rfl)), List.forall_mem_cons.mpr ⟨(gcX9_init__X9_init_r3 _ (List.mem_of_getElem? (i := 8) rfl)), List.forall_mem_cons.mpr ⟨(gcX9_init__X9_init_r3 _ (List.mem_of_getElem? (i := 9) rfl)), List.forall_mem_cons.mpr ⟨(gcX9_init__X9_init_r3 _ (List.mem_of_getElem? (i := 10) rfl)), List.forall_mem_cons.mpr ⟨(gcX9_init__X9_init_r3 _ (List.mem_of_getElem? (i := 11) rfl)), List.forall_mem_cons.mpr ⟨(gcX9_init__X9_init_r3 _ (List.mem_of_getElem? (i := 12) rfl)), List.forall_mem_cons.mpr ⟨(gcX9_init__X9_init_r3 _ (List.mem_of_getElem? (i := 13) rfl)), List.forall_mem_cons.mpr ⟨(gcX9_init__X9_init_r3 _ (List.mem_of_getElem? (i := 14) rfl)), List.forall_mem_cons.mpr ⟨(gcX9_init__X9_init_r3 _ (List.mem_of_getElem? (i := 15) rfl)), fun _ h => (List.not_mem_nil h).elim⟩⟩⟩⟩⟩⟩⟩⟩⟩⟩⟩⟩⟩⟩⟩⟩⟩, gcX9_init__X80⟩⟩) gwX8_init
set_option maxRecDepth 20000 in
theorem gX9_init_X8_init_n19 : GoodIn wsX9_init (wsX8_init) := ggX9_init_X8_init
theorem gcX9_init__X9_init_r4 : ∀ w ∈ wsX9_init_r4, w ∈ wsX9_init := fun w h => List.mem_cons_of_mem _ (List.mem_append_left _ (List.mem_append_left _ (List.mem_append_left _ (List.mem_append_left _ (List.mem_append_left _ (List.mem_append_left _ (List.mem_append_left _ (List.mem_append_left _ (List.mem_append_left _ (List.mem_append_left _ (List.mem_append_right _ (List.mem_append_right _ (List.mem_append_right _ (List.mem_append_left _ (h)))))))))))))))
theorem gcX9_init__X30 : ∀ w ∈ wsX30, w ∈ wsX9_init := fun w h => List.mem_cons_of_mem _ (List.mem_append_left _ (List.mem_append_left _ (List.mem_append_left _ (List.mem_append_left _ (List.mem_append_left _ (List.mem_append_left _ (List.mem_append_left _ (List.mem_append_right _ (h)))))))))
set_option maxRecDepth 20000 in
theorem gwX3_init : wsX3_init.all goodWord = true := by decide +kernel
set_option maxRecDepth 20000 in
theorem ggX9_init_X3_init : GoodIn wsX9_init wsX3_init := goodIn_sub (List.forall_mem_cons.mpr ⟨(gcX9_init__X9_init_r3 _ (List.mem_of_getElem? (i := 18) rfl)), List.forall_mem_append.mpr ⟨List.forall_mem_cons.mpr ⟨(gcX9_init__X9_init_r3 _ (List.mem_of_getElem? (i := 19) rfl)), List.forall_mem_cons.mpr ⟨(gcX9_init__X9_init_r1 _ (List.mem_of_getElem? (i := 1) rfl)), List.forall_mem_cons.mpr ⟨(gcX9_init__X9_init_r1 _ (List.mem_of_getElem? (i := 2) rfl)), List.forall_mem_cons.mpr ⟨(gcX9_init__X9_init_r3 _ (List.mem_of_getElem? (i := 20) rfl)), List.forall_mem_cons.mpr ⟨(gcX9_init__X9_init_r3 _ (List.mem_of_getElem? (i := 21) rfl)), List.forall_mem_cons.mpr ⟨(gcX9_init__X9_init_r3 _ (List.mem_of_getElem? (i := 22) rfl)), List.forall_mem_cons.mpr ⟨(gcX9_init__X9_init_r3 _ (List.mem_of_getElem? (i := 23) rfl)), List.forall_mem_cons.mpr ⟨(gcX9_init__X9_init_r4 _ (List.mem_of_getElem? (i := 0) rfl)), List.forall_mem_cons.mpr ⟨(gcX9_init__X9_init_r4 _ (List.mem_of_getElem? (i := 1) rfl)), List.forall_mem_cons.mpr ⟨(gcX9_init__X9_init_r4 _ (List.mem_of_getElem? (i := 2) rfl)), List.forall_mem_cons.mpr ⟨(gcX9_init__X9_init_r4 _ (List.mem_of_getElem? (i := 3) rfl)), List.forall_mem_cons.mpr ⟨(gcX9_init__X9_init_r4 _ (List.mem_of_getElem? (i := 4) rfl)), List.forall_mem_cons.mpr ⟨(gcX9_init__X9_init_r4 _ (List.mem_of_getElem? (i := 5) rfl)), List.forall_mem_cons.mpr ⟨(gcX9_init__X9_init_r4 _ (List.mem_of_getElem? (i := 6) rfl)), List.forall_mem_cons.mpr ⟨(gcX9_init__X9_init_r4 _ (List.mem_of_getElem? (i := 7) rfl)), List.forall_mem_cons.mpr ⟨(gcX9_init__X9_init_r4 _ (List.mem_of_getElem? (i := 8) rfl)), List.forall_mem_cons.mpr ⟨(gcX9_init__X9_init_r4 _ (List.mem_of_getElem? (i := 9) rfl)), fun _ h => (List.not_mem_nil h).elim⟩⟩⟩⟩⟩⟩⟩⟩⟩⟩⟩⟩⟩⟩⟩⟩⟩, gcX9_init__X30⟩⟩) gwX3_init
set_option maxRecDepth 20000 in
theorem gX9_init_X3_init : GoodIn wsX9_init (wsX3_init) := ggX9_init_X3_init
theorem gcX9_init__X50 : ∀ w ∈ wsX50, w ∈ wsX9_init := fun w h => List.mem_cons_of_mem _ (List.mem_append_left _ (List.mem_append_left _ (List.mem_append_left _ (List.mem_append_left _ (List.mem_append_left _ (List.mem_append_left _ (List.mem_append_right _ (h))))))))
set_option maxRecDepth 20000 in
theorem gwX5_init : wsX5_init.all goodWord = true := by decide +kernel
set_option maxRecDepth 20000 in
theorem ggX9_init_X5_init : GoodIn wsX9_init wsX5_init := goodIn_sub (List.forall_mem_cons.mpr ⟨(gcX9_init__X9_init_r4 _ (List.mem_of_getElem? (i := 12) rfl)), List.forall_mem_append.mpr ⟨List.forall_mem_cons.mpr ⟨(gcX9_init__X9_init_r4 _ (List.mem_of_getElem? (i := 13) rfl)), List.forall_mem_cons.mpr ⟨(gcX9_init__X9_init_r1 _ (List.mem_of_getElem? (i := 1) rfl)), List.forall_mem_cons.mpr ⟨(gcX9_init__X9_init_r1 _ (List.mem_of_getElem? (i := 2) rfl)), List.forall_mem_cons.mpr ⟨(gcX9_init__X9_init_r4 _ (List.mem_of_getElem? (i := 14) rfl)), List.forall_mem_cons.mpr ⟨(gcX9_init__X9_init_r1 _ (List.mem_of_getElem? (i := 3) rfl)), List.forall_mem_cons.mpr ⟨(gcX9_init__X9_init_r4 _ (List.mem_of_getElem? (i := 15) rfl)), List.forall_mem_cons.mpr ⟨(gcX9_init__X9_init_r4 _ (List.mem_of_getElem? (i := 16) rfl)), List.forall_mem_cons.mpr ⟨(gcX9_init__X9_init_r4 _ (List.mem_of_getElem? (i := 17) rfl)), List.forall_mem_cons.mpr ⟨(gcX9_init__X9_init_r4 _ (List.mem_of_getElem? (i := 18) rfl)), List.forall_mem_cons.mpr ⟨(gcX9_init__X9_init_r4 _ (List.mem_of_getElem? (i := 19) rfl)), List.forall_mem_cons.mpr ⟨(gcX9_init__X9_init_r4 _ (List.mem_of_getElem? (i := 20) rfl)), List.forall_mem_cons.mpr ⟨(gcX9_init__X9_init_r4 _ (List.mem_of_getElem? (i := 21) rfl)), fun _ h => (List.not_mem_nil h).elim⟩⟩⟩⟩⟩⟩⟩⟩⟩⟩⟩⟩, gcX9_init__X50⟩⟩) gwX5_init
set_option maxRecDepth 20000 in
theorem gX9_init_X5_init : GoodIn wsX9_init (wsX5_init) := ggX9_init_X5_init
theorem gcX9_init__X9_init_r5 : ∀ w ∈ wsX9_init_r5, w ∈ wsX9_init := fun w h => List.mem_cons_of_mem _ (List.mem_append_left _ (List.mem_append_left _ (List.mem_append_left _ (List.mem_append_left _ (List.mem_append_left _ (List.mem_append_left _ (List.mem_append_left _ (List.mem_append_left _ (List.mem_append_left _ (List.mem_append_left _ (List.mem_append_right _ (List.mem_append_right _ (List.mem_append_right _ (List.mem_append_right _ (List.mem_append_left _ (h))))))))))))))))
theorem gcX9_init__X60 : ∀ w ∈ wsX60, w ∈ wsX9_init := fun w h => List.mem_cons_of_mem _ (List.mem_append_left _ (List.mem_append_left _ (List.mem_append_left _ (List.mem_append_left _ (List.mem_append_left _ (List.mem_append_right _ (h)))))))
set_option maxRecDepth 20000 in
theorem gwX6_init : wsX6_init.all goodWord = true := by decide +kernel
set_option maxRecDepth 20000 in
theorem ggX9_init_X6_init : GoodIn wsX9_init wsX6_init := goodIn_sub (List.forall_mem_cons.mpr ⟨(gcX9_init__X9_init_r5 _ (List.mem_of_getElem? (i := 0) rfl)), List.forall_mem_append.mpr ⟨List.forall_mem_cons.mpr ⟨(gcX9_init__X9_init_r5 _ (List.mem_of_getElem? (i := 1) rfl)), List.forall_mem_cons.mpr ⟨(gcX9_init__X9_init_r1 _ (List.mem_of_getElem? (i := 1) rfl)), List.forall_mem_cons.mpr ⟨(gcX9_init__X9_init_r1 _ (List.mem_of_getElem? (i := 2) rfl)), List.forall_mem_cons.mpr ⟨(gcX9_init__X9_init_r1 _ (List.mem_of_getElem? (i := 3) rfl)), List.forall_mem_cons.mpr ⟨(gcX9_init__X9_init_r5 _ (List.mem_of_getElem? (i := 2) rfl)), List.forall_mem_cons.mpr ⟨(gcX9_init__X9_init_r5 _ (List.mem_of_getElem? (i := 3) rfl)), List.forall_mem_cons.mpr ⟨(gcX9_init__X9_init_r5 _ (List.mem_of_getElem? (i := 4) rfl)), List.forall_mem_cons.mpr ⟨(gcX9_init__X9_init_r5 _ (List.mem_of_getElem? (i := 5) rfl)), List.forall_mem_cons.mpr ⟨(gcX9_init__X9_init_r5 _ (List.mem_of_getElem? (i := 6) rfl)), List.forall_mem_cons.mpr ⟨(gcX9_init__X9_init_r5 _ (List.mem_of_getElem? (i := 7) rfl)), List.forall_mem_cons.mpr ⟨(gcX9_init__X9_init_r5 _ (List.mem_of_getElem? (i := 8) rfl)), fun _ h => (List.not_mem_nil h).elim⟩⟩⟩⟩⟩⟩⟩⟩⟩⟩⟩, gcX9_init__X60⟩⟩) gwX6_init
set_option maxRecDepth 20000 in
theorem gX9_init_X6_init : GoodIn wsX9_init (wsX6_init) := ggX9_init_X6_init
theorem gcX9_init__X10 : ∀ w ∈ wsX10, w ∈ wsX9_init := fun w h => List.mem_cons_of_mem _ (List.mem_append_left _ (List.mem_append_left _ (List.mem_append_left _ (List.mem_append_left _ (List.mem_append_right _ (h))))))
set_option maxRecDepth 20000 in
theorem gwX1_init : wsX1_init.all goodWord = true := by decide +kernel
set_option maxRecDepth 20000 in
theorem ggX9_init_X1_init : GoodIn wsX9_init wsX1_init := goodIn_sub (List.forall_mem_cons.mpr ⟨(gcX9_init__X9_init_r5 _ (List.mem_of_getElem? (i := 11) rfl)), List.forall_mem_append.mpr ⟨List.forall_mem_cons.mpr ⟨(gcX9_init__X9_init_r5 _ (List.mem_of_getElem? (i := 12) rfl)), List.forall_mem_cons.mpr ⟨(gcX9_init__X9_init_r1 _ (List.mem_of_getElem? (i := 1) rfl)), List.forall_mem_cons.mpr ⟨(gcX9_init__X9_init_r1 _ (List.mem_of_getElem? (i := 2) rfl)), List.forall_mem_cons.mpr ⟨(gcX9_init__X9_init_r5 _ (List.mem_of_getElem? (i := 13) rfl)), List.forall_mem_cons.mpr ⟨(gcX9_init__X9_init_r5 _ (List.mem_of_getElem? (i := 14) rfl)), List.forall_mem_cons.mpr ⟨(gcX9_init__X9_init_r5 _ (List.mem_of_getElem? (i := 15) rfl)), List.forall_mem_cons.mpr ⟨(gcX9_init__X9_init_r5 _ (List.mem_of_getElem? (i := 16) rfl)), List.forall_mem_cons.mpr ⟨(gcX9_init__X9_init_r1 _ (List.mem_of_getElem? (i := 3) rfl)), List.forall_mem_cons.mpr ⟨(gcX9_init__X9_init_r5 _ (List.mem_of_getElem? (i := 17) rfl)), List.forall_mem_cons.mpr ⟨(gcX9_init__X9_init_r5 _ (List.mem_of_getElem? (i := 18) rfl)), List.forall_mem_cons.mpr ⟨(gcX9_init__X9_init_r5 _ (List.mem_of_getElem? (i := 19) rfl)), fun _ h => (List.not_mem_nil h).elim⟩⟩⟩⟩⟩⟩⟩⟩⟩⟩⟩, gcX9_init__X10⟩⟩) gwX1_init
set_option maxRecDepth 20000 in
theorem gX9_init_X1_init : GoodIn wsX9_init (wsX1_init) := ggX9_init_X1_init
theorem gcX9_init__X9_init_r6 : ∀ w ∈ wsX9_init_r6, w ∈ wsX9_init := fun w h => List.mem_cons_of_mem _ (List.mem_append_left _ (List.mem_append_left _ (List.mem_append_left _ (List.mem_append_left _ (List.mem_append_left _ (List.mem_append_left _ (List.mem_append_left _ (List.mem_append_left _ (List.mem_append_left _ (List.mem_append_left _ (List.mem_append_right _ (List.mem_append_right _ (List.mem_append_right _ (List.mem_append_right _ (List.mem_append_right _ (List.mem_append_left _ (h)))))))))))))))))
theorem gcX9_init__X40 : ∀ w ∈ wsX40, w ∈ wsX9_init := fun w h => List.mem_cons_of_mem _ (List.mem_append_left _ (List.mem_append_left _ (List.mem_append_left _ (List.mem_append_right _ (h)))))
set_option maxRecDepth 20000 in
theorem gwX4_init : wsX4_init.all goodWord = true := by decide +kernel
set_option maxRecDepth 20000 in
theorem ggX9_init_X4_init : GoodIn wsX9_init wsX4_init := goodIn_sub (List.forall_mem_cons.mpr ⟨(gcX9_init__X9_init_r5 _ (List.mem_of_getElem? (i := 22) rfl)), List.forall_mem_append.mpr ⟨List.forall_mem_cons.mpr ⟨(gcX9_init__X9_init_r5 _ (List.mem_of_getElem? (i := 23) rfl)), List.forall_mem_cons.mpr ⟨(gcX9_init__X9_init_r1 _ (List.mem_of_getElem? (i := 1) rfl)), List.forall_mem_cons.mpr ⟨(gcX9_init__X9_init_r1 _ (List.mem_of_getElem? (i := 2) rfl)), List.forall_mem_cons.mpr ⟨(gcX9_init__X9_init_r1 _ (List.mem_of_getElem? (i := 3) rfl)), List.forall_mem_cons.mpr ⟨(gcX9_init__X9_init_r6 _ (List.mem_of_getElem? (i := 0) rfl)), List.forall_mem_cons.mpr ⟨(gcX9_init__X9_init_r6 _ (List.mem_of_getElem? (i := 1) rfl)), List.forall_mem_cons.mpr ⟨(gcX9_init__X9_init_r5 _ (List.mem_of_getElem? (i := 13) rfl)), List.forall_mem_cons.mpr ⟨(gcX9_init__X9_init_r6 _ (List.mem_of_getElem? (i := 2) rfl)), List.forall_mem_cons.mpr ⟨(gcX9_init__X9_init_r6 _ (List.mem_of_getElem? (i := 3) rfl)), List.forall_mem_cons.mpr ⟨(gcX9_init__X9_init_r6 _ (List.mem_of_getElem? (i := 4) rfl)), List.forall_mem_cons.mpr ⟨(gcX9_init__X9_init_r6 _ (List.mem_of_getElem? (i := 5) rfl)), fun _ h => (List.not_mem_nil h).elim⟩⟩⟩⟩⟩⟩⟩⟩⟩⟩⟩, gcX9_init__X40⟩⟩) gwX4_init
set_option maxRecDepth 20000 in
theorem gX9_init_X4_init : GoodIn wsX9_init (wsX4_init) := ggX9_init_X4_init
theorem gcX9_init__X20 : ∀ w ∈ wsX20, w ∈ wsX9_init := fun w h => List.mem_cons_of_mem _ (List.mem_append_left _ (List.mem_append_left _ (List.mem_append_right _ (h))))
set_option maxRecDepth 20000 in
theorem gwX2_init : wsX2_init.all goodWord = true := by decide +kernel
set_option maxRecDepth 20000 in
theorem ggX9_init_X2_init : GoodIn wsX9_init wsX2_init := goodIn_sub (List.forall_mem_cons.mpr ⟨(gcX9_init__X9_init_r6 _ (List.mem_of_getElem? (i := 8) rfl)), List.forall_mem_append.mpr ⟨List.forall_mem_cons.mpr ⟨(gcX9_init__X9_init_r6 _ (List.mem_of_getElem? (i := 9) rfl)), List.forall_mem_cons.mpr ⟨(gcX9_init__X9_init_r1 _ (List.mem_of_getElem? (i := 1) rfl)), List.forall_mem_cons.mpr ⟨(gcX9_init__X9_init_r1 _ (List.mem_of_getElem? (i := 2) rfl)), List.forall_mem_cons.mpr ⟨(gcX9_init__X9_init_r1 _ (List.mem_of_getElem? (i := 3) rfl)), List.forall_mem_cons.mpr ⟨(gcX9_init__X9_init_r6 _ (List.mem_of_getElem? (i := 10) rfl)), List.forall_mem_cons.mpr ⟨(gcX9_init__X9_init_r6 _ (List.mem_of_getElem? (i := 11) rfl)), List.forall_mem_cons.mpr ⟨(gcX9_init__X9_init_r6 _ (List.mem_of_getElem? (i := 12) rfl)), List.forall_mem_cons.mpr ⟨(gcX9_init__X9_init_r6 _ (List.mem_of_getElem? (i := 13) rfl)), fun _ h => (List.not_mem_nil h).elim⟩⟩⟩⟩⟩⟩⟩⟩, gcX9_init__X20⟩⟩) gwX2_init
set_option maxRecDepth 20000 in
theorem gX9_init_X2_init : GoodIn wsX9_init (wsX2_init) := ggX9_init_X2_init
theorem gcX9_init__X9_init_r7 : ∀ w ∈ wsX9_init_r7, w ∈ wsX9_init := fun w h => List.mem_cons_of_mem _ (List.mem_append_left _ (List.mem_append_left _ (List.mem_append_left _ (List.mem_append_left _ (List.mem_append_left _ (List.mem_append_left _ (List.mem_append_left _ (List.mem_append_left _ (List.mem_append_left _ (List.mem_append_left _ (List.mem_append_right _ (List.mem_append_right _ (List.mem_append_right _ (List.mem_append_right _ (List.mem_append_right _ (List.mem_append_right _ (h)))))))))))))))))
theorem gcX9_init__X70 : ∀ w ∈ wsX70, w ∈ wsX9_init := fun w h => List.mem_cons_of_mem _ (List.mem_append_left _ (List.mem_append_right _ (h)))
set_option maxRecDepth 20000 in
theorem gwX7_init : wsX7_init.all goodWord = true := by decide +kernel
set_option maxRecDepth 20000 in
theorem ggX9_init_X7_init : GoodIn wsX9_init wsX7_init := goodIn_sub (List.forall_mem_cons.mpr ⟨(gcX9_init__X9_init_r6 _ (List.mem_of_getElem? (i := 16) rfl)), List.forall_mem_append.mpr ⟨List.forall_mem_cons.mpr ⟨(gcX9_init__X9_init_r6 _ (List.mem_of_getElem? (i := 17) rfl)), List.forall_mem_cons.mpr ⟨(gcX9_init__X9_init_r1 _ (List.mem_of_getElem? (i := 1) rfl)), List.forall_mem_cons.mpr ⟨(gcX9_init__X9_init_r1 _ (List.mem_of_getElem? (i := 2) rfl)), List.forall_mem_cons.mpr ⟨(gcX9_init__X9_init_r6 _ (List.mem_of_getElem? (i := 18) rfl)), List.forall_mem_cons.mpr ⟨(gcX9_init__X9_init_r1 _ (List.mem_of_getElem? (i := 3) rfl)), List.forall_mem_cons.mpr ⟨(gcX9_init__X9_init_r6 _ (List.mem_of_getElem? (i := 19) rfl)), List.forall_mem_cons.mpr ⟨(gcX9_init__X9_init_r6 _ (List.mem_of_getElem? (i := 20) rfl)), List.forall_mem_cons.mpr ⟨(gcX9_init__X9_init_r6 _ (List.mem_of_getElem? (i := 21) rfl)), List.forall_mem_cons.mpr ⟨(gcX9_init__X9_init_r6 _ (List.mem_of_getElem? (i := 22) rfl)), List.forall_mem_cons.mpr ⟨(gcX9_init__X9_init_r6 _ (List.mem_of_getElem? (i := 23) rfl)), List.forall_mem_cons.mpr ⟨(gcX9_init__X9_init_r7 _ (List.mem_of_getElem? (i := 0) rfl)), List.forall_mem_cons.mpr ⟨(gcX9_init__X9_init_r7 _ (List.mem_of_getElem? (i := 1) rfl)), List.forall_mem_cons.mpr ⟨(gcX9_init__X9_init_r7 _ (List.mem_of_getElem? (i := 2) rfl)), List.forall_mem_cons.mpr ⟨(gcX9_init__X9_init_r7 _ (List.mem_of_getElem? (i := 3) rfl)), List.forall_mem_cons.mpr ⟨(gcX9_init__X9_init_r7 _ (List.mem_of_getElem? (i := 4) rfl)), List.forall_mem_cons.mpr ⟨(gcX9_init__X9_init_r7 _ (List.mem_of_getElem? (i := 5) rfl)), List.forall_mem_cons.mpr ⟨(gcX9_init__X9_init_r7 _ (List.mem_of_getElem? (i := 6) rfl)), List.forall_mem_cons.mpr ⟨(gcX9_init__X9_init_r7 _ (List.mem_of_getElem? (i := 7) rfl)), fun _ h => (List.not_mem_nil h).elim⟩⟩⟩⟩⟩⟩⟩⟩⟩⟩⟩⟩⟩⟩⟩⟩⟩⟩, gcX9_init__X70⟩⟩) gwX7_init
set_option maxRecDepth 20000 in
theorem gX9_init_X7_init : GoodIn wsX9_init (wsX7_init) := ggX9_init_X7_init
theorem gcX9_init__X00 : ∀ w ∈ wsX00, w ∈ wsX9_init := fun w h => List.mem_cons_of_mem _ (List.mem_append_right _ (h))
set_option maxRecDepth 20000 in
theorem gwX0_init : wsX0_init.all goodWord = true := by decide +kernel
set_option maxRecDepth 20000 in
theorem ggX9_init_X0_init : GoodIn wsX9_init wsX0_init := goodIn_sub (List.forall_mem_cons.mpr ⟨(gcX9_init__X9_init_r7 _ (List.mem_of_getElem? (i := 10) rfl)), List.forall_mem_append.mpr ⟨List.forall_mem_cons.mpr ⟨(gcX9_init__X9_init_r7 _ (List.mem_of_getElem? (i := 11) rfl)), List.forall_mem_cons.mpr ⟨(gcX9_init__X9_init_r1 _ (List.mem_of_getElem? (i := 1) rfl)), List.forall_mem_cons.mpr ⟨(gcX9_init__X9_init_r1 _ (List.mem_of_getElem? (i := 2) rfl)), List.forall_mem_cons.mpr ⟨(gcX9_init__X9_init_r1 _ (List.mem_of_getElem? (i := 3) rfl)), List.forall_mem_cons.mpr ⟨(gcX9_init__X9_init_r7 _ (List.mem_of_getElem? (i := 12) rfl)), List.forall_mem_cons.mpr ⟨(gcX9_init__X9_init_r7 _ (List.mem_of_getElem? (i := 13) rfl)), List.forall_mem_cons.mpr ⟨(gcX9_init__X9_init_r7 _ (List.mem_of_getElem? (i := 14) rfl)), List.forall_mem_cons.mpr ⟨(gcX9_init__X9_init_r7 _ (List.mem_of_getElem? (i := 15) rfl)), fun _ h => (List.not_mem_nil h).elim⟩⟩⟩⟩⟩⟩⟩⟩, gcX9_init__X00⟩⟩) gwX0_init
set_option maxRecDepth 20000 in
theorem gX9_init_X0_init : GoodIn wsX9_init (wsX0_init) := ggX9_init_X0_init
theorem dX9_init_0 : decode cX9_init 0 = .ok (.aload_n 0, 1) := by decide +kernel
theorem dX9_init_1 : decode cX9_init 1 = .ok (.invokespecial 3, 3) := by decide +kernel
theorem dX9_init_4 : decode cX9_init 4 = .ok (.aload_n 0, 1) := by decide +kernel
theorem dX9_init_5 : decode cX9_init 5 = .ok (.sipush 1600, 3) := by decide +kernel
theorem dX9_init_8 : decode cX9_init 8 = .ok (.newarray .int, 2) := by decide +kernel
theorem dX9_init_10 : decode cX9_init 10 = .ok (.putfield 9, 3) := by decide +kernel
theorem dX9_init_13 : decode cX9_init 13 = .ok (.aload_n 0, 1) := by decide +kernel
theorem dX9_init_14 : decode cX9_init 14 = .ok (.iconst 0, 1) := by decide +kernel
theorem dX9_init_15 : decode cX9_init 15 = .ok (.putfield 13, 3) := by decide +kernel
theorem dX9_init_18 : decode cX9_init 18 = .ok (.aload_n 0, 1) := by decide +kernel
theorem dX9_init_19 : decode cX9_init 19 = .ok (.new 17, 3) := by decide +kernel
theorem dX9_init_22 : decode cX9_init 22 = .ok (.dup, 1) := by decide +kernel
theorem dX9_init_23 : decode cX9_init 23 = .ok (.invokespecial 19, 3) := by decide +kernel
theorem dX9_init_26 : decode cX9_init 26 = .ok (.putfield 20, 3) := by decide +kernel
theorem dX9_init_29 : decode cX9_init 29 = .ok (.aload_n 0, 1) := by decide +kernel
theorem dX9_init_30 : decode cX9_init 30 = .ok (.new 17, 3) := by decide +kernel
theorem dX9_init_33 : decode cX9_init 33 = .ok (.dup, 1) := by decide +kernel
theorem dX9_init_34 : decode cX9_init 34 = .ok (.invokespecial 19, 3) := by decide +kernel
theorem dX9_init_37 : decode cX9_init 37 = .ok (.putfield 24, 3) := by decide +kernel
theorem dX9_init_40 : decode cX9_init 40 = .ok (.aload_n 0, 1) := by decide +kernel
theorem dX9_init_41 : decode cX9_init 41 = .ok (.new 27, 3) := by decide +kernel
theorem dX9_init_44 : decode cX9_init 44 = .ok (.dup, 1) := by decide +kernel
theorem dX9_init_45 : decode cX9_init 45 = .ok (.aload_n 0, 1) := by decide +kernel
theorem dX9_init_46 : decode cX9_init 46 = .ok (.getfield 9, 3) := by decide +kernel
theorem dX9_init_49 : decode cX9_init 49 = .ok (.aload_n 0, 1) := by decide +kernel
theorem dX9_init_50 : decode cX9_init 50 = .ok (.getfield 24, 3) := by decide +kernel
theorem dX9_init_53 : decode cX9_init 53 = .ok (.invokespecial 29, 3) := by decide +kernel
theorem dX9_init_56 : decode cX9_init 56 = .ok (.putfield 32, 3) := by decide +kernel
theorem dX9_init_59 : decode cX9_init 59 = .ok (.aload_n 0, 1) := by decide +kernel
theorem dX9_init_60 : decode cX9_init 60 = .ok (.new 36, 3) := by decide +kernel
theorem dX9_init_63 : decode cX9_init 63 = .ok (.dup, 1) := by decide +kernel
theorem dX9_init_64 : decode cX9_init 64 = .ok (.aload_n 0, 1) := by decide +kernel
theorem dX9_init_65 : decode cX9_init 65 = .ok (.getfield 20, 3) := by decide +kernel
theorem dX9_init_68 : decode cX9_init 68 = .ok (.invokespecial 38, 3) := by decide +kernel
theorem dX9_init_71 : decode cX9_init 71 = .ok (.putfield 41, 3) := by decide +kernel
theorem dX9_init_74 : decode cX9_init 74 = .ok (.aload_n 0, 1) := by decide +kernel
theorem dX9_init_75 : decode cX9_init 75 = .ok (.new 36, 3) := by decide +kernel
theorem dX9_init_78 : decode cX9_init 78 = .ok (.dup, 1) := by decide +kernel
theorem dX9_init_79 : decode cX9_init 79 = .ok (.aload_n 0, 1) := by decide +kernel
theorem dX9_init_80 : decode cX9_init 80 = .ok (.getfield 20, 3) := by decide +kernel
theorem dX9_init_83 : decode cX9_init 83 = .ok (.invokespecial 38, 3) := by decide +kernel
theorem dX9_init_86 : decode cX9_init 86 = .ok (.putfield 45, 3) := by decide +kernel
theorem dX9_init_89 : decode cX9_init 89 = .ok (.aload_n 0, 1) := by decide +kernel
theorem dX9_init_90 : decode cX9_init 90 = .ok (.new 36, 3) := by decide +kernel
theorem dX9_init_93 : decode cX9_init 93 = .ok (.dup, 1) := by decide +kernel
theorem dX9_init_94 : decode cX9_init 94 = .ok (.aload_n 0, 1) := by decide +kernel
theorem dX9_init_95 : decode cX9_init 95 = .ok (.getfield 20, 3) := by decide +kernel
theorem dX9_init_98 : decode cX9_init 98 = .ok (.invokespecial 38, 3) := by decide +kernel
theorem dX9_init_101 : decode cX9_init 101 = .ok (.putfield 48, 3) := by decide +kernel
theorem dX9_init_104 : decode cX9_init 104 = .ok (.aload_n 0, 1) := by decide +kernel
theorem dX9_init_105 : decode cX9_init 105 = .ok (.new 51, 3) := by decide +kernel
theorem dX9_init_108 : decode cX9_init 108 = .ok (.dup, 1) := by decide +kernel
theorem dX9_init_109 : decode cX9_init 109 = .ok (.aload_n 0, 1) := by decide +kernel
theorem dX9_init_110 : decode cX9_init 110 = .ok (.getfield 20, 3) := by decide +kernel
theorem dX9_init_113 : decode cX9_init 113 = .ok (.aload_n 0, 1) := by decide +kernel
theorem dX9_init_114 : decode cX9_init 114 = .ok (.getfield 41, 3) := by decide +kernel
theorem dX9_init_117 : decode cX9_init 117 = .ok (.invokespecial 53, 3) := by decide +kernel
theorem dX9_init_120 : decode cX9_init 120 = .ok (.putfield 56, 3) := by decide +kernel
theorem dX9_init_123 : decode cX9_init 123 = .ok (.aload_n 0, 1) := by decide +kernel
theorem dX9_init_124 : decode cX9_init 124 = .ok (.new 60, 3) := by decide +kernel
theorem dX9_init_127 : decode cX9_init 127 = .ok (.dup, 1) := by decide +kernel
theorem dX9_init_128 : decode cX9_init 128 = .ok (.aload_n 0, 1) := by decide +kernel
theorem dX9_init_129 : decode cX9_init 129 = .ok (.getfield 20, 3) := by decide +kernel
theorem dX9_init_132 : decode cX9_init 132 = .ok (.aload_n 0, 1) := by decide +kernel
theorem dX9_init_133 : decode cX9_init 133 = .ok (.getfield 41, 3) := by decide +kernel
theorem dX9_init_136 : decode cX9_init 136 = .ok (.invokespecial 62, 3) := by decide +kernel
theorem dX9_init_139 : decode cX9_init 139 = .ok (.putfield 63, 3) := by decide +kernel
theorem dX9_init_142 : decode cX9_init 142 = .ok (.aload_n 0, 1) := by decide +kernel
theorem dX9_init_143 : decode cX9_init 143 = .ok (.new 67, 3) := by decide +kernel
theorem dX9_init_146 : decode cX9_init 146 = .ok (.dup, 1) := by decide +kernel
theorem dX9_init_147 : decode cX9_init 147 = .ok (.aload_n 0, 1) := by decide +kernel
theorem dX9_init_148 : decode cX9_init 148 = .ok (.getfield 20, 3) := by decide +kernel
theorem dX9_init_151 : decode cX9_init 151 = .ok (.aload_n 0, 1) := by decide +kernel
theorem dX9_init_152 : decode cX9_init 152 = .ok (.getfield 41, 3) := by decide +kernel
theorem dX9_init_155 : decode cX9_init 155 = .ok (.invokespecial 69, 3) := by decide +kernel
theorem dX9_init_158 : decode cX9_init 158 = .ok (.putfield 70, 3) := by decide +kernel
theorem dX9_init_161 : decode cX9_init 161 = .ok (.aload_n 0, 1) := by decide +kernel
theorem dX9_init_162 : decode cX9_init 162 = .ok (.new 74, 3) := by decide +kernel
theorem dX9_init_165 : decode cX9_init 165 = .ok (.dup, 1) := by decide +kernel
theorem dX9_init_166 : decode cX9_init 166 = .ok (.aload_n 0, 1) := by decide +kernel
theorem dX9_init_167 : decode cX9_init 167 = .ok (.getfield 20, 3) := by decide +kernel
theorem dX9_init_170 : decode cX9_init 170 = .ok (.aload_n 0, 1) := by decide +kernel
theorem dX9_init_171 : decode cX9_init 171 = .ok (.getfield 41, 3) := by decide +kernel
theorem dX9_init_174 : decode cX9_init 174 = .ok (.invokespecial 76, 3) := by decide +kernel
theorem dX9_init_177 : decode cX9_init 177 = .ok (.putfield 77, 3) := by decide +kernel
theorem dX9_init_180 : decode cX9_init 180 = .ok (.aload_n 0, 1) := by decide +kernel
theorem dX9_init_181 : decode cX9_init 181 = .ok (.new 81, 3) := by decide +kernel
theorem dX9_init_184 : decode cX9_init 184 = .ok (.dup, 1) := by decide +kernel
theorem dX9_init_185 : decode cX9_init 185 = .ok (.aload_n 0, 1) := by decide +kernel
theorem dX9_init_186 : decode cX9_init 186 = .ok (.getfield 20, 3) := by decide +kernel
theorem dX9_init_189 : decode cX9_init 189 = .ok (.aload_n 0, 1) := by decide +kernel
theorem dX9_init_190 : decode cX9_init 190 = .ok (.getfield 41, 3) := by decide +kernel
theorem dX9_init_193 : decode cX9_init 193 = .ok (.invokespecial 83, 3) := by decide +kernel
theorem dX9_init_196 : decode cX9_init 196 = .ok (.putfield 84, 3) := by decide +kernel
theorem dX9_init_199 : decode cX9_init 199 = .ok (.aload_n 0, 1) := by decide +kernel
theorem dX9_init_200 : decode cX9_init 200 = .ok (.new 88, 3) := by decide +kernel
theorem dX9_init_203 : decode cX9_init 203 = .ok (.dup, 1) := by decide +kernel
theorem dX9_init_204 : decode cX9_init 204 = .ok (.aload_n 0, 1) := by decide +kernel
theorem dX9_init_205 : decode cX9_init 205 = .ok (.getfield 20, 3) := by decide +kernel
theorem dX9_init_208 : decode cX9_init 208 = .ok (.invokespecial 90, 3) := by decide +kernel
theorem dX9_init_211 : decode cX9_init 211 = .ok (.putfield 91, 3) := by decide +kernel
theorem dX9_init_214 : decode cX9_init 214 = .ok (.aload_n 0, 1) := by decide +kernel
theorem dX9_init_215 : decode cX9_init 215 = .ok (.bipush 60, 2) := by decide +kernel
theorem dX9_init_217 : decode cX9_init 217 = .ok (.newarray .int, 2) := by decide +kernel
theorem dX9_init_219 : decode cX9_init 219 = .ok (.putfield 95, 3) := by decide +kernel
theorem dX9_init_222 : decode cX9_init 222 = .ok (.aload_n 0, 1) := by decide +kernel
theorem dX9_init_223 : decode cX9_init 223 = .ok (.iconst 0, 1) := by decide +kernel
theorem dX9_init_224 : decode cX9_init 224 = .ok (.putfield 98, 3) := by decide +kernel
theorem dX9_init_227 : decode cX9_init 227 = .ok (.aload_n 0, 1) := by decide +kernel
theorem dX9_init_228 : decode cX9_init 228 = .ok (.iconst (-1), 1) := by decide +kernel
theorem dX9_init_229 : decode cX9_init 229 = .ok (.putfield 101, 3) := by decide +kernel
theorem dX9_init_232 : decode cX9_init 232 = .ok (.return_, 1) := by decide +kernel
theorem gcX9_feed__X90 : ∀ w ∈ wsX90, w ∈ wsX9_feed := fun w h => List.mem_cons_of_mem _ (List.mem_append_right _ (h))
set_option maxRecDepth 20000 in
theorem gwX9_tapeNumber : wsX9_tapeNumber.all goodWord = true := by decide +kernel
set_option maxRecDepth 20000 in
theorem ggX9_feed_X9_tapeNumber : GoodIn wsX9_feed wsX9_tapeNumber := goodIn_sub (List.forall_mem_cons.mpr ⟨(List.mem_of_getElem? (i := 6) rfl), List.forall_mem_append.mpr ⟨List.forall_mem_cons.mpr ⟨(List.mem_of_getElem? (i := 7) rfl), List.forall_mem_cons.mpr ⟨(List.mem_of_getElem? (i := 1) rfl), fun _ h => (List.not_mem_nil h).elim⟩⟩, gcX9_feed__X90⟩⟩) gwX9_tapeNumber
set_option maxRecDepth 20000 in
theorem gX9_feed_X9_tapeNumber : GoodIn wsX9_feed (wsV RX9 104 RX9 yX9_tapeNumber wsX9_tapeNumber) := goodIn_app (goodIn_sub (List.forall_mem_cons.mpr ⟨(List.mem_of_getElem? (i := 2) rfl), List.forall_mem_cons.mpr ⟨(List.mem_of_getElem? (i := 3) rfl), List.forall_mem_cons.mpr ⟨(List.mem_of_getElem? (i := 4) rfl), List.forall_mem_cons.mpr ⟨(List.mem_of_getElem? (i := 5) rfl), fun _ h => (List.not_mem_nil h).elim⟩⟩⟩⟩) (by decide +kernel)) ggX9_feed_X9_tapeNumber
theorem dX9_feed_0 : decode cX9_feed 0 = .ok (.aload_n 0, 1) := by decide +kernel
theorem dX9_feed_1 : decode cX9_feed 1 = .ok (.getfield 13, 3) := by decide +kernel
theorem dX9_feed_4 : decode cX9_feed 4 = .ok (.bipush 20, 2) := by decide +kernel
theorem dX9_feed_6 : decode cX9_feed 6 = .ok (.iadd, 1) := by decide +kernel
theorem dX9_feed_7 : decode cX9_feed 7 = .ok (.sipush 1600, 3) := by decide +kernel
theorem dX9_feed_10 : decode cX9_feed 10 = .ok (.if_icmp .le 5, 3) := by decide +kernel
theorem dX9_feed_13 : decode cX9_feed 13 = .ok (.iconst (-1), 1) := by decide +kernel
theorem dX9_feed_14 : decode cX9_feed 14 = .ok (.ireturn, 1) := by decide +kernel
theorem dX9_feed_15 : decode cX9_feed 15 = .ok (.aload_n 0, 1) := by decide +kernel
theorem dX9_feed_16 : decode cX9_feed 16 = .ok (.iload_n 1, 1) := by decide +kernel
theorem dX9_feed_17 : decode cX9_feed 17 = .ok (.invokevirtual 104, 3) := by decide +kernel
theorem dX9_feed_20 : decode cX9_feed 20 = .ok (.aload_n 0, 1) := by decide +kernel
theorem dX9_feed_21 : decode cX9_feed 21 = .ok (.iload_n 2, 1) := by decide +kernel
theorem dX9_feed_22 : decode cX9_feed 22 = .ok (.invokevirtual 104, 3) := by decide +kernel
theorem dX9_feed_25 : decode cX9_feed 25 = .ok (.aload_n 0, 1) := by decide +kernel
theorem dX9_feed_26 : decode cX9_feed 26 = .ok (.iload_n 3, 1) := by decide +kernel
theorem dX9_feed_27 : decode cX9_feed 27 = .ok (.invokevirtual 104, 3) := by decide +kernel
theorem dX9_feed_30 : decode cX9_feed 30 = .ok (.aload_n 0, 1) := by decide +kernel
theorem dX9_feed_31 : decode cX9_feed 31 = .ok (.iload 4, 2) := by decide +kernel
theorem dX9_feed_33 : decode cX9_feed 33 = .ok (.invokevirtual 104, 3) := by decide +kernel
theorem dX9_feed_36 : decode cX9_feed 36 = .ok (.aload_n 0, 1) := by decide +kernel
theorem dX9_feed_37 : decode cX9_feed 37 = .ok (.iload 5, 2) := by decide +kernel
theorem dX9_feed_39 : decode cX9_feed 39 = .ok (.invokevirtual 104, 3) := by decide +kernel
theorem dX9_feed_42 : decode cX9_feed 42 = .ok (.aload_n 0, 1) := by decide +kernel
theorem dX9_feed_43 : decode cX9_feed 43 = .ok (.getfield 13, 3) := by decide +kernel
theorem dX9_feed_46 : decode cX9_feed 46 = .ok (.ireturn, 1) := by decide +kernel
theorem dX9_tapeNumber_0 : decode cX9_tapeNumber 0 = .ok (.bipush 24, 2) := by decide +kernel
theorem dX9_tapeNumber_2 : decode cX9_tapeNumber 2 = .ok (.istore_n 2, 1) := by decide +kernel
theorem dX9_tapeNumber_3 : decode cX9_tapeNumber 3 = .ok (.iload_n 2, 1) := by decide +kernel
theorem dX9_tapeNumber_4 : decode cX9_tapeNumber 4 = .ok (.ifCond .lt 35, 3) := by decide +kernel
theorem dX9_tapeNumber_7 : decode cX9_tapeNumber 7 = .ok (.aload_n 0, 1) := by decide +kernel
theorem dX9_tapeNumber_8 : decode cX9_tapeNumber 8 = .ok (.getfield 9, 3) := by decide +kernel
theorem dX9_tapeNumber_11 : decode cX9_tapeNumber 11 = .ok (.aload_n 0, 1) := by decide +kernel
theorem dX9_tapeNumber_12 : decode cX9_tapeNumber 12 = .ok (.getfield 13, 3) := by decide +kernel
theorem dX9_tapeNumber_15 : decode cX9_tapeNumber 15 = .ok (.iload_n 1, 1) := by decide +kernel
theorem dX9_tapeNumber_16 : decode cX9_tapeNumber 16 = .ok (.iload_n 2, 1) := by decide +kernel
theorem dX9_tapeNumber_17 : decode cX9_tapeNumber 17 = .ok (.iushr, 1) := by decide +kernel
theorem dX9_tapeNumber_18 : decode cX9_tapeNumber 18 = .ok (.sipush 255, 3) := by decide +kernel
theorem dX9_tapeNumber_21 : decode cX9_tapeNumber 21 = .ok (.iand, 1) := by decide +kernel
theorem dX9_tapeNumber_22 : decode cX9_tapeNumber 22 = .ok (.iastore, 1) := by decide +kernel
theorem dX9_tapeNumber_23 : decode cX9_tapeNumber 23 = .ok (.aload_n 0, 1) := by decide +kernel
theorem dX9_tapeNumber_24 : decode cX9_tapeNumber 24 = .ok (.dup, 1) := by decide +kernel
theorem dX9_tapeNumber_25 : decode cX9_tapeNumber 25 = .ok (.getfield 13, 3) := by decide +kernel
theorem dX9_tapeNumber_28 : decode cX9_tapeNumber 28 = .ok (.iconst 1, 1) := by decide +kernel
theorem dX9_tapeNumber_29 : decode cX9_tapeNumber 29 = .ok (.iadd, 1) := by decide +kernel
theorem dX9_tapeNumber_30 : decode cX9_tapeNumber 30 = .ok (.putfield 13, 3) := by decide +kernel
theorem dX9_tapeNumber_33 : decode cX9_tapeNumber 33 = .ok (.iinc 2 (-8), 3) := by decide +kernel
theorem dX9_tapeNumber_36 : decode cX9_tapeNumber 36 = .ok (.goto (-33), 3) := by decide +kernel
theorem dX9_tapeNumber_39 : decode cX9_tapeNumber 39 = .ok (.return_, 1) := by decide +kernel
theorem dX9_end_0 : decode cX9_end 0 = .ok (.iload_n 1, 1) := by decide +kernel
theorem dX9_end_1 : decode cX9_end 1 = .ok (.ifCond .lt 11, 3) := by decide +kernel
theorem dX9_end_4 : decode cX9_end 4 = .ok (.iload_n 1, 1) := by decide +kernel
theorem dX9_end_5 : decode cX9_end 5 = .ok (.aload_n 0, 1) := by decide +kernel
theorem dX9_end_6 : decode cX9_end 6 = .ok (.getfield 13, 3) := by decide +kernel
theorem dX9_end_9 : decode cX9_end 9 = .ok (.if_icmp .le 5, 3) := by decide +kernel
theorem dX9_end_12 : decode cX9_end 12 = .ok (.iconst 0, 1) := by decide +kernel
theorem dX9_end_13 : decode cX9_end 13 = .ok (.ireturn, 1) := by decide +kernel
theorem dX9_end_14 : decode cX9_end 14 = .ok (.aload_n 0, 1) := by decide +kernel
theorem dX9_end_15 : decode cX9_end 15 = .ok (.iload_n 1, 1) := by decide +kernel
theorem dX9_end_16 : decode cX9_end 16 = .ok (.putfield 13, 3) := by decide +kernel
theorem dX9_end_19 : decode cX9_end 19 = .ok (.iconst 1, 1) := by decide +kernel
theorem dX9_end_20 : decode cX9_end 20 = .ok (.ireturn, 1) := by decide +kernel
theorem gcX9_block__X9_block_r1 : ∀ w ∈ wsX9_block_r1, w ∈ wsX9_block := fun w h => List.mem_cons_of_mem _ (List.mem_append_left _ (List.mem_append_left _ (List.mem_append_left _ (List.mem_append_left _ (List.mem_append_left _ (List.mem_append_left _ (h)))))))
theorem gcX9_block__X9_block_r2 : ∀ w ∈ wsX9_block_r2, w ∈ wsX9_block := fun w h => List.mem_cons_of_mem _ (List.mem_append_left _ (List.mem_append_left _ (List.mem_append_left _ (List.mem_append_left _ (List.mem_append_left _ (List.mem_append_right _ (List.mem_append_left _ (h))))))))
set_option maxRecDepth 20000 in
theorem gmX9_block__X3_read_r1 : ∀ w ∈ wsX3_read_r1, w ∈ wsX9_block := List.forall_mem_cons.mpr ⟨(gcX9_block__X9_block_r1 _ (List.mem_of_getElem? (i := 17) rfl)), List.forall_mem_cons.mpr ⟨(gcX9_block__X9_block_r1 _ (List.mem_of_getElem? (i := 18) rfl)), List.forall_mem_cons.mpr ⟨(gcX9_block__X9_block_r1 _ (List.mem_of_getElem? (i := 19) rfl)), List.forall_mem_cons.mpr ⟨(gcX9_block__X9_block_r1 _ (List.mem_of_getElem? (i := 20) rfl)), List.forall_mem_cons.mpr ⟨(gcX9_block__X9_block_r1 _ (List.mem_of_getElem? (i := 21) rfl)), List.forall_mem_cons.mpr ⟨(gcX9_block__X9_block_r1 _ (List.mem_of_getElem? (i := 22) rfl)), List.forall_mem_cons.mpr ⟨(gcX9_block__X9_block_r1 _ (List.mem_of_getElem? (i := 23) rfl)), List.forall_mem_cons.mpr ⟨(gcX9_block__X9_block_r2 _ (List.mem_of_getElem? (i := 0) rfl)), List.forall_mem_cons.mpr ⟨(gcX9_block__X9_block_r2 _ (List.mem_of_getElem? (i := 1) rfl)), List.forall_mem_cons.mpr ⟨(gcX9_block__X9_block_r2 _ (List.mem_of_getElem? (i := 2) rfl)), List.forall_mem_cons.mpr ⟨(gcX9_block__X9_block_r2 _ (List.mem_of_getElem? (i := 3) rfl)), List.forall_mem_cons.mpr ⟨(gcX9_block__X9_block_r2 _ (List.mem_of_getElem? (i := 4) rfl)), List.forall_mem_cons.mpr ⟨(gcX9_block__X9_block_r2 _ (List.mem_of_getElem? (i := 5) rfl)), List.forall_mem_cons.mpr ⟨(gcX9_block__X9_block_r2 _ (List.mem_of_getElem? (i := 6) rfl)), List.forall_mem_cons.mpr ⟨(gcX9_block__X9_block_r2 _ (List.mem_of_getElem? (i := 7) rfl)), List.forall_mem_cons.mpr ⟨(gcX9_block__X9_block_r2 _ (List.mem_of_getElem? (i := 8) rfl)), List.forall_mem_cons.mpr ⟨(gcX9_block__X9_block_r2 _ (List.mem_of_getElem? (i := 9) rfl)), List.forall_mem_cons.mpr ⟨(gcX9_block__X9_block_r2 _ (List.mem_of_getElem? (i := 10) rfl)), List.forall_mem_cons.mpr ⟨(gcX9_block__X9_block_r2 _ (List.mem_of_getElem? (i := 11) rfl)), List.forall_mem_cons.mpr ⟨(gcX9_block__X9_block_r2 _ (List.mem_of_getElem? (i := 12) rfl)), List.forall_mem_cons.mpr ⟨(gcX9_block__X9_block_r2 _ (List.mem_of_getElem? (i := 13) rfl)), List.forall_mem_cons.mpr ⟨(gcX9_block__X9_block_r2 _ (List.mem_of_getElem? (i := 14) rfl)), List.forall_mem_cons.mpr ⟨(gcX9_block__X9_block_r2 _ (List.mem_of_getElem? (i := 15) rfl)), List.forall_mem_cons.mpr ⟨(gcX9_block__X9_block_r2 _ (List.mem_of_getElem? (i := 16) rfl)), fun _ h => (List.not_mem_nil h).elim⟩⟩⟩⟩⟩⟩⟩⟩⟩⟩⟩⟩⟩⟩⟩⟩⟩⟩⟩⟩⟩⟩⟩⟩
theorem gcX9_block__X9_block_r3 : ∀ w ∈ wsX9_block_r3, w ∈ wsX9_block := fun w h => List.mem_cons_of_mem _ (List.mem_append_left _ (List.mem_append_left _ (List.mem_append_left _ (List.mem_append_left _ (List.mem_append_left _ (List.mem_append_right _ (List.mem_append_right _ (List.mem_append_left _ (h)))))))))
set_option maxRecDepth 20000 in
theorem gmX9_block__X3_read_r2 : ∀ w ∈ wsX3_read_r2, w ∈ wsX9_block := List.forall_mem_cons.mpr ⟨(gcX9_block__X9_block_r2 _ (List.mem_of_getElem? (i := 17) rfl)), List.forall_mem_cons.mpr ⟨(gcX9_block__X9_block_r2 _ (List.mem_of_getElem? (i := 18) rfl)), List.forall_mem_cons.mpr ⟨(gcX9_block__X9_block_r1 _ (List.mem_of_getElem? (i := 15) rfl)), List.forall_mem_cons.mpr ⟨(gcX9_block__X9_block_r2 _ (List.mem_of_getElem? (i := 19) rfl)), List.forall_mem_cons.mpr ⟨(gcX9_block__X9_block_r2 _ (List.mem_of_getElem? (i := 20) rfl)), List.forall_mem_cons.mpr ⟨(gcX9_block__X9_block_r2 _ (List.mem_of_getElem? (i := 21) rfl)), List.forall_mem_cons.mpr ⟨(gcX9_block__X9_block_r2 _ (List.mem_of_getElem? (i := 22) rfl)), List.forall_mem_cons.mpr ⟨(gcX9_block__X9_block_r2 _ (List.mem_of_getElem? (i := 23) rfl)), List.forall_mem_cons.mpr ⟨(gcX9_block__X9_block_r3 _ (List.mem_of_getElem? (i := 0) rfl)), List.forall_mem_cons.mpr ⟨(gcX9_block__X9_block_r3 _ (List.mem_of_getElem? (i := 1) rfl)), List.forall_mem_cons.mpr ⟨(gcX9_block__X9_block_r3 _ (List.mem_of_getElem? (i := 2) rfl)), List.forall_mem_cons.mpr ⟨(gcX9_block__X9_block_r3 _ (List.mem_of_getElem? (i := 3) rfl)), List.forall_mem_cons.mpr ⟨(gcX9_block__X9_block_r3 _ (List.mem_of_getElem? (i := 4) rfl)), List.forall_mem_cons.mpr ⟨(gcX9_block__X9_block_r3 _ (List.mem_of_getElem? (i := 5) rfl)), List.forall_mem_cons.mpr ⟨(gcX9_block__X9_block_r3 _ (List.mem_of_getElem? (i := 6) rfl)), List.forall_mem_cons.mpr ⟨(gcX9_block__X9_block_r3 _ (List.mem_of_getElem? (i := 7) rfl)), List.forall_mem_cons.mpr ⟨(gcX9_block__X9_block_r3 _ (List.mem_of_getElem? (i := 8) rfl)), List.forall_mem_cons.mpr ⟨(gcX9_block__X9_block_r3 _ (List.mem_of_getElem? (i := 9) rfl)), List.forall_mem_cons.mpr ⟨(gcX9_block__X9_block_r3 _ (List.mem_of_getElem? (i := 10) rfl)), List.forall_mem_cons.mpr ⟨(gcX9_block__X9_block_r3 _ (List.mem_of_getElem? (i := 11) rfl)), List.forall_mem_cons.mpr ⟨(gcX9_block__X9_block_r3 _ (List.mem_of_getElem? (i := 12) rfl)), List.forall_mem_cons.mpr ⟨(gcX9_block__X9_block_r3 _ (List.mem_of_getElem? (i := 13) rfl)), List.forall_mem_cons.mpr ⟨(gcX9_block__X9_block_r3 _ (List.mem_of_getElem? (i := 14) rfl)), List.forall_mem_cons.mpr ⟨(gcX9_block__X9_block_r3 _ (List.mem_of_getElem? (i := 15) rfl)), fun _ h => (List.not_mem_nil h).elim⟩⟩⟩⟩⟩⟩⟩⟩⟩⟩⟩⟩⟩⟩⟩⟩⟩⟩⟩⟩⟩⟩⟩⟩
theorem gcX9_block__X9_block_r4 : ∀ w ∈ wsX9_block_r4, w ∈ wsX9_block := fun w h => List.mem_cons_of_mem _ (List.mem_append_left _ (List.mem_append_left _ (List.mem_append_left _ (List.mem_append_left _ (List.mem_append_left _ (List.mem_append_right _ (List.mem_append_right _ (List.mem_append_right _ (List.mem_append_left _ (h))))))))))
set_option maxRecDepth 20000 in
theorem gmX9_block__X3_read_r3 : ∀ w ∈ wsX3_read_r3, w ∈ wsX9_block := List.forall_mem_cons.mpr ⟨(gcX9_block__X9_block_r3 _ (List.mem_of_getElem? (i := 16) rfl)), List.forall_mem_cons.mpr ⟨(gcX9_block__X9_block_r3 _ (List.mem_of_getElem? (i := 17) rfl)), List.forall_mem_cons.mpr ⟨(gcX9_block__X9_block_r3 _ (List.mem_of_getElem? (i := 18) rfl)), List.forall_mem_cons.mpr ⟨(gcX9_block__X9_block_r3 _ (List.mem_of_getElem? (i := 19) rfl)), List.forall_mem_cons.mpr ⟨(gcX9_block__X9_block_r3 _ (List.mem_of_getElem? (i := 20) rfl)), List.forall_mem_cons.mpr ⟨(gcX9_block__X9_block_r3 _ (List.mem_of_getElem? (i := 21) rfl)), List.forall_mem_cons.mpr ⟨(gcX9_block__X9_block_r3 _ (List.mem_of_getElem? (i := 22) rfl)), List.forall_mem_cons.mpr ⟨(gcX9_block__X9_block_r3 _ (List.mem_of_getElem? (i := 23) rfl)), List.forall_mem_cons.mpr ⟨(gcX9_block__X9_block_r4 _ (List.mem_of_getElem? (i := 0) rfl)), List.forall_mem_cons.mpr ⟨(gcX9_block__X9_block_r4 _ (List.mem_of_getElem? (i := 1) rfl)), List.forall_mem_cons.mpr ⟨(gcX9_block__X9_block_r4 _ (List.mem_of_getElem? (i := 2) rfl)), List.forall_mem_cons.mpr ⟨(gcX9_block__X9_block_r4 _ (List.mem_of_getElem? (i := 3) rfl)), List.forall_mem_cons.mpr ⟨(gcX9_block__X9_block_r4 _ (List.mem_of_getElem? (i := 4) rfl)), List.forall_mem_cons.mpr ⟨(gcX9_block__X9_block_r4 _ (List.mem_of_getElem? (i := 5) rfl)), List.forall_mem_cons.mpr ⟨(gcX9_block__X9_block_r4 _ (List.mem_of_getElem? (i := 6) rfl)), List.forall_mem_cons.mpr ⟨(gcX9_block__X9_block_r4 _ (List.mem_of_getElem? (i := 7) rfl)), List.forall_mem_cons.mpr ⟨(gcX9_block__X9_block_r4 _ (List.mem_of_getElem? (i := 8) rfl)), List.forall_mem_cons.mpr ⟨(gcX9_block__X9_block_r4 _ (List.mem_of_getElem? (i := 9) rfl)), List.forall_mem_cons.mpr ⟨(gcX9_block__X9_block_r4 _ (List.mem_of_getElem? (i := 10) rfl)), List.forall_mem_cons.mpr ⟨(gcX9_block__X9_block_r4 _ (List.mem_of_getElem? (i := 11) rfl)), List.forall_mem_cons.mpr ⟨(gcX9_block__X9_block_r4 _ (List.mem_of_getElem? (i := 12) rfl)), List.forall_mem_cons.mpr ⟨(gcX9_block__X9_block_r4 _ (List.mem_of_getElem? (i := 13) rfl)), List.forall_mem_cons.mpr ⟨(gcX9_block__X9_block_r4 _ (List.mem_of_getElem? (i := 14) rfl)), List.forall_mem_cons.mpr ⟨(gcX9_block__X9_block_r4 _ (List.mem_of_getElem? (i := 15) rfl)), fun _ h => (List.not_mem_nil h).elim⟩⟩⟩⟩⟩⟩⟩⟩⟩⟩⟩⟩⟩⟩⟩⟩⟩⟩⟩⟩⟩⟩⟩⟩
theorem gcX9_block__X9_block_r5 : ∀ w ∈ wsX9_block_r5, w ∈ wsX9_block := fun w h => List.mem_cons_of_mem _ (List.mem_append_left _ (List.mem_append_left _ (List.mem_append_left _ (List.mem_append_left _ (List.mem_append_left _ (List.mem_append_right _ (List.mem_append_right _ (List.mem_append_right _ (List.mem_append_right _ (List.mem_append_left _ (h)))))))))))
set_option maxRecDepth 20000 in
theorem gmX9_block__X3_read_r4 : ∀ w ∈ wsX3_read_r4, w ∈ wsX9_block := List.forall_mem_cons.mpr ⟨(gcX9_block__X9_block_r4 _ (List.mem_of_getElem? (i := 16) rfl)), List.forall_mem_cons.mpr ⟨(gcX9_block__X9_block_r4 _ (List.mem_of_getElem? (i := 17) rfl)), List.forall_mem_cons.mpr ⟨(gcX9_block__X9_block_r4 _ (List.mem_of_getElem? (i := 18) rfl)), List.forall_mem_cons.mpr ⟨(gcX9_block__X9_block_r4 _ (List.mem_of_getElem? (i := 19) rfl)), List.forall_mem_cons.mpr ⟨(gcX9_block__X9_block_r4 _ (List.mem_of_getElem? (i := 20) rfl)), List.forall_mem_cons.mpr ⟨(gcX9_block__X9_block_r4 _ (List.mem_of_getElem? (i := 21) rfl)), List.forall_mem_cons.mpr ⟨(gcX9_block__X9_block_r4 _ (List.mem_of_getElem? (i := 22) rfl)), List.forall_mem_cons.mpr ⟨(gcX9_block__X9_block_r4 _ (List.mem_of_getElem? (i := 23) rfl)), List.forall_mem_cons.mpr ⟨(gcX9_block__X9_block_r5 _ (List.mem_of_getElem? (i := 0) rfl)), List.forall_mem_cons.mpr ⟨(gcX9_block__X9_block_r5 _ (List.mem_of_getElem? (i := 1) rfl)), List.forall_mem_cons.mpr ⟨(gcX9_block__X9_block_r5 _ (List.mem_of_getElem? (i := 2) rfl)), List.forall_mem_cons.mpr ⟨(gcX9_block__X9_block_r5 _ (List.mem_of_getElem? (i := 3) rfl)), List.forall_mem_cons.mpr ⟨(gcX9_block__X9_block_r5 _ (List.mem_of_getElem? (i := 4) rfl)), List.forall_mem_cons.mpr ⟨(gcX9_block__X9_block_r5 _ (List.mem_of_getElem? (i := 5) rfl)), List.forall_mem_cons.mpr ⟨(gcX9_block__X9_block_r5 _ (List.mem_of_getElem? (i := 6) rfl)), List.forall_mem_cons.mpr ⟨(gcX9_block__X9_block_r5 _ (List.mem_of_getElem? (i := 7) rfl)), List.forall_mem_cons.mpr ⟨(gcX9_block__X9_block_r5 _ (List.mem_of_getElem? (i := 8) rfl)), List.forall_mem_cons.mpr ⟨(gcX9_block__X9_block_r5 _ (List.mem_of_getElem? (i := 9) rfl)), List.forall_mem_cons.mpr ⟨(gcX9_block__X9_block_r5 _ (List.mem_of_getElem? (i := 10) rfl)), List.forall_mem_cons.mpr ⟨(gcX9_block__X9_block_r5 _ (List.mem_of_getElem? (i := 11) rfl)), List.forall_mem_cons.mpr ⟨(gcX9_block__X9_block_r5 _ (List.mem_of_getElem? (i := 12) rfl)), List.forall_mem_cons.mpr ⟨(gcX9_block__X9_block_r5 _ (List.mem_of_getElem? (i := 13) rfl)), List.forall_mem_cons.mpr ⟨(gcX9_block__X9_block_r5 _ (List.mem_of_getElem? (i := 14) rfl)), List.forall_mem_cons.mpr ⟨(gcX9_block__X9_block_r5 _ (List.mem_of_getElem? (i := 15) rfl)), fun _ h => (List.not_mem_nil h).elim⟩⟩⟩⟩⟩⟩⟩⟩⟩⟩⟩⟩⟩⟩⟩⟩⟩⟩⟩⟩⟩⟩⟩⟩
theorem gcX9_block__X9_block_r6 : ∀ w ∈ wsX9_block_r6, w ∈ wsX9_block := fun w h => List.mem_cons_of_mem _ (List.mem_append_left _ (List.mem_append_left _ (List.mem_append_left _ (List.mem_append_left _ (List.mem_append_left _ (List.mem_append_right _ (List.mem_append_right _ (List.mem_append_right _ (List.mem_append_right _ (List.mem_append_right _ (List.mem_append_left _ (h))))))))))))
set_option maxRecDepth 20000 in
theorem gmX9_block__X3_read_r5 : ∀ w ∈ wsX3_read_r5, w ∈ wsX9_block := List.forall_mem_cons.mpr ⟨(gcX9_block__X9_block_r5 _ (List.mem_of_getElem? (i := 16) rfl)), List.forall_mem_cons.mpr ⟨(gcX9_block__X9_block_r5 _ (List.mem_of_getElem? (i := 17) rfl)), List.forall_mem_cons.mpr ⟨(gcX9_block__X9_block_r5 _ (List.mem_of_getElem? (i := 18) rfl)), List.forall_mem_cons.mpr ⟨(gcX9_block__X9_block_r5 _ (List.mem_of_getElem? (i := 19) rfl)), List.forall_mem_cons.mpr ⟨(gcX9_block__X9_block_r5 _ (List.mem_of_getElem? (i := 20) rfl)), List.forall_mem_cons.mpr ⟨(gcX9_block__X9_block_r5 _ (List.mem_of_getElem? (i := 21) rfl)), List.forall_mem_cons.mpr ⟨(gcX9_block__X9_block_r5 _ (List.mem_of_getElem? (i := 22) rfl)), List.forall_mem_cons.mpr ⟨(gcX9_block__X9_block_r5 _ (List.mem_of_getElem? (i := 23) rfl)), List.forall_mem_cons.mpr ⟨(gcX9_block__X9_block_r6 _ (List.mem_of_getElem? (i := 0) rfl)), List.forall_mem_cons.mpr ⟨(gcX9_block__X9_block_r6 _ (List.mem_of_getElem? (i := 1) rfl)), List.forall_mem_cons.mpr ⟨(gcX9_block__X9_block_r6 _ (List.mem_of_getElem? (i := 2) rfl)), List.forall_mem_cons.mpr ⟨(gcX9_block__X9_block_r6 _ (List.mem_of_getElem? (i := 3) rfl)), List.forall_mem_cons.mpr ⟨(gcX9_block__X9_block_r6 _ (List.mem_of_getElem? (i := 4) rfl)), List.forall_mem_cons.mpr ⟨(gcX9_block__X9_block_r6 _ (List.mem_of_getElem? (i := 5) rfl)), List.forall_mem_cons.mpr ⟨(gcX9_block__X9_block_r6 _ (List.mem_of_getElem? (i := 6) rfl)), List.forall_mem_cons.mpr ⟨(gcX9_block__X9_block_r6 _ (List.mem_of_getElem? (i := 7) rfl)), List.forall_mem_cons.mpr ⟨(gcX9_block__X9_block_r6 _ (List.mem_of_getElem? (i := 8) rfl)), List.forall_mem_cons.mpr ⟨(gcX9_block__X9_block_r6 _ (List.mem_of_getElem? (i := 9) rfl)), List.forall_mem_cons.mpr ⟨(gcX9_block__X9_block_r6 _ (List.mem_of_getElem? (i := 10) rfl)), List.forall_mem_cons.mpr ⟨(gcX9_block__X9_block_r6 _ (List.mem_of_getElem? (i := 11) rfl)), List.forall_mem_cons.mpr ⟨(gcX9_block__X9_block_r6 _ (List.mem_of_getElem? (i := 12) rfl)), List.forall_mem_cons.mpr ⟨(gcX9_block__X9_block_r6 _ (List.mem_of_getElem? (i := 13) rfl)), List.forall_mem_cons.mpr ⟨(gcX9_block__X9_block_r6 _ (List.mem_of_getElem? (i := 14) rfl)), List.forall_mem_cons.mpr ⟨(gcX9_block__X9_block_r6 _ (List.mem_of_getElem? (i := 15) rfl)), fun _ h => (List.not_mem_nil h).elim⟩⟩⟩⟩⟩⟩⟩⟩⟩⟩⟩⟩⟩⟩⟩⟩⟩⟩⟩⟩⟩⟩⟩⟩
theorem gcX9_block__X9_block_r7 : ∀ w ∈ wsX9_block_r7, w ∈ wsX9_block := fun w h => List.mem_cons_of_mem _ (List.mem_append_left _ (List.mem_append_left _ (List.mem_append_left _ (List.mem_append_left _ (List.mem_append_left _ (List.mem_append_right _ (List.mem_append_right _ (List.mem_append_right _ (List.mem_append_right _ (List.mem_append_right _ (List.mem_append_right _ (List.mem_append_left _ (h)))))))))))))
set_option maxRecDepth 20000 in
theorem gmX9_block__X3_read_r6 : ∀ w ∈ wsX3_read_r6, w ∈ wsX9_block := List.forall_mem_cons.mpr ⟨(gcX9_block__X9_block_r6 _ (List.mem_of_getElem? (i := 16) rfl)), List.forall_mem_cons.mpr ⟨(gcX9_block__X9_block_r6 _ (List.mem_of_getElem? (i := 17) rfl)), List.forall_mem_cons.mpr ⟨(gcX9_block__X9_block_r6 _ (List.mem_of_getElem? (i := 18) rfl)), List.forall_mem_cons.mpr ⟨(gcX9_block__X9_block_r6 _ (List.mem_of_getElem? (i := 19) rfl)), List.forall_mem_cons.mpr ⟨(gcX9_block__X9_block_r6 _ (List.mem_of_getElem? (i := 20) rfl)), List.forall_mem_cons.mpr ⟨(gcX9_block__X9_block_r6 _ (List.mem_of_getElem? (i := 21) rfl)), List.forall_mem_cons.mpr ⟨(gcX9_block__X9_block_r6 _ (List.mem_of_getElem? (i := 22) rfl)), List.forall_mem_cons.mpr ⟨(gcX9_block__X9_block_r6 _ (List.mem_of_getElem? (i := 23) rfl)), List.forall_mem_cons.mpr ⟨(gcX9_block__X9_block_r7 _ (List.mem_of_getElem? (i := 0) rfl)), List.forall_mem_cons.mpr ⟨(gcX9_block__X9_block_r7 _ (List.mem_of_getElem? (i := 1) rfl)), List.forall_mem_cons.mpr ⟨(gcX9_block__X9_block_r7 _ (List.mem_of_getElem? (i := 2) rfl)), List.forall_mem_cons.mpr ⟨(gcX9_block__X9_block_r7 _ (List.mem_of_getElem? (i := 3) rfl)), List.forall_mem_cons.mpr ⟨(gcX9_block__X9_block_r7 _ (List.mem_of_getElem? (i := 4) rfl)), List.forall_mem_cons.mpr ⟨(gcX9_block__X9_block_r7 _ (List.mem_of_getElem? (i := 5) rfl)), List.forall_mem_cons.mpr ⟨(gcX9_block__X9_block_r7 _ (List.mem_of_getElem? (i := 6) rfl)), List.forall_mem_cons.mpr ⟨(gcX9_block__X9_block_r7 _ (List.mem_of_getElem? (i := 7) rfl)), List.forall_mem_cons.mpr ⟨(gcX9_block__X9_block_r7 _ (List.mem_of_getElem? (i := 8) rfl)), List.forall_mem_cons.mpr ⟨(gcX9_block__X9_block_r7 _ (List.mem_of_getElem? (i := 9) rfl)), List.forall_mem_cons.mpr ⟨(gcX9_block__X9_block_r7 _ (List.mem_of_getElem? (i := 10) rfl)), List.forall_mem_cons.mpr ⟨(gcX9_block__X9_block_r7 _ (List.mem_of_getElem? (i := 11) rfl)), List.forall_mem_cons.mpr ⟨(gcX9_block__X9_block_r7 _ (List.mem_of_getElem? (i := 12) rfl)), List.forall_mem_cons.mpr ⟨(gcX9_block__X9_block_r7 _ (List.mem_of_getElem? (i := 13) rfl)), List.forall_mem_cons.mpr ⟨(gcX9_block__X9_block_r7 _ (List.mem_of_getElem? (i := 14) rfl)), List.forall_mem_cons.mpr ⟨(gcX9_block__X9_block_r7 _ (List.mem_of_getElem? (i := 15) rfl)), fun _ h => (List.not_mem_nil h).elim⟩⟩⟩⟩⟩⟩⟩⟩⟩⟩⟩⟩⟩⟩⟩⟩⟩⟩⟩⟩⟩⟩⟩⟩
theorem gcX9_block__X9_block_r8 : ∀ w ∈ wsX9_block_r8, w ∈ wsX9_block := fun w h => List.mem_cons_of_mem _ (List.mem_append_left _ (List.mem_append_left _ (List.mem_append_left _ (List.mem_append_left _ (List.mem_append_left _ (List.mem_append_right _ (List.mem_append_right _ (List.mem_append_right _ (List.mem_append_right _ (List.mem_append_right _ (List.mem_append_right _ (List.mem_append_right _ (List.mem_append_left _ (h))))))))))))))
set_option maxRecDepth 20000 in
theorem gmX9_block__X3_read_r7 : ∀ w ∈ wsX3_read_r7, w ∈ wsX9_block := List.forall_mem_cons.mpr ⟨(gcX9_block__X9_block_r7 _ (List.mem_of_getElem? (i := 16) rfl)), List.forall_mem_cons.mpr ⟨(gcX9_block__X9_block_r7 _ (List.mem_of_getElem? (i := 17) rfl)), List.forall_mem_cons.mpr ⟨(gcX9_block__X9_block_r7 _ (List.mem_of_getElem? (i := 18) rfl)), List.forall_mem_cons.mpr ⟨(gcX9_block__X9_block_r7 _ (List.mem_of_getElem? (i := 19) rfl)), List.forall_mem_cons.mpr ⟨(gcX9_block__X9_block_r7 _ (List.mem_of_getElem? (i := 20) rfl)), List.forall_mem_cons.mpr ⟨(gcX9_block__X9_block_r7 _ (List.mem_of_getElem? (i := 21) rfl)), List.forall_mem_cons.mpr ⟨(gcX9_block__X9_block_r7 _ (List.mem_of_getElem? (i := 22) rfl)), List.forall_mem_cons.mpr ⟨(gcX9_block__X9_block_r7 _ (List.mem_of_getElem? (i := 23) rfl)), List.forall_mem_cons.mpr ⟨(gcX9_block__X9_block_r8 _ (List.mem_of_getElem? (i := 0) rfl)), List.forall_mem_cons.mpr ⟨(gcX9_block__X9_block_r8 _ (List.mem_of_getElem? (i := 1) rfl)), List.forall_mem_cons.mpr ⟨(gcX9_block__X9_block_r8 _ (List.mem_of_getElem? (i := 2) rfl)), List.forall_mem_cons.mpr ⟨(gcX9_block__X9_block_r8 _ (List.mem_of_getElem? (i := 3) rfl)), List.forall_mem_cons.mpr ⟨(gcX9_block__X9_block_r8 _ (List.mem_of_getElem? (i := 4) rfl)), List.forall_mem_cons.mpr ⟨(gcX9_block__X9_block_r8 _ (List.mem_of_getElem? (i := 5) rfl)), List.forall_mem_cons.mpr ⟨(gcX9_block__X9_block_r8 _ (List.mem_of_getElem? (i := 6) rfl)), List.forall_mem_cons.mpr ⟨(gcX9_block__X9_block_r8 _ (List.mem_of_getElem? (i := 7) rfl)), List.forall_mem_cons.mpr ⟨(gcX9_block__X9_block_r8 _ (List.mem_of_getElem? (i := 8) rfl)), List.forall_mem_cons.mpr ⟨(gcX9_block__X9_block_r8 _ (List.mem_of_getElem? (i := 9) rfl)), List.forall_mem_cons.mpr ⟨(gcX9_block__X9_block_r8 _ (List.mem_of_getElem? (i := 10) rfl)), List.forall_mem_cons.mpr ⟨(gcX9_block__X9_block_r8 _ (List.mem_of_getElem? (i := 11) rfl)), List.forall_mem_cons.mpr ⟨(gcX9_block__X9_block_r8 _ (List.mem_of_getElem? (i := 12) rfl)), List.forall_mem_cons.mpr ⟨(gcX9_block__X9_block_r8 _ (List.mem_of_getElem? (i := 13) rfl)), List.forall_mem_cons.mpr ⟨(gcX9_block__X9_block_r8 _ (List.mem_of_getElem? (i := 14) rfl)), List.forall_mem_cons.mpr ⟨(gcX9_block__X9_block_r8 _ (List.mem_of_getElem? (i := 15) rfl)), fun _ h => (List.not_mem_nil h).elim⟩⟩⟩⟩⟩⟩⟩⟩⟩⟩⟩⟩⟩⟩⟩⟩⟩⟩⟩⟩⟩⟩⟩⟩
theorem gcX9_block__X9_block_r9 : ∀ w ∈ wsX9_block_r9, w ∈ wsX9_block := fun w h => List.mem_cons_of_mem _ (List.mem_append_left _ (List.mem_append_left _ (List.mem_append_left _ (List.mem_append_left _ (List.mem_append_left _ (List.mem_append_right _ (List.mem_append_right _ (List.mem_append_right _ (List.mem_append_right _ (List.mem_append_right _ (List.mem_append_right _ (List.mem_append_right _ (List.mem_append_right _ (List.mem_append_left _ (h)))))))))))))))
set_option maxRecDepth 20000 in
theorem gmX9_block__X3_read_r8 : ∀ w ∈ wsX3_read_r8, w ∈ wsX9_block := List.forall_mem_cons.mpr ⟨(gcX9_block__X9_block_r8 _ (List.mem_of_getElem? (i := 16) rfl)), List.forall_mem_cons.mpr ⟨(gcX9_block__X9_block_r8 _ (List.mem_of_getElem? (i := 17) rfl)), List.forall_mem_cons.mpr ⟨(gcX9_block__X9_block_r8 _ (List.mem_of_getElem? (i := 18) rfl)), List.forall_mem_cons.mpr ⟨(gcX9_block__X9_block_r8 _ (List.mem_of_getElem? (i := 19) rfl)), List.forall_mem_cons.mpr ⟨(gcX9_block__X9_block_r8 _ (List.mem_of_getElem? (i := 20) rfl)), List.forall_mem_cons.mpr ⟨(gcX9_block__X9_block_r8 _ (List.mem_of_getElem? (i := 21) rfl)), List.forall_mem_cons.mpr ⟨(gcX9_block__X9_block_r8 _ (List.mem_of_getElem? (i := 22) rfl)), List.forall_mem_cons.mpr ⟨(gcX9_block__X9_block_r8 _ (List.mem_of_getElem? (i := 23) rfl)), List.forall_mem_cons.mpr ⟨(gcX9_block__X9_block_r9 _ (List.mem_of_getElem? (i := 0) rfl)), List.forall_mem_cons.mpr ⟨(gcX9_block__X9_block_r9 _ (List.mem_of_getElem? (i := 1) rfl)), List.forall_mem_cons.mpr ⟨(gcX9_block__X9_block_r9 _ (List.mem_of_getElem? (i := 2) rfl)), List.forall_mem_cons.mpr ⟨(gcX9_block__X9_block_r9 _ (List.mem_of_getElem? (i := 3) rfl)), List.forall_mem_cons.mpr ⟨(gcX9_block__X9_block_r9 _ (List.mem_of_getElem? (i := 4) rfl)), List.forall_mem_cons.mpr ⟨(gcX9_block__X9_block_r9 _ (List.mem_of_getElem? (i := 5) rfl)), List.forall_mem_cons.mpr ⟨(gcX9_block__X9_block_r9 _ (List.mem_of_getElem? (i := 6) rfl)), List.forall_mem_cons.mpr ⟨(gcX9_block__X9_block_r9 _ (List.mem_of_getElem? (i := 7) rfl)), List.forall_mem_cons.mpr ⟨(gcX9_block__X9_block_r9 _ (List.mem_of_getElem? (i := 8) rfl)), List.forall_mem_cons.mpr ⟨(gcX9_block__X9_block_r9 _ (List.mem_of_getElem? (i := 9) rfl)), List.forall_mem_cons.mpr ⟨(gcX9_block__X9_block_r9 _ (List.mem_of_getElem? (i := 10) rfl)), List.forall_mem_cons.mpr ⟨(gcX9_block__X9_block_r9 _ (List.mem_of_getElem? (i := 11) rfl)), List.forall_mem_cons.mpr ⟨(gcX9_block__X9_block_r9 _ (List.mem_of_getElem? (i := 12) rfl)), List.forall_mem_cons.mpr ⟨(gcX9_block__X9_block_r9 _ (List.mem_of_getElem? (i := 13) rfl)), List.forall_mem_cons.mpr ⟨(gcX9_block__X9_block_r9 _ (List.mem_of_getElem? (i := 14) rfl)), List.forall_mem_cons.mpr ⟨(gcX9_block__X9_block_r9 _ (List.mem_of_getElem? (i := 15) rfl)), fun _ h => (List.not_mem_nil h).elim⟩⟩⟩⟩⟩⟩⟩⟩⟩⟩⟩⟩⟩⟩⟩⟩⟩⟩⟩⟩⟩⟩⟩⟩
theorem gcX9_block__X9_block_r10 : ∀ w ∈ wsX9_block_r10, w ∈ wsX9_block := fun w h => List.mem_cons_of_mem _ (List.mem_append_left _ (List.mem_append_left _ (List.mem_append_left _ (List.mem_append_left _ (List.mem_append_left _ (List.mem_append_right _ (List.mem_append_right _ (List.mem_append_right _ (List.mem_append_right _ (List.mem_append_right _ (List.mem_append_right _ (List.mem_append_right _ (List.mem_append_right _ (List.mem_append_right _ (List.mem_append_left _ (h))))))))))))))))
set_option maxRecDepth 20000 in
theorem gmX9_block__X3_read_r9 : ∀ w ∈ wsX3_read_r9, w ∈ wsX9_block := List.forall_mem_cons.mpr ⟨(gcX9_block__X9_block_r9 _ (List.mem_of_getElem? (i := 16) rfl)), List.forall_mem_cons.mpr ⟨(gcX9_block__X9_block_r9 _ (List.mem_of_getElem? (i := 17) rfl)), List.forall_mem_cons.mpr ⟨(gcX9_block__X9_block_r9 _ (List.mem_of_getElem? (i := 18) rfl)), List.forall_mem_cons.mpr ⟨(gcX9_block__X9_block_r9 _ (List.mem_of_getElem? (i := 19) rfl)), List.forall_mem_cons.mpr ⟨(gcX9_block__X9_block_r9 _ (List.mem_of_getElem? (i := 20) rfl)), List.forall_mem_cons.mpr ⟨(gcX9_block__X9_block_r9 _ (List.mem_of_getElem? (i := 21) rfl)), List.forall_mem_cons.mpr ⟨(gcX9_block__X9_block_r9 _ (List.mem_of_getElem? (i := 22) rfl)), List.forall_mem_cons.mpr ⟨(gcX9_block__X9_block_r9 _ (List.mem_of_getElem? (i := 23) rfl)), List.forall_mem_cons.mpr ⟨(gcX9_block__X9_block_r10 _ (List.mem_of_getElem? (i := 0) rfl)), List.forall_mem_cons.mpr ⟨(gcX9_block__X9_block_r10 _ (List.mem_of_getElem? (i := 1) rfl)), List.forall_mem_cons.mpr ⟨(gcX9_block__X9_block_r10 _ (List.mem_of_getElem? (i := 2) rfl)), List.forall_mem_cons.mpr ⟨(gcX9_block__X9_block_r10 _ (List.mem_of_getElem? (i := 3) rfl)), List.forall_mem_cons.mpr ⟨(gcX9_block__X9_block_r10 _ (List.mem_of_getElem? (i := 4) rfl)), List.forall_mem_cons.mpr ⟨(gcX9_block__X9_block_r10 _ (List.mem_of_getElem? (i := 5) rfl)), List.forall_mem_cons.mpr ⟨(gcX9_block__X9_block_r10 _ (List.mem_of_getElem? (i := 6) rfl)), List.forall_mem_cons.mpr ⟨(gcX9_block__X9_block_r10 _ (List.mem_of_getElem? (i := 7) rfl)), List.forall_mem_cons.mpr ⟨(gcX9_block__X9_block_r10 _ (List.mem_of_getElem? (i := 8) rfl)), List.forall_mem_cons.mpr ⟨(gcX9_block__X9_block_r10 _ (List.mem_of_getElem? (i := 9) rfl)), List.forall_mem_cons.mpr ⟨(gcX9_block__X9_block_r10 _ (List.mem_of_getElem? (i := 10) rfl)), List.forall_mem_cons.mpr ⟨(gcX9_block__X9_block_r10 _ (List.mem_of_getElem? (i := 11) rfl)), List.forall_mem_cons.mpr ⟨(gcX9_block__X9_block_r10 _ (List.mem_of_getElem? (i := 12) rfl)), List.forall_mem_cons.mpr ⟨(gcX9_block__X9_block_r10 _ (List.mem_of_getElem? (i := 13) rfl)), fun _ h => (List.not_mem_nil h).elim⟩⟩⟩⟩⟩⟩⟩⟩⟩⟩⟩⟩⟩⟩⟩⟩⟩⟩⟩⟩⟩⟩
theorem gcX9_block__X30 : ∀ w ∈ wsX30, w ∈ wsX9_block := fun w h => List.mem_cons_of_mem _ (List.mem_append_left _ (List.mem_append_left _ (List.mem_append_left _ (List.mem_append_right _ (h)))))
theorem gcX9_block__X80 : ∀ w ∈ wsX80, w ∈ wsX9_block := fun w h => List.mem_cons_of_mem _ (List.mem_append_left _ (List.mem_append_right _ (h)))
set_option maxRecDepth 20000 in
theorem gwX3_read : wsX3_read.all goodWord = true := by decide +kernel
set_option maxRecDepth 20000 in
theorem ggX9_block_X3_read : GoodIn wsX9_block wsX3_read := goodIn_sub (List.forall_mem_cons.mpr ⟨(gcX9_block__X9_block_r1 _ (List.mem_of_getElem? (i := 16) rfl)), List.forall_mem_append.mpr ⟨List.forall_mem_append.mpr ⟨List.forall_mem_append.mpr ⟨gmX9_block__X3_read_r1, List.forall_mem_append.mpr ⟨gmX9_block__X3_read_r2, List.forall_mem_append.mpr ⟨gmX9_block__X3_read_r3, List.forall_mem_append.mpr ⟨gmX9_block__X3_read_r4, List.forall_mem_append.mpr ⟨gmX9_block__X3_read_r5, List.forall_mem_append.mpr ⟨gmX9_block__X3_read_r6, List.forall_mem_append.mpr ⟨gmX9_block__X3_read_r7, List.forall_mem_append.mpr ⟨gmX9_block__X3_read_r8, gmX9_block__X3_read_r9⟩⟩⟩⟩⟩⟩⟩⟩, gcX9_block__X30⟩, gcX9_block__X80⟩⟩) gwX3_read
set_option maxRecDepth 20000 in
theorem gX9_block_X3_read : GoodIn wsX9_block (wsV RX9 108 RX3 yX3_read wsX3_read) := goodIn_app (goodIn_sub (List.forall_mem_cons.mpr ⟨(gcX9_block__X9_block_r1 _ (List.mem_of_getElem? (i := 12) rfl)), List.forall_mem_cons.mpr ⟨(gcX9_block__X9_block_r1 _ (List.mem_of_getElem? (i := 13) rfl)), List.forall_mem_cons.mpr ⟨(gcX9_block__X9_block_r1 _ (List.mem_of_getElem? (i := 14) rfl)), List.forall_mem_cons.mpr ⟨(gcX9_block__X9_block_r1 _ (List.mem_of_getElem? (i := 15) rfl)), fun _ h => (List.not_mem_nil h).elim⟩⟩⟩⟩) (by decide +kernel)) ggX9_block_X3_read
theorem gcX9_block__X9_block_r11 : ∀ w ∈ wsX9_block_r11, w ∈ wsX9_block := fun w h => List.mem_cons_of_mem _ (List.mem_append_left _ (List.mem_append_left _ (List.mem_append_left _ (List.mem_append_left _ (List.mem_append_left _ (List.mem_append_right _ (List.mem_append_right _ (List.mem_append_right _ (List.mem_append_right _ (List.mem_append_right _ (List.mem_append_right _ (List.mem_append_right _ (List.mem_append_right _ (List.mem_append_right _ (List.mem_append_right _ (List.mem_append_left _ (h)))))))))))))))))
set_option maxRecDepth 20000 in
theorem gwX8_takeFrom : wsX8_takeFrom.all goodWord = true := by decide +kernel
set_option maxRecDepth 20000 in
theorem ggX9_block_X8_takeFrom : GoodIn wsX9_block wsX8_takeFrom := goodIn_sub (List.forall_mem_cons.mpr ⟨(gcX9_block__X9_block_r10 _ (List.mem_of_getElem? (i := 17) rfl)), List.forall_mem_append.mpr ⟨List.forall_mem_cons.mpr ⟨(gcX9_block__X9_block_r2 _ (List.mem_of_getElem? (i := 9) rfl)), List.forall_mem_cons.mpr ⟨(gcX9_block__X9_block_r7 _ (List.mem_of_getElem? (i := 2) rfl)), List.forall_mem_cons.mpr ⟨(gcX9_block__X9_block_r8 _ (List.mem_of_getElem? (i := 0) rfl)), List.forall_mem_cons.mpr ⟨(gcX9_block__X9_block_r8 _ (List.mem_of_getElem? (i := 1) rfl)), List.forall_mem_cons.mpr ⟨(gcX9_block__X9_block_r8 _ (List.mem_of_getElem? (i := 17) rfl)), List.forall_mem_cons.mpr ⟨(gcX9_block__X9_block_r8 _ (List.mem_of_getElem? (i := 18) rfl)), List.forall_mem_cons.mpr ⟨(gcX9_block__X9_block_r9 _ (List.mem_of_getElem? (i := 3) rfl)), List.forall_mem_cons.mpr ⟨(gcX9_block__X9_block_r2 _ (List.mem_of_getElem? (i := 10) rfl)), List.forall_mem_cons.mpr ⟨(gcX9_block__X9_block_r2 _ (List.mem_of_getElem? (i := 11) rfl)), List.forall_mem_cons.mpr ⟨(gcX9_block__X9_block_r9 _ (List.mem_of_getElem? (i := 8) rfl)), List.forall_mem_cons.mpr ⟨(gcX9_block__X9_block_r9 _ (List.mem_of_getElem? (i := 18) rfl)), List.forall_mem_cons.mpr ⟨(gcX9_block__X9_block_r10 _ (List.mem_of_getElem? (i := 4) rfl)), List.forall_mem_cons.mpr ⟨(gcX9_block__X9_block_r10 _ (List.mem_of_getElem? (i := 18) rfl)), List.forall_mem_cons.mpr ⟨(gcX9_block__X9_block_r10 _ (List.mem_of_getElem? (i := 19) rfl)), List.forall_mem_cons.mpr ⟨(gcX9_block__X9_block_r10 _ (List.mem_of_getElem? (i := 20) rfl)), List.forall_mem_cons.mpr ⟨(gcX9_block__X9_block_r10 _ (List.mem_of_getElem? (i := 21) rfl)), List.forall_mem_cons.mpr ⟨(gcX9_block__X9_block_r1 _ (List.mem_of_getElem? (i := 19) rfl)), List.forall_mem_cons.mpr ⟨(gcX9_block__X9_block_r1 _ (List.mem_of_getElem? (i := 20) rfl)), List.forall_mem_cons.mpr ⟨(gcX9_block__X9_block_r1 _ (List.mem_of_getElem? (i := 21) rfl)), List.forall_mem_cons.mpr ⟨(gcX9_block__X9_block_r10 _ (List.mem_of_getElem? (i := 22) rfl)), List.forall_mem_cons.mpr ⟨(gcX9_block__X9_block_r10 _ (List.mem_of_getElem? (i := 23) rfl)), List.forall_mem_cons.mpr ⟨(gcX9_block__X9_block_r11 _ (List.mem_of_getElem? (i := 0) rfl)), List.forall_mem_cons.mpr ⟨(gcX9_block__X9_block_r11 _ (List.mem_of_getElem? (i := 1) rfl)), fun _ h => (List.not_mem_nil h).elim⟩⟩⟩⟩⟩⟩⟩⟩⟩⟩⟩⟩⟩⟩⟩⟩⟩⟩⟩⟩⟩⟩⟩, gcX9_block__X80⟩⟩) gwX8_takeFrom
set_option maxRecDepth 20000 in
theorem gX9_block_X8_takeFrom : GoodIn wsX9_block (wsV RX9 118 RX8 yX8_takeFrom wsX8_takeFrom) := goodIn_app (goodIn_sub (List.forall_mem_cons.mpr ⟨(gcX9_block__X9_block_r10 _ (List.mem_of_getElem? (i := 14) rfl)), List.forall_mem_cons.mpr ⟨(gcX9_block__X9_block_r10 _ (List.mem_of_getElem? (i := 15) rfl)), List.forall_mem_cons.mpr ⟨(gcX9_block__X9_block_r10 _ (List.mem_of_getElem? (i := 16) rfl)), List.forall_mem_cons.mpr ⟨(gcX9_block__X9_block_r2 _ (List.mem_of_getElem? (i := 7) rfl)), fun _ h => (List.not_mem_nil h).elim⟩⟩⟩⟩) (by decide +kernel)) ggX9_block_X8_takeFrom
set_option maxRecDepth 20000 in
theorem ggX9_block_J7_fill_53178 : GoodIn wsX9_block wsJ7_fill_53178 := goodIn_sub (List.forall_mem_cons.mpr ⟨(gcX9_block__X9_block_r2 _ (List.mem_of_getElem? (i := 15) rfl)), fun _ h => (List.not_mem_nil h).elim⟩) gwJ7_fill_53178
set_option maxRecDepth 20000 in
theorem gX9_block_J7_fill_53178 : GoodIn wsX9_block (va_wsS RX9 127 yJ7_fill_53178 wsJ7_fill_53178) := goodIn_app (goodIn_sub (List.forall_mem_cons.mpr ⟨(gcX9_block__X9_block_r11 _ (List.mem_of_getElem? (i := 2) rfl)), List.forall_mem_cons.mpr ⟨(gcX9_block__X9_block_r2 _ (List.mem_of_getElem? (i := 13) rfl)), List.forall_mem_cons.mpr ⟨(gcX9_block__X9_block_r2 _ (List.mem_of_getElem? (i := 14) rfl)), fun _ h => (List.not_mem_nil h).elim⟩⟩⟩) (by decide +kernel)) ggX9_block_J7_fill_53178
theorem gcX9_block__X9_block_r12 : ∀ w ∈ wsX9_block_r12, w ∈ wsX9_block := fun w h => List.mem_cons_of_mem _ (List.mem_append_left _ (List.mem_append_left _ (List.mem_append_left _ (List.mem_append_left _ (List.mem_append_left _ (List.mem_append_right _ (List.mem_append_right _ (List.mem_append_right _ (List.mem_append_right _ (List.mem_append_right _ (List.mem_append_right _ (List.mem_append_right _ (List.mem_append_right _ (List.mem_append_right _ (List.mem_append_right _ (List.mem_append_right _ (List.mem_append_left _ (h))))))))))))))))))
set_option maxRecDepth 20000 in
theorem gmX9_block__X6_begin_r1 : ∀ w ∈ wsX6_begin_r1, w ∈ wsX9_block := List.forall_mem_cons.mpr ⟨(gcX9_block__X9_block_r11 _ (List.mem_of_getElem? (i := 8) rfl)), List.forall_mem_cons.mpr ⟨(gcX9_block__X9_block_r11 _ (List.mem_of_getElem? (i := 9) rfl)), List.forall_mem_cons.mpr ⟨(gcX9_block__X9_block_r11 _ (List.mem_of_getElem? (i := 10) rfl)), List.forall_mem_cons.mpr ⟨(gcX9_block__X9_block_r11 _ (List.mem_of_getElem? (i := 11) rfl)), List.forall_mem_cons.mpr ⟨(gcX9_block__X9_block_r11 _ (List.mem_of_getElem? (i := 12) rfl)), List.forall_mem_cons.mpr ⟨(gcX9_block__X9_block_r11 _ (List.mem_of_getElem? (i := 13) rfl)), List.forall_mem_cons.mpr ⟨(gcX9_block__X9_block_r11 _ (List.mem_of_getElem? (i := 6) rfl)), List.forall_mem_cons.mpr ⟨(gcX9_block__X9_block_r11 _ (List.mem_of_getElem? (i := 14) rfl)), List.forall_mem_cons.mpr ⟨(gcX9_block__X9_block_r11 _ (List.mem_of_getElem? (i := 15) rfl)), List.forall_mem_cons.mpr ⟨(gcX9_block__X9_block_r11 _ (List.mem_of_getElem? (i := 16) rfl)), List.forall_mem_cons.mpr ⟨(gcX9_block__X9_block_r11 _ (List.mem_of_getElem? (i := 17) rfl)), List.forall_mem_cons.mpr ⟨(gcX9_block__X9_block_r11 _ (List.mem_of_getElem? (i := 18) rfl)), List.forall_mem_cons.mpr ⟨(gcX9_block__X9_block_r11 _ (List.mem_of_getElem? (i := 19) rfl)), List.forall_mem_cons.mpr ⟨(gcX9_block__X9_block_r11 _ (List.mem_of_getElem? (i := 20) rfl)), List.forall_mem_cons.mpr ⟨(gcX9_block__X9_block_r11 _ (List.mem_of_getElem? (i := 21) rfl)), List.forall_mem_cons.mpr ⟨(gcX9_block__X9_block_r2 _ (List.mem_of_getElem? (i := 13) rfl)), List.forall_mem_cons.mpr ⟨(gcX9_block__X9_block_r2 _ (List.mem_of_getElem? (i := 14) rfl)), List.forall_mem_cons.mpr ⟨(gcX9_block__X9_block_r2 _ (List.mem_of_getElem? (i := 15) rfl)), List.forall_mem_cons.mpr ⟨(gcX9_block__X9_block_r11 _ (List.mem_of_getElem? (i := 22) rfl)), List.forall_mem_cons.mpr ⟨(gcX9_block__X9_block_r11 _ (List.mem_of_getElem? (i := 23) rfl)), List.forall_mem_cons.mpr ⟨(gcX9_block__X9_block_r12 _ (List.mem_of_getElem? (i := 0) rfl)), List.forall_mem_cons.mpr ⟨(gcX9_block__X9_block_r12 _ (List.mem_of_getElem? (i := 1) rfl)), List.forall_mem_cons.mpr ⟨(gcX9_block__X9_block_r12 _ (List.mem_of_getElem? (i := 2) rfl)), List.forall_mem_cons.mpr ⟨(gcX9_block__X9_block_r12 _ (List.mem_of_getElem? (i := 3) rfl)), fun _ h => (List.not_mem_nil h).elim⟩⟩⟩⟩⟩⟩⟩⟩⟩⟩⟩⟩⟩⟩⟩⟩⟩⟩⟩⟩⟩⟩⟩⟩
theorem gcX9_block__X9_block_r13 : ∀ w ∈ wsX9_block_r13, w ∈ wsX9_block := fun w h => List.mem_cons_of_mem _ (List.mem_append_left _ (List.mem_append_left _ (List.mem_append_left _ (List.mem_append_left _ (List.mem_append_left _ (List.mem_append_right _ (List.mem_append_right _ (List.mem_append_right _ (List.mem_append_right _ (List.mem_append_right _ (List.mem_append_right _ (List.mem_append_right _ (List.mem_append_right _ (List.mem_append_right _ (List.mem_append_right _ (List.mem_append_right _ (List.mem_append_right _ (List.mem_append_left _ (h)))))))))))))))))))
set_option maxRecDepth 20000 in
theorem gmX9_block__X6_begin_r2 : ∀ w ∈ wsX6_begin_r2, w ∈ wsX9_block := List.forall_mem_cons.mpr ⟨(gcX9_block__X9_block_r12 _ (List.mem_of_getElem? (i := 4) rfl)), List.forall_mem_cons.mpr ⟨(gcX9_block__X9_block_r12 _ (List.mem_of_getElem? (i := 5) rfl)), List.forall_mem_cons.mpr ⟨(gcX9_block__X9_block_r12 _ (List.mem_of_getElem? (i := 6) rfl)), List.forall_mem_cons.mpr ⟨(gcX9_block__X9_block_r12 _ (List.mem_of_getElem? (i := 7) rfl)), List.forall_mem_cons.mpr ⟨(gcX9_block__X9_block_r12 _ (List.mem_of_getElem? (i := 8) rfl)), List.forall_mem_cons.mpr ⟨(gcX9_block__X9_block_r12 _ (List.mem_of_getElem? (i := 9) rfl)), List.forall_mem_cons.mpr ⟨(gcX9_block__X9_block_r12 _ (List.mem_of_getElem? (i := 10) rfl)), List.forall_mem_cons.mpr ⟨(gcX9_block__X9_block_r12 _ (List.mem_of_getElem? (i := 11) rfl)), List.forall_mem_cons.mpr ⟨(gcX9_block__X9_block_r12 _ (List.mem_of_getElem? (i := 12) rfl)), List.forall_mem_cons.mpr ⟨(gcX9_block__X9_block_r12 _ (List.mem_of_getElem? (i := 13) rfl)), List.forall_mem_cons.mpr ⟨(gcX9_block__X9_block_r12 _ (List.mem_of_getElem? (i := 14) rfl)), List.forall_mem_cons.mpr ⟨(gcX9_block__X9_block_r12 _ (List.mem_of_getElem? (i := 15) rfl)), List.forall_mem_cons.mpr ⟨(gcX9_block__X9_block_r12 _ (List.mem_of_getElem? (i := 16) rfl)), List.forall_mem_cons.mpr ⟨(gcX9_block__X9_block_r12 _ (List.mem_of_getElem? (i := 17) rfl)), List.forall_mem_cons.mpr ⟨(gcX9_block__X9_block_r12 _ (List.mem_of_getElem? (i := 18) rfl)), List.forall_mem_cons.mpr ⟨(gcX9_block__X9_block_r12 _ (List.mem_of_getElem? (i := 19) rfl)), List.forall_mem_cons.mpr ⟨(gcX9_block__X9_block_r12 _ (List.mem_of_getElem? (i := 20) rfl)), List.forall_mem_cons.mpr ⟨(gcX9_block__X9_block_r12 _ (List.mem_of_getElem? (i := 21) rfl)), List.forall_mem_cons.mpr ⟨(gcX9_block__X9_block_r12 _ (List.mem_of_getElem? (i := 22) rfl)), List.forall_mem_cons.mpr ⟨(gcX9_block__X9_block_r12 _ (List.mem_of_getElem? (i := 23) rfl)), List.forall_mem_cons.mpr ⟨(gcX9_block__X9_block_r13 _ (List.mem_of_getElem? (i := 0) rfl)), List.forall_mem_cons.mpr ⟨(gcX9_block__X9_block_r13 _ (List.mem_of_getElem? (i := 1) rfl)), List.forall_mem_cons.mpr ⟨(gcX9_block__X9_block_r13 _ (List.mem_of_getElem? (i := 2) rfl)), List.forall_mem_cons.mpr ⟨(gcX9_block__X9_block_r2 _ (List.mem_of_getElem? (i := 7) rfl)), fun _ h => (List.not_mem_nil h).elim⟩⟩⟩⟩⟩⟩⟩⟩⟩⟩⟩⟩⟩⟩⟩⟩⟩⟩⟩⟩⟩⟩⟩⟩
theorem gcX9_block__X9_block_r14 : ∀ w ∈ wsX9_block_r14, w ∈ wsX9_block := fun w h => List.mem_cons_of_mem _ (List.mem_append_left _ (List.mem_append_left _ (List.mem_append_left _ (List.mem_append_left _ (List.mem_append_left _ (List.mem_append_right _ (List.mem_append_right _ (List.mem_append_right _ (List.mem_append_right _ (List.mem_append_right _ (List.mem_append_right _ (List.mem_append_right _ (List.mem_append_right _ (List.mem_append_right _ (List.mem_append_right _ (List.mem_append_right _ (List.mem_append_right _ (List.mem_append_right _ (List.mem_append_left _ (h))))))))))))))))))))
set_option maxRecDepth 20000 in
theorem gmX9_block__X6_begin_r3 : ∀ w ∈ wsX6_begin_r3, w ∈ wsX9_block := List.forall_mem_cons.mpr ⟨(gcX9_block__X9_block_r13 _ (List.mem_of_getElem? (i := 3) rfl)), List.forall_mem_cons.mpr ⟨(gcX9_block__X9_block_r9 _ (List.mem_of_getElem? (i := 8) rfl)), List.forall_mem_cons.mpr ⟨(gcX9_block__X9_block_r13 _ (List.mem_of_getElem? (i := 4) rfl)), List.forall_mem_cons.mpr ⟨(gcX9_block__X9_block_r13 _ (List.mem_of_getElem? (i := 5) rfl)), List.forall_mem_cons.mpr ⟨(gcX9_block__X9_block_r13 _ (List.mem_of_getElem? (i := 6) rfl)), List.forall_mem_cons.mpr ⟨(gcX9_block__X9_block_r13 _ (List.mem_of_getElem? (i := 7) rfl)), List.forall_mem_cons.mpr ⟨(gcX9_block__X9_block_r13 _ (List.mem_of_getElem? (i := 8) rfl)), List.forall_mem_cons.mpr ⟨(gcX9_block__X9_block_r13 _ (List.mem_of_getElem? (i := 9) rfl)), List.forall_mem_cons.mpr ⟨(gcX9_block__X9_block_r13 _ (List.mem_of_getElem? (i := 10) rfl)), List.forall_mem_cons.mpr ⟨(gcX9_block__X9_block_r13 _ (List.mem_of_getElem? (i := 11) rfl)), List.forall_mem_cons.mpr ⟨(gcX9_block__X9_block_r13 _ (List.mem_of_getElem? (i := 12) rfl)), List.forall_mem_cons.mpr ⟨(gcX9_block__X9_block_r13 _ (List.mem_of_getElem? (i := 13) rfl)), List.forall_mem_cons.mpr ⟨(gcX9_block__X9_block_r13 _ (List.mem_of_getElem? (i := 14) rfl)), List.forall_mem_cons.mpr ⟨(gcX9_block__X9_block_r13 _ (List.mem_of_getElem? (i := 15) rfl)), List.forall_mem_cons.mpr ⟨(gcX9_block__X9_block_r13 _ (List.mem_of_getElem? (i := 16) rfl)), List.forall_mem_cons.mpr ⟨(gcX9_block__X9_block_r13 _ (List.mem_of_getElem? (i := 17) rfl)), List.forall_mem_cons.mpr ⟨(gcX9_block__X9_block_r13 _ (List.mem_of_getElem? (i := 18) rfl)), List.forall_mem_cons.mpr ⟨(gcX9_block__X9_block_r13 _ (List.mem_of_getElem? (i := 19) rfl)), List.forall_mem_cons.mpr ⟨(gcX9_block__X9_block_r13 _ (List.mem_of_getElem? (i := 20) rfl)), List.forall_mem_cons.mpr ⟨(gcX9_block__X9_block_r13 _ (List.mem_of_getElem? (i := 21) rfl)), List.forall_mem_cons.mpr ⟨(gcX9_block__X9_block_r13 _ (List.mem_of_getElem? (i := 22) rfl)), List.forall_mem_cons.mpr ⟨(gcX9_block__X9_block_r13 _ (List.mem_of_getElem? (i := 23) rfl)), List.forall_mem_cons.mpr ⟨(gcX9_block__X9_block_r14 _ (List.mem_of_getElem? (i := 0) rfl)), List.forall_mem_cons.mpr ⟨(gcX9_block__X9_block_r14 _ (List.mem_of_getElem? (i := 1) rfl)), fun _ h => (List.not_mem_nil h).elim⟩⟩⟩⟩⟩⟩⟩⟩⟩⟩⟩⟩⟩⟩⟩⟩⟩⟩⟩⟩⟩⟩⟩⟩
theorem gcX9_block__X9_block_r15 : ∀ w ∈ wsX9_block_r15, w ∈ wsX9_block := fun w h => List.mem_cons_of_mem _ (List.mem_append_left _ (List.mem_append_left _ (List.mem_append_left _ (List.mem_append_left _ (List.mem_append_left _ (List.mem_append_right _ (List.mem_append_right _ (List.mem_append_right _ (List.mem_append_right _ (List.mem_append_right _ (List.mem_append_right _ (List.mem_append_right _ (List.mem_append_right _ (List.mem_append_right _ (List.mem_append_right _ (List.mem_append_right _ (List.mem_append_right _ (List.mem_append_right _ (List.mem_append_right _ (h))))))))))))))))))))
set_option maxRecDepth 20000 in
theorem gmX9_block__X6_begin_r4 : ∀ w ∈ wsX6_begin_r4, w ∈ wsX9_block := List.forall_mem_cons.mpr ⟨(gcX9_block__X9_block_r14 _ (List.mem_of_getElem? (i := 2) rfl)), List.forall_mem_cons.mpr ⟨(gcX9_block__X9_block_r14 _ (List.mem_of_getElem? (i := 3) rfl)), List.forall_mem_cons.mpr ⟨(gcX9_block__X9_block_r14 _ (List.mem_of_getElem? (i := 4) rfl)), List.forall_mem_cons.mpr ⟨(gcX9_block__X9_block_r14 _ (List.mem_of_getElem? (i := 5) rfl)), List.forall_mem_cons.mpr ⟨(gcX9_block__X9_block_r14 _ (List.mem_of_getElem? (i := 6) rfl)), List.forall_mem_cons.mpr ⟨(gcX9_block__X9_block_r1 _ (List.mem_of_getElem? (i := 20) rfl)), List.forall_mem_cons.mpr ⟨(gcX9_block__X9_block_r14 _ (List.mem_of_getElem? (i := 7) rfl)), List.forall_mem_cons.mpr ⟨(gcX9_block__X9_block_r14 _ (List.mem_of_getElem? (i := 8) rfl)), List.forall_mem_cons.mpr ⟨(gcX9_block__X9_block_r14 _ (List.mem_of_getElem? (i := 9) rfl)), List.forall_mem_cons.mpr ⟨(gcX9_block__X9_block_r14 _ (List.mem_of_getElem? (i := 10) rfl)), List.forall_mem_cons.mpr ⟨(gcX9_block__X9_block_r14 _ (List.mem_of_getElem? (i := 11) rfl)), List.forall_mem_cons.mpr ⟨(gcX9_block__X9_block_r14 _ (List.mem_of_getElem? (i := 12) rfl)), List.forall_mem_cons.mpr ⟨(gcX9_block__X9_block_r14 _ (List.mem_of_getElem? (i := 13) rfl)), List.forall_mem_cons.mpr ⟨(gcX9_block__X9_block_r14 _ (List.mem_of_getElem? (i := 14) rfl)), List.forall_mem_cons.mpr ⟨(gcX9_block__X9_block_r14 _ (List.mem_of_getElem? (i := 15) rfl)), List.forall_mem_cons.mpr ⟨(gcX9_block__X9_block_r14 _ (List.mem_of_getElem? (i := 16) rfl)), List.forall_mem_cons.mpr ⟨(gcX9_block__X9_block_r14 _ (List.mem_of_getElem? (i := 17) rfl)), List.forall_mem_cons.mpr ⟨(gcX9_block__X9_block_r14 _ (List.mem_of_getElem? (i := 18) rfl)), List.forall_mem_cons.mpr ⟨(gcX9_block__X9_block_r14 _ (List.mem_of_getElem? (i := 19) rfl)), List.forall_mem_cons.mpr ⟨(gcX9_block__X9_block_r14 _ (List.mem_of_getElem? (i := 20) rfl)), List.forall_mem_cons.mpr ⟨(gcX9_block__X9_block_r14 _ (List.mem_of_getElem? (i := 21) rfl)), List.forall_mem_cons.mpr ⟨(gcX9_block__X9_block_r14 _ (List.mem_of_getElem? (i := 22) rfl)), List.forall_mem_cons.mpr ⟨(gcX9_block__X9_block_r14 _ (List.mem_of_getElem? (i := 23) rfl)), List.forall_mem_cons.mpr ⟨(gcX9_block__X9_block_r15 _ (List.mem_of_getElem? (i := 0) rfl)), fun _ h => (List.not_mem_nil h).elim⟩⟩⟩⟩⟩⟩⟩⟩⟩⟩⟩⟩⟩⟩⟩⟩⟩⟩⟩⟩⟩⟩⟩⟩
set_option maxRecDepth 20000 in
theorem gmX9_block__X6_begin_r5 : ∀ w ∈ wsX6_begin_r5, w ∈ wsX9_block := List.forall_mem_cons.mpr ⟨(gcX9_block__X9_block_r15 _ (List.mem_of_getElem? (i := 1) rfl)), List.forall_mem_cons.mpr ⟨(gcX9_block__X9_block_r15 _ (List.mem_of_getElem? (i := 2) rfl)), List.forall_mem_cons.mpr ⟨(gcX9_block__X9_block_r15 _ (List.mem_of_getElem? (i := 3) rfl)), List.forall_mem_cons.mpr ⟨(gcX9_block__X9_block_r15 _ (List.mem_of_getElem? (i := 4) rfl)), List.forall_mem_cons.mpr ⟨(gcX9_block__X9_block_r15 _ (List.mem_of_getElem? (i := 5) rfl)), List.forall_mem_cons.mpr ⟨(gcX9_block__X9_block_r15 _ (List.mem_of_getElem? (i := 6) rfl)), List.forall_mem_cons.mpr ⟨(gcX9_block__X9_block_r15 _ (List.mem_of_getElem? (i := 7) rfl)), List.forall_mem_cons.mpr ⟨(gcX9_block__X9_block_r15 _ (List.mem_of_getElem? (i := 8) rfl)), List.forall_mem_cons.mpr ⟨(gcX9_block__X9_block_r15 _ (List.mem_of_getElem? (i := 9) rfl)), fun _ h => (List.not_mem_nil h).elim⟩⟩⟩⟩⟩⟩⟩⟩⟩
theorem gcX9_block__X60 : ∀ w ∈ wsX60, w ∈ wsX9_block := fun w h => List.mem_cons_of_mem _ (List.mem_append_right _ (h))
theorem gcX9_block__X50 : ∀ w ∈ wsX50, w ∈ wsX9_block := fun w h => List.mem_cons_of_mem _ (List.mem_append_left _ (List.mem_append_left _ (List.mem_append_right _ (h))))
set_option maxRecDepth 20000 in
theorem gwX6_begin : wsX6_begin.all goodWord = true := by decide +kernel
set_option maxRecDepth 20000 in
theorem ggX9_block_X6_begin : GoodIn wsX9_block wsX6_begin := goodIn_sub (List.forall_mem_cons.mpr ⟨(gcX9_block__X9_block_r11 _ (List.mem_of_getElem? (i := 7) rfl)), List.forall_mem_append.mpr ⟨List.forall_mem_append.mpr ⟨List.forall_mem_append.mpr ⟨List.forall_mem_append.mpr ⟨gmX9_block__X6_begin_r1, List.forall_mem_append.mpr ⟨gmX9_block__X6_begin_r2, List.forall_mem_append.mpr ⟨gmX9_block__X6_begin_r3, List.forall_mem_append.mpr ⟨gmX9_block__X6_begin_r4, gmX9_block__X6_begin_r5⟩⟩⟩⟩, gcX9_block__X60⟩, gcX9_block__X80⟩, gcX9_block__X50⟩⟩) gwX6_begin
set_option maxRecDepth 20000 in
theorem gX9_block_X6_begin : GoodIn wsX9_block (wsV RX9 133 RX6 yX6_begin wsX6_begin) := goodIn_app (goodIn_sub (List.forall_mem_cons.mpr ⟨(gcX9_block__X9_block_r11 _ (List.mem_of_getElem? (i := 3) rfl)), List.forall_mem_cons.mpr ⟨(gcX9_block__X9_block_r11 _ (List.mem_of_getElem? (i := 4) rfl)), List.forall_mem_cons.mpr ⟨(gcX9_block__X9_block_r11 _ (List.mem_of_getElem? (i := 5) rfl)), List.forall_mem_cons.mpr ⟨(gcX9_block__X9_block_r11 _ (List.mem_of_getElem? (i := 6) rfl)), fun _ h => (List.not_mem_nil h).elim⟩⟩⟩⟩) (by decide +kernel)) ggX9_block_X6_begin
theorem dX9_block_0 : decode cX9_block 0 = .ok (.aload_n 0, 1) := by decide +kernel
theorem dX9_block_1 : decode cX9_block 1 = .ok (.getfield 32, 3) := by decide +kernel
theorem dX9_block_4 : decode cX9_block 4 = .ok (.aload_n 0, 1) := by decide +kernel
theorem dX9_block_5 : decode cX9_block 5 = .ok (.getfield 13, 3) := by decide +kernel
theorem dX9_block_8 : decode cX9_block 8 = .ok (.invokevirtual 108, 3) := by decide +kernel
theorem dX9_block_11 : decode cX9_block 11 = .ok (.istore_n 1, 1) := by decide +kernel
theorem dX9_block_12 : decode cX9_block 12 = .ok (.aload_n 0, 1) := by decide +kernel
theorem dX9_block_13 : decode cX9_block 13 = .ok (.iconst 0, 1) := by decide +kernel
theorem dX9_block_14 : decode cX9_block 14 = .ok (.putfield 13, 3) := by decide +kernel
theorem dX9_block_17 : decode cX9_block 17 = .ok (.aload_n 0, 1) := by decide +kernel
theorem dX9_block_18 : decode cX9_block 18 = .ok (.aload_n 0, 1) := by decide +kernel
theorem dX9_block_19 : decode cX9_block 19 = .ok (.getfield 32, 3) := by decide +kernel
theorem dX9_block_22 : decode cX9_block 22 = .ok (.getfield 112, 3) := by decide +kernel
theorem dX9_block_25 : decode cX9_block 25 = .ok (.putfield 98, 3) := by decide +kernel
theorem dX9_block_28 : decode cX9_block 28 = .ok (.aload_n 0, 1) := by decide +kernel
theorem dX9_block_29 : decode cX9_block 29 = .ok (.aload_n 0, 1) := by decide +kernel
theorem dX9_block_30 : decode cX9_block 30 = .ok (.getfield 32, 3) := by decide +kernel
theorem dX9_block_33 : decode cX9_block 33 = .ok (.getfield 115, 3) := by decide +kernel
theorem dX9_block_36 : decode cX9_block 36 = .ok (.putfield 101, 3) := by decide +kernel
theorem dX9_block_39 : decode cX9_block 39 = .ok (.iload_n 1, 1) := by decide +kernel
theorem dX9_block_40 : decode cX9_block 40 = .ok (.iconst (-1), 1) := by decide +kernel
theorem dX9_block_41 : decode cX9_block 41 = .ok (.if_icmp .ne 5, 3) := by decide +kernel
theorem dX9_block_44 : decode cX9_block 44 = .ok (.iconst (-1), 1) := by decide +kernel
theorem dX9_block_45 : decode cX9_block 45 = .ok (.ireturn, 1) := by decide +kernel
theorem dX9_block_46 : decode cX9_block 46 = .ok (.aload_n 0, 1) := by decide +kernel
theorem dX9_block_47 : decode cX9_block 47 = .ok (.getfield 20, 3) := by decide +kernel
theorem dX9_block_50 : decode cX9_block 50 = .ok (.aload_n 0, 1) := by decide +kernel
theorem dX9_block_51 : decode cX9_block 51 = .ok (.getfield 24, 3) := by decide +kernel
theorem dX9_block_54 : decode cX9_block 54 = .ok (.invokevirtual 118, 3) := by decide +kernel
theorem dX9_block_57 : decode cX9_block 57 = .ok (.aload_n 0, 1) := by decide +kernel
theorem dX9_block_58 : decode cX9_block 58 = .ok (.getfield 41, 3) := by decide +kernel
theorem dX9_block_61 : decode cX9_block 61 = .ok (.iconst 3, 1) := by decide +kernel
theorem dX9_block_62 : decode cX9_block 62 = .ok (.putfield 121, 3) := by decide +kernel
theorem dX9_block_65 : decode cX9_block 65 = .ok (.aload_n 0, 1) := by decide +kernel
theorem dX9_block_66 : decode cX9_block 66 = .ok (.getfield 41, 3) := by decide +kernel
theorem dX9_block_69 : decode cX9_block 69 = .ok (.getfield 124, 3) := by decide +kernel
theorem dX9_block_72 : decode cX9_block 72 = .ok (.iconst 0, 1) := by decide +kernel
theorem dX9_block_73 : decode cX9_block 73 = .ok (.invokestatic 127, 3) := by decide +kernel
theorem dX9_block_76 : decode cX9_block 76 = .ok (.aload_n 0, 1) := by decide +kernel
theorem dX9_block_77 : decode cX9_block 77 = .ok (.getfield 56, 3) := by decide +kernel
theorem dX9_block_80 : decode cX9_block 80 = .ok (.invokevirtual 133, 3) := by decide +kernel
theorem dX9_block_83 : decode cX9_block 83 = .ok (.pop, 1) := by decide +kernel
theorem dX9_block_84 : decode cX9_block 84 = .ok (.iload_n 1, 1) := by decide +kernel
theorem dX9_block_85 : decode cX9_block 85 = .ok (.ireturn, 1) := by decide +kernel
theorem dX9_fault_0 : decode cX9_fault 0 = .ok (.iload_n 1, 1) := by decide +kernel
theorem dX9_fault_1 : decode cX9_fault 1 = .ok (.ifCond .ne 8, 3) := by decide +kernel
theorem dX9_fault_4 : decode cX9_fault 4 = .ok (.aload_n 0, 1) := by decide +kernel
theorem dX9_fault_5 : decode cX9_fault 5 = .ok (.getfield 98, 3) := by decide +kernel
theorem dX9_fault_8 : decode cX9_fault 8 = .ok (.ireturn, 1) := by decide +kernel
theorem dX9_fault_9 : decode cX9_fault 9 = .ok (.iload_n 1, 1) := by decide +kernel
theorem dX9_fault_10 : decode cX9_fault 10 = .ok (.iconst 1, 1) := by decide +kernel
theorem dX9_fault_11 : decode cX9_fault 11 = .ok (.if_icmp .ne 8, 3) := by decide +kernel
theorem dX9_fault_14 : decode cX9_fault 14 = .ok (.aload_n 0, 1) := by decide +kernel
theorem dX9_fault_15 : decode cX9_fault 15 = .ok (.getfield 101, 3) := by decide +kernel
theorem dX9_fault_18 : decode cX9_fault 18 = .ok (.ireturn, 1) := by decide +kernel
theorem dX9_fault_19 : decode cX9_fault 19 = .ok (.iconst (-1), 1) := by decide +kernel
theorem dX9_fault_20 : decode cX9_fault 20 = .ok (.ireturn, 1) := by decide +kernel
theorem gcX9_has__X9_has_r1 : ∀ w ∈ wsX9_has_r1, w ∈ wsX9_has := fun w h => List.mem_cons_of_mem _ (List.mem_append_left _ (List.mem_append_left _ (List.mem_append_left _ (List.mem_append_left _ (h)))))
theorem gcX9_has__X90 : ∀ w ∈ wsX90, w ∈ wsX9_has := fun w h => List.mem_cons_of_mem _ (List.mem_append_left _ (List.mem_append_left _ (List.mem_append_right _ (h))))
theorem gcX9_has__X80 : ∀ w ∈ wsX80, w ∈ wsX9_has := fun w h => List.mem_cons_of_mem _ (List.mem_append_left _ (List.mem_append_right _ (h)))
theorem gcX9_has__X50 : ∀ w ∈ wsX50, w ∈ wsX9_has := fun w h => List.mem_cons_of_mem _ (List.mem_append_right _ (h))
set_option maxRecDepth 20000 in
theorem gwX9_countDropped : wsX9_countDropped.all goodWord = true := by decide +kernel
set_option maxRecDepth 20000 in
theorem ggX9_has_X9_countDropped : GoodIn wsX9_has wsX9_countDropped := goodIn_sub (List.forall_mem_cons.mpr ⟨(gcX9_has__X9_has_r1 _ (List.mem_of_getElem? (i := 8) rfl)), List.forall_mem_append.mpr ⟨List.forall_mem_append.mpr ⟨List.forall_mem_append.mpr ⟨List.forall_mem_cons.mpr ⟨(gcX9_has__X9_has_r1 _ (List.mem_of_getElem? (i := 0) rfl)), List.forall_mem_cons.mpr ⟨(gcX9_has__X9_has_r1 _ (List.mem_of_getElem? (i := 1) rfl)), List.forall_mem_cons.mpr ⟨(gcX9_has__X9_has_r1 _ (List.mem_of_getElem? (i := 2) rfl)), List.forall_mem_cons.mpr ⟨(gcX9_has__X9_has_r1 _ (List.mem_of_getElem? (i := 9) rfl)), List.forall_mem_cons.mpr ⟨(gcX9_has__X9_has_r1 _ (List.mem_of_getElem? (i := 10) rfl)), List.forall_mem_cons.mpr ⟨(gcX9_has__X9_has_r1 _ (List.mem_of_getElem? (i := 11) rfl)), List.forall_mem_cons.mpr ⟨(gcX9_has__X9_has_r1 _ (List.mem_of_getElem? (i := 12) rfl)), List.forall_mem_cons.mpr ⟨(gcX9_has__X9_has_r1 _ (List.mem_of_getElem? (i := 13) rfl)), List.forall_mem_cons.mpr ⟨(gcX9_has__X9_has_r1 _ (List.mem_of_getElem? (i := 14) rfl)), fun _ h => (List.not_mem_nil h).elim⟩⟩⟩⟩⟩⟩⟩⟩⟩, gcX9_has__X90⟩, gcX9_has__X80⟩, gcX9_has__X50⟩⟩) gwX9_countDropped
set_option maxRecDepth 20000 in
theorem gX9_has_X9_countDropped : GoodIn wsX9_has (wsV RX9 140 RX9 yX9_countDropped wsX9_countDropped) := goodIn_app (goodIn_sub (List.forall_mem_cons.mpr ⟨(gcX9_has__X9_has_r1 _ (List.mem_of_getElem? (i := 4) rfl)), List.forall_mem_cons.mpr ⟨(gcX9_has__X9_has_r1 _ (List.mem_of_getElem? (i := 5) rfl)), List.forall_mem_cons.mpr ⟨(gcX9_has__X9_has_r1 _ (List.mem_of_getElem? (i := 6) rfl)), List.forall_mem_cons.mpr ⟨(gcX9_has__X9_has_r1 _ (List.mem_of_getElem? (i := 7) rfl)), fun _ h => (List.not_mem_nil h).elim⟩⟩⟩⟩) (by decide +kernel)) ggX9_has_X9_countDropped
theorem gcX9_has__X9_has_r2 : ∀ w ∈ wsX9_has_r2, w ∈ wsX9_has := fun w h => List.mem_cons_of_mem _ (List.mem_append_left _ (List.mem_append_left _ (List.mem_append_left _ (List.mem_append_right _ (h)))))
set_option maxRecDepth 20000 in
theorem gwX5_countFixed : wsX5_countFixed.all goodWord = true := by decide +kernel
set_option maxRecDepth 20000 in
theorem ggX9_has_X5_countFixed : GoodIn wsX9_has wsX5_countFixed := goodIn_sub (List.forall_mem_cons.mpr ⟨(gcX9_has__X9_has_r1 _ (List.mem_of_getElem? (i := 18) rfl)), List.forall_mem_append.mpr ⟨List.forall_mem_append.mpr ⟨List.forall_mem_cons.mpr ⟨(gcX9_has__X9_has_r1 _ (List.mem_of_getElem? (i := 19) rfl)), List.forall_mem_cons.mpr ⟨(gcX9_has__X9_has_r1 _ (List.mem_of_getElem? (i := 20) rfl)), List.forall_mem_cons.mpr ⟨(gcX9_has__X9_has_r1 _ (List.mem_of_getElem? (i := 21) rfl)), List.forall_mem_cons.mpr ⟨(gcX9_has__X9_has_r1 _ (List.mem_of_getElem? (i := 22) rfl)), List.forall_mem_cons.mpr ⟨(gcX9_has__X9_has_r1 _ (List.mem_of_getElem? (i := 23) rfl)), List.forall_mem_cons.mpr ⟨(gcX9_has__X9_has_r1 _ (List.mem_of_getElem? (i := 12) rfl)), List.forall_mem_cons.mpr ⟨(gcX9_has__X9_has_r2 _ (List.mem_of_getElem? (i := 0) rfl)), List.forall_mem_cons.mpr ⟨(gcX9_has__X9_has_r2 _ (List.mem_of_getElem? (i := 1) rfl)), List.forall_mem_cons.mpr ⟨(gcX9_has__X9_has_r2 _ (List.mem_of_getElem? (i := 2) rfl)), fun _ h => (List.not_mem_nil h).elim⟩⟩⟩⟩⟩⟩⟩⟩⟩, gcX9_has__X50⟩, gcX9_has__X80⟩⟩) gwX5_countFixed
set_option maxRecDepth 20000 in
theorem gX9_has_X5_countFixed : GoodIn wsX9_has (wsV RX9 143 RX5 yX5_countFixed wsX5_countFixed) := goodIn_app (goodIn_sub (List.forall_mem_cons.mpr ⟨(gcX9_has__X9_has_r1 _ (List.mem_of_getElem? (i := 15) rfl)), List.forall_mem_cons.mpr ⟨(gcX9_has__X9_has_r1 _ (List.mem_of_getElem? (i := 16) rfl)), List.forall_mem_cons.mpr ⟨(gcX9_has__X9_has_r1 _ (List.mem_of_getElem? (i := 17) rfl)), List.forall_mem_cons.mpr ⟨(gcX9_has__X9_has_r1 _ (List.mem_of_getElem? (i := 12) rfl)), fun _ h => (List.not_mem_nil h).elim⟩⟩⟩⟩) (by decide +kernel)) ggX9_has_X5_countFixed
theorem dX9_has_0 : decode cX9_has 0 = .ok (.iload_n 1, 1) := by decide +kernel
theorem dX9_has_1 : decode cX9_has 1 = .ok (.ifCond .lt 18, 3) := by decide +kernel
theorem dX9_has_4 : decode cX9_has 4 = .ok (.iload_n 1, 1) := by decide +kernel
theorem dX9_has_5 : decode cX9_has 5 = .ok (.iconst 5, 1) := by decide +kernel
theorem dX9_has_6 : decode cX9_has 6 = .ok (.if_icmp .gt 13, 3) := by decide +kernel
theorem dX9_has_9 : decode cX9_has 9 = .ok (.aload_n 0, 1) := by decide +kernel
theorem dX9_has_10 : decode cX9_has 10 = .ok (.getfield 20, 3) := by decide +kernel
theorem dX9_has_13 : decode cX9_has 13 = .ok (.getfield 137, 3) := by decide +kernel
theorem dX9_has_16 : decode cX9_has 16 = .ok (.iload_n 1, 1) := by decide +kernel
theorem dX9_has_17 : decode cX9_has 17 = .ok (.iaload, 1) := by decide +kernel
theorem dX9_has_18 : decode cX9_has 18 = .ok (.ireturn, 1) := by decide +kernel
theorem dX9_has_19 : decode cX9_has 19 = .ok (.iload_n 1, 1) := by decide +kernel
theorem dX9_has_20 : decode cX9_has 20 = .ok (.bipush 6, 2) := by decide +kernel
theorem dX9_has_22 : decode cX9_has 22 = .ok (.if_icmp .ne 8, 3) := by decide +kernel
theorem dX9_has_25 : decode cX9_has 25 = .ok (.aload_n 0, 1) := by decide +kernel
theorem dX9_has_26 : decode cX9_has 26 = .ok (.invokevirtual 140, 3) := by decide +kernel
theorem dX9_has_29 : decode cX9_has 29 = .ok (.ireturn, 1) := by decide +kernel
theorem dX9_has_30 : decode cX9_has 30 = .ok (.iload_n 1, 1) := by decide +kernel
theorem dX9_has_31 : decode cX9_has 31 = .ok (.bipush 7, 2) := by decide +kernel
theorem dX9_has_33 : decode cX9_has 33 = .ok (.if_icmp .ne 11, 3) := by decide +kernel
theorem dX9_has_36 : decode cX9_has 36 = .ok (.aload_n 0, 1) := by decide +kernel
theorem dX9_has_37 : decode cX9_has 37 = .ok (.getfield 41, 3) := by decide +kernel
theorem dX9_has_40 : decode cX9_has 40 = .ok (.getfield 121, 3) := by decide +kernel
theorem dX9_has_43 : decode cX9_has 43 = .ok (.ireturn, 1) := by decide +kernel
theorem dX9_has_44 : decode cX9_has 44 = .ok (.iload_n 1, 1) := by decide +kernel
theorem dX9_has_45 : decode cX9_has 45 = .ok (.bipush 8, 2) := by decide +kernel
theorem dX9_has_47 : decode cX9_has 47 = .ok (.if_icmp .ne 11, 3) := by decide +kernel
theorem dX9_has_50 : decode cX9_has 50 = .ok (.aload_n 0, 1) := by decide +kernel
theorem dX9_has_51 : decode cX9_has 51 = .ok (.getfield 41, 3) := by decide +kernel
theorem dX9_has_54 : decode cX9_has 54 = .ok (.invokevirtual 143, 3) := by decide +kernel
theorem dX9_has_57 : decode cX9_has 57 = .ok (.ireturn, 1) := by decide +kernel
theorem dX9_has_58 : decode cX9_has 58 = .ok (.iconst (-1), 1) := by decide +kernel
theorem dX9_has_59 : decode cX9_has 59 = .ok (.ireturn, 1) := by decide +kernel
theorem gcX9_countDropped__X50 : ∀ w ∈ wsX50, w ∈ wsX9_countDropped := fun w h => List.mem_cons_of_mem _ (List.mem_append_right _ (h))
set_option maxRecDepth 20000 in
theorem ggX9_countDropped_X5_uses : GoodIn wsX9_countDropped wsX5_uses := goodIn_sub (List.forall_mem_cons.mpr ⟨(List.mem_of_getElem? (i := 8) rfl), List.forall_mem_append.mpr ⟨List.forall_mem_cons.mpr ⟨(List.mem_of_getElem? (i := 9) rfl), fun _ h => (List.not_mem_nil h).elim⟩, gcX9_countDropped__X50⟩⟩) gwX5_uses
set_option maxRecDepth 20000 in
theorem gX9_countDropped_X5_uses : GoodIn wsX9_countDropped (wsV RX9 146 RX5 yX5_uses wsX5_uses) := goodIn_app (goodIn_sub (List.forall_mem_cons.mpr ⟨(List.mem_of_getElem? (i := 4) rfl), List.forall_mem_cons.mpr ⟨(List.mem_of_getElem? (i := 5) rfl), List.forall_mem_cons.mpr ⟨(List.mem_of_getElem? (i := 6) rfl), List.forall_mem_cons.mpr ⟨(List.mem_of_getElem? (i := 7) rfl), fun _ h => (List.not_mem_nil h).elim⟩⟩⟩⟩) (by decide +kernel)) ggX9_countDropped_X5_uses
theorem dX9_countDropped_0 : decode cX9_countDropped 0 = .ok (.iconst 0, 1) := by decide +kernel
theorem dX9_countDropped_1 : decode cX9_countDropped 1 = .ok (.istore_n 1, 1) := by decide +kernel
theorem dX9_countDropped_2 : decode cX9_countDropped 2 = .ok (.iconst 0, 1) := by decide +kernel
theorem dX9_countDropped_3 : decode cX9_countDropped 3 = .ok (.istore_n 2, 1) := by decide +kernel
theorem dX9_countDropped_4 : decode cX9_countDropped 4 = .ok (.iload_n 2, 1) := by decide +kernel
theorem dX9_countDropped_5 : decode cX9_countDropped 5 = .ok (.aload_n 0, 1) := by decide +kernel
theorem dX9_countDropped_6 : decode cX9_countDropped 6 = .ok (.getfield 20, 3) := by decide +kernel
theorem dX9_countDropped_9 : decode cX9_countDropped 9 = .ok (.getfield 137, 3) := by decide +kernel
theorem dX9_countDropped_12 : decode cX9_countDropped 12 = .ok (.iconst 3, 1) := by decide +kernel
theorem dX9_countDropped_13 : decode cX9_countDropped 13 = .ok (.iaload, 1) := by decide +kernel
theorem dX9_countDropped_14 : decode cX9_countDropped 14 = .ok (.if_icmp .ge 23, 3) := by decide +kernel
theorem dX9_countDropped_17 : decode cX9_countDropped 17 = .ok (.aload_n 0, 1) := by decide +kernel
theorem dX9_countDropped_18 : decode cX9_countDropped 18 = .ok (.getfield 41, 3) := by decide +kernel
theorem dX9_countDropped_21 : decode cX9_countDropped 21 = .ok (.iload_n 2, 1) := by decide +kernel
theorem dX9_countDropped_22 : decode cX9_countDropped 22 = .ok (.invokevirtual 146, 3) := by decide +kernel
theorem dX9_countDropped_25 : decode cX9_countDropped 25 = .ok (.ifCond .ne 6, 3) := by decide +kernel
theorem dX9_countDropped_28 : decode cX9_countDropped 28 = .ok (.iinc 1 1, 3) := by decide +kernel
theorem dX9_countDropped_31 : decode cX9_countDropped 31 = .ok (.iinc 2 1, 3) := by decide +kernel
theorem dX9_countDropped_34 : decode cX9_countDropped 34 = .ok (.goto (-30), 3) := by decide +kernel
theorem dX9_countDropped_37 : decode cX9_countDropped 37 = .ok (.iload_n 1, 1) := by decide +kernel
theorem dX9_countDropped_38 : decode cX9_countDropped 38 = .ok (.ireturn, 1) := by decide +kernel
theorem gcX9_letter__X80 : ∀ w ∈ wsX80, w ∈ wsX9_letter := fun w h => List.mem_cons_of_mem _ (List.mem_append_right _ (h))
set_option maxRecDepth 20000 in
theorem gwX8_exists : wsX8_exists.all goodWord = true := by decide +kernel
set_option maxRecDepth 20000 in
theorem ggX9_letter_X8_exists : GoodIn wsX9_letter wsX8_exists := goodIn_sub (List.forall_mem_cons.mpr ⟨(List.mem_of_getElem? (i := 7) rfl), List.forall_mem_append.mpr ⟨List.forall_mem_cons.mpr ⟨(List.mem_of_getElem? (i := 8) rfl), fun _ h => (List.not_mem_nil h).elim⟩, gcX9_letter__X80⟩⟩) gwX8_exists
set_option maxRecDepth 20000 in
theorem gX9_letter_X8_exists : GoodIn wsX9_letter (wsV RX9 150 RX8 yX8_exists wsX8_exists) := goodIn_app (goodIn_sub (List.forall_mem_cons.mpr ⟨(List.mem_of_getElem? (i := 3) rfl), List.forall_mem_cons.mpr ⟨(List.mem_of_getElem? (i := 4) rfl), List.forall_mem_cons.mpr ⟨(List.mem_of_getElem? (i := 5) rfl), List.forall_mem_cons.mpr ⟨(List.mem_of_getElem? (i := 6) rfl), fun _ h => (List.not_mem_nil h).elim⟩⟩⟩⟩) (by decide +kernel)) ggX9_letter_X8_exists
theorem dX9_letter_0 : decode cX9_letter 0 = .ok (.iload_n 1, 1) := by decide +kernel
theorem dX9_letter_1 : decode cX9_letter 1 = .ok (.ifCond .lt 20, 3) := by decide +kernel
theorem dX9_letter_4 : decode cX9_letter 4 = .ok (.iload_n 1, 1) := by decide +kernel
theorem dX9_letter_5 : decode cX9_letter 5 = .ok (.iconst 2, 1) := by decide +kernel
theorem dX9_letter_6 : decode cX9_letter 6 = .ok (.if_icmp .gt 15, 3) := by decide +kernel
theorem dX9_letter_9 : decode cX9_letter 9 = .ok (.aload_n 0, 1) := by decide +kernel
theorem dX9_letter_10 : decode cX9_letter 10 = .ok (.getfield 20, 3) := by decide +kernel
theorem dX9_letter_13 : decode cX9_letter 13 = .ok (.iload_n 1, 1) := by decide +kernel
theorem dX9_letter_14 : decode cX9_letter 14 = .ok (.iload_n 2, 1) := by decide +kernel
theorem dX9_letter_15 : decode cX9_letter 15 = .ok (.invokevirtual 150, 3) := by decide +kernel
theorem dX9_letter_18 : decode cX9_letter 18 = .ok (.ifCond .ne 5, 3) := by decide +kernel
theorem dX9_letter_21 : decode cX9_letter 21 = .ok (.iconst (-1), 1) := by decide +kernel
theorem dX9_letter_22 : decode cX9_letter 22 = .ok (.ireturn, 1) := by decide +kernel
theorem dX9_letter_23 : decode cX9_letter 23 = .ok (.iload_n 3, 1) := by decide +kernel
theorem dX9_letter_24 : decode cX9_letter 24 = .ok (.ifCond .lt 9, 3) := by decide +kernel
theorem dX9_letter_27 : decode cX9_letter 27 = .ok (.iload_n 3, 1) := by decide +kernel
theorem dX9_letter_28 : decode cX9_letter 28 = .ok (.bipush 6, 2) := by decide +kernel
theorem dX9_letter_30 : decode cX9_letter 30 = .ok (.if_icmp .lt 5, 3) := by decide +kernel
theorem dX9_letter_33 : decode cX9_letter 33 = .ok (.iconst (-1), 1) := by decide +kernel
theorem dX9_letter_34 : decode cX9_letter 34 = .ok (.ireturn, 1) := by decide +kernel
theorem dX9_letter_35 : decode cX9_letter 35 = .ok (.aload_n 0, 1) := by decide +kernel
theorem dX9_letter_36 : decode cX9_letter 36 = .ok (.getfield 20, 3) := by decide +kernel
theorem dX9_letter_39 : decode cX9_letter 39 = .ok (.getfield 154, 3) := by decide +kernel
theorem dX9_letter_42 : decode cX9_letter 42 = .ok (.iload_n 1, 1) := by decide +kernel
theorem dX9_letter_43 : decode cX9_letter 43 = .ok (.aaload, 1) := by decide +kernel
theorem dX9_letter_44 : decode cX9_letter 44 = .ok (.iload_n 2, 1) := by decide +kernel
theorem dX9_letter_45 : decode cX9_letter 45 = .ok (.iaload, 1) := by decide +kernel
theorem dX9_letter_46 : decode cX9_letter 46 = .ok (.istore 4, 2) := by decide +kernel
theorem dX9_letter_48 : decode cX9_letter 48 = .ok (.iconst 5, 1) := by decide +kernel
theorem dX9_letter_49 : decode cX9_letter 49 = .ok (.istore 5, 2) := by decide +kernel
theorem dX9_letter_51 : decode cX9_letter 51 = .ok (.iload 5, 2) := by decide +kernel
theorem dX9_letter_53 : decode cX9_letter 53 = .ok (.iload_n 3, 1) := by decide +kernel
theorem dX9_letter_54 : decode cX9_letter 54 = .ok (.if_icmp .le 16, 3) := by decide +kernel
theorem dX9_letter_57 : decode cX9_letter 57 = .ok (.iload 4, 2) := by decide +kernel
theorem dX9_letter_59 : decode cX9_letter 59 = .ok (.bipush 27, 2) := by decide +kernel
theorem dX9_letter_61 : decode cX9_letter 61 = .ok (.idiv, 1) := by decide +kernel
theorem dX9_letter_62 : decode cX9_letter 62 = .ok (.istore 4, 2) := by decide +kernel
theorem dX9_letter_64 : decode cX9_letter 64 = .ok (.iinc 5 (-1), 3) := by decide +kernel
theorem dX9_letter_67 : decode cX9_letter 67 = .ok (.goto (-16), 3) := by decide +kernel
theorem dX9_letter_70 : decode cX9_letter 70 = .ok (.iload 4, 2) := by decide +kernel
theorem dX9_letter_72 : decode cX9_letter 72 = .ok (.bipush 27, 2) := by decide +kernel
theorem dX9_letter_74 : decode cX9_letter 74 = .ok (.irem, 1) := by decide +kernel
theorem dX9_letter_75 : decode cX9_letter 75 = .ok (.ireturn, 1) := by decide +kernel
theorem gcX9_picture__X9_picture_r1 : ∀ w ∈ wsX9_picture_r1, w ∈ wsX9_picture := fun w h => List.mem_cons_of_mem _ (List.mem_append_left _ (List.mem_append_left _ (List.mem_append_left _ (List.mem_append_left _ (List.mem_append_left _ (h))))))
theorem gcX9_picture__X80 : ∀ w ∈ wsX80, w ∈ wsX9_picture := fun w h => List.mem_cons_of_mem _ (List.mem_append_left _ (List.mem_append_left _ (List.mem_append_right _ (h))))
set_option maxRecDepth 20000 in
theorem ggX9_picture_X8_exists : GoodIn wsX9_picture wsX8_exists := goodIn_sub (List.forall_mem_cons.mpr ⟨(gcX9_picture__X9_picture_r1 _ (List.mem_of_getElem? (i := 14) rfl)), List.forall_mem_append.mpr ⟨List.forall_mem_cons.mpr ⟨(gcX9_picture__X9_picture_r1 _ (List.mem_of_getElem? (i := 15) rfl)), fun _ h => (List.not_mem_nil h).elim⟩, gcX9_picture__X80⟩⟩) gwX8_exists
set_option maxRecDepth 20000 in
theorem gX9_picture_X8_exists : GoodIn wsX9_picture (wsV RX9 150 RX8 yX8_exists wsX8_exists) := goodIn_app (goodIn_sub (List.forall_mem_cons.mpr ⟨(gcX9_picture__X9_picture_r1 _ (List.mem_of_getElem? (i := 10) rfl)), List.forall_mem_cons.mpr ⟨(gcX9_picture__X9_picture_r1 _ (List.mem_of_getElem? (i := 11) rfl)), List.forall_mem_cons.mpr ⟨(gcX9_picture__X9_picture_r1 _ (List.mem_of_getElem? (i := 12) rfl)), List.forall_mem_cons.mpr ⟨(gcX9_picture__X9_picture_r1 _ (List.mem_of_getElem? (i := 13) rfl)), fun _ h => (List.not_mem_nil h).elim⟩⟩⟩⟩) (by decide +kernel)) ggX9_picture_X8_exists
theorem gcX9_picture__X9_picture_r2 : ∀ w ∈ wsX9_picture_r2, w ∈ wsX9_picture := fun w h => List.mem_cons_of_mem _ (List.mem_append_left _ (List.mem_append_left _ (List.mem_append_left _ (List.mem_append_left _ (List.mem_append_right _ (List.mem_append_left _ (h)))))))
theorem gcX9_picture__X50 : ∀ w ∈ wsX50, w ∈ wsX9_picture := fun w h => List.mem_cons_of_mem _ (List.mem_append_left _ (List.mem_append_right _ (h)))
set_option maxRecDepth 20000 in
theorem gwX5_countRows : wsX5_countRows.all goodWord = true := by decide +kernel
set_option maxRecDepth 20000 in
theorem ggX9_picture_X5_countRows : GoodIn wsX9_picture wsX5_countRows := goodIn_sub (List.forall_mem_cons.mpr ⟨(gcX9_picture__X9_picture_r1 _ (List.mem_of_getElem? (i := 20) rfl)), List.forall_mem_append.mpr ⟨List.forall_mem_append.mpr ⟨List.forall_mem_cons.mpr ⟨(gcX9_picture__X9_picture_r1 _ (List.mem_of_getElem? (i := 21) rfl)), List.forall_mem_cons.mpr ⟨(gcX9_picture__X9_picture_r1 _ (List.mem_of_getElem? (i := 22) rfl)), List.forall_mem_cons.mpr ⟨(gcX9_picture__X9_picture_r1 _ (List.mem_of_getElem? (i := 23) rfl)), List.forall_mem_cons.mpr ⟨(gcX9_picture__X9_picture_r2 _ (List.mem_of_getElem? (i := 0) rfl)), List.forall_mem_cons.mpr ⟨(gcX9_picture__X9_picture_r2 _ (List.mem_of_getElem? (i := 1) rfl)), List.forall_mem_cons.mpr ⟨(gcX9_picture__X9_picture_r1 _ (List.mem_of_getElem? (i := 19) rfl)), List.forall_mem_cons.mpr ⟨(gcX9_picture__X9_picture_r2 _ (List.mem_of_getElem? (i := 2) rfl)), List.forall_mem_cons.mpr ⟨(gcX9_picture__X9_picture_r2 _ (List.mem_of_getElem? (i := 3) rfl)), fun _ h => (List.not_mem_nil h).elim⟩⟩⟩⟩⟩⟩⟩⟩, gcX9_picture__X50⟩, gcX9_picture__X80⟩⟩) gwX5_countRows
set_option maxRecDepth 20000 in
theorem gX9_picture_X5_countRows : GoodIn wsX9_picture (wsV RX9 172 RX5 yX5_countRows wsX5_countRows) := goodIn_app (goodIn_sub (List.forall_mem_cons.mpr ⟨(gcX9_picture__X9_picture_r1 _ (List.mem_of_getElem? (i := 16) rfl)), List.forall_mem_cons.mpr ⟨(gcX9_picture__X9_picture_r1 _ (List.mem_of_getElem? (i := 17) rfl)), List.forall_mem_cons.mpr ⟨(gcX9_picture__X9_picture_r1 _ (List.mem_of_getElem? (i := 18) rfl)), List.forall_mem_cons.mpr ⟨(gcX9_picture__X9_picture_r1 _ (List.mem_of_getElem? (i := 19) rfl)), fun _ h => (List.not_mem_nil h).elim⟩⟩⟩⟩) (by decide +kernel)) ggX9_picture_X5_countRows
theorem gcX9_picture__X9_picture_r3 : ∀ w ∈ wsX9_picture_r3, w ∈ wsX9_picture := fun w h => List.mem_cons_of_mem _ (List.mem_append_left _ (List.mem_append_left _ (List.mem_append_left _ (List.mem_append_left _ (List.mem_append_right _ (List.mem_append_right _ (h)))))))
set_option maxRecDepth 20000 in
theorem gmX9_picture__X2_isPictureLoose_r1 : ∀ w ∈ wsX2_isPictureLoose_r1, w ∈ wsX9_picture := List.forall_mem_cons.mpr ⟨(gcX9_picture__X9_picture_r2 _ (List.mem_of_getElem? (i := 9) rfl)), List.forall_mem_cons.mpr ⟨(gcX9_picture__X9_picture_r2 _ (List.mem_of_getElem? (i := 10) rfl)), List.forall_mem_cons.mpr ⟨(gcX9_picture__X9_picture_r2 _ (List.mem_of_getElem? (i := 11) rfl)), List.forall_mem_cons.mpr ⟨(gcX9_picture__X9_picture_r2 _ (List.mem_of_getElem? (i := 7) rfl)), List.forall_mem_cons.mpr ⟨(gcX9_picture__X9_picture_r2 _ (List.mem_of_getElem? (i := 12) rfl)), List.forall_mem_cons.mpr ⟨(gcX9_picture__X9_picture_r2 _ (List.mem_of_getElem? (i := 13) rfl)), List.forall_mem_cons.mpr ⟨(gcX9_picture__X9_picture_r2 _ (List.mem_of_getElem? (i := 14) rfl)), List.forall_mem_cons.mpr ⟨(gcX9_picture__X9_picture_r2 _ (List.mem_of_getElem? (i := 15) rfl)), List.forall_mem_cons.mpr ⟨(gcX9_picture__X9_picture_r2 _ (List.mem_of_getElem? (i := 16) rfl)), List.forall_mem_cons.mpr ⟨(gcX9_picture__X9_picture_r2 _ (List.mem_of_getElem? (i := 17) rfl)), List.forall_mem_cons.mpr ⟨(gcX9_picture__X9_picture_r2 _ (List.mem_of_getElem? (i := 18) rfl)), List.forall_mem_cons.mpr ⟨(gcX9_picture__X9_picture_r2 _ (List.mem_of_getElem? (i := 19) rfl)), List.forall_mem_cons.mpr ⟨(gcX9_picture__X9_picture_r2 _ (List.mem_of_getElem? (i := 20) rfl)), List.forall_mem_cons.mpr ⟨(gcX9_picture__X9_picture_r2 _ (List.mem_of_getElem? (i := 21) rfl)), List.forall_mem_cons.mpr ⟨(gcX9_picture__X9_picture_r2 _ (List.mem_of_getElem? (i := 22) rfl)), List.forall_mem_cons.mpr ⟨(gcX9_picture__X9_picture_r2 _ (List.mem_of_getElem? (i := 0) rfl)), List.forall_mem_cons.mpr ⟨(gcX9_picture__X9_picture_r2 _ (List.mem_of_getElem? (i := 1) rfl)), List.forall_mem_cons.mpr ⟨(gcX9_picture__X9_picture_r1 _ (List.mem_of_getElem? (i := 19) rfl)), List.forall_mem_cons.mpr ⟨(gcX9_picture__X9_picture_r2 _ (List.mem_of_getElem? (i := 2) rfl)), List.forall_mem_cons.mpr ⟨(gcX9_picture__X9_picture_r2 _ (List.mem_of_getElem? (i := 3) rfl)), List.forall_mem_cons.mpr ⟨(gcX9_picture__X9_picture_r2 _ (List.mem_of_getElem? (i := 23) rfl)), List.forall_mem_cons.mpr ⟨(gcX9_picture__X9_picture_r3 _ (List.mem_of_getElem? (i := 0) rfl)), List.forall_mem_cons.mpr ⟨(gcX9_picture__X9_picture_r3 _ (List.mem_of_getElem? (i := 1) rfl)), List.forall_mem_cons.mpr ⟨(gcX9_picture__X9_picture_r3 _ (List.mem_of_getElem? (i := 2) rfl)), fun _ h => (List.not_mem_nil h).elim⟩⟩⟩⟩⟩⟩⟩⟩⟩⟩⟩⟩⟩⟩⟩⟩⟩⟩⟩⟩⟩⟩⟩⟩
set_option maxRecDepth 20000 in
theorem gmX9_picture__X2_isPictureLoose_r2 : ∀ w ∈ wsX2_isPictureLoose_r2, w ∈ wsX9_picture := List.forall_mem_cons.mpr ⟨(gcX9_picture__X9_picture_r3 _ (List.mem_of_getElem? (i := 3) rfl)), List.forall_mem_cons.mpr ⟨(gcX9_picture__X9_picture_r3 _ (List.mem_of_getElem? (i := 4) rfl)), List.forall_mem_cons.mpr ⟨(gcX9_picture__X9_picture_r3 _ (List.mem_of_getElem? (i := 5) rfl)), List.forall_mem_cons.mpr ⟨(gcX9_picture__X9_picture_r3 _ (List.mem_of_getElem? (i := 6) rfl)), List.forall_mem_cons.mpr ⟨(gcX9_picture__X9_picture_r3 _ (List.mem_of_getElem? (i := 7) rfl)), List.forall_mem_cons.mpr ⟨(gcX9_picture__X9_picture_r3 _ (List.mem_of_getElem? (i := 8) rfl)), List.forall_mem_cons.mpr ⟨(gcX9_picture__X9_picture_r3 _ (List.mem_of_getElem? (i := 9) rfl)), List.forall_mem_cons.mpr ⟨(gcX9_picture__X9_picture_r3 _ (List.mem_of_getElem? (i := 10) rfl)), List.forall_mem_cons.mpr ⟨(gcX9_picture__X9_picture_r3 _ (List.mem_of_getElem? (i := 11) rfl)), List.forall_mem_cons.mpr ⟨(gcX9_picture__X9_picture_r3 _ (List.mem_of_getElem? (i := 12) rfl)), List.forall_mem_cons.mpr ⟨(gcX9_picture__X9_picture_r3 _ (List.mem_of_getElem? (i := 13) rfl)), List.forall_mem_cons.mpr ⟨(gcX9_picture__X9_picture_r3 _ (List.mem_of_getElem? (i := 14) rfl)), List.forall_mem_cons.mpr ⟨(gcX9_picture__X9_picture_r1 _ (List.mem_of_getElem? (i := 21) rfl)), List.forall_mem_cons.mpr ⟨(gcX9_picture__X9_picture_r3 _ (List.mem_of_getElem? (i := 15) rfl)), List.forall_mem_cons.mpr ⟨(gcX9_picture__X9_picture_r3 _ (List.mem_of_getElem? (i := 16) rfl)), List.forall_mem_cons.mpr ⟨(gcX9_picture__X9_picture_r3 _ (List.mem_of_getElem? (i := 17) rfl)), List.forall_mem_cons.mpr ⟨(gcX9_picture__X9_picture_r3 _ (List.mem_of_getElem? (i := 18) rfl)), List.forall_mem_cons.mpr ⟨(gcX9_picture__X9_picture_r3 _ (List.mem_of_getElem? (i := 19) rfl)), List.forall_mem_cons.mpr ⟨(gcX9_picture__X9_picture_r3 _ (List.mem_of_getElem? (i := 20) rfl)), fun _ h => (List.not_mem_nil h).elim⟩⟩⟩⟩⟩⟩⟩⟩⟩⟩⟩⟩⟩⟩⟩⟩⟩⟩⟩
theorem gcX9_picture__X20 : ∀ w ∈ wsX20, w ∈ wsX9_picture := fun w h => List.mem_cons_of_mem _ (List.mem_append_right _ (h))
set_option maxRecDepth 20000 in
theorem gwX2_isPictureLoose : wsX2_isPictureLoose.all goodWord = true := by decide +kernel
set_option maxRecDepth 20000 in
theorem ggX9_picture_X2_isPictureLoose : GoodIn wsX9_picture wsX2_isPictureLoose := goodIn_sub (List.forall_mem_cons.mpr ⟨(gcX9_picture__X9_picture_r2 _ (List.mem_of_getElem? (i := 8) rfl)), List.forall_mem_append.mpr ⟨List.forall_mem_append.mpr ⟨List.forall_mem_append.mpr ⟨List.forall_mem_append.mpr ⟨gmX9_picture__X2_isPictureLoose_r1, gmX9_picture__X2_isPictureLoose_r2⟩, gcX9_picture__X20⟩, gcX9_picture__X80⟩, gcX9_picture__X50⟩⟩) gwX2_isPictureLoose
set_option maxRecDepth 20000 in
theorem gX9_picture_X2_isPictureLoose : GoodIn wsX9_picture (wsV RX9 176 RX2 yX2_isPictureLoose wsX2_isPictureLoose) := goodIn_app (goodIn_sub (List.forall_mem_cons.mpr ⟨(gcX9_picture__X9_picture_r2 _ (List.mem_of_getElem? (i := 4) rfl)), List.forall_mem_cons.mpr ⟨(gcX9_picture__X9_picture_r2 _ (List.mem_of_getElem? (i := 5) rfl)), List.forall_mem_cons.mpr ⟨(gcX9_picture__X9_picture_r2 _ (List.mem_of_getElem? (i := 6) rfl)), List.forall_mem_cons.mpr ⟨(gcX9_picture__X9_picture_r2 _ (List.mem_of_getElem? (i := 7) rfl)), fun _ h => (List.not_mem_nil h).elim⟩⟩⟩⟩) (by decide +kernel)) ggX9_picture_X2_isPictureLoose
theorem dX9_picture_0 : decode cX9_picture 0 = .ok (.aload_n 0, 1) := by decide +kernel
theorem dX9_picture_1 : decode cX9_picture 1 = .ok (.getfield 20, 3) := by decide +kernel
theorem dX9_picture_4 : decode cX9_picture 4 = .ok (.iconst 1, 1) := by decide +kernel
theorem dX9_picture_5 : decode cX9_picture 5 = .ok (.iload_n 1, 1) := by decide +kernel
theorem dX9_picture_6 : decode cX9_picture 6 = .ok (.invokevirtual 150, 3) := by decide +kernel
theorem dX9_picture_9 : decode cX9_picture 9 = .ok (.ifCond .ne 6, 3) := by decide +kernel
theorem dX9_picture_12 : decode cX9_picture 12 = .ok (.ldc 158, 2) := by decide +kernel
theorem dX9_picture_14 : decode cX9_picture 14 = .ok (.ireturn, 1) := by decide +kernel
theorem dX9_picture_15 : decode cX9_picture 15 = .ok (.iload_n 2, 1) := by decide +kernel
theorem dX9_picture_16 : decode cX9_picture 16 = .ok (.tableswitch 162 0 7 #[48, 58, 68, 87, 99, 111, 127, 144], 48) := by decide +kernel
theorem dX9_picture_64 : decode cX9_picture 64 = .ok (.aload_n 0, 1) := by decide +kernel
theorem dX9_picture_65 : decode cX9_picture 65 = .ok (.getfield 20, 3) := by decide +kernel
theorem dX9_picture_68 : decode cX9_picture 68 = .ok (.getfield 159, 3) := by decide +kernel
theorem dX9_picture_71 : decode cX9_picture 71 = .ok (.iload_n 1, 1) := by decide +kernel
theorem dX9_picture_72 : decode cX9_picture 72 = .ok (.iaload, 1) := by decide +kernel
theorem dX9_picture_73 : decode cX9_picture 73 = .ok (.ireturn, 1) := by decide +kernel
theorem dX9_picture_74 : decode cX9_picture 74 = .ok (.aload_n 0, 1) := by decide +kernel
theorem dX9_picture_75 : decode cX9_picture 75 = .ok (.getfield 41, 3) := by decide +kernel
theorem dX9_picture_78 : decode cX9_picture 78 = .ok (.getfield 162, 3) := by decide +kernel
theorem dX9_picture_81 : decode cX9_picture 81 = .ok (.iload_n 1, 1) := by decide +kernel
theorem dX9_picture_82 : decode cX9_picture 82 = .ok (.iaload, 1) := by decide +kernel
theorem dX9_picture_83 : decode cX9_picture 83 = .ok (.ireturn, 1) := by decide +kernel
theorem dX9_picture_84 : decode cX9_picture 84 = .ok (.aload_n 0, 1) := by decide +kernel
theorem dX9_picture_85 : decode cX9_picture 85 = .ok (.getfield 20, 3) := by decide +kernel
theorem dX9_picture_88 : decode cX9_picture 88 = .ok (.getfield 165, 3) := by decide +kernel
theorem dX9_picture_91 : decode cX9_picture 91 = .ok (.iload_n 1, 1) := by decide +kernel
theorem dX9_picture_92 : decode cX9_picture 92 = .ok (.iaload, 1) := by decide +kernel
theorem dX9_picture_93 : decode cX9_picture 93 = .ok (.iconst 4, 1) := by decide +kernel
theorem dX9_picture_94 : decode cX9_picture 94 = .ok (.if_icmp .ne 7, 3) := by decide +kernel
theorem dX9_picture_97 : decode cX9_picture 97 = .ok (.iconst 1, 1) := by decide +kernel
theorem dX9_picture_98 : decode cX9_picture 98 = .ok (.goto 4, 3) := by decide +kernel
theorem dX9_picture_101 : decode cX9_picture 101 = .ok (.iconst 0, 1) := by decide +kernel
theorem dX9_picture_102 : decode cX9_picture 102 = .ok (.ireturn, 1) := by decide +kernel
theorem dX9_picture_103 : decode cX9_picture 103 = .ok (.aload_n 0, 1) := by decide +kernel
theorem dX9_picture_104 : decode cX9_picture 104 = .ok (.getfield 41, 3) := by decide +kernel
theorem dX9_picture_107 : decode cX9_picture 107 = .ok (.getfield 166, 3) := by decide +kernel
theorem dX9_picture_110 : decode cX9_picture 110 = .ok (.iconst 0, 1) := by decide +kernel
theorem dX9_picture_111 : decode cX9_picture 111 = .ok (.aaload, 1) := by decide +kernel
theorem dX9_picture_112 : decode cX9_picture 112 = .ok (.iload_n 1, 1) := by decide +kernel
theorem dX9_picture_113 : decode cX9_picture 113 = .ok (.iaload, 1) := by decide +kernel
theorem dX9_picture_114 : decode cX9_picture 114 = .ok (.ireturn, 1) := by decide +kernel
theorem dX9_picture_115 : decode cX9_picture 115 = .ok (.aload_n 0, 1) := by decide +kernel
theorem dX9_picture_116 : decode cX9_picture 116 = .ok (.getfield 41, 3) := by decide +kernel
theorem dX9_picture_119 : decode cX9_picture 119 = .ok (.getfield 166, 3) := by decide +kernel
theorem dX9_picture_122 : decode cX9_picture 122 = .ok (.iconst 1, 1) := by decide +kernel
theorem dX9_picture_123 : decode cX9_picture 123 = .ok (.aaload, 1) := by decide +kernel
theorem dX9_picture_124 : decode cX9_picture 124 = .ok (.iload_n 1, 1) := by decide +kernel
theorem dX9_picture_125 : decode cX9_picture 125 = .ok (.iaload, 1) := by decide +kernel
theorem dX9_picture_126 : decode cX9_picture 126 = .ok (.ireturn, 1) := by decide +kernel
theorem dX9_picture_127 : decode cX9_picture 127 = .ok (.aload_n 0, 1) := by decide +kernel
theorem dX9_picture_128 : decode cX9_picture 128 = .ok (.getfield 41, 3) := by decide +kernel
theorem dX9_picture_131 : decode cX9_picture 131 = .ok (.aload_n 0, 1) := by decide +kernel
theorem dX9_picture_132 : decode cX9_picture 132 = .ok (.getfield 20, 3) := by decide +kernel
theorem dX9_picture_135 : decode cX9_picture 135 = .ok (.getfield 169, 3) := by decide +kernel
theorem dX9_picture_138 : decode cX9_picture 138 = .ok (.iload_n 1, 1) := by decide +kernel
theorem dX9_picture_139 : decode cX9_picture 139 = .ok (.invokevirtual 172, 3) := by decide +kernel
theorem dX9_picture_142 : decode cX9_picture 142 = .ok (.ireturn, 1) := by decide +kernel
theorem dX9_picture_143 : decode cX9_picture 143 = .ok (.aload_n 0, 1) := by decide +kernel
theorem dX9_picture_144 : decode cX9_picture 144 = .ok (.getfield 77, 3) := by decide +kernel
theorem dX9_picture_147 : decode cX9_picture 147 = .ok (.iload_n 1, 1) := by decide +kernel
theorem dX9_picture_148 : decode cX9_picture 148 = .ok (.invokevirtual 176, 3) := by decide +kernel
theorem dX9_picture_151 : decode cX9_picture 151 = .ok (.ifCond .eq 7, 3) := by decide +kernel
theorem dX9_picture_154 : decode cX9_picture 154 = .ok (.iconst 1, 1) := by decide +kernel
theorem dX9_picture_155 : decode cX9_picture 155 = .ok (.goto 4, 3) := by decide +kernel
theorem dX9_picture_158 : decode cX9_picture 158 = .ok (.iconst 0, 1) := by decide +kernel
theorem dX9_picture_159 : decode cX9_picture 159 = .ok (.ireturn, 1) := by decide +kernel
theorem dX9_picture_160 : decode cX9_picture 160 = .ok (.aload_n 0, 1) := by decide +kernel
theorem dX9_picture_161 : decode cX9_picture 161 = .ok (.getfield 20, 3) := by decide +kernel
theorem dX9_picture_164 : decode cX9_picture 164 = .ok (.getfield 179, 3) := by decide +kernel
theorem dX9_picture_167 : decode cX9_picture 167 = .ok (.iload_n 1, 1) := by decide +kernel
theorem dX9_picture_168 : decode cX9_picture 168 = .ok (.iaload, 1) := by decide +kernel
theorem dX9_picture_169 : decode cX9_picture 169 = .ok (.ifCond .le 7, 3) := by decide +kernel
theorem dX9_picture_172 : decode cX9_picture 172 = .ok (.iconst 1, 1) := by decide +kernel
theorem dX9_picture_173 : decode cX9_picture 173 = .ok (.goto 4, 3) := by decide +kernel
theorem dX9_picture_176 : decode cX9_picture 176 = .ok (.iconst 0, 1) := by decide +kernel
theorem dX9_picture_177 : decode cX9_picture 177 = .ok (.ireturn, 1) := by decide +kernel
theorem dX9_picture_178 : decode cX9_picture 178 = .ok (.ldc 158, 2) := by decide +kernel
theorem dX9_picture_180 : decode cX9_picture 180 = .ok (.ireturn, 1) := by decide +kernel
theorem gcX9_point__X9_point_r1 : ∀ w ∈ wsX9_point_r1, w ∈ wsX9_point := fun w h => List.mem_cons_of_mem _ (List.mem_append_left _ (List.mem_append_left _ (List.mem_append_left _ (List.mem_append_left _ (List.mem_append_left _ (h))))))
theorem gcX9_point__X80 : ∀ w ∈ wsX80, w ∈ wsX9_point := fun w h => List.mem_cons_of_mem _ (List.mem_append_left _ (List.mem_append_right _ (h)))
set_option maxRecDepth 20000 in
theorem ggX9_point_X8_exists : GoodIn wsX9_point wsX8_exists := goodIn_sub (List.forall_mem_cons.mpr ⟨(gcX9_point__X9_point_r1 _ (List.mem_of_getElem? (i := 11) rfl)), List.forall_mem_append.mpr ⟨List.forall_mem_cons.mpr ⟨(gcX9_point__X9_point_r1 _ (List.mem_of_getElem? (i := 12) rfl)), fun _ h => (List.not_mem_nil h).elim⟩, gcX9_point__X80⟩⟩) gwX8_exists
set_option maxRecDepth 20000 in
theorem gX9_point_X8_exists : GoodIn wsX9_point (wsV RX9 150 RX8 yX8_exists wsX8_exists) := goodIn_app (goodIn_sub (List.forall_mem_cons.mpr ⟨(gcX9_point__X9_point_r1 _ (List.mem_of_getElem? (i := 7) rfl)), List.forall_mem_cons.mpr ⟨(gcX9_point__X9_point_r1 _ (List.mem_of_getElem? (i := 8) rfl)), List.forall_mem_cons.mpr ⟨(gcX9_point__X9_point_r1 _ (List.mem_of_getElem? (i := 9) rfl)), List.forall_mem_cons.mpr ⟨(gcX9_point__X9_point_r1 _ (List.mem_of_getElem? (i := 10) rfl)), fun _ h => (List.not_mem_nil h).elim⟩⟩⟩⟩) (by decide +kernel)) ggX9_point_X8_exists
theorem gcX9_point__X9_point_r2 : ∀ w ∈ wsX9_point_r2, w ∈ wsX9_point := fun w h => List.mem_cons_of_mem _ (List.mem_append_left _ (List.mem_append_left _ (List.mem_append_left _ (List.mem_append_left _ (List.mem_append_right _ (List.mem_append_left _ (h)))))))
theorem gcX9_point__X50 : ∀ w ∈ wsX50, w ∈ wsX9_point := fun w h => List.mem_cons_of_mem _ (List.mem_append_left _ (List.mem_append_left _ (List.mem_append_right _ (h))))
set_option maxRecDepth 20000 in
theorem ggX9_point_X5_countRows : GoodIn wsX9_point wsX5_countRows := goodIn_sub (List.forall_mem_cons.mpr ⟨(gcX9_point__X9_point_r1 _ (List.mem_of_getElem? (i := 17) rfl)), List.forall_mem_append.mpr ⟨List.forall_mem_append.mpr ⟨List.forall_mem_cons.mpr ⟨(gcX9_point__X9_point_r1 _ (List.mem_of_getElem? (i := 18) rfl)), List.forall_mem_cons.mpr ⟨(gcX9_point__X9_point_r1 _ (List.mem_of_getElem? (i := 19) rfl)), List.forall_mem_cons.mpr ⟨(gcX9_point__X9_point_r1 _ (List.mem_of_getElem? (i := 20) rfl)), List.forall_mem_cons.mpr ⟨(gcX9_point__X9_point_r1 _ (List.mem_of_getElem? (i := 21) rfl)), List.forall_mem_cons.mpr ⟨(gcX9_point__X9_point_r1 _ (List.mem_of_getElem? (i := 22) rfl)), List.forall_mem_cons.mpr ⟨(gcX9_point__X9_point_r1 _ (List.mem_of_getElem? (i := 16) rfl)), List.forall_mem_cons.mpr ⟨(gcX9_point__X9_point_r1 _ (List.mem_of_getElem? (i := 23) rfl)), List.forall_mem_cons.mpr ⟨(gcX9_point__X9_point_r2 _ (List.mem_of_getElem? (i := 0) rfl)), fun _ h => (List.not_mem_nil h).elim⟩⟩⟩⟩⟩⟩⟩⟩, gcX9_point__X50⟩, gcX9_point__X80⟩⟩) gwX5_countRows
set_option maxRecDepth 20000 in
theorem gX9_point_X5_countRows : GoodIn wsX9_point (wsV RX9 172 RX5 yX5_countRows wsX5_countRows) := goodIn_app (goodIn_sub (List.forall_mem_cons.mpr ⟨(gcX9_point__X9_point_r1 _ (List.mem_of_getElem? (i := 13) rfl)), List.forall_mem_cons.mpr ⟨(gcX9_point__X9_point_r1 _ (List.mem_of_getElem? (i := 14) rfl)), List.forall_mem_cons.mpr ⟨(gcX9_point__X9_point_r1 _ (List.mem_of_getElem? (i := 15) rfl)), List.forall_mem_cons.mpr ⟨(gcX9_point__X9_point_r1 _ (List.mem_of_getElem? (i := 16) rfl)), fun _ h => (List.not_mem_nil h).elim⟩⟩⟩⟩) (by decide +kernel)) ggX9_point_X5_countRows
set_option maxRecDepth 20000 in
theorem ggX9_point_X5_isFixed : GoodIn wsX9_point wsX5_isFixed := goodIn_sub (List.forall_mem_cons.mpr ⟨(gcX9_point__X9_point_r2 _ (List.mem_of_getElem? (i := 4) rfl)), List.forall_mem_append.mpr ⟨List.forall_mem_append.mpr ⟨List.forall_mem_cons.mpr ⟨(gcX9_point__X9_point_r1 _ (List.mem_of_getElem? (i := 18) rfl)), List.forall_mem_cons.mpr ⟨(gcX9_point__X9_point_r2 _ (List.mem_of_getElem? (i := 5) rfl)), List.forall_mem_cons.mpr ⟨(gcX9_point__X9_point_r2 _ (List.mem_of_getElem? (i := 6) rfl)), fun _ h => (List.not_mem_nil h).elim⟩⟩⟩, gcX9_point__X50⟩, gcX9_point__X80⟩⟩) gwX5_isFixed
set_option maxRecDepth 20000 in
theorem gX9_point_X5_isFixed : GoodIn wsX9_point (wsV RX9 191 RX5 yX5_isFixed wsX5_isFixed) := goodIn_app (goodIn_sub (List.forall_mem_cons.mpr ⟨(gcX9_point__X9_point_r2 _ (List.mem_of_getElem? (i := 1) rfl)), List.forall_mem_cons.mpr ⟨(gcX9_point__X9_point_r2 _ (List.mem_of_getElem? (i := 2) rfl)), List.forall_mem_cons.mpr ⟨(gcX9_point__X9_point_r2 _ (List.mem_of_getElem? (i := 3) rfl)), List.forall_mem_cons.mpr ⟨(gcX9_point__X9_point_r1 _ (List.mem_of_getElem? (i := 16) rfl)), fun _ h => (List.not_mem_nil h).elim⟩⟩⟩⟩) (by decide +kernel)) ggX9_point_X5_isFixed
theorem gcX9_point__X9_point_r3 : ∀ w ∈ wsX9_point_r3, w ∈ wsX9_point := fun w h => List.mem_cons_of_mem _ (List.mem_append_left _ (List.mem_append_left _ (List.mem_append_left _ (List.mem_append_left _ (List.mem_append_right _ (List.mem_append_right _ (h)))))))
set_option maxRecDepth 20000 in
theorem gmX9_point__X2_isPointLoose_r1 : ∀ w ∈ wsX2_isPointLoose_r1, w ∈ wsX9_point := List.forall_mem_cons.mpr ⟨(gcX9_point__X9_point_r2 _ (List.mem_of_getElem? (i := 12) rfl)), List.forall_mem_cons.mpr ⟨(gcX9_point__X9_point_r2 _ (List.mem_of_getElem? (i := 13) rfl)), List.forall_mem_cons.mpr ⟨(gcX9_point__X9_point_r2 _ (List.mem_of_getElem? (i := 14) rfl)), List.forall_mem_cons.mpr ⟨(gcX9_point__X9_point_r2 _ (List.mem_of_getElem? (i := 10) rfl)), List.forall_mem_cons.mpr ⟨(gcX9_point__X9_point_r2 _ (List.mem_of_getElem? (i := 15) rfl)), List.forall_mem_cons.mpr ⟨(gcX9_point__X9_point_r2 _ (List.mem_of_getElem? (i := 16) rfl)), List.forall_mem_cons.mpr ⟨(gcX9_point__X9_point_r2 _ (List.mem_of_getElem? (i := 17) rfl)), List.forall_mem_cons.mpr ⟨(gcX9_point__X9_point_r2 _ (List.mem_of_getElem? (i := 18) rfl)), List.forall_mem_cons.mpr ⟨(gcX9_point__X9_point_r2 _ (List.mem_of_getElem? (i := 19) rfl)), List.forall_mem_cons.mpr ⟨(gcX9_point__X9_point_r2 _ (List.mem_of_getElem? (i := 20) rfl)), List.forall_mem_cons.mpr ⟨(gcX9_point__X9_point_r2 _ (List.mem_of_getElem? (i := 21) rfl)), List.forall_mem_cons.mpr ⟨(gcX9_point__X9_point_r2 _ (List.mem_of_getElem? (i := 22) rfl)), List.forall_mem_cons.mpr ⟨(gcX9_point__X9_point_r2 _ (List.mem_of_getElem? (i := 23) rfl)), List.forall_mem_cons.mpr ⟨(gcX9_point__X9_point_r3 _ (List.mem_of_getElem? (i := 0) rfl)), List.forall_mem_cons.mpr ⟨(gcX9_point__X9_point_r3 _ (List.mem_of_getElem? (i := 1) rfl)), List.forall_mem_cons.mpr ⟨(gcX9_point__X9_point_r1 _ (List.mem_of_getElem? (i := 21) rfl)), List.forall_mem_cons.mpr ⟨(gcX9_point__X9_point_r1 _ (List.mem_of_getElem? (i := 22) rfl)), List.forall_mem_cons.mpr ⟨(gcX9_point__X9_point_r1 _ (List.mem_of_getElem? (i := 16) rfl)), List.forall_mem_cons.mpr ⟨(gcX9_point__X9_point_r1 _ (List.mem_of_getElem? (i := 23) rfl)), List.forall_mem_cons.mpr ⟨(gcX9_point__X9_point_r2 _ (List.mem_of_getElem? (i := 0) rfl)), List.forall_mem_cons.mpr ⟨(gcX9_point__X9_point_r3 _ (List.mem_of_getElem? (i := 2) rfl)), List.forall_mem_cons.mpr ⟨(gcX9_point__X9_point_r3 _ (List.mem_of_getElem? (i := 3) rfl)), List.forall_mem_cons.mpr ⟨(gcX9_point__X9_point_r3 _ (List.mem_of_getElem? (i := 4) rfl)), List.forall_mem_cons.mpr ⟨(gcX9_point__X9_point_r3 _ (List.mem_of_getElem? (i := 5) rfl)), fun _ h => (List.not_mem_nil h).elim⟩⟩⟩⟩⟩⟩⟩⟩⟩⟩⟩⟩⟩⟩⟩⟩⟩⟩⟩⟩⟩⟩⟩⟩
set_option maxRecDepth 20000 in
theorem gmX9_point__X2_isPointLoose_r2 : ∀ w ∈ wsX2_isPointLoose_r2, w ∈ wsX9_point := List.forall_mem_cons.mpr ⟨(gcX9_point__X9_point_r3 _ (List.mem_of_getElem? (i := 6) rfl)), List.forall_mem_cons.mpr ⟨(gcX9_point__X9_point_r3 _ (List.mem_of_getElem? (i := 7) rfl)), List.forall_mem_cons.mpr ⟨(gcX9_point__X9_point_r3 _ (List.mem_of_getElem? (i := 8) rfl)), List.forall_mem_cons.mpr ⟨(gcX9_point__X9_point_r3 _ (List.mem_of_getElem? (i := 9) rfl)), List.forall_mem_cons.mpr ⟨(gcX9_point__X9_point_r3 _ (List.mem_of_getElem? (i := 10) rfl)), List.forall_mem_cons.mpr ⟨(gcX9_point__X9_point_r3 _ (List.mem_of_getElem? (i := 11) rfl)), List.forall_mem_cons.mpr ⟨(gcX9_point__X9_point_r3 _ (List.mem_of_getElem? (i := 12) rfl)), List.forall_mem_cons.mpr ⟨(gcX9_point__X9_point_r3 _ (List.mem_of_getElem? (i := 13) rfl)), List.forall_mem_cons.mpr ⟨(gcX9_point__X9_point_r3 _ (List.mem_of_getElem? (i := 14) rfl)), List.forall_mem_cons.mpr ⟨(gcX9_point__X9_point_r2 _ (List.mem_of_getElem? (i := 2) rfl)), List.forall_mem_cons.mpr ⟨(gcX9_point__X9_point_r2 _ (List.mem_of_getElem? (i := 3) rfl)), List.forall_mem_cons.mpr ⟨(gcX9_point__X9_point_r2 _ (List.mem_of_getElem? (i := 4) rfl)), List.forall_mem_cons.mpr ⟨(gcX9_point__X9_point_r1 _ (List.mem_of_getElem? (i := 18) rfl)), List.forall_mem_cons.mpr ⟨(gcX9_point__X9_point_r2 _ (List.mem_of_getElem? (i := 5) rfl)), List.forall_mem_cons.mpr ⟨(gcX9_point__X9_point_r2 _ (List.mem_of_getElem? (i := 6) rfl)), List.forall_mem_cons.mpr ⟨(gcX9_point__X9_point_r3 _ (List.mem_of_getElem? (i := 15) rfl)), List.forall_mem_cons.mpr ⟨(gcX9_point__X9_point_r3 _ (List.mem_of_getElem? (i := 16) rfl)), List.forall_mem_cons.mpr ⟨(gcX9_point__X9_point_r3 _ (List.mem_of_getElem? (i := 17) rfl)), List.forall_mem_cons.mpr ⟨(gcX9_point__X9_point_r3 _ (List.mem_of_getElem? (i := 18) rfl)), fun _ h => (List.not_mem_nil h).elim⟩⟩⟩⟩⟩⟩⟩⟩⟩⟩⟩⟩⟩⟩⟩⟩⟩⟩⟩
theorem gcX9_point__X20 : ∀ w ∈ wsX20, w ∈ wsX9_point := fun w h => List.mem_cons_of_mem _ (List.mem_append_right _ (h))
set_option maxRecDepth 20000 in
theorem gwX2_isPointLoose : wsX2_isPointLoose.all goodWord = true := by decide +kernel
set_option maxRecDepth 20000 in
theorem ggX9_point_X2_isPointLoose : GoodIn wsX9_point wsX2_isPointLoose := goodIn_sub (List.forall_mem_cons.mpr ⟨(gcX9_point__X9_point_r2 _ (List.mem_of_getElem? (i := 11) rfl)), List.forall_mem_append.mpr ⟨List.forall_mem_append.mpr ⟨List.forall_mem_append.mpr ⟨List.forall_mem_append.mpr ⟨gmX9_point__X2_isPointLoose_r1, gmX9_point__X2_isPointLoose_r2⟩, gcX9_point__X20⟩, gcX9_point__X80⟩, gcX9_point__X50⟩⟩) gwX2_isPointLoose
set_option maxRecDepth 20000 in
theorem gX9_point_X2_isPointLoose : GoodIn wsX9_point (wsV RX9 194 RX2 yX2_isPointLoose wsX2_isPointLoose) := goodIn_app (goodIn_sub (List.forall_mem_cons.mpr ⟨(gcX9_point__X9_point_r2 _ (List.mem_of_getElem? (i := 7) rfl)), List.forall_mem_cons.mpr ⟨(gcX9_point__X9_point_r2 _ (List.mem_of_getElem? (i := 8) rfl)), List.forall_mem_cons.mpr ⟨(gcX9_point__X9_point_r2 _ (List.mem_of_getElem? (i := 9) rfl)), List.forall_mem_cons.mpr ⟨(gcX9_point__X9_point_r2 _ (List.mem_of_getElem? (i := 10) rfl)), fun _ h => (List.not_mem_nil h).elim⟩⟩⟩⟩) (by decide +kernel)) ggX9_point_X2_isPointLoose
theorem dX9_point_0 : decode cX9_point 0 = .ok (.aload_n 0, 1) := by decide +kernel
theorem dX9_point_1 : decode cX9_point 1 = .ok (.getfield 20, 3) := by decide +kernel
theorem dX9_point_4 : decode cX9_point 4 = .ok (.iconst 2, 1) := by decide +kernel
theorem dX9_point_5 : decode cX9_point 5 = .ok (.iload_n 1, 1) := by decide +kernel
theorem dX9_point_6 : decode cX9_point 6 = .ok (.invokevirtual 150, 3) := by decide +kernel
theorem dX9_point_9 : decode cX9_point 9 = .ok (.ifCond .ne 6, 3) := by decide +kernel
theorem dX9_point_12 : decode cX9_point 12 = .ok (.ldc 158, 2) := by decide +kernel
theorem dX9_point_14 : decode cX9_point 14 = .ok (.ireturn, 1) := by decide +kernel
theorem dX9_point_15 : decode cX9_point 15 = .ok (.iload_n 2, 1) := by decide +kernel
theorem dX9_point_16 : decode cX9_point 16 = .ok (.tableswitch 132 0 5 #[40, 52, 64, 80, 98, 115], 40) := by decide +kernel
theorem dX9_point_56 : decode cX9_point 56 = .ok (.aload_n 0, 1) := by decide +kernel
theorem dX9_point_57 : decode cX9_point 57 = .ok (.getfield 41, 3) := by decide +kernel
theorem dX9_point_60 : decode cX9_point 60 = .ok (.getfield 182, 3) := by decide +kernel
theorem dX9_point_63 : decode cX9_point 63 = .ok (.iconst 0, 1) := by decide +kernel
theorem dX9_point_64 : decode cX9_point 64 = .ok (.aaload, 1) := by decide +kernel
theorem dX9_point_65 : decode cX9_point 65 = .ok (.iload_n 1, 1) := by decide +kernel
theorem dX9_point_66 : decode cX9_point 66 = .ok (.iaload, 1) := by decide +kernel
theorem dX9_point_67 : decode cX9_point 67 = .ok (.ireturn, 1) := by decide +kernel
theorem dX9_point_68 : decode cX9_point 68 = .ok (.aload_n 0, 1) := by decide +kernel
theorem dX9_point_69 : decode cX9_point 69 = .ok (.getfield 41, 3) := by decide +kernel
theorem dX9_point_72 : decode cX9_point 72 = .ok (.getfield 182, 3) := by decide +kernel
theorem dX9_point_75 : decode cX9_point 75 = .ok (.iconst 1, 1) := by decide +kernel
theorem dX9_point_76 : decode cX9_point 76 = .ok (.aaload, 1) := by decide +kernel
theorem dX9_point_77 : decode cX9_point 77 = .ok (.iload_n 1, 1) := by decide +kernel
theorem dX9_point_78 : decode cX9_point 78 = .ok (.iaload, 1) := by decide +kernel
theorem dX9_point_79 : decode cX9_point 79 = .ok (.ireturn, 1) := by decide +kernel
theorem dX9_point_80 : decode cX9_point 80 = .ok (.aload_n 0, 1) := by decide +kernel
theorem dX9_point_81 : decode cX9_point 81 = .ok (.getfield 41, 3) := by decide +kernel
theorem dX9_point_84 : decode cX9_point 84 = .ok (.aload_n 0, 1) := by decide +kernel
theorem dX9_point_85 : decode cX9_point 85 = .ok (.getfield 20, 3) := by decide +kernel
theorem dX9_point_88 : decode cX9_point 88 = .ok (.getfield 185, 3) := by decide +kernel
theorem dX9_point_91 : decode cX9_point 91 = .ok (.iload_n 1, 1) := by decide +kernel
theorem dX9_point_92 : decode cX9_point 92 = .ok (.invokevirtual 172, 3) := by decide +kernel
theorem dX9_point_95 : decode cX9_point 95 = .ok (.ireturn, 1) := by decide +kernel
theorem dX9_point_96 : decode cX9_point 96 = .ok (.aload_n 0, 1) := by decide +kernel
theorem dX9_point_97 : decode cX9_point 97 = .ok (.getfield 20, 3) := by decide +kernel
theorem dX9_point_100 : decode cX9_point 100 = .ok (.getfield 188, 3) := by decide +kernel
theorem dX9_point_103 : decode cX9_point 103 = .ok (.iload_n 1, 1) := by decide +kernel
theorem dX9_point_104 : decode cX9_point 104 = .ok (.iaload, 1) := by decide +kernel
theorem dX9_point_105 : decode cX9_point 105 = .ok (.ifCond .eq 7, 3) := by decide +kernel
theorem dX9_point_108 : decode cX9_point 108 = .ok (.iconst 1, 1) := by decide +kernel
theorem dX9_point_109 : decode cX9_point 109 = .ok (.goto 4, 3) := by decide +kernel
theorem dX9_point_112 : decode cX9_point 112 = .ok (.iconst 0, 1) := by decide +kernel
theorem dX9_point_113 : decode cX9_point 113 = .ok (.ireturn, 1) := by decide +kernel
theorem dX9_point_114 : decode cX9_point 114 = .ok (.aload_n 0, 1) := by decide +kernel
theorem dX9_point_115 : decode cX9_point 115 = .ok (.getfield 41, 3) := by decide +kernel
theorem dX9_point_118 : decode cX9_point 118 = .ok (.iload_n 1, 1) := by decide +kernel
theorem dX9_point_119 : decode cX9_point 119 = .ok (.invokevirtual 191, 3) := by decide +kernel
theorem dX9_point_122 : decode cX9_point 122 = .ok (.ifCond .eq 7, 3) := by decide +kernel
theorem dX9_point_125 : decode cX9_point 125 = .ok (.iconst 1, 1) := by decide +kernel
theorem dX9_point_126 : decode cX9_point 126 = .ok (.goto 4, 3) := by decide +kernel
theorem dX9_point_129 : decode cX9_point 129 = .ok (.iconst 0, 1) := by decide +kernel
theorem dX9_point_130 : decode cX9_point 130 = .ok (.ireturn, 1) := by decide +kernel
theorem dX9_point_131 : decode cX9_point 131 = .ok (.aload_n 0, 1) := by decide +kernel
theorem dX9_point_132 : decode cX9_point 132 = .ok (.getfield 77, 3) := by decide +kernel
theorem dX9_point_135 : decode cX9_point 135 = .ok (.iload_n 1, 1) := by decide +kernel
theorem dX9_point_136 : decode cX9_point 136 = .ok (.invokevirtual 194, 3) := by decide +kernel
theorem dX9_point_139 : decode cX9_point 139 = .ok (.ifCond .eq 7, 3) := by decide +kernel
theorem dX9_point_142 : decode cX9_point 142 = .ok (.iconst 1, 1) := by decide +kernel
theorem dX9_point_143 : decode cX9_point 143 = .ok (.goto 4, 3) := by decide +kernel
theorem dX9_point_146 : decode cX9_point 146 = .ok (.iconst 0, 1) := by decide +kernel
theorem dX9_point_147 : decode cX9_point 147 = .ok (.ireturn, 1) := by decide +kernel
theorem dX9_point_148 : decode cX9_point 148 = .ok (.ldc 158, 2) := by decide +kernel
theorem dX9_point_150 : decode cX9_point 150 = .ok (.ireturn, 1) := by decide +kernel
theorem gcX9_row__X9_row_r1 : ∀ w ∈ wsX9_row_r1, w ∈ wsX9_row := fun w h => List.mem_cons_of_mem _ (List.mem_append_left _ (List.mem_append_left _ (List.mem_append_left _ (List.mem_append_left _ (List.mem_append_left _ (h))))))
theorem gcX9_row__X80 : ∀ w ∈ wsX80, w ∈ wsX9_row := fun w h => List.mem_cons_of_mem _ (List.mem_append_left _ (List.mem_append_left _ (List.mem_append_right _ (h))))
set_option maxRecDepth 20000 in
theorem ggX9_row_X8_exists : GoodIn wsX9_row wsX8_exists := goodIn_sub (List.forall_mem_cons.mpr ⟨(gcX9_row__X9_row_r1 _ (List.mem_of_getElem? (i := 13) rfl)), List.forall_mem_append.mpr ⟨List.forall_mem_cons.mpr ⟨(gcX9_row__X9_row_r1 _ (List.mem_of_getElem? (i := 14) rfl)), fun _ h => (List.not_mem_nil h).elim⟩, gcX9_row__X80⟩⟩) gwX8_exists
set_option maxRecDepth 20000 in
theorem gX9_row_X8_exists : GoodIn wsX9_row (wsV RX9 150 RX8 yX8_exists wsX8_exists) := goodIn_app (goodIn_sub (List.forall_mem_cons.mpr ⟨(gcX9_row__X9_row_r1 _ (List.mem_of_getElem? (i := 9) rfl)), List.forall_mem_cons.mpr ⟨(gcX9_row__X9_row_r1 _ (List.mem_of_getElem? (i := 10) rfl)), List.forall_mem_cons.mpr ⟨(gcX9_row__X9_row_r1 _ (List.mem_of_getElem? (i := 11) rfl)), List.forall_mem_cons.mpr ⟨(gcX9_row__X9_row_r1 _ (List.mem_of_getElem? (i := 12) rfl)), fun _ h => (List.not_mem_nil h).elim⟩⟩⟩⟩) (by decide +kernel)) ggX9_row_X8_exists
theorem gcX9_row__X9_row_r2 : ∀ w ∈ wsX9_row_r2, w ∈ wsX9_row := fun w h => List.mem_cons_of_mem _ (List.mem_append_left _ (List.mem_append_left _ (List.mem_append_left _ (List.mem_append_left _ (List.mem_append_right _ (List.mem_append_left _ (h)))))))
theorem gcX9_row__X50 : ∀ w ∈ wsX50, w ∈ wsX9_row := fun w h => List.mem_cons_of_mem _ (List.mem_append_left _ (List.mem_append_right _ (h)))
set_option maxRecDepth 20000 in
theorem ggX9_row_X5_miss : GoodIn wsX9_row wsX5_miss := goodIn_sub (List.forall_mem_cons.mpr ⟨(gcX9_row__X9_row_r1 _ (List.mem_of_getElem? (i := 19) rfl)), List.forall_mem_append.mpr ⟨List.forall_mem_append.mpr ⟨List.forall_mem_cons.mpr ⟨(gcX9_row__X9_row_r1 _ (List.mem_of_getElem? (i := 20) rfl)), List.forall_mem_cons.mpr ⟨(gcX9_row__X9_row_r1 _ (List.mem_of_getElem? (i := 21) rfl)), List.forall_mem_cons.mpr ⟨(gcX9_row__X9_row_r1 _ (List.mem_of_getElem? (i := 22) rfl)), List.forall_mem_cons.mpr ⟨(gcX9_row__X9_row_r1 _ (List.mem_of_getElem? (i := 23) rfl)), List.forall_mem_cons.mpr ⟨(gcX9_row__X9_row_r2 _ (List.mem_of_getElem? (i := 0) rfl)), List.forall_mem_cons.mpr ⟨(gcX9_row__X9_row_r2 _ (List.mem_of_getElem? (i := 1) rfl)), List.forall_mem_cons.mpr ⟨(gcX9_row__X9_row_r1 _ (List.mem_of_getElem? (i := 18) rfl)), List.forall_mem_cons.mpr ⟨(gcX9_row__X9_row_r2 _ (List.mem_of_getElem? (i := 2) rfl)), List.forall_mem_cons.mpr ⟨(gcX9_row__X9_row_r2 _ (List.mem_of_getElem? (i := 3) rfl)), List.forall_mem_cons.mpr ⟨(gcX9_row__X9_row_r2 _ (List.mem_of_getElem? (i := 4) rfl)), List.forall_mem_cons.mpr ⟨(gcX9_row__X9_row_r2 _ (List.mem_of_getElem? (i := 5) rfl)), List.forall_mem_cons.mpr ⟨(gcX9_row__X9_row_r2 _ (List.mem_of_getElem? (i := 6) rfl)), List.forall_mem_cons.mpr ⟨(gcX9_row__X9_row_r2 _ (List.mem_of_getElem? (i := 7) rfl)), List.forall_mem_cons.mpr ⟨(gcX9_row__X9_row_r2 _ (List.mem_of_getElem? (i := 8) rfl)), List.forall_mem_cons.mpr ⟨(gcX9_row__X9_row_r1 _ (List.mem_of_getElem? (i := 12) rfl)), List.forall_mem_cons.mpr ⟨(gcX9_row__X9_row_r2 _ (List.mem_of_getElem? (i := 9) rfl)), List.forall_mem_cons.mpr ⟨(gcX9_row__X9_row_r2 _ (List.mem_of_getElem? (i := 10) rfl)), fun _ h => (List.not_mem_nil h).elim⟩⟩⟩⟩⟩⟩⟩⟩⟩⟩⟩⟩⟩⟩⟩⟩⟩, gcX9_row__X50⟩, gcX9_row__X80⟩⟩) gwX5_miss
set_option maxRecDepth 20000 in
theorem gX9_row_X5_miss : GoodIn wsX9_row (wsV RX9 203 RX5 yX5_miss wsX5_miss) := goodIn_app (goodIn_sub (List.forall_mem_cons.mpr ⟨(gcX9_row__X9_row_r1 _ (List.mem_of_getElem? (i := 15) rfl)), List.forall_mem_cons.mpr ⟨(gcX9_row__X9_row_r1 _ (List.mem_of_getElem? (i := 16) rfl)), List.forall_mem_cons.mpr ⟨(gcX9_row__X9_row_r1 _ (List.mem_of_getElem? (i := 17) rfl)), List.forall_mem_cons.mpr ⟨(gcX9_row__X9_row_r1 _ (List.mem_of_getElem? (i := 18) rfl)), fun _ h => (List.not_mem_nil h).elim⟩⟩⟩⟩) (by decide +kernel)) ggX9_row_X5_miss
theorem gcX9_row__X9_row_r3 : ∀ w ∈ wsX9_row_r3, w ∈ wsX9_row := fun w h => List.mem_cons_of_mem _ (List.mem_append_left _ (List.mem_append_left _ (List.mem_append_left _ (List.mem_append_left _ (List.mem_append_right _ (List.mem_append_right _ (List.mem_append_left _ (h))))))))
set_option maxRecDepth 20000 in
theorem gmX9_row__X2_canShow_r1 : ∀ w ∈ wsX2_canShow_r1, w ∈ wsX9_row := List.forall_mem_cons.mpr ⟨(gcX9_row__X9_row_r2 _ (List.mem_of_getElem? (i := 16) rfl)), List.forall_mem_cons.mpr ⟨(gcX9_row__X9_row_r2 _ (List.mem_of_getElem? (i := 17) rfl)), List.forall_mem_cons.mpr ⟨(gcX9_row__X9_row_r2 _ (List.mem_of_getElem? (i := 18) rfl)), List.forall_mem_cons.mpr ⟨(gcX9_row__X9_row_r2 _ (List.mem_of_getElem? (i := 19) rfl)), List.forall_mem_cons.mpr ⟨(gcX9_row__X9_row_r2 _ (List.mem_of_getElem? (i := 20) rfl)), List.forall_mem_cons.mpr ⟨(gcX9_row__X9_row_r2 _ (List.mem_of_getElem? (i := 21) rfl)), List.forall_mem_cons.mpr ⟨(gcX9_row__X9_row_r2 _ (List.mem_of_getElem? (i := 22) rfl)), List.forall_mem_cons.mpr ⟨(gcX9_row__X9_row_r2 _ (List.mem_of_getElem? (i := 23) rfl)), List.forall_mem_cons.mpr ⟨(gcX9_row__X9_row_r1 _ (List.mem_of_getElem? (i := 18) rfl)), List.forall_mem_cons.mpr ⟨(gcX9_row__X9_row_r3 _ (List.mem_of_getElem? (i := 0) rfl)), List.forall_mem_cons.mpr ⟨(gcX9_row__X9_row_r3 _ (List.mem_of_getElem? (i := 1) rfl)), List.forall_mem_cons.mpr ⟨(gcX9_row__X9_row_r3 _ (List.mem_of_getElem? (i := 2) rfl)), List.forall_mem_cons.mpr ⟨(gcX9_row__X9_row_r3 _ (List.mem_of_getElem? (i := 3) rfl)), List.forall_mem_cons.mpr ⟨(gcX9_row__X9_row_r3 _ (List.mem_of_getElem? (i := 4) rfl)), List.forall_mem_cons.mpr ⟨(gcX9_row__X9_row_r2 _ (List.mem_of_getElem? (i := 14) rfl)), List.forall_mem_cons.mpr ⟨(gcX9_row__X9_row_r3 _ (List.mem_of_getElem? (i := 5) rfl)), List.forall_mem_cons.mpr ⟨(gcX9_row__X9_row_r3 _ (List.mem_of_getElem? (i := 6) rfl)), List.forall_mem_cons.mpr ⟨(gcX9_row__X9_row_r3 _ (List.mem_of_getElem? (i := 7) rfl)), List.forall_mem_cons.mpr ⟨(gcX9_row__X9_row_r3 _ (List.mem_of_getElem? (i := 8) rfl)), List.forall_mem_cons.mpr ⟨(gcX9_row__X9_row_r3 _ (List.mem_of_getElem? (i := 9) rfl)), List.forall_mem_cons.mpr ⟨(gcX9_row__X9_row_r3 _ (List.mem_of_getElem? (i := 10) rfl)), List.forall_mem_cons.mpr ⟨(gcX9_row__X9_row_r3 _ (List.mem_of_getElem? (i := 11) rfl)), List.forall_mem_cons.mpr ⟨(gcX9_row__X9_row_r3 _ (List.mem_of_getElem? (i := 12) rfl)), List.forall_mem_cons.mpr ⟨(gcX9_row__X9_row_r3 _ (List.mem_of_getElem? (i := 13) rfl)), fun _ h => (List.not_mem_nil h).elim⟩⟩⟩⟩⟩⟩⟩⟩⟩⟩⟩⟩⟩⟩⟩⟩⟩⟩⟩⟩⟩⟩⟩⟩
theorem gcX9_row__X9_row_r4 : ∀ w ∈ wsX9_row_r4, w ∈ wsX9_row := fun w h => List.mem_cons_of_mem _ (List.mem_append_left _ (List.mem_append_left _ (List.mem_append_left _ (List.mem_append_left _ (List.mem_append_right _ (List.mem_append_right _ (List.mem_append_right _ (h))))))))
set_option maxRecDepth 20000 in
theorem gmX9_row__X2_canShow_r2 : ∀ w ∈ wsX2_canShow_r2, w ∈ wsX9_row := List.forall_mem_cons.mpr ⟨(gcX9_row__X9_row_r3 _ (List.mem_of_getElem? (i := 14) rfl)), List.forall_mem_cons.mpr ⟨(gcX9_row__X9_row_r3 _ (List.mem_of_getElem? (i := 15) rfl)), List.forall_mem_cons.mpr ⟨(gcX9_row__X9_row_r3 _ (List.mem_of_getElem? (i := 16) rfl)), List.forall_mem_cons.mpr ⟨(gcX9_row__X9_row_r3 _ (List.mem_of_getElem? (i := 17) rfl)), List.forall_mem_cons.mpr ⟨(gcX9_row__X9_row_r3 _ (List.mem_of_getElem? (i := 18) rfl)), List.forall_mem_cons.mpr ⟨(gcX9_row__X9_row_r3 _ (List.mem_of_getElem? (i := 19) rfl)), List.forall_mem_cons.mpr ⟨(gcX9_row__X9_row_r3 _ (List.mem_of_getElem? (i := 20) rfl)), List.forall_mem_cons.mpr ⟨(gcX9_row__X9_row_r3 _ (List.mem_of_getElem? (i := 21) rfl)), List.forall_mem_cons.mpr ⟨(gcX9_row__X9_row_r3 _ (List.mem_of_getElem? (i := 22) rfl)), List.forall_mem_cons.mpr ⟨(gcX9_row__X9_row_r3 _ (List.mem_of_getElem? (i := 23) rfl)), List.forall_mem_cons.mpr ⟨(gcX9_row__X9_row_r4 _ (List.mem_of_getElem? (i := 0) rfl)), List.forall_mem_cons.mpr ⟨(gcX9_row__X9_row_r4 _ (List.mem_of_getElem? (i := 1) rfl)), List.forall_mem_cons.mpr ⟨(gcX9_row__X9_row_r1 _ (List.mem_of_getElem? (i := 21) rfl)), List.forall_mem_cons.mpr ⟨(gcX9_row__X9_row_r4 _ (List.mem_of_getElem? (i := 2) rfl)), List.forall_mem_cons.mpr ⟨(gcX9_row__X9_row_r4 _ (List.mem_of_getElem? (i := 3) rfl)), List.forall_mem_cons.mpr ⟨(gcX9_row__X9_row_r4 _ (List.mem_of_getElem? (i := 4) rfl)), List.forall_mem_cons.mpr ⟨(gcX9_row__X9_row_r4 _ (List.mem_of_getElem? (i := 5) rfl)), List.forall_mem_cons.mpr ⟨(gcX9_row__X9_row_r4 _ (List.mem_of_getElem? (i := 6) rfl)), List.forall_mem_cons.mpr ⟨(gcX9_row__X9_row_r4 _ (List.mem_of_getElem? (i := 7) rfl)), fun _ h => (List.not_mem_nil h).elim⟩⟩⟩⟩⟩⟩⟩⟩⟩⟩⟩⟩⟩⟩⟩⟩⟩⟩⟩
theorem gcX9_row__X20 : ∀ w ∈ wsX20, w ∈ wsX9_row := fun w h => List.mem_cons_of_mem _ (List.mem_append_right _ (h))
set_option maxRecDepth 20000 in
theorem gwX2_canShow : wsX2_canShow.all goodWord = true := by decide +kernel
set_option maxRecDepth 20000 in
theorem ggX9_row_X2_canShow : GoodIn wsX9_row wsX2_canShow := goodIn_sub (List.forall_mem_cons.mpr ⟨(gcX9_row__X9_row_r2 _ (List.mem_of_getElem? (i := 15) rfl)), List.forall_mem_append.mpr ⟨List.forall_mem_append.mpr ⟨List.forall_mem_append.mpr ⟨List.forall_mem_append.mpr ⟨gmX9_row__X2_canShow_r1, gmX9_row__X2_canShow_r2⟩, gcX9_row__X20⟩, gcX9_row__X80⟩, gcX9_row__X50⟩⟩) gwX2_canShow
set_option maxRecDepth 20000 in
theorem gX9_row_X2_canShow : GoodIn wsX9_row (wsV RX9 207 RX2 yX2_canShow wsX2_canShow) := goodIn_app (goodIn_sub (List.forall_mem_cons.mpr ⟨(gcX9_row__X9_row_r2 _ (List.mem_of_getElem? (i := 11) rfl)), List.forall_mem_cons.mpr ⟨(gcX9_row__X9_row_r2 _ (List.mem_of_getElem? (i := 12) rfl)), List.forall_mem_cons.mpr ⟨(gcX9_row__X9_row_r2 _ (List.mem_of_getElem? (i := 13) rfl)), List.forall_mem_cons.mpr ⟨(gcX9_row__X9_row_r2 _ (List.mem_of_getElem? (i := 14) rfl)), fun _ h => (List.not_mem_nil h).elim⟩⟩⟩⟩) (by decide +kernel)) ggX9_row_X2_canShow
theorem dX9_row_0 : decode cX9_row 0 = .ok (.aload_n 0, 1) := by decide +kernel
theorem dX9_row_1 : decode cX9_row 1 = .ok (.getfield 20, 3) := by decide +kernel
theorem dX9_row_4 : decode cX9_row 4 = .ok (.iconst 3, 1) := by decide +kernel
theorem dX9_row_5 : decode cX9_row 5 = .ok (.iload_n 1, 1) := by decide +kernel
theorem dX9_row_6 : decode cX9_row 6 = .ok (.invokevirtual 150, 3) := by decide +kernel
theorem dX9_row_9 : decode cX9_row 9 = .ok (.ifCond .ne 6, 3) := by decide +kernel
theorem dX9_row_12 : decode cX9_row 12 = .ok (.ldc 158, 2) := by decide +kernel
theorem dX9_row_14 : decode cX9_row 14 = .ok (.ireturn, 1) := by decide +kernel
theorem dX9_row_15 : decode cX9_row 15 = .ok (.iload_n 2, 1) := by decide +kernel
theorem dX9_row_16 : decode cX9_row 16 = .ok (.tableswitch 153 0 8 #[52, 62, 72, 84, 96, 106, 116, 126, 136], 52) := by decide +kernel
theorem dX9_row_68 : decode cX9_row 68 = .ok (.aload_n 0, 1) := by decide +kernel
theorem dX9_row_69 : decode cX9_row 69 = .ok (.getfield 20, 3) := by decide +kernel
theorem dX9_row_72 : decode cX9_row 72 = .ok (.getfield 169, 3) := by decide +kernel
theorem dX9_row_75 : decode cX9_row 75 = .ok (.iload_n 1, 1) := by decide +kernel
theorem dX9_row_76 : decode cX9_row 76 = .ok (.iaload, 1) := by decide +kernel
theorem dX9_row_77 : decode cX9_row 77 = .ok (.ireturn, 1) := by decide +kernel
theorem dX9_row_78 : decode cX9_row 78 = .ok (.aload_n 0, 1) := by decide +kernel
theorem dX9_row_79 : decode cX9_row 79 = .ok (.getfield 20, 3) := by decide +kernel
theorem dX9_row_82 : decode cX9_row 82 = .ok (.getfield 185, 3) := by decide +kernel
theorem dX9_row_85 : decode cX9_row 85 = .ok (.iload_n 1, 1) := by decide +kernel
theorem dX9_row_86 : decode cX9_row 86 = .ok (.iaload, 1) := by decide +kernel
theorem dX9_row_87 : decode cX9_row 87 = .ok (.ireturn, 1) := by decide +kernel
