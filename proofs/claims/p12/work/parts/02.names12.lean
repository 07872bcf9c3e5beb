theorem dX10_writesFour_9 : decode cX10_writesFour 9 = .ok (.iload_n 2, 1) := by decide +kernel
theorem dX10_writesFour_10 : decode cX10_writesFour 10 = .ok (.ishr, 1) := by decide +kernel
theorem dX10_writesFour_11 : decode cX10_writesFour 11 = .ok (.sipush 255, 3) := by decide +kernel
theorem dX10_writesFour_14 : decode cX10_writesFour 14 = .ok (.iand, 1) := by decide +kernel
theorem dX10_writesFour_15 : decode cX10_writesFour 15 = .ok (.invokevirtual 517, 3) := by decide +kernel
theorem dX10_writesFour_18 : decode cX10_writesFour 18 = .ok (.iinc 2 (-8), 3) := by decide +kernel
theorem dX10_writesFour_21 : decode cX10_writesFour 21 = .ok (.goto (-18), 3) := by decide +kernel
theorem dX10_writesFour_24 : decode cX10_writesFour 24 = .ok (.return_, 1) := by decide +kernel
theorem dX10_checked_0 : decode cX10_checked 0 = .ok (.bipush 45, 2) := by decide +kernel
theorem dX10_checked_2 : decode cX10_checked 2 = .ok (.istore_n 2, 1) := by decide +kernel
theorem dX10_checked_3 : decode cX10_checked 3 = .ok (.iconst 0, 1) := by decide +kernel
theorem dX10_checked_4 : decode cX10_checked 4 = .ok (.istore_n 3, 1) := by decide +kernel
theorem dX10_checked_5 : decode cX10_checked 5 = .ok (.iload_n 3, 1) := by decide +kernel
theorem dX10_checked_6 : decode cX10_checked 6 = .ok (.iload_n 1, 1) := by decide +kernel
theorem dX10_checked_7 : decode cX10_checked 7 = .ok (.if_icmp .ge 21, 3) := by decide +kernel
theorem dX10_checked_10 : decode cX10_checked 10 = .ok (.iconst 5, 1) := by decide +kernel
theorem dX10_checked_11 : decode cX10_checked 11 = .ok (.iload_n 2, 1) := by decide +kernel
theorem dX10_checked_12 : decode cX10_checked 12 = .ok (.imul, 1) := by decide +kernel
theorem dX10_checked_13 : decode cX10_checked 13 = .ok (.aload_n 0, 1) := by decide +kernel
theorem dX10_checked_14 : decode cX10_checked 14 = .ok (.iload_n 3, 1) := by decide +kernel
theorem dX10_checked_15 : decode cX10_checked 15 = .ok (.iaload, 1) := by decide +kernel
theorem dX10_checked_16 : decode cX10_checked 16 = .ok (.iadd, 1) := by decide +kernel
theorem dX10_checked_17 : decode cX10_checked 17 = .ok (.sipush 241, 3) := by decide +kernel
theorem dX10_checked_20 : decode cX10_checked 20 = .ok (.irem, 1) := by decide +kernel
theorem dX10_checked_21 : decode cX10_checked 21 = .ok (.istore_n 2, 1) := by decide +kernel
theorem dX10_checked_22 : decode cX10_checked 22 = .ok (.iinc 3 1, 3) := by decide +kernel
theorem dX10_checked_25 : decode cX10_checked 25 = .ok (.goto (-20), 3) := by decide +kernel
theorem dX10_checked_28 : decode cX10_checked 28 = .ok (.iload_n 2, 1) := by decide +kernel
theorem dX10_checked_29 : decode cX10_checked 29 = .ok (.ireturn, 1) := by decide +kernel
theorem gcX10_writesPlace__X100 : ∀ w ∈ wsX100, w ∈ wsX10_writesPlace := fun w h => List.mem_cons_of_mem _ (List.mem_append_right _ (h))
set_option maxRecDepth 20000 in
theorem gwX10_writesFour : wsX10_writesFour.all goodWord = true := by decide +kernel
set_option maxRecDepth 20000 in
theorem ggX10_writesPlace_X10_writesFour : GoodIn wsX10_writesPlace wsX10_writesFour := goodIn_sub (List.forall_mem_cons.mpr ⟨(List.mem_of_getElem? (i := 6) rfl), List.forall_mem_append.mpr ⟨List.forall_mem_cons.mpr ⟨(List.mem_of_getElem? (i := 7) rfl), List.forall_mem_cons.mpr ⟨(List.mem_of_getElem? (i := 8) rfl), List.forall_mem_cons.mpr ⟨(List.mem_of_getElem? (i := 9) rfl), List.forall_mem_cons.mpr ⟨(List.mem_of_getElem? (i := 5) rfl), List.forall_mem_cons.mpr ⟨(List.mem_of_getElem? (i := 10) rfl), List.forall_mem_cons.mpr ⟨(List.mem_of_getElem? (i := 11) rfl), List.forall_mem_cons.mpr ⟨(List.mem_of_getElem? (i := 12) rfl), fun _ h => (List.not_mem_nil h).elim⟩⟩⟩⟩⟩⟩⟩, gcX10_writesPlace__X100⟩⟩) gwX10_writesFour
set_option maxRecDepth 20000 in
theorem gX10_writesPlace_X10_writesFour : GoodIn wsX10_writesPlace (wsV RX10 520 RX10 yX10_writesFour wsX10_writesFour) := goodIn_app (goodIn_sub (List.forall_mem_cons.mpr ⟨(List.mem_of_getElem? (i := 2) rfl), List.forall_mem_cons.mpr ⟨(List.mem_of_getElem? (i := 3) rfl), List.forall_mem_cons.mpr ⟨(List.mem_of_getElem? (i := 4) rfl), List.forall_mem_cons.mpr ⟨(List.mem_of_getElem? (i := 5) rfl), fun _ h => (List.not_mem_nil h).elim⟩⟩⟩⟩) (by decide +kernel)) ggX10_writesPlace_X10_writesFour
theorem dX10_writesPlace_0 : decode cX10_writesPlace 0 = .ok (.aload_n 0, 1) := by decide +kernel
theorem dX10_writesPlace_1 : decode cX10_writesPlace 1 = .ok (.aload_n 0, 1) := by decide +kernel
theorem dX10_writesPlace_2 : decode cX10_writesPlace 2 = .ok (.getfield 101, 3) := by decide +kernel
theorem dX10_writesPlace_5 : decode cX10_writesPlace 5 = .ok (.iload_n 1, 1) := by decide +kernel
theorem dX10_writesPlace_6 : decode cX10_writesPlace 6 = .ok (.iaload, 1) := by decide +kernel
theorem dX10_writesPlace_7 : decode cX10_writesPlace 7 = .ok (.invokevirtual 520, 3) := by decide +kernel
theorem dX10_writesPlace_10 : decode cX10_writesPlace 10 = .ok (.aload_n 0, 1) := by decide +kernel
theorem dX10_writesPlace_11 : decode cX10_writesPlace 11 = .ok (.aload_n 0, 1) := by decide +kernel
theorem dX10_writesPlace_12 : decode cX10_writesPlace 12 = .ok (.getfield 101, 3) := by decide +kernel
theorem dX10_writesPlace_15 : decode cX10_writesPlace 15 = .ok (.bipush 38, 2) := by decide +kernel
theorem dX10_writesPlace_17 : decode cX10_writesPlace 17 = .ok (.iload_n 1, 1) := by decide +kernel
theorem dX10_writesPlace_18 : decode cX10_writesPlace 18 = .ok (.iadd, 1) := by decide +kernel
theorem dX10_writesPlace_19 : decode cX10_writesPlace 19 = .ok (.iaload, 1) := by decide +kernel
theorem dX10_writesPlace_20 : decode cX10_writesPlace 20 = .ok (.invokevirtual 520, 3) := by decide +kernel
theorem dX10_writesPlace_23 : decode cX10_writesPlace 23 = .ok (.return_, 1) := by decide +kernel
theorem gcX10_image__X10_image_r1 : ∀ w ∈ wsX10_image_r1, w ∈ wsX10_image := fun w h => List.mem_cons_of_mem _ (List.mem_append_left _ (List.mem_append_left _ (h)))
theorem gcX10_image__X100 : ∀ w ∈ wsX100, w ∈ wsX10_image := fun w h => List.mem_cons_of_mem _ (List.mem_append_right _ (h))
set_option maxRecDepth 20000 in
theorem ggX10_image_X10_writes : GoodIn wsX10_image wsX10_writes := goodIn_sub (List.forall_mem_cons.mpr ⟨(gcX10_image__X10_image_r1 _ (List.mem_of_getElem? (i := 10) rfl)), List.forall_mem_append.mpr ⟨List.forall_mem_cons.mpr ⟨(gcX10_image__X10_image_r1 _ (List.mem_of_getElem? (i := 5) rfl)), List.forall_mem_cons.mpr ⟨(gcX10_image__X10_image_r1 _ (List.mem_of_getElem? (i := 0) rfl)), fun _ h => (List.not_mem_nil h).elim⟩⟩, gcX10_image__X100⟩⟩) gwX10_writes
set_option maxRecDepth 20000 in
theorem gX10_image_X10_writes : GoodIn wsX10_image (wsV RX10 517 RX10 yX10_writes wsX10_writes) := goodIn_app (goodIn_sub (List.forall_mem_cons.mpr ⟨(gcX10_image__X10_image_r1 _ (List.mem_of_getElem? (i := 6) rfl)), List.forall_mem_cons.mpr ⟨(gcX10_image__X10_image_r1 _ (List.mem_of_getElem? (i := 7) rfl)), List.forall_mem_cons.mpr ⟨(gcX10_image__X10_image_r1 _ (List.mem_of_getElem? (i := 8) rfl)), List.forall_mem_cons.mpr ⟨(gcX10_image__X10_image_r1 _ (List.mem_of_getElem? (i := 9) rfl)), fun _ h => (List.not_mem_nil h).elim⟩⟩⟩⟩) (by decide +kernel)) ggX10_image_X10_writes
set_option maxRecDepth 20000 in
theorem ggX10_image_X10_pictures : GoodIn wsX10_image wsX10_pictures := goodIn_sub (List.forall_mem_cons.mpr ⟨(gcX10_image__X10_image_r1 _ (List.mem_of_getElem? (i := 14) rfl)), List.forall_mem_append.mpr ⟨List.forall_mem_cons.mpr ⟨(gcX10_image__X10_image_r1 _ (List.mem_of_getElem? (i := 3) rfl)), fun _ h => (List.not_mem_nil h).elim⟩, gcX10_image__X100⟩⟩) gwX10_pictures
set_option maxRecDepth 20000 in
theorem gX10_image_X10_pictures : GoodIn wsX10_image (wsV RX10 259 RX10 yX10_pictures wsX10_pictures) := goodIn_app (goodIn_sub (List.forall_mem_cons.mpr ⟨(gcX10_image__X10_image_r1 _ (List.mem_of_getElem? (i := 11) rfl)), List.forall_mem_cons.mpr ⟨(gcX10_image__X10_image_r1 _ (List.mem_of_getElem? (i := 12) rfl)), List.forall_mem_cons.mpr ⟨(gcX10_image__X10_image_r1 _ (List.mem_of_getElem? (i := 13) rfl)), List.forall_mem_cons.mpr ⟨(gcX10_image__X10_image_r1 _ (List.mem_of_getElem? (i := 9) rfl)), fun _ h => (List.not_mem_nil h).elim⟩⟩⟩⟩) (by decide +kernel)) ggX10_image_X10_pictures
set_option maxRecDepth 20000 in
theorem gwX10_writesPlace : wsX10_writesPlace.all goodWord = true := by decide +kernel
set_option maxRecDepth 20000 in
theorem ggX10_image_X10_writesPlace : GoodIn wsX10_image wsX10_writesPlace := goodIn_sub (List.forall_mem_cons.mpr ⟨(gcX10_image__X10_image_r1 _ (List.mem_of_getElem? (i := 18) rfl)), List.forall_mem_append.mpr ⟨List.forall_mem_cons.mpr ⟨(gcX10_image__X10_image_r1 _ (List.mem_of_getElem? (i := 19) rfl)), List.forall_mem_cons.mpr ⟨(gcX10_image__X10_image_r1 _ (List.mem_of_getElem? (i := 20) rfl)), List.forall_mem_cons.mpr ⟨(gcX10_image__X10_image_r1 _ (List.mem_of_getElem? (i := 21) rfl)), List.forall_mem_cons.mpr ⟨(gcX10_image__X10_image_r1 _ (List.mem_of_getElem? (i := 22) rfl)), List.forall_mem_cons.mpr ⟨(gcX10_image__X10_image_r1 _ (List.mem_of_getElem? (i := 9) rfl)), List.forall_mem_cons.mpr ⟨(gcX10_image__X10_image_r1 _ (List.mem_of_getElem? (i := 23) rfl)), List.forall_mem_cons.mpr ⟨(gcX10_image__X10_image_r1 _ (List.mem_of_getElem? (i := 6) rfl)), List.forall_mem_cons.mpr ⟨(gcX10_image__X10_image_r1 _ (List.mem_of_getElem? (i := 7) rfl)), List.forall_mem_cons.mpr ⟨(gcX10_image__X10_image_r1 _ (List.mem_of_getElem? (i := 8) rfl)), List.forall_mem_cons.mpr ⟨(gcX10_image__X10_image_r1 _ (List.mem_of_getElem? (i := 10) rfl)), List.forall_mem_cons.mpr ⟨(gcX10_image__X10_image_r1 _ (List.mem_of_getElem? (i := 5) rfl)), List.forall_mem_cons.mpr ⟨(gcX10_image__X10_image_r1 _ (List.mem_of_getElem? (i := 0) rfl)), fun _ h => (List.not_mem_nil h).elim⟩⟩⟩⟩⟩⟩⟩⟩⟩⟩⟩⟩, gcX10_image__X100⟩⟩) gwX10_writesPlace
set_option maxRecDepth 20000 in
theorem gX10_image_X10_writesPlace : GoodIn wsX10_image (wsV RX10 523 RX10 yX10_writesPlace wsX10_writesPlace) := goodIn_app (goodIn_sub (List.forall_mem_cons.mpr ⟨(gcX10_image__X10_image_r1 _ (List.mem_of_getElem? (i := 15) rfl)), List.forall_mem_cons.mpr ⟨(gcX10_image__X10_image_r1 _ (List.mem_of_getElem? (i := 16) rfl)), List.forall_mem_cons.mpr ⟨(gcX10_image__X10_image_r1 _ (List.mem_of_getElem? (i := 17) rfl)), List.forall_mem_cons.mpr ⟨(gcX10_image__X10_image_r1 _ (List.mem_of_getElem? (i := 9) rfl)), fun _ h => (List.not_mem_nil h).elim⟩⟩⟩⟩) (by decide +kernel)) ggX10_image_X10_writesPlace
theorem gcX10_image__X10_image_r2 : ∀ w ∈ wsX10_image_r2, w ∈ wsX10_image := fun w h => List.mem_cons_of_mem _ (List.mem_append_left _ (List.mem_append_right _ (h)))
set_option maxRecDepth 20000 in
theorem ggX10_image_X10_points : GoodIn wsX10_image wsX10_points := goodIn_sub (List.forall_mem_cons.mpr ⟨(gcX10_image__X10_image_r2 _ (List.mem_of_getElem? (i := 3) rfl)), List.forall_mem_append.mpr ⟨List.forall_mem_cons.mpr ⟨(gcX10_image__X10_image_r1 _ (List.mem_of_getElem? (i := 3) rfl)), fun _ h => (List.not_mem_nil h).elim⟩, gcX10_image__X100⟩⟩) gwX10_points
set_option maxRecDepth 20000 in
theorem gX10_image_X10_points : GoodIn wsX10_image (wsV RX10 262 RX10 yX10_points wsX10_points) := goodIn_app (goodIn_sub (List.forall_mem_cons.mpr ⟨(gcX10_image__X10_image_r2 _ (List.mem_of_getElem? (i := 0) rfl)), List.forall_mem_cons.mpr ⟨(gcX10_image__X10_image_r2 _ (List.mem_of_getElem? (i := 1) rfl)), List.forall_mem_cons.mpr ⟨(gcX10_image__X10_image_r2 _ (List.mem_of_getElem? (i := 2) rfl)), List.forall_mem_cons.mpr ⟨(gcX10_image__X10_image_r1 _ (List.mem_of_getElem? (i := 9) rfl)), fun _ h => (List.not_mem_nil h).elim⟩⟩⟩⟩) (by decide +kernel)) ggX10_image_X10_points
set_option maxRecDepth 20000 in
theorem ggX10_image_X10_rows : GoodIn wsX10_image wsX10_rows := goodIn_sub (List.forall_mem_cons.mpr ⟨(gcX10_image__X10_image_r2 _ (List.mem_of_getElem? (i := 7) rfl)), List.forall_mem_append.mpr ⟨List.forall_mem_cons.mpr ⟨(gcX10_image__X10_image_r1 _ (List.mem_of_getElem? (i := 3) rfl)), fun _ h => (List.not_mem_nil h).elim⟩, gcX10_image__X100⟩⟩) gwX10_rows
set_option maxRecDepth 20000 in
theorem gX10_image_X10_rows : GoodIn wsX10_image (wsV RX10 265 RX10 yX10_rows wsX10_rows) := goodIn_app (goodIn_sub (List.forall_mem_cons.mpr ⟨(gcX10_image__X10_image_r2 _ (List.mem_of_getElem? (i := 4) rfl)), List.forall_mem_cons.mpr ⟨(gcX10_image__X10_image_r2 _ (List.mem_of_getElem? (i := 5) rfl)), List.forall_mem_cons.mpr ⟨(gcX10_image__X10_image_r2 _ (List.mem_of_getElem? (i := 6) rfl)), List.forall_mem_cons.mpr ⟨(gcX10_image__X10_image_r1 _ (List.mem_of_getElem? (i := 9) rfl)), fun _ h => (List.not_mem_nil h).elim⟩⟩⟩⟩) (by decide +kernel)) ggX10_image_X10_rows
set_option maxRecDepth 20000 in
theorem gwX10_checked : wsX10_checked.all goodWord = true := by decide +kernel
set_option maxRecDepth 20000 in
theorem ggX10_image_X10_checked : GoodIn wsX10_image wsX10_checked := goodIn_sub (List.forall_mem_cons.mpr ⟨(gcX10_image__X10_image_r2 _ (List.mem_of_getElem? (i := 10) rfl)), fun _ h => (List.not_mem_nil h).elim⟩) gwX10_checked
set_option maxRecDepth 20000 in
theorem gX10_image_X10_checked : GoodIn wsX10_image (va_wsS RX10 526 yX10_checked wsX10_checked) := goodIn_app (goodIn_sub (List.forall_mem_cons.mpr ⟨(gcX10_image__X10_image_r2 _ (List.mem_of_getElem? (i := 8) rfl)), List.forall_mem_cons.mpr ⟨(gcX10_image__X10_image_r2 _ (List.mem_of_getElem? (i := 9) rfl)), List.forall_mem_cons.mpr ⟨(gcX10_image__X10_image_r1 _ (List.mem_of_getElem? (i := 9) rfl)), fun _ h => (List.not_mem_nil h).elim⟩⟩⟩) (by decide +kernel)) ggX10_image_X10_checked
theorem dX10_image_0 : decode cX10_image 0 = .ok (.aload_n 0, 1) := by decide +kernel
theorem dX10_image_1 : decode cX10_image 1 = .ok (.iconst 0, 1) := by decide +kernel
theorem dX10_image_2 : decode cX10_image 2 = .ok (.putfield 514, 3) := by decide +kernel
theorem dX10_image_5 : decode cX10_image 5 = .ok (.aload_n 0, 1) := by decide +kernel
theorem dX10_image_6 : decode cX10_image 6 = .ok (.aload_n 0, 1) := by decide +kernel
theorem dX10_image_7 : decode cX10_image 7 = .ok (.getfield 95, 3) := by decide +kernel
theorem dX10_image_10 : decode cX10_image 10 = .ok (.invokevirtual 517, 3) := by decide +kernel
theorem dX10_image_13 : decode cX10_image 13 = .ok (.iconst 0, 1) := by decide +kernel
theorem dX10_image_14 : decode cX10_image 14 = .ok (.istore_n 1, 1) := by decide +kernel
theorem dX10_image_15 : decode cX10_image 15 = .ok (.iload_n 1, 1) := by decide +kernel
theorem dX10_image_16 : decode cX10_image 16 = .ok (.aload_n 0, 1) := by decide +kernel
theorem dX10_image_17 : decode cX10_image 17 = .ok (.invokevirtual 259, 3) := by decide +kernel
theorem dX10_image_20 : decode cX10_image 20 = .ok (.if_icmp .ge 24, 3) := by decide +kernel
theorem dX10_image_23 : decode cX10_image 23 = .ok (.aload_n 0, 1) := by decide +kernel
theorem dX10_image_24 : decode cX10_image 24 = .ok (.aload_n 0, 1) := by decide +kernel
theorem dX10_image_25 : decode cX10_image 25 = .ok (.getfield 98, 3) := by decide +kernel
theorem dX10_image_28 : decode cX10_image 28 = .ok (.iload_n 1, 1) := by decide +kernel
theorem dX10_image_29 : decode cX10_image 29 = .ok (.iaload, 1) := by decide +kernel
theorem dX10_image_30 : decode cX10_image 30 = .ok (.invokevirtual 517, 3) := by decide +kernel
theorem dX10_image_33 : decode cX10_image 33 = .ok (.aload_n 0, 1) := by decide +kernel
theorem dX10_image_34 : decode cX10_image 34 = .ok (.iload_n 1, 1) := by decide +kernel
theorem dX10_image_35 : decode cX10_image 35 = .ok (.invokevirtual 523, 3) := by decide +kernel
theorem dX10_image_38 : decode cX10_image 38 = .ok (.iinc 1 1, 3) := by decide +kernel
theorem dX10_image_41 : decode cX10_image 41 = .ok (.goto (-26), 3) := by decide +kernel
theorem dX10_image_44 : decode cX10_image 44 = .ok (.iconst 0, 1) := by decide +kernel
theorem dX10_image_45 : decode cX10_image 45 = .ok (.istore_n 1, 1) := by decide +kernel
theorem dX10_image_46 : decode cX10_image 46 = .ok (.iload_n 1, 1) := by decide +kernel
theorem dX10_image_47 : decode cX10_image 47 = .ok (.aload_n 0, 1) := by decide +kernel
theorem dX10_image_48 : decode cX10_image 48 = .ok (.invokevirtual 262, 3) := by decide +kernel
theorem dX10_image_51 : decode cX10_image 51 = .ok (.if_icmp .ge 17, 3) := by decide +kernel
theorem dX10_image_54 : decode cX10_image 54 = .ok (.aload_n 0, 1) := by decide +kernel
theorem dX10_image_55 : decode cX10_image 55 = .ok (.bipush 12, 2) := by decide +kernel
theorem dX10_image_57 : decode cX10_image 57 = .ok (.iload_n 1, 1) := by decide +kernel
theorem dX10_image_58 : decode cX10_image 58 = .ok (.iadd, 1) := by decide +kernel
theorem dX10_image_59 : decode cX10_image 59 = .ok (.invokevirtual 523, 3) := by decide +kernel
theorem dX10_image_62 : decode cX10_image 62 = .ok (.iinc 1 1, 3) := by decide +kernel
theorem dX10_image_65 : decode cX10_image 65 = .ok (.goto (-19), 3) := by decide +kernel
theorem dX10_image_68 : decode cX10_image 68 = .ok (.iconst 0, 1) := by decide +kernel
theorem dX10_image_69 : decode cX10_image 69 = .ok (.istore_n 1, 1) := by decide +kernel
theorem dX10_image_70 : decode cX10_image 70 = .ok (.iload_n 1, 1) := by decide +kernel
theorem dX10_image_71 : decode cX10_image 71 = .ok (.aload_n 0, 1) := by decide +kernel
theorem dX10_image_72 : decode cX10_image 72 = .ok (.getfield 58, 3) := by decide +kernel
theorem dX10_image_75 : decode cX10_image 75 = .ok (.bipush 6, 2) := by decide +kernel
theorem dX10_image_77 : decode cX10_image 77 = .ok (.iaload, 1) := by decide +kernel
theorem dX10_image_78 : decode cX10_image 78 = .ok (.if_icmp .ge 17, 3) := by decide +kernel
theorem dX10_image_81 : decode cX10_image 81 = .ok (.aload_n 0, 1) := by decide +kernel
theorem dX10_image_82 : decode cX10_image 82 = .ok (.bipush 32, 2) := by decide +kernel
theorem dX10_image_84 : decode cX10_image 84 = .ok (.iload_n 1, 1) := by decide +kernel
theorem dX10_image_85 : decode cX10_image 85 = .ok (.iadd, 1) := by decide +kernel
theorem dX10_image_86 : decode cX10_image 86 = .ok (.invokevirtual 523, 3) := by decide +kernel
theorem dX10_image_89 : decode cX10_image 89 = .ok (.iinc 1 1, 3) := by decide +kernel
theorem dX10_image_92 : decode cX10_image 92 = .ok (.goto (-22), 3) := by decide +kernel
theorem dX10_image_95 : decode cX10_image 95 = .ok (.iconst 0, 1) := by decide +kernel
theorem dX10_image_96 : decode cX10_image 96 = .ok (.istore_n 1, 1) := by decide +kernel
theorem dX10_image_97 : decode cX10_image 97 = .ok (.iload_n 1, 1) := by decide +kernel
theorem dX10_image_98 : decode cX10_image 98 = .ok (.aload_n 0, 1) := by decide +kernel
theorem dX10_image_99 : decode cX10_image 99 = .ok (.invokevirtual 265, 3) := by decide +kernel
theorem dX10_image_102 : decode cX10_image 102 = .ok (.if_icmp .ge 27, 3) := by decide +kernel
theorem dX10_image_105 : decode cX10_image 105 = .ok (.aload_n 0, 1) := by decide +kernel
theorem dX10_image_106 : decode cX10_image 106 = .ok (.aload_n 0, 1) := by decide +kernel
theorem dX10_image_107 : decode cX10_image 107 = .ok (.getfield 91, 3) := by decide +kernel
theorem dX10_image_110 : decode cX10_image 110 = .ok (.iload_n 1, 1) := by decide +kernel
theorem dX10_image_111 : decode cX10_image 111 = .ok (.baload, 1) := by decide +kernel
theorem dX10_image_112 : decode cX10_image 112 = .ok (.ifCond .eq 7, 3) := by decide +kernel
theorem dX10_image_115 : decode cX10_image 115 = .ok (.iconst 1, 1) := by decide +kernel
theorem dX10_image_116 : decode cX10_image 116 = .ok (.goto 4, 3) := by decide +kernel
theorem dX10_image_119 : decode cX10_image 119 = .ok (.iconst 0, 1) := by decide +kernel
theorem dX10_image_120 : decode cX10_image 120 = .ok (.invokevirtual 517, 3) := by decide +kernel
theorem dX10_image_123 : decode cX10_image 123 = .ok (.iinc 1 1, 3) := by decide +kernel
theorem dX10_image_126 : decode cX10_image 126 = .ok (.goto (-29), 3) := by decide +kernel
theorem dX10_image_129 : decode cX10_image 129 = .ok (.aload_n 0, 1) := by decide +kernel
theorem dX10_image_130 : decode cX10_image 130 = .ok (.aload_n 0, 1) := by decide +kernel
theorem dX10_image_131 : decode cX10_image 131 = .ok (.getfield 137, 3) := by decide +kernel
theorem dX10_image_134 : decode cX10_image 134 = .ok (.aload_n 0, 1) := by decide +kernel
theorem dX10_image_135 : decode cX10_image 135 = .ok (.getfield 514, 3) := by decide +kernel
theorem dX10_image_138 : decode cX10_image 138 = .ok (.invokestatic 526, 3) := by decide +kernel
theorem dX10_image_141 : decode cX10_image 141 = .ok (.invokevirtual 517, 3) := by decide +kernel
theorem dX10_image_144 : decode cX10_image 144 = .ok (.aload_n 0, 1) := by decide +kernel
theorem dX10_image_145 : decode cX10_image 145 = .ok (.getfield 514, 3) := by decide +kernel
theorem dX10_image_148 : decode cX10_image 148 = .ok (.ireturn, 1) := by decide +kernel
theorem dX10_octet_0 : decode cX10_octet 0 = .ok (.iload_n 1, 1) := by decide +kernel
theorem dX10_octet_1 : decode cX10_octet 1 = .ok (.ifCond .lt 20, 3) := by decide +kernel
theorem dX10_octet_4 : decode cX10_octet 4 = .ok (.iload_n 1, 1) := by decide +kernel
theorem dX10_octet_5 : decode cX10_octet 5 = .ok (.aload_n 0, 1) := by decide +kernel
theorem dX10_octet_6 : decode cX10_octet 6 = .ok (.getfield 514, 3) := by decide +kernel
theorem dX10_octet_9 : decode cX10_octet 9 = .ok (.if_icmp .ge 12, 3) := by decide +kernel
theorem dX10_octet_12 : decode cX10_octet 12 = .ok (.aload_n 0, 1) := by decide +kernel
theorem dX10_octet_13 : decode cX10_octet 13 = .ok (.getfield 137, 3) := by decide +kernel
theorem dX10_octet_16 : decode cX10_octet 16 = .ok (.iload_n 1, 1) := by decide +kernel
theorem dX10_octet_17 : decode cX10_octet 17 = .ok (.iaload, 1) := by decide +kernel
theorem dX10_octet_18 : decode cX10_octet 18 = .ok (.goto 4, 3) := by decide +kernel
theorem dX10_octet_21 : decode cX10_octet 21 = .ok (.iconst (-1), 1) := by decide +kernel
theorem dX10_octet_22 : decode cX10_octet 22 = .ok (.ireturn, 1) := by decide +kernel
theorem dX10_fourAt_0 : decode cX10_fourAt 0 = .ok (.aload_n 0, 1) := by decide +kernel
theorem dX10_fourAt_1 : decode cX10_fourAt 1 = .ok (.getfield 7, 3) := by decide +kernel
theorem dX10_fourAt_4 : decode cX10_fourAt 4 = .ok (.iload_n 1, 1) := by decide +kernel
theorem dX10_fourAt_5 : decode cX10_fourAt 5 = .ok (.iaload, 1) := by decide +kernel
theorem dX10_fourAt_6 : decode cX10_fourAt 6 = .ok (.bipush 24, 2) := by decide +kernel
theorem dX10_fourAt_8 : decode cX10_fourAt 8 = .ok (.ishl, 1) := by decide +kernel
theorem dX10_fourAt_9 : decode cX10_fourAt 9 = .ok (.aload_n 0, 1) := by decide +kernel
theorem dX10_fourAt_10 : decode cX10_fourAt 10 = .ok (.getfield 7, 3) := by decide +kernel
theorem dX10_fourAt_13 : decode cX10_fourAt 13 = .ok (.iload_n 1, 1) := by decide +kernel
theorem dX10_fourAt_14 : decode cX10_fourAt 14 = .ok (.iconst 1, 1) := by decide +kernel
theorem dX10_fourAt_15 : decode cX10_fourAt 15 = .ok (.iadd, 1) := by decide +kernel
theorem dX10_fourAt_16 : decode cX10_fourAt 16 = .ok (.iaload, 1) := by decide +kernel
theorem dX10_fourAt_17 : decode cX10_fourAt 17 = .ok (.bipush 16, 2) := by decide +kernel
theorem dX10_fourAt_19 : decode cX10_fourAt 19 = .ok (.ishl, 1) := by decide +kernel
theorem dX10_fourAt_20 : decode cX10_fourAt 20 = .ok (.iadd, 1) := by decide +kernel
theorem dX10_fourAt_21 : decode cX10_fourAt 21 = .ok (.aload_n 0, 1) := by decide +kernel
theorem dX10_fourAt_22 : decode cX10_fourAt 22 = .ok (.getfield 7, 3) := by decide +kernel
theorem dX10_fourAt_25 : decode cX10_fourAt 25 = .ok (.iload_n 1, 1) := by decide +kernel
theorem dX10_fourAt_26 : decode cX10_fourAt 26 = .ok (.iconst 2, 1) := by decide +kernel
theorem dX10_fourAt_27 : decode cX10_fourAt 27 = .ok (.iadd, 1) := by decide +kernel
theorem dX10_fourAt_28 : decode cX10_fourAt 28 = .ok (.iaload, 1) := by decide +kernel
theorem dX10_fourAt_29 : decode cX10_fourAt 29 = .ok (.bipush 8, 2) := by decide +kernel
theorem dX10_fourAt_31 : decode cX10_fourAt 31 = .ok (.ishl, 1) := by decide +kernel
theorem dX10_fourAt_32 : decode cX10_fourAt 32 = .ok (.iadd, 1) := by decide +kernel
theorem dX10_fourAt_33 : decode cX10_fourAt 33 = .ok (.aload_n 0, 1) := by decide +kernel
theorem dX10_fourAt_34 : decode cX10_fourAt 34 = .ok (.getfield 7, 3) := by decide +kernel
theorem dX10_fourAt_37 : decode cX10_fourAt 37 = .ok (.iload_n 1, 1) := by decide +kernel
theorem dX10_fourAt_38 : decode cX10_fourAt 38 = .ok (.iconst 3, 1) := by decide +kernel
theorem dX10_fourAt_39 : decode cX10_fourAt 39 = .ok (.iadd, 1) := by decide +kernel
theorem dX10_fourAt_40 : decode cX10_fourAt 40 = .ok (.iaload, 1) := by decide +kernel
theorem dX10_fourAt_41 : decode cX10_fourAt 41 = .ok (.iadd, 1) := by decide +kernel
theorem dX10_fourAt_42 : decode cX10_fourAt 42 = .ok (.ireturn, 1) := by decide +kernel
theorem gcX10_canBe__X100 : ∀ w ∈ wsX100, w ∈ wsX10_canBe := fun w h => List.mem_cons_of_mem _ (List.mem_append_right _ (h))
set_option maxRecDepth 20000 in
theorem gwX10_fourAt : wsX10_fourAt.all goodWord = true := by decide +kernel
set_option maxRecDepth 20000 in
theorem ggX10_canBe_X10_fourAt : GoodIn wsX10_canBe wsX10_fourAt := goodIn_sub (List.forall_mem_cons.mpr ⟨(List.mem_of_getElem? (i := 7) rfl), List.forall_mem_append.mpr ⟨List.forall_mem_cons.mpr ⟨(List.mem_of_getElem? (i := 8) rfl), fun _ h => (List.not_mem_nil h).elim⟩, gcX10_canBe__X100⟩⟩) gwX10_fourAt
set_option maxRecDepth 20000 in
theorem gX10_canBe_X10_fourAt : GoodIn wsX10_canBe (wsV RX10 530 RX10 yX10_fourAt wsX10_fourAt) := goodIn_app (goodIn_sub (List.forall_mem_cons.mpr ⟨(List.mem_of_getElem? (i := 3) rfl), List.forall_mem_cons.mpr ⟨(List.mem_of_getElem? (i := 4) rfl), List.forall_mem_cons.mpr ⟨(List.mem_of_getElem? (i := 5) rfl), List.forall_mem_cons.mpr ⟨(List.mem_of_getElem? (i := 6) rfl), fun _ h => (List.not_mem_nil h).elim⟩⟩⟩⟩) (by decide +kernel)) ggX10_canBe_X10_fourAt
set_option maxRecDepth 20000 in
theorem ggX10_canBe_X10_isIn : GoodIn wsX10_canBe wsX10_isIn := goodIn_sub (List.forall_mem_cons.mpr ⟨(List.mem_of_getElem? (i := 11) rfl), fun _ h => (List.not_mem_nil h).elim⟩) gwX10_isIn
set_option maxRecDepth 20000 in
theorem gX10_canBe_X10_isIn : GoodIn wsX10_canBe (va_wsS RX10 183 yX10_isIn wsX10_isIn) := goodIn_app (goodIn_sub (List.forall_mem_cons.mpr ⟨(List.mem_of_getElem? (i := 9) rfl), List.forall_mem_cons.mpr ⟨(List.mem_of_getElem? (i := 10) rfl), List.forall_mem_cons.mpr ⟨(List.mem_of_getElem? (i := 6) rfl), fun _ h => (List.not_mem_nil h).elim⟩⟩⟩) (by decide +kernel)) ggX10_canBe_X10_isIn
theorem dX10_canBe_0 : decode cX10_canBe 0 = .ok (.aload_n 0, 1) := by decide +kernel
theorem dX10_canBe_1 : decode cX10_canBe 1 = .ok (.iload_n 1, 1) := by decide +kernel
theorem dX10_canBe_2 : decode cX10_canBe 2 = .ok (.invokevirtual 530, 3) := by decide +kernel
theorem dX10_canBe_5 : decode cX10_canBe 5 = .ok (.istore 5, 2) := by decide +kernel
theorem dX10_canBe_7 : decode cX10_canBe 7 = .ok (.aload_n 0, 1) := by decide +kernel
theorem dX10_canBe_8 : decode cX10_canBe 8 = .ok (.iload_n 1, 1) := by decide +kernel
theorem dX10_canBe_9 : decode cX10_canBe 9 = .ok (.iconst 4, 1) := by decide +kernel
theorem dX10_canBe_10 : decode cX10_canBe 10 = .ok (.iadd, 1) := by decide +kernel
theorem dX10_canBe_11 : decode cX10_canBe 11 = .ok (.invokevirtual 530, 3) := by decide +kernel
theorem dX10_canBe_14 : decode cX10_canBe 14 = .ok (.istore 6, 2) := by decide +kernel
theorem dX10_canBe_16 : decode cX10_canBe 16 = .ok (.iload_n 2, 1) := by decide +kernel
theorem dX10_canBe_17 : decode cX10_canBe 17 = .ok (.ifCond .eq 22, 3) := by decide +kernel
theorem dX10_canBe_20 : decode cX10_canBe 20 = .ok (.iload 5, 2) := by decide +kernel
theorem dX10_canBe_22 : decode cX10_canBe 22 = .ok (.iload_n 3, 1) := by decide +kernel
theorem dX10_canBe_23 : decode cX10_canBe 23 = .ok (.if_icmp .ne 14, 3) := by decide +kernel
theorem dX10_canBe_26 : decode cX10_canBe 26 = .ok (.iload 6, 2) := by decide +kernel
theorem dX10_canBe_28 : decode cX10_canBe 28 = .ok (.iload 4, 2) := by decide +kernel
theorem dX10_canBe_30 : decode cX10_canBe 30 = .ok (.if_icmp .ne 7, 3) := by decide +kernel
theorem dX10_canBe_33 : decode cX10_canBe 33 = .ok (.iconst 1, 1) := by decide +kernel
theorem dX10_canBe_34 : decode cX10_canBe 34 = .ok (.goto 4, 3) := by decide +kernel
theorem dX10_canBe_37 : decode cX10_canBe 37 = .ok (.iconst 0, 1) := by decide +kernel
theorem dX10_canBe_38 : decode cX10_canBe 38 = .ok (.ireturn, 1) := by decide +kernel
theorem dX10_canBe_39 : decode cX10_canBe 39 = .ok (.iload 5, 2) := by decide +kernel
theorem dX10_canBe_41 : decode cX10_canBe 41 = .ok (.i2l, 1) := by decide +kernel
theorem dX10_canBe_42 : decode cX10_canBe 42 = .ok (.ldc2_w 533, 3) := by decide +kernel
theorem dX10_canBe_45 : decode cX10_canBe 45 = .ok (.ldc2_w 535, 3) := by decide +kernel
theorem dX10_canBe_48 : decode cX10_canBe 48 = .ok (.invokestatic 183, 3) := by decide +kernel
theorem dX10_canBe_51 : decode cX10_canBe 51 = .ok (.ifCond .eq 22, 3) := by decide +kernel
theorem dX10_canBe_54 : decode cX10_canBe 54 = .ok (.iload 6, 2) := by decide +kernel
theorem dX10_canBe_56 : decode cX10_canBe 56 = .ok (.i2l, 1) := by decide +kernel
theorem dX10_canBe_57 : decode cX10_canBe 57 = .ok (.ldc2_w 533, 3) := by decide +kernel
theorem dX10_canBe_60 : decode cX10_canBe 60 = .ok (.ldc2_w 535, 3) := by decide +kernel
theorem dX10_canBe_63 : decode cX10_canBe 63 = .ok (.invokestatic 183, 3) := by decide +kernel
theorem dX10_canBe_66 : decode cX10_canBe 66 = .ok (.ifCond .eq 7, 3) := by decide +kernel
theorem dX10_canBe_69 : decode cX10_canBe 69 = .ok (.iconst 1, 1) := by decide +kernel
theorem dX10_canBe_70 : decode cX10_canBe 70 = .ok (.goto 4, 3) := by decide +kernel
theorem dX10_canBe_73 : decode cX10_canBe 73 = .ok (.iconst 0, 1) := by decide +kernel
theorem dX10_canBe_74 : decode cX10_canBe 74 = .ok (.ireturn, 1) := by decide +kernel
theorem gcX10_isTold__X10_isTold_r1 : ∀ w ∈ wsX10_isTold_r1, w ∈ wsX10_isTold := fun w h => List.mem_cons_of_mem _ (List.mem_append_left _ (List.mem_append_left _ (h)))
theorem gcX10_isTold__X100 : ∀ w ∈ wsX100, w ∈ wsX10_isTold := fun w h => List.mem_cons_of_mem _ (List.mem_append_right _ (h))
set_option maxRecDepth 20000 in
theorem ggX10_isTold_X10_pictures : GoodIn wsX10_isTold wsX10_pictures := goodIn_sub (List.forall_mem_cons.mpr ⟨(gcX10_isTold__X10_isTold_r1 _ (List.mem_of_getElem? (i := 9) rfl)), List.forall_mem_append.mpr ⟨List.forall_mem_cons.mpr ⟨(gcX10_isTold__X10_isTold_r1 _ (List.mem_of_getElem? (i := 0) rfl)), fun _ h => (List.not_mem_nil h).elim⟩, gcX10_isTold__X100⟩⟩) gwX10_pictures
set_option maxRecDepth 20000 in
theorem gX10_isTold_X10_pictures : GoodIn wsX10_isTold (wsV RX10 259 RX10 yX10_pictures wsX10_pictures) := goodIn_app (goodIn_sub (List.forall_mem_cons.mpr ⟨(gcX10_isTold__X10_isTold_r1 _ (List.mem_of_getElem? (i := 5) rfl)), List.forall_mem_cons.mpr ⟨(gcX10_isTold__X10_isTold_r1 _ (List.mem_of_getElem? (i := 6) rfl)), List.forall_mem_cons.mpr ⟨(gcX10_isTold__X10_isTold_r1 _ (List.mem_of_getElem? (i := 7) rfl)), List.forall_mem_cons.mpr ⟨(gcX10_isTold__X10_isTold_r1 _ (List.mem_of_getElem? (i := 8) rfl)), fun _ h => (List.not_mem_nil h).elim⟩⟩⟩⟩) (by decide +kernel)) ggX10_isTold_X10_pictures
set_option maxRecDepth 20000 in
theorem ggX10_isTold_X10_points : GoodIn wsX10_isTold wsX10_points := goodIn_sub (List.forall_mem_cons.mpr ⟨(gcX10_isTold__X10_isTold_r1 _ (List.mem_of_getElem? (i := 13) rfl)), List.forall_mem_append.mpr ⟨List.forall_mem_cons.mpr ⟨(gcX10_isTold__X10_isTold_r1 _ (List.mem_of_getElem? (i := 0) rfl)), fun _ h => (List.not_mem_nil h).elim⟩, gcX10_isTold__X100⟩⟩) gwX10_points
set_option maxRecDepth 20000 in
theorem gX10_isTold_X10_points : GoodIn wsX10_isTold (wsV RX10 262 RX10 yX10_points wsX10_points) := goodIn_app (goodIn_sub (List.forall_mem_cons.mpr ⟨(gcX10_isTold__X10_isTold_r1 _ (List.mem_of_getElem? (i := 10) rfl)), List.forall_mem_cons.mpr ⟨(gcX10_isTold__X10_isTold_r1 _ (List.mem_of_getElem? (i := 11) rfl)), List.forall_mem_cons.mpr ⟨(gcX10_isTold__X10_isTold_r1 _ (List.mem_of_getElem? (i := 12) rfl)), List.forall_mem_cons.mpr ⟨(gcX10_isTold__X10_isTold_r1 _ (List.mem_of_getElem? (i := 8) rfl)), fun _ h => (List.not_mem_nil h).elim⟩⟩⟩⟩) (by decide +kernel)) ggX10_isTold_X10_points
set_option maxRecDepth 20000 in
theorem ggX10_isTold_X10_rows : GoodIn wsX10_isTold wsX10_rows := goodIn_sub (List.forall_mem_cons.mpr ⟨(gcX10_isTold__X10_isTold_r1 _ (List.mem_of_getElem? (i := 17) rfl)), List.forall_mem_append.mpr ⟨List.forall_mem_cons.mpr ⟨(gcX10_isTold__X10_isTold_r1 _ (List.mem_of_getElem? (i := 0) rfl)), fun _ h => (List.not_mem_nil h).elim⟩, gcX10_isTold__X100⟩⟩) gwX10_rows
set_option maxRecDepth 20000 in
theorem gX10_isTold_X10_rows : GoodIn wsX10_isTold (wsV RX10 265 RX10 yX10_rows wsX10_rows) := goodIn_app (goodIn_sub (List.forall_mem_cons.mpr ⟨(gcX10_isTold__X10_isTold_r1 _ (List.mem_of_getElem? (i := 14) rfl)), List.forall_mem_cons.mpr ⟨(gcX10_isTold__X10_isTold_r1 _ (List.mem_of_getElem? (i := 15) rfl)), List.forall_mem_cons.mpr ⟨(gcX10_isTold__X10_isTold_r1 _ (List.mem_of_getElem? (i := 16) rfl)), List.forall_mem_cons.mpr ⟨(gcX10_isTold__X10_isTold_r1 _ (List.mem_of_getElem? (i := 8) rfl)), fun _ h => (List.not_mem_nil h).elim⟩⟩⟩⟩) (by decide +kernel)) ggX10_isTold_X10_rows
set_option maxRecDepth 20000 in
theorem ggX10_isTold_X10_checked : GoodIn wsX10_isTold wsX10_checked := goodIn_sub (List.forall_mem_cons.mpr ⟨(gcX10_isTold__X10_isTold_r1 _ (List.mem_of_getElem? (i := 20) rfl)), fun _ h => (List.not_mem_nil h).elim⟩) gwX10_checked
set_option maxRecDepth 20000 in
theorem gX10_isTold_X10_checked : GoodIn wsX10_isTold (va_wsS RX10 526 yX10_checked wsX10_checked) := goodIn_app (goodIn_sub (List.forall_mem_cons.mpr ⟨(gcX10_isTold__X10_isTold_r1 _ (List.mem_of_getElem? (i := 18) rfl)), List.forall_mem_cons.mpr ⟨(gcX10_isTold__X10_isTold_r1 _ (List.mem_of_getElem? (i := 19) rfl)), List.forall_mem_cons.mpr ⟨(gcX10_isTold__X10_isTold_r1 _ (List.mem_of_getElem? (i := 8) rfl)), fun _ h => (List.not_mem_nil h).elim⟩⟩⟩) (by decide +kernel)) ggX10_isTold_X10_checked
theorem gcX10_isTold__X10_isTold_r2 : ∀ w ∈ wsX10_isTold_r2, w ∈ wsX10_isTold := fun w h => List.mem_cons_of_mem _ (List.mem_append_left _ (List.mem_append_right _ (h)))
set_option maxRecDepth 20000 in
theorem gwX10_canBe : wsX10_canBe.all goodWord = true := by decide +kernel
set_option maxRecDepth 20000 in
theorem ggX10_isTold_X10_canBe : GoodIn wsX10_isTold wsX10_canBe := goodIn_sub (List.forall_mem_cons.mpr ⟨(gcX10_isTold__X10_isTold_r2 _ (List.mem_of_getElem? (i := 0) rfl)), List.forall_mem_append.mpr ⟨List.forall_mem_cons.mpr ⟨(gcX10_isTold__X10_isTold_r2 _ (List.mem_of_getElem? (i := 1) rfl)), List.forall_mem_cons.mpr ⟨(gcX10_isTold__X10_isTold_r2 _ (List.mem_of_getElem? (i := 2) rfl)), List.forall_mem_cons.mpr ⟨(gcX10_isTold__X10_isTold_r2 _ (List.mem_of_getElem? (i := 3) rfl)), List.forall_mem_cons.mpr ⟨(gcX10_isTold__X10_isTold_r2 _ (List.mem_of_getElem? (i := 4) rfl)), List.forall_mem_cons.mpr ⟨(gcX10_isTold__X10_isTold_r2 _ (List.mem_of_getElem? (i := 5) rfl)), List.forall_mem_cons.mpr ⟨(gcX10_isTold__X10_isTold_r1 _ (List.mem_of_getElem? (i := 8) rfl)), List.forall_mem_cons.mpr ⟨(gcX10_isTold__X10_isTold_r2 _ (List.mem_of_getElem? (i := 6) rfl)), List.forall_mem_cons.mpr ⟨(gcX10_isTold__X10_isTold_r1 _ (List.mem_of_getElem? (i := 1) rfl)), List.forall_mem_cons.mpr ⟨(gcX10_isTold__X10_isTold_r2 _ (List.mem_of_getElem? (i := 7) rfl)), List.forall_mem_cons.mpr ⟨(gcX10_isTold__X10_isTold_r2 _ (List.mem_of_getElem? (i := 8) rfl)), List.forall_mem_cons.mpr ⟨(gcX10_isTold__X10_isTold_r2 _ (List.mem_of_getElem? (i := 9) rfl)), fun _ h => (List.not_mem_nil h).elim⟩⟩⟩⟩⟩⟩⟩⟩⟩⟩⟩, gcX10_isTold__X100⟩⟩) gwX10_canBe
set_option maxRecDepth 20000 in
theorem gX10_isTold_X10_canBe : GoodIn wsX10_isTold (wsV RX10 537 RX10 yX10_canBe wsX10_canBe) := goodIn_app (goodIn_sub (List.forall_mem_cons.mpr ⟨(gcX10_isTold__X10_isTold_r1 _ (List.mem_of_getElem? (i := 21) rfl)), List.forall_mem_cons.mpr ⟨(gcX10_isTold__X10_isTold_r1 _ (List.mem_of_getElem? (i := 22) rfl)), List.forall_mem_cons.mpr ⟨(gcX10_isTold__X10_isTold_r1 _ (List.mem_of_getElem? (i := 23) rfl)), List.forall_mem_cons.mpr ⟨(gcX10_isTold__X10_isTold_r1 _ (List.mem_of_getElem? (i := 8) rfl)), fun _ h => (List.not_mem_nil h).elim⟩⟩⟩⟩) (by decide +kernel)) ggX10_isTold_X10_canBe
set_option maxRecDepth 20000 in
theorem ggX10_isTold_X10_hasDrift : GoodIn wsX10_isTold wsX10_hasDrift := goodIn_sub (List.forall_mem_cons.mpr ⟨(gcX10_isTold__X10_isTold_r2 _ (List.mem_of_getElem? (i := 13) rfl)), List.forall_mem_append.mpr ⟨List.forall_mem_cons.mpr ⟨(gcX10_isTold__X10_isTold_r1 _ (List.mem_of_getElem? (i := 5) rfl)), List.forall_mem_cons.mpr ⟨(gcX10_isTold__X10_isTold_r1 _ (List.mem_of_getElem? (i := 6) rfl)), List.forall_mem_cons.mpr ⟨(gcX10_isTold__X10_isTold_r1 _ (List.mem_of_getElem? (i := 7) rfl)), List.forall_mem_cons.mpr ⟨(gcX10_isTold__X10_isTold_r1 _ (List.mem_of_getElem? (i := 8) rfl)), List.forall_mem_cons.mpr ⟨(gcX10_isTold__X10_isTold_r1 _ (List.mem_of_getElem? (i := 9) rfl)), List.forall_mem_cons.mpr ⟨(gcX10_isTold__X10_isTold_r1 _ (List.mem_of_getElem? (i := 0) rfl)), List.forall_mem_cons.mpr ⟨(gcX10_isTold__X10_isTold_r2 _ (List.mem_of_getElem? (i := 14) rfl)), List.forall_mem_cons.mpr ⟨(gcX10_isTold__X10_isTold_r2 _ (List.mem_of_getElem? (i := 15) rfl)), List.forall_mem_cons.mpr ⟨(gcX10_isTold__X10_isTold_r2 _ (List.mem_of_getElem? (i := 16) rfl)), List.forall_mem_cons.mpr ⟨(gcX10_isTold__X10_isTold_r2 _ (List.mem_of_getElem? (i := 17) rfl)), List.forall_mem_cons.mpr ⟨(gcX10_isTold__X10_isTold_r2 _ (List.mem_of_getElem? (i := 18) rfl)), List.forall_mem_cons.mpr ⟨(gcX10_isTold__X10_isTold_r2 _ (List.mem_of_getElem? (i := 19) rfl)), List.forall_mem_cons.mpr ⟨(gcX10_isTold__X10_isTold_r2 _ (List.mem_of_getElem? (i := 20) rfl)), List.forall_mem_cons.mpr ⟨(gcX10_isTold__X10_isTold_r2 _ (List.mem_of_getElem? (i := 21) rfl)), List.forall_mem_cons.mpr ⟨(gcX10_isTold__X10_isTold_r2 _ (List.mem_of_getElem? (i := 22) rfl)), List.forall_mem_cons.mpr ⟨(gcX10_isTold__X10_isTold_r2 _ (List.mem_of_getElem? (i := 23) rfl)), fun _ h => (List.not_mem_nil h).elim⟩⟩⟩⟩⟩⟩⟩⟩⟩⟩⟩⟩⟩⟩⟩⟩, gcX10_isTold__X100⟩⟩) gwX10_hasDrift
set_option maxRecDepth 20000 in
theorem gX10_isTold_X10_hasDrift : GoodIn wsX10_isTold (wsV RX10 368 RX10 yX10_hasDrift wsX10_hasDrift) := goodIn_app (goodIn_sub (List.forall_mem_cons.mpr ⟨(gcX10_isTold__X10_isTold_r2 _ (List.mem_of_getElem? (i := 10) rfl)), List.forall_mem_cons.mpr ⟨(gcX10_isTold__X10_isTold_r2 _ (List.mem_of_getElem? (i := 11) rfl)), List.forall_mem_cons.mpr ⟨(gcX10_isTold__X10_isTold_r2 _ (List.mem_of_getElem? (i := 12) rfl)), List.forall_mem_cons.mpr ⟨(gcX10_isTold__X10_isTold_r1 _ (List.mem_of_getElem? (i := 8) rfl)), fun _ h => (List.not_mem_nil h).elim⟩⟩⟩⟩) (by decide +kernel)) ggX10_isTold_X10_hasDrift
theorem dX10_isTold_0 : decode cX10_isTold 0 = .ok (.aload_n 0, 1) := by decide +kernel
theorem dX10_isTold_1 : decode cX10_isTold 1 = .ok (.getfield 58, 3) := by decide +kernel
theorem dX10_isTold_4 : decode cX10_isTold 4 = .ok (.bipush 6, 2) := by decide +kernel
theorem dX10_isTold_6 : decode cX10_isTold 6 = .ok (.iaload, 1) := by decide +kernel
theorem dX10_isTold_7 : decode cX10_isTold 7 = .ok (.istore_n 2, 1) := by decide +kernel
theorem dX10_isTold_8 : decode cX10_isTold 8 = .ok (.iload_n 1, 1) := by decide +kernel
theorem dX10_isTold_9 : decode cX10_isTold 9 = .ok (.iconst 2, 1) := by decide +kernel
theorem dX10_isTold_10 : decode cX10_isTold 10 = .ok (.bipush 9, 2) := by decide +kernel
theorem dX10_isTold_12 : decode cX10_isTold 12 = .ok (.aload_n 0, 1) := by decide +kernel
theorem dX10_isTold_13 : decode cX10_isTold 13 = .ok (.invokevirtual 259, 3) := by decide +kernel
theorem dX10_isTold_16 : decode cX10_isTold 16 = .ok (.imul, 1) := by decide +kernel
theorem dX10_isTold_17 : decode cX10_isTold 17 = .ok (.iadd, 1) := by decide +kernel
theorem dX10_isTold_18 : decode cX10_isTold 18 = .ok (.bipush 8, 2) := by decide +kernel
theorem dX10_isTold_20 : decode cX10_isTold 20 = .ok (.aload_n 0, 1) := by decide +kernel
theorem dX10_isTold_21 : decode cX10_isTold 21 = .ok (.invokevirtual 262, 3) := by decide +kernel
theorem dX10_isTold_24 : decode cX10_isTold 24 = .ok (.imul, 1) := by decide +kernel
theorem dX10_isTold_25 : decode cX10_isTold 25 = .ok (.iadd, 1) := by decide +kernel
theorem dX10_isTold_26 : decode cX10_isTold 26 = .ok (.bipush 8, 2) := by decide +kernel
theorem dX10_isTold_28 : decode cX10_isTold 28 = .ok (.iload_n 2, 1) := by decide +kernel
theorem dX10_isTold_29 : decode cX10_isTold 29 = .ok (.imul, 1) := by decide +kernel
theorem dX10_isTold_30 : decode cX10_isTold 30 = .ok (.iadd, 1) := by decide +kernel
theorem dX10_isTold_31 : decode cX10_isTold 31 = .ok (.aload_n 0, 1) := by decide +kernel
theorem dX10_isTold_32 : decode cX10_isTold 32 = .ok (.invokevirtual 265, 3) := by decide +kernel
theorem dX10_isTold_35 : decode cX10_isTold 35 = .ok (.iadd, 1) := by decide +kernel
theorem dX10_isTold_36 : decode cX10_isTold 36 = .ok (.if_icmp .ne 34, 3) := by decide +kernel
theorem dX10_isTold_39 : decode cX10_isTold 39 = .ok (.aload_n 0, 1) := by decide +kernel
theorem dX10_isTold_40 : decode cX10_isTold 40 = .ok (.getfield 7, 3) := by decide +kernel
theorem dX10_isTold_43 : decode cX10_isTold 43 = .ok (.iload_n 1, 1) := by decide +kernel
theorem dX10_isTold_44 : decode cX10_isTold 44 = .ok (.iconst 1, 1) := by decide +kernel
theorem dX10_isTold_45 : decode cX10_isTold 45 = .ok (.isub, 1) := by decide +kernel
theorem dX10_isTold_46 : decode cX10_isTold 46 = .ok (.iaload, 1) := by decide +kernel
theorem dX10_isTold_47 : decode cX10_isTold 47 = .ok (.aload_n 0, 1) := by decide +kernel
theorem dX10_isTold_48 : decode cX10_isTold 48 = .ok (.getfield 7, 3) := by decide +kernel
theorem dX10_isTold_51 : decode cX10_isTold 51 = .ok (.iload_n 1, 1) := by decide +kernel
theorem dX10_isTold_52 : decode cX10_isTold 52 = .ok (.iconst 1, 1) := by decide +kernel
theorem dX10_isTold_53 : decode cX10_isTold 53 = .ok (.isub, 1) := by decide +kernel
theorem dX10_isTold_54 : decode cX10_isTold 54 = .ok (.invokestatic 526, 3) := by decide +kernel
theorem dX10_isTold_57 : decode cX10_isTold 57 = .ok (.if_icmp .ne 13, 3) := by decide +kernel
theorem dX10_isTold_60 : decode cX10_isTold 60 = .ok (.aload_n 0, 1) := by decide +kernel
theorem dX10_isTold_61 : decode cX10_isTold 61 = .ok (.getfield 7, 3) := by decide +kernel
theorem dX10_isTold_64 : decode cX10_isTold 64 = .ok (.iconst 0, 1) := by decide +kernel
theorem dX10_isTold_65 : decode cX10_isTold 65 = .ok (.iaload, 1) := by decide +kernel
theorem dX10_isTold_66 : decode cX10_isTold 66 = .ok (.iconst 3, 1) := by decide +kernel
theorem dX10_isTold_67 : decode cX10_isTold 67 = .ok (.if_icmp .le 5, 3) := by decide +kernel
theorem dX10_isTold_70 : decode cX10_isTold 70 = .ok (.iconst 0, 1) := by decide +kernel
theorem dX10_isTold_71 : decode cX10_isTold 71 = .ok (.ireturn, 1) := by decide +kernel
theorem dX10_isTold_72 : decode cX10_isTold 72 = .ok (.iconst 1, 1) := by decide +kernel
theorem dX10_isTold_73 : decode cX10_isTold 73 = .ok (.istore_n 3, 1) := by decide +kernel
theorem dX10_isTold_74 : decode cX10_isTold 74 = .ok (.iconst 0, 1) := by decide +kernel
theorem dX10_isTold_75 : decode cX10_isTold 75 = .ok (.istore 4, 2) := by decide +kernel
theorem dX10_isTold_77 : decode cX10_isTold 77 = .ok (.iload 4, 2) := by decide +kernel
theorem dX10_isTold_79 : decode cX10_isTold 79 = .ok (.aload_n 0, 1) := by decide +kernel
theorem dX10_isTold_80 : decode cX10_isTold 80 = .ok (.invokevirtual 259, 3) := by decide +kernel
theorem dX10_isTold_83 : decode cX10_isTold 83 = .ok (.if_icmp .ge 66, 3) := by decide +kernel
theorem dX10_isTold_86 : decode cX10_isTold 86 = .ok (.aload_n 0, 1) := by decide +kernel
theorem dX10_isTold_87 : decode cX10_isTold 87 = .ok (.getfield 64, 3) := by decide +kernel
theorem dX10_isTold_90 : decode cX10_isTold 90 = .ok (.bipush 12, 2) := by decide +kernel
theorem dX10_isTold_92 : decode cX10_isTold 92 = .ok (.iload 4, 2) := by decide +kernel
theorem dX10_isTold_94 : decode cX10_isTold 94 = .ok (.iadd, 1) := by decide +kernel
theorem dX10_isTold_95 : decode cX10_isTold 95 = .ok (.iaload, 1) := by decide +kernel
theorem dX10_isTold_96 : decode cX10_isTold 96 = .ok (.istore 5, 2) := by decide +kernel
theorem dX10_isTold_98 : decode cX10_isTold 98 = .ok (.aload_n 0, 1) := by decide +kernel
theorem dX10_isTold_99 : decode cX10_isTold 99 = .ok (.getfield 7, 3) := by decide +kernel
theorem dX10_isTold_102 : decode cX10_isTold 102 = .ok (.iload_n 3, 1) := by decide +kernel
theorem dX10_isTold_103 : decode cX10_isTold 103 = .ok (.iaload, 1) := by decide +kernel
theorem dX10_isTold_104 : decode cX10_isTold 104 = .ok (.iconst 3, 1) := by decide +kernel
theorem dX10_isTold_105 : decode cX10_isTold 105 = .ok (.if_icmp .gt 33, 3) := by decide +kernel
theorem dX10_isTold_108 : decode cX10_isTold 108 = .ok (.iload 5, 2) := by decide +kernel
theorem dX10_isTold_110 : decode cX10_isTold 110 = .ok (.iconst 4, 1) := by decide +kernel
theorem dX10_isTold_111 : decode cX10_isTold 111 = .ok (.if_icmp .eq 14, 3) := by decide +kernel
theorem dX10_isTold_114 : decode cX10_isTold 114 = .ok (.aload_n 0, 1) := by decide +kernel
theorem dX10_isTold_115 : decode cX10_isTold 115 = .ok (.getfield 7, 3) := by decide +kernel
theorem dX10_isTold_118 : decode cX10_isTold 118 = .ok (.iload_n 3, 1) := by decide +kernel
theorem dX10_isTold_119 : decode cX10_isTold 119 = .ok (.iaload, 1) := by decide +kernel
theorem dX10_isTold_120 : decode cX10_isTold 120 = .ok (.iload 5, 2) := by decide +kernel
theorem dX10_isTold_122 : decode cX10_isTold 122 = .ok (.if_icmp .ne 16, 3) := by decide +kernel
theorem dX10_isTold_125 : decode cX10_isTold 125 = .ok (.aload_n 0, 1) := by decide +kernel
theorem dX10_isTold_126 : decode cX10_isTold 126 = .ok (.iload_n 3, 1) := by decide +kernel
theorem dX10_isTold_127 : decode cX10_isTold 127 = .ok (.iconst 1, 1) := by decide +kernel
theorem dX10_isTold_128 : decode cX10_isTold 128 = .ok (.iadd, 1) := by decide +kernel
theorem dX10_isTold_129 : decode cX10_isTold 129 = .ok (.iconst 0, 1) := by decide +kernel
theorem dX10_isTold_130 : decode cX10_isTold 130 = .ok (.iconst 0, 1) := by decide +kernel
theorem dX10_isTold_131 : decode cX10_isTold 131 = .ok (.iconst 0, 1) := by decide +kernel
theorem dX10_isTold_132 : decode cX10_isTold 132 = .ok (.invokevirtual 537, 3) := by decide +kernel
theorem dX10_isTold_135 : decode cX10_isTold 135 = .ok (.ifCond .ne 5, 3) := by decide +kernel
theorem dX10_isTold_138 : decode cX10_isTold 138 = .ok (.iconst 0, 1) := by decide +kernel
theorem dX10_isTold_139 : decode cX10_isTold 139 = .ok (.ireturn, 1) := by decide +kernel
theorem dX10_isTold_140 : decode cX10_isTold 140 = .ok (.iinc 3 9, 3) := by decide +kernel
theorem dX10_isTold_143 : decode cX10_isTold 143 = .ok (.iinc 4 1, 3) := by decide +kernel
theorem dX10_isTold_146 : decode cX10_isTold 146 = .ok (.goto (-69), 3) := by decide +kernel
theorem dX10_isTold_149 : decode cX10_isTold 149 = .ok (.iconst 0, 1) := by decide +kernel
theorem dX10_isTold_150 : decode cX10_isTold 150 = .ok (.istore 4, 2) := by decide +kernel
theorem dX10_isTold_152 : decode cX10_isTold 152 = .ok (.iload 4, 2) := by decide +kernel
theorem dX10_isTold_154 : decode cX10_isTold 154 = .ok (.aload_n 0, 1) := by decide +kernel
theorem dX10_isTold_155 : decode cX10_isTold 155 = .ok (.invokevirtual 262, 3) := by decide +kernel
theorem dX10_isTold_158 : decode cX10_isTold 158 = .ok (.if_icmp .ge 95, 3) := by decide +kernel
theorem dX10_isTold_161 : decode cX10_isTold 161 = .ok (.aload_n 0, 1) := by decide +kernel
theorem dX10_isTold_162 : decode cX10_isTold 162 = .ok (.getfield 73, 3) := by decide +kernel
theorem dX10_isTold_165 : decode cX10_isTold 165 = .ok (.bipush 20, 2) := by decide +kernel
theorem dX10_isTold_167 : decode cX10_isTold 167 = .ok (.iload 4, 2) := by decide +kernel
theorem dX10_isTold_169 : decode cX10_isTold 169 = .ok (.iadd, 1) := by decide +kernel
theorem dX10_isTold_170 : decode cX10_isTold 170 = .ok (.iaload, 1) := by decide +kernel
theorem dX10_isTold_171 : decode cX10_isTold 171 = .ok (.istore 5, 2) := by decide +kernel
theorem dX10_isTold_173 : decode cX10_isTold 173 = .ok (.iload 5, 2) := by decide +kernel
theorem dX10_isTold_175 : decode cX10_isTold 175 = .ok (.ifCond .eq 24, 3) := by decide +kernel
theorem dX10_isTold_178 : decode cX10_isTold 178 = .ok (.aload_n 0, 1) := by decide +kernel
theorem dX10_isTold_179 : decode cX10_isTold 179 = .ok (.getfield 7, 3) := by decide +kernel
theorem dX10_isTold_182 : decode cX10_isTold 182 = .ok (.iconst 0, 1) := by decide +kernel
theorem dX10_isTold_183 : decode cX10_isTold 183 = .ok (.iaload, 1) := by decide +kernel
theorem dX10_isTold_184 : decode cX10_isTold 184 = .ok (.iload 5, 2) := by decide +kernel
theorem dX10_isTold_186 : decode cX10_isTold 186 = .ok (.iconst 1, 1) := by decide +kernel
theorem dX10_isTold_187 : decode cX10_isTold 187 = .ok (.isub, 1) := by decide +kernel
theorem dX10_isTold_188 : decode cX10_isTold 188 = .ok (.ishr, 1) := by decide +kernel
theorem dX10_isTold_189 : decode cX10_isTold 189 = .ok (.iconst 1, 1) := by decide +kernel
theorem dX10_isTold_190 : decode cX10_isTold 190 = .ok (.iand, 1) := by decide +kernel
theorem dX10_isTold_191 : decode cX10_isTold 191 = .ok (.iconst 1, 1) := by decide +kernel
theorem dX10_isTold_192 : decode cX10_isTold 192 = .ok (.if_icmp .ne 7, 3) := by decide +kernel
theorem dX10_isTold_195 : decode cX10_isTold 195 = .ok (.iconst 1, 1) := by decide +kernel
theorem dX10_isTold_196 : decode cX10_isTold 196 = .ok (.goto 4, 3) := by decide +kernel
theorem dX10_isTold_199 : decode cX10_isTold 199 = .ok (.iconst 0, 1) := by decide +kernel
theorem dX10_isTold_200 : decode cX10_isTold 200 = .ok (.istore 6, 2) := by decide +kernel
theorem dX10_isTold_202 : decode cX10_isTold 202 = .ok (.aload_n 0, 1) := by decide +kernel
theorem dX10_isTold_203 : decode cX10_isTold 203 = .ok (.iload_n 3, 1) := by decide +kernel
theorem dX10_isTold_204 : decode cX10_isTold 204 = .ok (.iload 6, 2) := by decide +kernel
theorem dX10_isTold_206 : decode cX10_isTold 206 = .ok (.bipush 100, 2) := by decide +kernel
theorem dX10_isTold_208 : decode cX10_isTold 208 = .ok (.aload_n 0, 1) := by decide +kernel
theorem dX10_isTold_209 : decode cX10_isTold 209 = .ok (.getfield 76, 3) := by decide +kernel
theorem dX10_isTold_212 : decode cX10_isTold 212 = .ok (.bipush 40, 2) := by decide +kernel
theorem dX10_isTold_214 : decode cX10_isTold 214 = .ok (.iconst 2, 1) := by decide +kernel
theorem dX10_isTold_215 : decode cX10_isTold 215 = .ok (.iload 4, 2) := by decide +kernel
theorem dX10_isTold_217 : decode cX10_isTold 217 = .ok (.imul, 1) := by decide +kernel
theorem dX10_isTold_218 : decode cX10_isTold 218 = .ok (.iadd, 1) := by decide +kernel
theorem dX10_isTold_219 : decode cX10_isTold 219 = .ok (.iaload, 1) := by decide +kernel
theorem dX10_isTold_220 : decode cX10_isTold 220 = .ok (.imul, 1) := by decide +kernel
theorem dX10_isTold_221 : decode cX10_isTold 221 = .ok (.bipush 100, 2) := by decide +kernel
theorem dX10_isTold_223 : decode cX10_isTold 223 = .ok (.aload_n 0, 1) := by decide +kernel
theorem dX10_isTold_224 : decode cX10_isTold 224 = .ok (.getfield 76, 3) := by decide +kernel
theorem dX10_isTold_227 : decode cX10_isTold 227 = .ok (.bipush 41, 2) := by decide +kernel
theorem dX10_isTold_229 : decode cX10_isTold 229 = .ok (.iconst 2, 1) := by decide +kernel
theorem dX10_isTold_230 : decode cX10_isTold 230 = .ok (.iload 4, 2) := by decide +kernel
theorem dX10_isTold_232 : decode cX10_isTold 232 = .ok (.imul, 1) := by decide +kernel
theorem dX10_isTold_233 : decode cX10_isTold 233 = .ok (.iadd, 1) := by decide +kernel
theorem dX10_isTold_234 : decode cX10_isTold 234 = .ok (.iaload, 1) := by decide +kernel
theorem dX10_isTold_235 : decode cX10_isTold 235 = .ok (.imul, 1) := by decide +kernel
theorem dX10_isTold_236 : decode cX10_isTold 236 = .ok (.invokevirtual 537, 3) := by decide +kernel
theorem dX10_isTold_239 : decode cX10_isTold 239 = .ok (.ifCond .ne 5, 3) := by decide +kernel
theorem dX10_isTold_242 : decode cX10_isTold 242 = .ok (.iconst 0, 1) := by decide +kernel
theorem dX10_isTold_243 : decode cX10_isTold 243 = .ok (.ireturn, 1) := by decide +kernel
theorem dX10_isTold_244 : decode cX10_isTold 244 = .ok (.iinc 3 8, 3) := by decide +kernel
theorem dX10_isTold_247 : decode cX10_isTold 247 = .ok (.iinc 4 1, 3) := by decide +kernel
theorem dX10_isTold_250 : decode cX10_isTold 250 = .ok (.goto (-98), 3) := by decide +kernel
theorem dX10_isTold_253 : decode cX10_isTold 253 = .ok (.iconst 0, 1) := by decide +kernel
theorem dX10_isTold_254 : decode cX10_isTold 254 = .ok (.istore 4, 2) := by decide +kernel
theorem dX10_isTold_256 : decode cX10_isTold 256 = .ok (.iload 4, 2) := by decide +kernel
theorem dX10_isTold_258 : decode cX10_isTold 258 = .ok (.iload_n 2, 1) := by decide +kernel
theorem dX10_isTold_259 : decode cX10_isTold 259 = .ok (.if_icmp .ge 38, 3) := by decide +kernel
theorem dX10_isTold_262 : decode cX10_isTold 262 = .ok (.aload_n 0, 1) := by decide +kernel
theorem dX10_isTold_263 : decode cX10_isTold 263 = .ok (.iload_n 3, 1) := by decide +kernel
theorem dX10_isTold_264 : decode cX10_isTold 264 = .ok (.aload_n 0, 1) := by decide +kernel
theorem dX10_isTold_265 : decode cX10_isTold 265 = .ok (.iload 4, 2) := by decide +kernel
theorem dX10_isTold_267 : decode cX10_isTold 267 = .ok (.invokevirtual 368, 3) := by decide +kernel
theorem dX10_isTold_270 : decode cX10_isTold 270 = .ok (.ifCond .ne 7, 3) := by decide +kernel
theorem dX10_isTold_273 : decode cX10_isTold 273 = .ok (.iconst 1, 1) := by decide +kernel
theorem dX10_isTold_274 : decode cX10_isTold 274 = .ok (.goto 4, 3) := by decide +kernel
theorem dX10_isTold_277 : decode cX10_isTold 277 = .ok (.iconst 0, 1) := by decide +kernel
theorem dX10_isTold_278 : decode cX10_isTold 278 = .ok (.iconst 0, 1) := by decide +kernel
theorem dX10_isTold_279 : decode cX10_isTold 279 = .ok (.iconst 0, 1) := by decide +kernel
theorem dX10_isTold_280 : decode cX10_isTold 280 = .ok (.invokevirtual 537, 3) := by decide +kernel
theorem dX10_isTold_283 : decode cX10_isTold 283 = .ok (.ifCond .ne 5, 3) := by decide +kernel
theorem dX10_isTold_286 : decode cX10_isTold 286 = .ok (.iconst 0, 1) := by decide +kernel
theorem dX10_isTold_287 : decode cX10_isTold 287 = .ok (.ireturn, 1) := by decide +kernel
theorem dX10_isTold_288 : decode cX10_isTold 288 = .ok (.iinc 3 8, 3) := by decide +kernel
theorem dX10_isTold_291 : decode cX10_isTold 291 = .ok (.iinc 4 1, 3) := by decide +kernel
theorem dX10_isTold_294 : decode cX10_isTold 294 = .ok (.goto (-38), 3) := by decide +kernel
theorem dX10_isTold_297 : decode cX10_isTold 297 = .ok (.iconst 0, 1) := by decide +kernel
theorem dX10_isTold_298 : decode cX10_isTold 298 = .ok (.istore 4, 2) := by decide +kernel
theorem dX10_isTold_300 : decode cX10_isTold 300 = .ok (.iload 4, 2) := by decide +kernel
theorem dX10_isTold_302 : decode cX10_isTold 302 = .ok (.aload_n 0, 1) := by decide +kernel
theorem dX10_isTold_303 : decode cX10_isTold 303 = .ok (.invokevirtual 265, 3) := by decide +kernel
theorem dX10_isTold_306 : decode cX10_isTold 306 = .ok (.if_icmp .ge 24, 3) := by decide +kernel
theorem dX10_isTold_309 : decode cX10_isTold 309 = .ok (.aload_n 0, 1) := by decide +kernel
theorem dX10_isTold_310 : decode cX10_isTold 310 = .ok (.getfield 7, 3) := by decide +kernel
theorem dX10_isTold_313 : decode cX10_isTold 313 = .ok (.iload_n 3, 1) := by decide +kernel
theorem dX10_isTold_314 : decode cX10_isTold 314 = .ok (.iload 4, 2) := by decide +kernel
theorem dX10_isTold_316 : decode cX10_isTold 316 = .ok (.iadd, 1) := by decide +kernel
theorem dX10_isTold_317 : decode cX10_isTold 317 = .ok (.iaload, 1) := by decide +kernel
theorem dX10_isTold_318 : decode cX10_isTold 318 = .ok (.iconst 1, 1) := by decide +kernel
theorem dX10_isTold_319 : decode cX10_isTold 319 = .ok (.if_icmp .le 5, 3) := by decide +kernel
theorem dX10_isTold_322 : decode cX10_isTold 322 = .ok (.iconst 0, 1) := by decide +kernel
theorem dX10_isTold_323 : decode cX10_isTold 323 = .ok (.ireturn, 1) := by decide +kernel
theorem dX10_isTold_324 : decode cX10_isTold 324 = .ok (.iinc 4 1, 3) := by decide +kernel
theorem dX10_isTold_327 : decode cX10_isTold 327 = .ok (.goto (-27), 3) := by decide +kernel
theorem dX10_isTold_330 : decode cX10_isTold 330 = .ok (.iconst 1, 1) := by decide +kernel
theorem dX10_isTold_331 : decode cX10_isTold 331 = .ok (.ireturn, 1) := by decide +kernel
theorem gcX10_tells__X100 : ∀ w ∈ wsX100, w ∈ wsX10_tells := fun w h => List.mem_cons_of_mem _ (List.mem_append_right _ (h))
set_option maxRecDepth 20000 in
theorem ggX10_tells_X10_fourAt : GoodIn wsX10_tells wsX10_fourAt := goodIn_sub (List.forall_mem_cons.mpr ⟨(List.mem_of_getElem? (i := 6) rfl), List.forall_mem_append.mpr ⟨List.forall_mem_cons.mpr ⟨(List.mem_of_getElem? (i := 7) rfl), fun _ h => (List.not_mem_nil h).elim⟩, gcX10_tells__X100⟩⟩) gwX10_fourAt
set_option maxRecDepth 20000 in
theorem gX10_tells_X10_fourAt : GoodIn wsX10_tells (wsV RX10 530 RX10 yX10_fourAt wsX10_fourAt) := goodIn_app (goodIn_sub (List.forall_mem_cons.mpr ⟨(List.mem_of_getElem? (i := 2) rfl), List.forall_mem_cons.mpr ⟨(List.mem_of_getElem? (i := 3) rfl), List.forall_mem_cons.mpr ⟨(List.mem_of_getElem? (i := 4) rfl), List.forall_mem_cons.mpr ⟨(List.mem_of_getElem? (i := 5) rfl), fun _ h => (List.not_mem_nil h).elim⟩⟩⟩⟩) (by decide +kernel)) ggX10_tells_X10_fourAt
theorem dX10_tells_0 : decode cX10_tells 0 = .ok (.aload_n 0, 1) := by decide +kernel
theorem dX10_tells_1 : decode cX10_tells 1 = .ok (.getfield 101, 3) := by decide +kernel
theorem dX10_tells_4 : decode cX10_tells 4 = .ok (.iload_n 2, 1) := by decide +kernel
theorem dX10_tells_5 : decode cX10_tells 5 = .ok (.aload_n 0, 1) := by decide +kernel
theorem dX10_tells_6 : decode cX10_tells 6 = .ok (.iload_n 1, 1) := by decide +kernel
theorem dX10_tells_7 : decode cX10_tells 7 = .ok (.invokevirtual 530, 3) := by decide +kernel
theorem dX10_tells_10 : decode cX10_tells 10 = .ok (.iastore, 1) := by decide +kernel
theorem dX10_tells_11 : decode cX10_tells 11 = .ok (.aload_n 0, 1) := by decide +kernel
theorem dX10_tells_12 : decode cX10_tells 12 = .ok (.getfield 101, 3) := by decide +kernel
theorem dX10_tells_15 : decode cX10_tells 15 = .ok (.bipush 38, 2) := by decide +kernel
theorem dX10_tells_17 : decode cX10_tells 17 = .ok (.iload_n 2, 1) := by decide +kernel
theorem dX10_tells_18 : decode cX10_tells 18 = .ok (.iadd, 1) := by decide +kernel
theorem dX10_tells_19 : decode cX10_tells 19 = .ok (.aload_n 0, 1) := by decide +kernel
theorem dX10_tells_20 : decode cX10_tells 20 = .ok (.iload_n 1, 1) := by decide +kernel
theorem dX10_tells_21 : decode cX10_tells 21 = .ok (.iconst 4, 1) := by decide +kernel
theorem dX10_tells_22 : decode cX10_tells 22 = .ok (.iadd, 1) := by decide +kernel
theorem dX10_tells_23 : decode cX10_tells 23 = .ok (.invokevirtual 530, 3) := by decide +kernel
theorem dX10_tells_26 : decode cX10_tells 26 = .ok (.iastore, 1) := by decide +kernel
theorem dX10_tells_27 : decode cX10_tells 27 = .ok (.iload_n 1, 1) := by decide +kernel
theorem dX10_tells_28 : decode cX10_tells 28 = .ok (.bipush 8, 2) := by decide +kernel
theorem dX10_tells_30 : decode cX10_tells 30 = .ok (.iadd, 1) := by decide +kernel
theorem dX10_tells_31 : decode cX10_tells 31 = .ok (.ireturn, 1) := by decide +kernel
theorem gcX10_on__X10_on_r1 : ∀ w ∈ wsX10_on_r1, w ∈ wsX10_on := fun w h => List.mem_cons_of_mem _ (List.mem_append_left _ (List.mem_append_left _ (h)))
theorem gcX10_on__X10_on_r2 : ∀ w ∈ wsX10_on_r2, w ∈ wsX10_on := fun w h => List.mem_cons_of_mem _ (List.mem_append_left _ (List.mem_append_right _ (List.mem_append_left _ (h))))
set_option maxRecDepth 20000 in
theorem gmX10_on__X10_isTold_r1 : ∀ w ∈ wsX10_isTold_r1, w ∈ wsX10_on := List.forall_mem_cons.mpr ⟨(gcX10_on__X10_on_r1 _ (List.mem_of_getElem? (i := 4) rfl)), List.forall_mem_cons.mpr ⟨(gcX10_on__X10_on_r1 _ (List.mem_of_getElem? (i := 1) rfl)), List.forall_mem_cons.mpr ⟨(gcX10_on__X10_on_r1 _ (List.mem_of_getElem? (i := 11) rfl)), List.forall_mem_cons.mpr ⟨(gcX10_on__X10_on_r1 _ (List.mem_of_getElem? (i := 12) rfl)), List.forall_mem_cons.mpr ⟨(gcX10_on__X10_on_r1 _ (List.mem_of_getElem? (i := 13) rfl)), List.forall_mem_cons.mpr ⟨(gcX10_on__X10_on_r1 _ (List.mem_of_getElem? (i := 14) rfl)), List.forall_mem_cons.mpr ⟨(gcX10_on__X10_on_r1 _ (List.mem_of_getElem? (i := 15) rfl)), List.forall_mem_cons.mpr ⟨(gcX10_on__X10_on_r1 _ (List.mem_of_getElem? (i := 16) rfl)), List.forall_mem_cons.mpr ⟨(gcX10_on__X10_on_r1 _ (List.mem_of_getElem? (i := 9) rfl)), List.forall_mem_cons.mpr ⟨(gcX10_on__X10_on_r1 _ (List.mem_of_getElem? (i := 17) rfl)), List.forall_mem_cons.mpr ⟨(gcX10_on__X10_on_r1 _ (List.mem_of_getElem? (i := 18) rfl)), List.forall_mem_cons.mpr ⟨(gcX10_on__X10_on_r1 _ (List.mem_of_getElem? (i := 19) rfl)), List.forall_mem_cons.mpr ⟨(gcX10_on__X10_on_r1 _ (List.mem_of_getElem? (i := 20) rfl)), List.forall_mem_cons.mpr ⟨(gcX10_on__X10_on_r1 _ (List.mem_of_getElem? (i := 21) rfl)), List.forall_mem_cons.mpr ⟨(gcX10_on__X10_on_r1 _ (List.mem_of_getElem? (i := 22) rfl)), List.forall_mem_cons.mpr ⟨(gcX10_on__X10_on_r1 _ (List.mem_of_getElem? (i := 23) rfl)), List.forall_mem_cons.mpr ⟨(gcX10_on__X10_on_r2 _ (List.mem_of_getElem? (i := 0) rfl)), List.forall_mem_cons.mpr ⟨(gcX10_on__X10_on_r2 _ (List.mem_of_getElem? (i := 1) rfl)), List.forall_mem_cons.mpr ⟨(gcX10_on__X10_on_r2 _ (List.mem_of_getElem? (i := 2) rfl)), List.forall_mem_cons.mpr ⟨(gcX10_on__X10_on_r2 _ (List.mem_of_getElem? (i := 3) rfl)), List.forall_mem_cons.mpr ⟨(gcX10_on__X10_on_r2 _ (List.mem_of_getElem? (i := 4) rfl)), List.forall_mem_cons.mpr ⟨(gcX10_on__X10_on_r2 _ (List.mem_of_getElem? (i := 5) rfl)), List.forall_mem_cons.mpr ⟨(gcX10_on__X10_on_r2 _ (List.mem_of_getElem? (i := 6) rfl)), List.forall_mem_cons.mpr ⟨(gcX10_on__X10_on_r2 _ (List.mem_of_getElem? (i := 7) rfl)), fun _ h => (List.not_mem_nil h).elim⟩⟩⟩⟩⟩⟩⟩⟩⟩⟩⟩⟩⟩⟩⟩⟩⟩⟩⟩⟩⟩⟩⟩⟩
theorem gcX10_on__X10_on_r3 : ∀ w ∈ wsX10_on_r3, w ∈ wsX10_on := fun w h => List.mem_cons_of_mem _ (List.mem_append_left _ (List.mem_append_right _ (List.mem_append_right _ (h))))
set_option maxRecDepth 20000 in
theorem gmX10_on__X10_isTold_r2 : ∀ w ∈ wsX10_isTold_r2, w ∈ wsX10_on := List.forall_mem_cons.mpr ⟨(gcX10_on__X10_on_r2 _ (List.mem_of_getElem? (i := 8) rfl)), List.forall_mem_cons.mpr ⟨(gcX10_on__X10_on_r2 _ (List.mem_of_getElem? (i := 9) rfl)), List.forall_mem_cons.mpr ⟨(gcX10_on__X10_on_r2 _ (List.mem_of_getElem? (i := 10) rfl)), List.forall_mem_cons.mpr ⟨(gcX10_on__X10_on_r2 _ (List.mem_of_getElem? (i := 11) rfl)), List.forall_mem_cons.mpr ⟨(gcX10_on__X10_on_r2 _ (List.mem_of_getElem? (i := 12) rfl)), List.forall_mem_cons.mpr ⟨(gcX10_on__X10_on_r2 _ (List.mem_of_getElem? (i := 13) rfl)), List.forall_mem_cons.mpr ⟨(gcX10_on__X10_on_r2 _ (List.mem_of_getElem? (i := 14) rfl)), List.forall_mem_cons.mpr ⟨(gcX10_on__X10_on_r2 _ (List.mem_of_getElem? (i := 15) rfl)), List.forall_mem_cons.mpr ⟨(gcX10_on__X10_on_r2 _ (List.mem_of_getElem? (i := 16) rfl)), List.forall_mem_cons.mpr ⟨(gcX10_on__X10_on_r2 _ (List.mem_of_getElem? (i := 17) rfl)), List.forall_mem_cons.mpr ⟨(gcX10_on__X10_on_r2 _ (List.mem_of_getElem? (i := 18) rfl)), List.forall_mem_cons.mpr ⟨(gcX10_on__X10_on_r2 _ (List.mem_of_getElem? (i := 19) rfl)), List.forall_mem_cons.mpr ⟨(gcX10_on__X10_on_r2 _ (List.mem_of_getElem? (i := 20) rfl)), List.forall_mem_cons.mpr ⟨(gcX10_on__X10_on_r2 _ (List.mem_of_getElem? (i := 21) rfl)), List.forall_mem_cons.mpr ⟨(gcX10_on__X10_on_r2 _ (List.mem_of_getElem? (i := 22) rfl)), List.forall_mem_cons.mpr ⟨(gcX10_on__X10_on_r2 _ (List.mem_of_getElem? (i := 23) rfl)), List.forall_mem_cons.mpr ⟨(gcX10_on__X10_on_r3 _ (List.mem_of_getElem? (i := 0) rfl)), List.forall_mem_cons.mpr ⟨(gcX10_on__X10_on_r3 _ (List.mem_of_getElem? (i := 1) rfl)), List.forall_mem_cons.mpr ⟨(gcX10_on__X10_on_r3 _ (List.mem_of_getElem? (i := 2) rfl)), List.forall_mem_cons.mpr ⟨(gcX10_on__X10_on_r3 _ (List.mem_of_getElem? (i := 3) rfl)), List.forall_mem_cons.mpr ⟨(gcX10_on__X10_on_r3 _ (List.mem_of_getElem? (i := 4) rfl)), List.forall_mem_cons.mpr ⟨(gcX10_on__X10_on_r3 _ (List.mem_of_getElem? (i := 5) rfl)), List.forall_mem_cons.mpr ⟨(gcX10_on__X10_on_r3 _ (List.mem_of_getElem? (i := 6) rfl)), List.forall_mem_cons.mpr ⟨(gcX10_on__X10_on_r3 _ (List.mem_of_getElem? (i := 7) rfl)), fun _ h => (List.not_mem_nil h).elim⟩⟩⟩⟩⟩⟩⟩⟩⟩⟩⟩⟩⟩⟩⟩⟩⟩⟩⟩⟩⟩⟩⟩⟩
theorem gcX10_on__X100 : ∀ w ∈ wsX100, w ∈ wsX10_on := fun w h => List.mem_cons_of_mem _ (List.mem_append_right _ (h))
set_option maxRecDepth 20000 in
theorem gwX10_isTold : wsX10_isTold.all goodWord = true := by decide +kernel
set_option maxRecDepth 20000 in
theorem ggX10_on_X10_isTold : GoodIn wsX10_on wsX10_isTold := goodIn_sub (List.forall_mem_cons.mpr ⟨(gcX10_on__X10_on_r1 _ (List.mem_of_getElem? (i := 10) rfl)), List.forall_mem_append.mpr ⟨List.forall_mem_append.mpr ⟨gmX10_on__X10_isTold_r1, gmX10_on__X10_isTold_r2⟩, gcX10_on__X100⟩⟩) gwX10_isTold
set_option maxRecDepth 20000 in
theorem gX10_on_X10_isTold : GoodIn wsX10_on (wsV RX10 541 RX10 yX10_isTold wsX10_isTold) := goodIn_app (goodIn_sub (List.forall_mem_cons.mpr ⟨(gcX10_on__X10_on_r1 _ (List.mem_of_getElem? (i := 6) rfl)), List.forall_mem_cons.mpr ⟨(gcX10_on__X10_on_r1 _ (List.mem_of_getElem? (i := 7) rfl)), List.forall_mem_cons.mpr ⟨(gcX10_on__X10_on_r1 _ (List.mem_of_getElem? (i := 8) rfl)), List.forall_mem_cons.mpr ⟨(gcX10_on__X10_on_r1 _ (List.mem_of_getElem? (i := 9) rfl)), fun _ h => (List.not_mem_nil h).elim⟩⟩⟩⟩) (by decide +kernel)) ggX10_on_X10_isTold
set_option maxRecDepth 20000 in
theorem ggX10_on_X10_pictures : GoodIn wsX10_on wsX10_pictures := goodIn_sub (List.forall_mem_cons.mpr ⟨(gcX10_on__X10_on_r1 _ (List.mem_of_getElem? (i := 17) rfl)), List.forall_mem_append.mpr ⟨List.forall_mem_cons.mpr ⟨(gcX10_on__X10_on_r1 _ (List.mem_of_getElem? (i := 4) rfl)), fun _ h => (List.not_mem_nil h).elim⟩, gcX10_on__X100⟩⟩) gwX10_pictures
set_option maxRecDepth 20000 in
theorem gX10_on_X10_pictures : GoodIn wsX10_on (wsV RX10 259 RX10 yX10_pictures wsX10_pictures) := goodIn_app (goodIn_sub (List.forall_mem_cons.mpr ⟨(gcX10_on__X10_on_r1 _ (List.mem_of_getElem? (i := 14) rfl)), List.forall_mem_cons.mpr ⟨(gcX10_on__X10_on_r1 _ (List.mem_of_getElem? (i := 15) rfl)), List.forall_mem_cons.mpr ⟨(gcX10_on__X10_on_r1 _ (List.mem_of_getElem? (i := 16) rfl)), List.forall_mem_cons.mpr ⟨(gcX10_on__X10_on_r1 _ (List.mem_of_getElem? (i := 9) rfl)), fun _ h => (List.not_mem_nil h).elim⟩⟩⟩⟩) (by decide +kernel)) ggX10_on_X10_pictures
set_option maxRecDepth 20000 in
theorem gwX10_tells : wsX10_tells.all goodWord = true := by decide +kernel
set_option maxRecDepth 20000 in
theorem ggX10_on_X10_tells : GoodIn wsX10_on wsX10_tells := goodIn_sub (List.forall_mem_cons.mpr ⟨(gcX10_on__X10_on_r3 _ (List.mem_of_getElem? (i := 11) rfl)), List.forall_mem_append.mpr ⟨List.forall_mem_cons.mpr ⟨(gcX10_on__X10_on_r3 _ (List.mem_of_getElem? (i := 12) rfl)), List.forall_mem_cons.mpr ⟨(gcX10_on__X10_on_r2 _ (List.mem_of_getElem? (i := 11) rfl)), List.forall_mem_cons.mpr ⟨(gcX10_on__X10_on_r2 _ (List.mem_of_getElem? (i := 12) rfl)), List.forall_mem_cons.mpr ⟨(gcX10_on__X10_on_r2 _ (List.mem_of_getElem? (i := 13) rfl)), List.forall_mem_cons.mpr ⟨(gcX10_on__X10_on_r1 _ (List.mem_of_getElem? (i := 9) rfl)), List.forall_mem_cons.mpr ⟨(gcX10_on__X10_on_r2 _ (List.mem_of_getElem? (i := 14) rfl)), List.forall_mem_cons.mpr ⟨(gcX10_on__X10_on_r1 _ (List.mem_of_getElem? (i := 1) rfl)), fun _ h => (List.not_mem_nil h).elim⟩⟩⟩⟩⟩⟩⟩, gcX10_on__X100⟩⟩) gwX10_tells
set_option maxRecDepth 20000 in
theorem gX10_on_X10_tells : GoodIn wsX10_on (wsV RX10 544 RX10 yX10_tells wsX10_tells) := goodIn_app (goodIn_sub (List.forall_mem_cons.mpr ⟨(gcX10_on__X10_on_r3 _ (List.mem_of_getElem? (i := 8) rfl)), List.forall_mem_cons.mpr ⟨(gcX10_on__X10_on_r3 _ (List.mem_of_getElem? (i := 9) rfl)), List.forall_mem_cons.mpr ⟨(gcX10_on__X10_on_r3 _ (List.mem_of_getElem? (i := 10) rfl)), List.forall_mem_cons.mpr ⟨(gcX10_on__X10_on_r1 _ (List.mem_of_getElem? (i := 9) rfl)), fun _ h => (List.not_mem_nil h).elim⟩⟩⟩⟩) (by decide +kernel)) ggX10_on_X10_tells
set_option maxRecDepth 20000 in
theorem ggX10_on_X10_points : GoodIn wsX10_on wsX10_points := goodIn_sub (List.forall_mem_cons.mpr ⟨(gcX10_on__X10_on_r1 _ (List.mem_of_getElem? (i := 21) rfl)), List.forall_mem_append.mpr ⟨List.forall_mem_cons.mpr ⟨(gcX10_on__X10_on_r1 _ (List.mem_of_getElem? (i := 4) rfl)), fun _ h => (List.not_mem_nil h).elim⟩, gcX10_on__X100⟩⟩) gwX10_points
set_option maxRecDepth 20000 in
theorem gX10_on_X10_points : GoodIn wsX10_on (wsV RX10 262 RX10 yX10_points wsX10_points) := goodIn_app (goodIn_sub (List.forall_mem_cons.mpr ⟨(gcX10_on__X10_on_r1 _ (List.mem_of_getElem? (i := 18) rfl)), List.forall_mem_cons.mpr ⟨(gcX10_on__X10_on_r1 _ (List.mem_of_getElem? (i := 19) rfl)), List.forall_mem_cons.mpr ⟨(gcX10_on__X10_on_r1 _ (List.mem_of_getElem? (i := 20) rfl)), List.forall_mem_cons.mpr ⟨(gcX10_on__X10_on_r1 _ (List.mem_of_getElem? (i := 9) rfl)), fun _ h => (List.not_mem_nil h).elim⟩⟩⟩⟩) (by decide +kernel)) ggX10_on_X10_points
set_option maxRecDepth 20000 in
theorem ggX10_on_X10_rows : GoodIn wsX10_on wsX10_rows := goodIn_sub (List.forall_mem_cons.mpr ⟨(gcX10_on__X10_on_r2 _ (List.mem_of_getElem? (i := 1) rfl)), List.forall_mem_append.mpr ⟨List.forall_mem_cons.mpr ⟨(gcX10_on__X10_on_r1 _ (List.mem_of_getElem? (i := 4) rfl)), fun _ h => (List.not_mem_nil h).elim⟩, gcX10_on__X100⟩⟩) gwX10_rows
set_option maxRecDepth 20000 in
theorem gX10_on_X10_rows : GoodIn wsX10_on (wsV RX10 265 RX10 yX10_rows wsX10_rows) := goodIn_app (goodIn_sub (List.forall_mem_cons.mpr ⟨(gcX10_on__X10_on_r1 _ (List.mem_of_getElem? (i := 22) rfl)), List.forall_mem_cons.mpr ⟨(gcX10_on__X10_on_r1 _ (List.mem_of_getElem? (i := 23) rfl)), List.forall_mem_cons.mpr ⟨(gcX10_on__X10_on_r2 _ (List.mem_of_getElem? (i := 0) rfl)), List.forall_mem_cons.mpr ⟨(gcX10_on__X10_on_r1 _ (List.mem_of_getElem? (i := 9) rfl)), fun _ h => (List.not_mem_nil h).elim⟩⟩⟩⟩) (by decide +kernel)) ggX10_on_X10_rows
theorem dX10_on_0 : decode cX10_on 0 = .ok (.aload_n 0, 1) := by decide +kernel
theorem dX10_on_1 : decode cX10_on 1 = .ok (.getfield 140, 3) := by decide +kernel
theorem dX10_on_4 : decode cX10_on 4 = .ok (.istore_n 1, 1) := by decide +kernel
theorem dX10_on_5 : decode cX10_on 5 = .ok (.aload_n 0, 1) := by decide +kernel
theorem dX10_on_6 : decode cX10_on 6 = .ok (.iconst 0, 1) := by decide +kernel
theorem dX10_on_7 : decode cX10_on 7 = .ok (.putfield 140, 3) := by decide +kernel
theorem dX10_on_10 : decode cX10_on 10 = .ok (.aload_n 0, 1) := by decide +kernel
theorem dX10_on_11 : decode cX10_on 11 = .ok (.iload_n 1, 1) := by decide +kernel
theorem dX10_on_12 : decode cX10_on 12 = .ok (.invokevirtual 541, 3) := by decide +kernel
theorem dX10_on_15 : decode cX10_on 15 = .ok (.ifCond .ne 5, 3) := by decide +kernel
theorem dX10_on_18 : decode cX10_on 18 = .ok (.iconst 0, 1) := by decide +kernel
theorem dX10_on_19 : decode cX10_on 19 = .ok (.ireturn, 1) := by decide +kernel
theorem dX10_on_20 : decode cX10_on 20 = .ok (.aload_n 0, 1) := by decide +kernel
theorem dX10_on_21 : decode cX10_on 21 = .ok (.aload_n 0, 1) := by decide +kernel
theorem dX10_on_22 : decode cX10_on 22 = .ok (.getfield 7, 3) := by decide +kernel
theorem dX10_on_25 : decode cX10_on 25 = .ok (.iconst 0, 1) := by decide +kernel
theorem dX10_on_26 : decode cX10_on 26 = .ok (.iaload, 1) := by decide +kernel
theorem dX10_on_27 : decode cX10_on 27 = .ok (.putfield 95, 3) := by decide +kernel
theorem dX10_on_30 : decode cX10_on 30 = .ok (.iconst 1, 1) := by decide +kernel
theorem dX10_on_31 : decode cX10_on 31 = .ok (.istore_n 2, 1) := by decide +kernel
theorem dX10_on_32 : decode cX10_on 32 = .ok (.iconst 0, 1) := by decide +kernel
theorem dX10_on_33 : decode cX10_on 33 = .ok (.istore_n 3, 1) := by decide +kernel
theorem dX10_on_34 : decode cX10_on 34 = .ok (.iload_n 3, 1) := by decide +kernel
theorem dX10_on_35 : decode cX10_on 35 = .ok (.aload_n 0, 1) := by decide +kernel
theorem dX10_on_36 : decode cX10_on 36 = .ok (.invokevirtual 259, 3) := by decide +kernel
theorem dX10_on_39 : decode cX10_on 39 = .ok (.if_icmp .ge 30, 3) := by decide +kernel
theorem dX10_on_42 : decode cX10_on 42 = .ok (.aload_n 0, 1) := by decide +kernel
theorem dX10_on_43 : decode cX10_on 43 = .ok (.getfield 98, 3) := by decide +kernel
theorem dX10_on_46 : decode cX10_on 46 = .ok (.iload_n 3, 1) := by decide +kernel
theorem dX10_on_47 : decode cX10_on 47 = .ok (.aload_n 0, 1) := by decide +kernel
theorem dX10_on_48 : decode cX10_on 48 = .ok (.getfield 7, 3) := by decide +kernel
theorem dX10_on_51 : decode cX10_on 51 = .ok (.iload_n 2, 1) := by decide +kernel
theorem dX10_on_52 : decode cX10_on 52 = .ok (.iaload, 1) := by decide +kernel
theorem dX10_on_53 : decode cX10_on 53 = .ok (.iastore, 1) := by decide +kernel
theorem dX10_on_54 : decode cX10_on 54 = .ok (.aload_n 0, 1) := by decide +kernel
theorem dX10_on_55 : decode cX10_on 55 = .ok (.iload_n 2, 1) := by decide +kernel
theorem dX10_on_56 : decode cX10_on 56 = .ok (.iconst 1, 1) := by decide +kernel
theorem dX10_on_57 : decode cX10_on 57 = .ok (.iadd, 1) := by decide +kernel
theorem dX10_on_58 : decode cX10_on 58 = .ok (.iload_n 3, 1) := by decide +kernel
theorem dX10_on_59 : decode cX10_on 59 = .ok (.invokevirtual 544, 3) := by decide +kernel
theorem dX10_on_62 : decode cX10_on 62 = .ok (.istore_n 2, 1) := by decide +kernel
theorem dX10_on_63 : decode cX10_on 63 = .ok (.iinc 3 1, 3) := by decide +kernel
theorem dX10_on_66 : decode cX10_on 66 = .ok (.goto (-32), 3) := by decide +kernel
theorem dX10_on_69 : decode cX10_on 69 = .ok (.iconst 0, 1) := by decide +kernel
theorem dX10_on_70 : decode cX10_on 70 = .ok (.istore_n 3, 1) := by decide +kernel
theorem dX10_on_71 : decode cX10_on 71 = .ok (.iload_n 3, 1) := by decide +kernel
theorem dX10_on_72 : decode cX10_on 72 = .ok (.aload_n 0, 1) := by decide +kernel
theorem dX10_on_73 : decode cX10_on 73 = .ok (.invokevirtual 262, 3) := by decide +kernel
theorem dX10_on_76 : decode cX10_on 76 = .ok (.if_icmp .ge 19, 3) := by decide +kernel
theorem dX10_on_79 : decode cX10_on 79 = .ok (.aload_n 0, 1) := by decide +kernel
theorem dX10_on_80 : decode cX10_on 80 = .ok (.iload_n 2, 1) := by decide +kernel
theorem dX10_on_81 : decode cX10_on 81 = .ok (.bipush 12, 2) := by decide +kernel
theorem dX10_on_83 : decode cX10_on 83 = .ok (.iload_n 3, 1) := by decide +kernel
theorem dX10_on_84 : decode cX10_on 84 = .ok (.iadd, 1) := by decide +kernel
theorem dX10_on_85 : decode cX10_on 85 = .ok (.invokevirtual 544, 3) := by decide +kernel
theorem dX10_on_88 : decode cX10_on 88 = .ok (.istore_n 2, 1) := by decide +kernel
theorem dX10_on_89 : decode cX10_on 89 = .ok (.iinc 3 1, 3) := by decide +kernel
theorem dX10_on_92 : decode cX10_on 92 = .ok (.goto (-21), 3) := by decide +kernel
theorem dX10_on_95 : decode cX10_on 95 = .ok (.iconst 0, 1) := by decide +kernel
theorem dX10_on_96 : decode cX10_on 96 = .ok (.istore_n 3, 1) := by decide +kernel
theorem dX10_on_97 : decode cX10_on 97 = .ok (.iload_n 3, 1) := by decide +kernel
theorem dX10_on_98 : decode cX10_on 98 = .ok (.aload_n 0, 1) := by decide +kernel
theorem dX10_on_99 : decode cX10_on 99 = .ok (.getfield 58, 3) := by decide +kernel
theorem dX10_on_102 : decode cX10_on 102 = .ok (.bipush 6, 2) := by decide +kernel
theorem dX10_on_104 : decode cX10_on 104 = .ok (.iaload, 1) := by decide +kernel
theorem dX10_on_105 : decode cX10_on 105 = .ok (.if_icmp .ge 19, 3) := by decide +kernel
theorem dX10_on_108 : decode cX10_on 108 = .ok (.aload_n 0, 1) := by decide +kernel
theorem dX10_on_109 : decode cX10_on 109 = .ok (.iload_n 2, 1) := by decide +kernel
theorem dX10_on_110 : decode cX10_on 110 = .ok (.bipush 32, 2) := by decide +kernel
theorem dX10_on_112 : decode cX10_on 112 = .ok (.iload_n 3, 1) := by decide +kernel
theorem dX10_on_113 : decode cX10_on 113 = .ok (.iadd, 1) := by decide +kernel
theorem dX10_on_114 : decode cX10_on 114 = .ok (.invokevirtual 544, 3) := by decide +kernel
theorem dX10_on_117 : decode cX10_on 117 = .ok (.istore_n 2, 1) := by decide +kernel
theorem dX10_on_118 : decode cX10_on 118 = .ok (.iinc 3 1, 3) := by decide +kernel
theorem dX10_on_121 : decode cX10_on 121 = .ok (.goto (-24), 3) := by decide +kernel
theorem dX10_on_124 : decode cX10_on 124 = .ok (.iconst 0, 1) := by decide +kernel
theorem dX10_on_125 : decode cX10_on 125 = .ok (.istore_n 3, 1) := by decide +kernel
theorem dX10_on_126 : decode cX10_on 126 = .ok (.iload_n 3, 1) := by decide +kernel
theorem dX10_on_127 : decode cX10_on 127 = .ok (.aload_n 0, 1) := by decide +kernel
theorem dX10_on_128 : decode cX10_on 128 = .ok (.invokevirtual 265, 3) := by decide +kernel
theorem dX10_on_131 : decode cX10_on 131 = .ok (.if_icmp .ge 32, 3) := by decide +kernel
theorem dX10_on_134 : decode cX10_on 134 = .ok (.aload_n 0, 1) := by decide +kernel
theorem dX10_on_135 : decode cX10_on 135 = .ok (.getfield 91, 3) := by decide +kernel
theorem dX10_on_138 : decode cX10_on 138 = .ok (.iload_n 3, 1) := by decide +kernel
theorem dX10_on_139 : decode cX10_on 139 = .ok (.aload_n 0, 1) := by decide +kernel
theorem dX10_on_140 : decode cX10_on 140 = .ok (.getfield 7, 3) := by decide +kernel
theorem dX10_on_143 : decode cX10_on 143 = .ok (.iload_n 2, 1) := by decide +kernel
theorem dX10_on_144 : decode cX10_on 144 = .ok (.iload_n 3, 1) := by decide +kernel
theorem dX10_on_145 : decode cX10_on 145 = .ok (.iadd, 1) := by decide +kernel
theorem dX10_on_146 : decode cX10_on 146 = .ok (.iaload, 1) := by decide +kernel
theorem dX10_on_147 : decode cX10_on 147 = .ok (.iconst 1, 1) := by decide +kernel
theorem dX10_on_148 : decode cX10_on 148 = .ok (.if_icmp .ne 7, 3) := by decide +kernel
theorem dX10_on_151 : decode cX10_on 151 = .ok (.iconst 1, 1) := by decide +kernel
theorem dX10_on_152 : decode cX10_on 152 = .ok (.goto 4, 3) := by decide +kernel
theorem dX10_on_155 : decode cX10_on 155 = .ok (.iconst 0, 1) := by decide +kernel
theorem dX10_on_156 : decode cX10_on 156 = .ok (.bastore, 1) := by decide +kernel
theorem dX10_on_157 : decode cX10_on 157 = .ok (.iinc 3 1, 3) := by decide +kernel
theorem dX10_on_160 : decode cX10_on 160 = .ok (.goto (-34), 3) := by decide +kernel
theorem dX10_on_163 : decode cX10_on 163 = .ok (.iconst 1, 1) := by decide +kernel
theorem dX10_on_164 : decode cX10_on 164 = .ok (.ireturn, 1) := by decide +kernel
theorem dJ9_floorDiv_f86c9_0 : decode cJ9_floorDiv_f86c9 0 = .ok (.lload_n 0, 1) := by decide +kernel
theorem dJ9_floorDiv_f86c9_1 : decode cJ9_floorDiv_f86c9 1 = .ok (.lload_n 2, 1) := by decide +kernel
theorem dJ9_floorDiv_f86c9_2 : decode cJ9_floorDiv_f86c9 2 = .ok (.ldiv, 1) := by decide +kernel
theorem dJ9_floorDiv_f86c9_3 : decode cJ9_floorDiv_f86c9 3 = .ok (.lstore 4, 2) := by decide +kernel
theorem dJ9_floorDiv_f86c9_5 : decode cJ9_floorDiv_f86c9 5 = .ok (.lload_n 0, 1) := by decide +kernel
theorem dJ9_floorDiv_f86c9_6 : decode cJ9_floorDiv_f86c9 6 = .ok (.lload_n 2, 1) := by decide +kernel
theorem dJ9_floorDiv_f86c9_7 : decode cJ9_floorDiv_f86c9 7 = .ok (.lxor, 1) := by decide +kernel
theorem dJ9_floorDiv_f86c9_8 : decode cJ9_floorDiv_f86c9 8 = .ok (.lconst 0, 1) := by decide +kernel
theorem dJ9_floorDiv_f86c9_9 : decode cJ9_floorDiv_f86c9 9 = .ok (.lcmp, 1) := by decide +kernel
theorem dJ9_floorDiv_f86c9_10 : decode cJ9_floorDiv_f86c9 10 = .ok (.ifCond .ge 17, 3) := by decide +kernel
theorem dJ9_floorDiv_f86c9_13 : decode cJ9_floorDiv_f86c9 13 = .ok (.lload 4, 2) := by decide +kernel
theorem dJ9_floorDiv_f86c9_15 : decode cJ9_floorDiv_f86c9 15 = .ok (.lload_n 2, 1) := by decide +kernel
theorem dJ9_floorDiv_f86c9_16 : decode cJ9_floorDiv_f86c9 16 = .ok (.lmul, 1) := by decide +kernel
theorem dJ9_floorDiv_f86c9_17 : decode cJ9_floorDiv_f86c9 17 = .ok (.lload_n 0, 1) := by decide +kernel
theorem dJ9_floorDiv_f86c9_18 : decode cJ9_floorDiv_f86c9 18 = .ok (.lcmp, 1) := by decide +kernel
theorem dJ9_floorDiv_f86c9_19 : decode cJ9_floorDiv_f86c9 19 = .ok (.ifCond .eq 8, 3) := by decide +kernel
theorem dJ9_floorDiv_f86c9_22 : decode cJ9_floorDiv_f86c9 22 = .ok (.lload 4, 2) := by decide +kernel
theorem dJ9_floorDiv_f86c9_24 : decode cJ9_floorDiv_f86c9 24 = .ok (.lconst 1, 1) := by decide +kernel
theorem dJ9_floorDiv_f86c9_25 : decode cJ9_floorDiv_f86c9 25 = .ok (.lsub, 1) := by decide +kernel
theorem dJ9_floorDiv_f86c9_26 : decode cJ9_floorDiv_f86c9 26 = .ok (.lreturn, 1) := by decide +kernel
theorem dJ9_floorDiv_f86c9_27 : decode cJ9_floorDiv_f86c9 27 = .ok (.lload 4, 2) := by decide +kernel
theorem dJ9_floorDiv_f86c9_29 : decode cJ9_floorDiv_f86c9 29 = .ok (.lreturn, 1) := by decide +kernel
theorem dJ9_floorMod_f86c9_0 : decode cJ9_floorMod_f86c9 0 = .ok (.lload_n 0, 1) := by decide +kernel
theorem dJ9_floorMod_f86c9_1 : decode cJ9_floorMod_f86c9 1 = .ok (.lload_n 2, 1) := by decide +kernel
theorem dJ9_floorMod_f86c9_2 : decode cJ9_floorMod_f86c9 2 = .ok (.lrem, 1) := by decide +kernel
theorem dJ9_floorMod_f86c9_3 : decode cJ9_floorMod_f86c9 3 = .ok (.lstore 4, 2) := by decide +kernel
theorem dJ9_floorMod_f86c9_5 : decode cJ9_floorMod_f86c9 5 = .ok (.lload_n 0, 1) := by decide +kernel
theorem dJ9_floorMod_f86c9_6 : decode cJ9_floorMod_f86c9 6 = .ok (.lload_n 2, 1) := by decide +kernel
theorem dJ9_floorMod_f86c9_7 : decode cJ9_floorMod_f86c9 7 = .ok (.lxor, 1) := by decide +kernel
theorem dJ9_floorMod_f86c9_8 : decode cJ9_floorMod_f86c9 8 = .ok (.lconst 0, 1) := by decide +kernel
theorem dJ9_floorMod_f86c9_9 : decode cJ9_floorMod_f86c9 9 = .ok (.lcmp, 1) := by decide +kernel
theorem dJ9_floorMod_f86c9_10 : decode cJ9_floorMod_f86c9 10 = .ok (.ifCond .ge 15, 3) := by decide +kernel
theorem dJ9_floorMod_f86c9_13 : decode cJ9_floorMod_f86c9 13 = .ok (.lload 4, 2) := by decide +kernel
theorem dJ9_floorMod_f86c9_15 : decode cJ9_floorMod_f86c9 15 = .ok (.lconst 0, 1) := by decide +kernel
theorem dJ9_floorMod_f86c9_16 : decode cJ9_floorMod_f86c9 16 = .ok (.lcmp, 1) := by decide +kernel
theorem dJ9_floorMod_f86c9_17 : decode cJ9_floorMod_f86c9 17 = .ok (.ifCond .eq 8, 3) := by decide +kernel
theorem dJ9_floorMod_f86c9_20 : decode cJ9_floorMod_f86c9 20 = .ok (.lload 4, 2) := by decide +kernel
theorem dJ9_floorMod_f86c9_22 : decode cJ9_floorMod_f86c9 22 = .ok (.lload_n 2, 1) := by decide +kernel
theorem dJ9_floorMod_f86c9_23 : decode cJ9_floorMod_f86c9 23 = .ok (.ladd, 1) := by decide +kernel
theorem dJ9_floorMod_f86c9_24 : decode cJ9_floorMod_f86c9 24 = .ok (.lreturn, 1) := by decide +kernel
theorem dJ9_floorMod_f86c9_25 : decode cJ9_floorMod_f86c9 25 = .ok (.lload 4, 2) := by decide +kernel
theorem dJ9_floorMod_f86c9_27 : decode cJ9_floorMod_f86c9 27 = .ok (.lreturn, 1) := by decide +kernel
theorem dJ9_abs_0f7a4_0 : decode cJ9_abs_0f7a4 0 = .ok (.iload_n 0, 1) := by decide +kernel
theorem dJ9_abs_0f7a4_1 : decode cJ9_abs_0f7a4 1 = .ok (.ifCond .ge 8, 3) := by decide +kernel
theorem dJ9_abs_0f7a4_4 : decode cJ9_abs_0f7a4 4 = .ok (.iload_n 0, 1) := by decide +kernel
theorem dJ9_abs_0f7a4_5 : decode cJ9_abs_0f7a4 5 = .ok (.ineg, 1) := by decide +kernel
theorem dJ9_abs_0f7a4_6 : decode cJ9_abs_0f7a4 6 = .ok (.goto 4, 3) := by decide +kernel
theorem dJ9_abs_0f7a4_9 : decode cJ9_abs_0f7a4 9 = .ok (.iload_n 0, 1) := by decide +kernel
theorem dJ9_abs_0f7a4_10 : decode cJ9_abs_0f7a4 10 = .ok (.ireturn, 1) := by decide +kernel
theorem dJ9_max_7cf53_0 : decode cJ9_max_7cf53 0 = .ok (.iload_n 0, 1) := by decide +kernel
theorem dJ9_max_7cf53_1 : decode cJ9_max_7cf53 1 = .ok (.iload_n 1, 1) := by decide +kernel
theorem dJ9_max_7cf53_2 : decode cJ9_max_7cf53 2 = .ok (.if_icmp .lt 7, 3) := by decide +kernel
theorem dJ9_max_7cf53_5 : decode cJ9_max_7cf53 5 = .ok (.iload_n 0, 1) := by decide +kernel
theorem dJ9_max_7cf53_6 : decode cJ9_max_7cf53 6 = .ok (.goto 4, 3) := by decide +kernel
theorem dJ9_max_7cf53_9 : decode cJ9_max_7cf53 9 = .ok (.iload_n 1, 1) := by decide +kernel
theorem dJ9_max_7cf53_10 : decode cJ9_max_7cf53 10 = .ok (.ireturn, 1) := by decide +kernel
theorem dJ9_min_7cf53_0 : decode cJ9_min_7cf53 0 = .ok (.iload_n 0, 1) := by decide +kernel
theorem dJ9_min_7cf53_1 : decode cJ9_min_7cf53 1 = .ok (.iload_n 1, 1) := by decide +kernel
theorem dJ9_min_7cf53_2 : decode cJ9_min_7cf53 2 = .ok (.if_icmp .gt 7, 3) := by decide +kernel
theorem dJ9_min_7cf53_5 : decode cJ9_min_7cf53 5 = .ok (.iload_n 0, 1) := by decide +kernel
theorem dJ9_min_7cf53_6 : decode cJ9_min_7cf53 6 = .ok (.goto 4, 3) := by decide +kernel
theorem dJ9_min_7cf53_9 : decode cJ9_min_7cf53 9 = .ok (.iload_n 1, 1) := by decide +kernel
theorem dJ9_min_7cf53_10 : decode cJ9_min_7cf53 10 = .ok (.ireturn, 1) := by decide +kernel
set_option maxRecDepth 20000 in
theorem gwJ0_coder_7d493 : wsJ0_coder_7d493.all goodWord = true := by decide +kernel
set_option maxRecDepth 20000 in
theorem ggJ0_length_8abf5_J0_coder_7d493 : GoodIn wsJ0_length_8abf5 wsJ0_coder_7d493 := goodIn_sub (List.forall_mem_cons.mpr ⟨(List.mem_of_getElem? (i := 6) rfl), List.forall_mem_cons.mpr ⟨(List.mem_of_getElem? (i := 7) rfl), List.forall_mem_cons.mpr ⟨(List.mem_of_getElem? (i := 8) rfl), fun _ h => (List.not_mem_nil h).elim⟩⟩⟩) gwJ0_coder_7d493
set_option maxRecDepth 20000 in
theorem gJ0_length_8abf5_J0_coder_7d493 : GoodIn wsJ0_length_8abf5 (wsV RJ0 335 RJ0 yJ0_coder_7d493 wsJ0_coder_7d493) := goodIn_app (goodIn_sub (List.forall_mem_cons.mpr ⟨(List.mem_of_getElem? (i := 2) rfl), List.forall_mem_cons.mpr ⟨(List.mem_of_getElem? (i := 3) rfl), List.forall_mem_cons.mpr ⟨(List.mem_of_getElem? (i := 4) rfl), List.forall_mem_cons.mpr ⟨(List.mem_of_getElem? (i := 5) rfl), fun _ h => (List.not_mem_nil h).elim⟩⟩⟩⟩) (by decide +kernel)) ggJ0_length_8abf5_J0_coder_7d493
theorem dJ0_length_8abf5_0 : decode cJ0_length_8abf5 0 = .ok (.aload_n 0, 1) := by decide +kernel
theorem dJ0_length_8abf5_1 : decode cJ0_length_8abf5 1 = .ok (.getfield 9, 3) := by decide +kernel
theorem dJ0_length_8abf5_4 : decode cJ0_length_8abf5 4 = .ok (.arraylength, 1) := by decide +kernel
theorem dJ0_length_8abf5_5 : decode cJ0_length_8abf5 5 = .ok (.aload_n 0, 1) := by decide +kernel
theorem dJ0_length_8abf5_6 : decode cJ0_length_8abf5 6 = .ok (.invokevirtual 335, 3) := by decide +kernel
theorem dJ0_length_8abf5_9 : decode cJ0_length_8abf5 9 = .ok (.ishr, 1) := by decide +kernel
theorem dJ0_length_8abf5_10 : decode cJ0_length_8abf5 10 = .ok (.ireturn, 1) := by decide +kernel
theorem gcJ0_charAt_5068e__J0_charAt_5068e_r1 : ∀ w ∈ wsJ0_charAt_5068e_r1, w ∈ wsJ0_charAt_5068e := fun w h => List.mem_cons_of_mem _ (List.mem_append_left _ (h))
set_option maxRecDepth 20000 in
theorem gwJ0_isLatin1_aae02 : wsJ0_isLatin1_aae02.all goodWord = true := by decide +kernel
set_option maxRecDepth 20000 in
theorem ggJ0_charAt_5068e_J0_isLatin1_aae02 : GoodIn wsJ0_charAt_5068e wsJ0_isLatin1_aae02 := goodIn_sub (List.forall_mem_cons.mpr ⟨(gcJ0_charAt_5068e__J0_charAt_5068e_r1 _ (List.mem_of_getElem? (i := 5) rfl)), List.forall_mem_cons.mpr ⟨(gcJ0_charAt_5068e__J0_charAt_5068e_r1 _ (List.mem_of_getElem? (i := 6) rfl)), List.forall_mem_cons.mpr ⟨(gcJ0_charAt_5068e__J0_charAt_5068e_r1 _ (List.mem_of_getElem? (i := 7) rfl)), fun _ h => (List.not_mem_nil h).elim⟩⟩⟩) gwJ0_isLatin1_aae02
set_option maxRecDepth 20000 in
theorem gJ0_charAt_5068e_J0_isLatin1_aae02 : GoodIn wsJ0_charAt_5068e (wsV RJ0 492 RJ0 yJ0_isLatin1_aae02 wsJ0_isLatin1_aae02) := goodIn_app (goodIn_sub (List.forall_mem_cons.mpr ⟨(gcJ0_charAt_5068e__J0_charAt_5068e_r1 _ (List.mem_of_getElem? (i := 1) rfl)), List.forall_mem_cons.mpr ⟨(gcJ0_charAt_5068e__J0_charAt_5068e_r1 _ (List.mem_of_getElem? (i := 2) rfl)), List.forall_mem_cons.mpr ⟨(gcJ0_charAt_5068e__J0_charAt_5068e_r1 _ (List.mem_of_getElem? (i := 3) rfl)), List.forall_mem_cons.mpr ⟨(gcJ0_charAt_5068e__J0_charAt_5068e_r1 _ (List.mem_of_getElem? (i := 4) rfl)), fun _ h => (List.not_mem_nil h).elim⟩⟩⟩⟩) (by decide +kernel)) ggJ0_charAt_5068e_J0_isLatin1_aae02
set_option maxRecDepth 20000 in
theorem gwJ1_charAt_3b067 : wsJ1_charAt_3b067.all goodWord = true := by decide +kernel
set_option maxRecDepth 20000 in
theorem ggJ0_charAt_5068e_J1_charAt_3b067 : GoodIn wsJ0_charAt_5068e wsJ1_charAt_3b067 := goodIn_sub (List.forall_mem_cons.mpr ⟨(gcJ0_charAt_5068e__J0_charAt_5068e_r1 _ (List.mem_of_getElem? (i := 11) rfl)), List.forall_mem_cons.mpr ⟨(gcJ0_charAt_5068e__J0_charAt_5068e_r1 _ (List.mem_of_getElem? (i := 12) rfl)), List.forall_mem_cons.mpr ⟨(gcJ0_charAt_5068e__J0_charAt_5068e_r1 _ (List.mem_of_getElem? (i := 13) rfl)), List.forall_mem_cons.mpr ⟨(gcJ0_charAt_5068e__J0_charAt_5068e_r1 _ (List.mem_of_getElem? (i := 4) rfl)), List.forall_mem_cons.mpr ⟨(gcJ0_charAt_5068e__J0_charAt_5068e_r1 _ (List.mem_of_getElem? (i := 14) rfl)), List.forall_mem_cons.mpr ⟨(gcJ0_charAt_5068e__J0_charAt_5068e_r1 _ (List.mem_of_getElem? (i := 15) rfl)), List.forall_mem_cons.mpr ⟨(gcJ0_charAt_5068e__J0_charAt_5068e_r1 _ (List.mem_of_getElem? (i := 16) rfl)), List.forall_mem_cons.mpr ⟨(gcJ0_charAt_5068e__J0_charAt_5068e_r1 _ (List.mem_of_getElem? (i := 17) rfl)), List.forall_mem_cons.mpr ⟨(gcJ0_charAt_5068e__J0_charAt_5068e_r1 _ (List.mem_of_getElem? (i := 18) rfl)), List.forall_mem_cons.mpr ⟨(gcJ0_charAt_5068e__J0_charAt_5068e_r1 _ (List.mem_of_getElem? (i := 19) rfl)), fun _ h => (List.not_mem_nil h).elim⟩⟩⟩⟩⟩⟩⟩⟩⟩⟩) gwJ1_charAt_3b067
set_option maxRecDepth 20000 in
theorem gJ0_charAt_5068e_J1_charAt_3b067 : GoodIn wsJ0_charAt_5068e (va_wsS RJ0 495 yJ1_charAt_3b067 wsJ1_charAt_3b067) := goodIn_app (goodIn_sub (List.forall_mem_cons.mpr ⟨(gcJ0_charAt_5068e__J0_charAt_5068e_r1 _ (List.mem_of_getElem? (i := 8) rfl)), List.forall_mem_cons.mpr ⟨(gcJ0_charAt_5068e__J0_charAt_5068e_r1 _ (List.mem_of_getElem? (i := 9) rfl)), List.forall_mem_cons.mpr ⟨(gcJ0_charAt_5068e__J0_charAt_5068e_r1 _ (List.mem_of_getElem? (i := 10) rfl)), fun _ h => (List.not_mem_nil h).elim⟩⟩⟩) (by decide +kernel)) ggJ0_charAt_5068e_J1_charAt_3b067
theorem gcJ0_charAt_5068e__J0_charAt_5068e_r2 : ∀ w ∈ wsJ0_charAt_5068e_r2, w ∈ wsJ0_charAt_5068e := fun w h => List.mem_cons_of_mem _ (List.mem_append_right _ (h))
set_option maxRecDepth 20000 in
theorem gwJ2_charAt_3b067 : wsJ2_charAt_3b067.all goodWord = true := by decide +kernel
set_option maxRecDepth 20000 in
theorem ggJ0_charAt_5068e_J2_charAt_3b067 : GoodIn wsJ0_charAt_5068e wsJ2_charAt_3b067 := goodIn_sub (List.forall_mem_cons.mpr ⟨(gcJ0_charAt_5068e__J0_charAt_5068e_r1 _ (List.mem_of_getElem? (i := 23) rfl)), List.forall_mem_cons.mpr ⟨(gcJ0_charAt_5068e__J0_charAt_5068e_r2 _ (List.mem_of_getElem? (i := 0) rfl)), List.forall_mem_cons.mpr ⟨(gcJ0_charAt_5068e__J0_charAt_5068e_r2 _ (List.mem_of_getElem? (i := 1) rfl)), List.forall_mem_cons.mpr ⟨(gcJ0_charAt_5068e__J0_charAt_5068e_r1 _ (List.mem_of_getElem? (i := 22) rfl)), List.forall_mem_cons.mpr ⟨(gcJ0_charAt_5068e__J0_charAt_5068e_r2 _ (List.mem_of_getElem? (i := 2) rfl)), List.forall_mem_cons.mpr ⟨(gcJ0_charAt_5068e__J0_charAt_5068e_r2 _ (List.mem_of_getElem? (i := 3) rfl)), List.forall_mem_cons.mpr ⟨(gcJ0_charAt_5068e__J0_charAt_5068e_r2 _ (List.mem_of_getElem? (i := 4) rfl)), List.forall_mem_cons.mpr ⟨(gcJ0_charAt_5068e__J0_charAt_5068e_r2 _ (List.mem_of_getElem? (i := 5) rfl)), List.forall_mem_cons.mpr ⟨(gcJ0_charAt_5068e__J0_charAt_5068e_r2 _ (List.mem_of_getElem? (i := 6) rfl)), List.forall_mem_cons.mpr ⟨(gcJ0_charAt_5068e__J0_charAt_5068e_r1 _ (List.mem_of_getElem? (i := 13) rfl)), List.forall_mem_cons.mpr ⟨(gcJ0_charAt_5068e__J0_charAt_5068e_r1 _ (List.mem_of_getElem? (i := 4) rfl)), List.forall_mem_cons.mpr ⟨(gcJ0_charAt_5068e__J0_charAt_5068e_r1 _ (List.mem_of_getElem? (i := 14) rfl)), List.forall_mem_cons.mpr ⟨(gcJ0_charAt_5068e__J0_charAt_5068e_r1 _ (List.mem_of_getElem? (i := 15) rfl)), List.forall_mem_cons.mpr ⟨(gcJ0_charAt_5068e__J0_charAt_5068e_r1 _ (List.mem_of_getElem? (i := 16) rfl)), List.forall_mem_cons.mpr ⟨(gcJ0_charAt_5068e__J0_charAt_5068e_r1 _ (List.mem_of_getElem? (i := 17) rfl)), List.forall_mem_cons.mpr ⟨(gcJ0_charAt_5068e__J0_charAt_5068e_r1 _ (List.mem_of_getElem? (i := 18) rfl)), List.forall_mem_cons.mpr ⟨(gcJ0_charAt_5068e__J0_charAt_5068e_r1 _ (List.mem_of_getElem? (i := 19) rfl)), List.forall_mem_cons.mpr ⟨(gcJ0_charAt_5068e__J0_charAt_5068e_r2 _ (List.mem_of_getElem? (i := 7) rfl)), List.forall_mem_cons.mpr ⟨(gcJ0_charAt_5068e__J0_charAt_5068e_r2 _ (List.mem_of_getElem? (i := 8) rfl)), List.forall_mem_cons.mpr ⟨(gcJ0_charAt_5068e__J0_charAt_5068e_r2 _ (List.mem_of_getElem? (i := 9) rfl)), List.forall_mem_cons.mpr ⟨(gcJ0_charAt_5068e__J0_charAt_5068e_r2 _ (List.mem_of_getElem? (i := 10) rfl)), List.forall_mem_cons.mpr ⟨(gcJ0_charAt_5068e__J0_charAt_5068e_r2 _ (List.mem_of_getElem? (i := 11) rfl)), List.forall_mem_cons.mpr ⟨(gcJ0_charAt_5068e__J0_charAt_5068e_r2 _ (List.mem_of_getElem? (i := 12) rfl)), fun _ h => (List.not_mem_nil h).elim⟩⟩⟩⟩⟩⟩⟩⟩⟩⟩⟩⟩⟩⟩⟩⟩⟩⟩⟩⟩⟩⟩⟩) gwJ2_charAt_3b067
set_option maxRecDepth 20000 in
theorem gJ0_charAt_5068e_J2_charAt_3b067 : GoodIn wsJ0_charAt_5068e (va_wsS RJ0 498 yJ2_charAt_3b067 wsJ2_charAt_3b067) := goodIn_app (goodIn_sub (List.forall_mem_cons.mpr ⟨(gcJ0_charAt_5068e__J0_charAt_5068e_r1 _ (List.mem_of_getElem? (i := 20) rfl)), List.forall_mem_cons.mpr ⟨(gcJ0_charAt_5068e__J0_charAt_5068e_r1 _ (List.mem_of_getElem? (i := 21) rfl)), List.forall_mem_cons.mpr ⟨(gcJ0_charAt_5068e__J0_charAt_5068e_r1 _ (List.mem_of_getElem? (i := 22) rfl)), fun _ h => (List.not_mem_nil h).elim⟩⟩⟩) (by decide +kernel)) ggJ0_charAt_5068e_J2_charAt_3b067
theorem dJ0_charAt_5068e_0 : decode cJ0_charAt_5068e 0 = .ok (.aload_n 0, 1) := by decide +kernel
theorem dJ0_charAt_5068e_1 : decode cJ0_charAt_5068e 1 = .ok (.invokevirtual 492, 3) := by decide +kernel
theorem dJ0_charAt_5068e_4 : decode cJ0_charAt_5068e 4 = .ok (.ifCond .eq 12, 3) := by decide +kernel
theorem dJ0_charAt_5068e_7 : decode cJ0_charAt_5068e 7 = .ok (.aload_n 0, 1) := by decide +kernel
theorem dJ0_charAt_5068e_8 : decode cJ0_charAt_5068e 8 = .ok (.getfield 9, 3) := by decide +kernel
theorem dJ0_charAt_5068e_11 : decode cJ0_charAt_5068e 11 = .ok (.iload_n 1, 1) := by decide +kernel
theorem dJ0_charAt_5068e_12 : decode cJ0_charAt_5068e 12 = .ok (.invokestatic 495, 3) := by decide +kernel
theorem dJ0_charAt_5068e_15 : decode cJ0_charAt_5068e 15 = .ok (.ireturn, 1) := by decide +kernel
theorem dJ0_charAt_5068e_16 : decode cJ0_charAt_5068e 16 = .ok (.aload_n 0, 1) := by decide +kernel
theorem dJ0_charAt_5068e_17 : decode cJ0_charAt_5068e 17 = .ok (.getfield 9, 3) := by decide +kernel
theorem dJ0_charAt_5068e_20 : decode cJ0_charAt_5068e 20 = .ok (.iload_n 1, 1) := by decide +kernel
theorem dJ0_charAt_5068e_21 : decode cJ0_charAt_5068e 21 = .ok (.invokestatic 498, 3) := by decide +kernel
theorem dJ0_charAt_5068e_24 : decode cJ0_charAt_5068e 24 = .ok (.ireturn, 1) := by decide +kernel
theorem dJ0_coder_7d493_0 : decode cJ0_coder_7d493 0 = .ok (.getstatic 38, 3) := by decide +kernel
theorem dJ0_coder_7d493_3 : decode cJ0_coder_7d493 3 = .ok (.ifCond .eq 10, 3) := by decide +kernel
theorem dJ0_coder_7d493_6 : decode cJ0_coder_7d493 6 = .ok (.aload_n 0, 1) := by decide +kernel
theorem dJ0_coder_7d493_7 : decode cJ0_coder_7d493 7 = .ok (.getfield 15, 3) := by decide +kernel
theorem dJ0_coder_7d493_10 : decode cJ0_coder_7d493 10 = .ok (.goto 4, 3) := by decide +kernel
theorem dJ0_coder_7d493_13 : decode cJ0_coder_7d493 13 = .ok (.iconst 1, 1) := by decide +kernel
theorem dJ0_coder_7d493_14 : decode cJ0_coder_7d493 14 = .ok (.ireturn, 1) := by decide +kernel
theorem dJ0_isLatin1_aae02_0 : decode cJ0_isLatin1_aae02 0 = .ok (.getstatic 38, 3) := by decide +kernel
theorem dJ0_isLatin1_aae02_3 : decode cJ0_isLatin1_aae02 3 = .ok (.ifCond .eq 14, 3) := by decide +kernel
theorem dJ0_isLatin1_aae02_6 : decode cJ0_isLatin1_aae02 6 = .ok (.aload_n 0, 1) := by decide +kernel
theorem dJ0_isLatin1_aae02_7 : decode cJ0_isLatin1_aae02 7 = .ok (.getfield 15, 3) := by decide +kernel
theorem dJ0_isLatin1_aae02_10 : decode cJ0_isLatin1_aae02 10 = .ok (.ifCond .ne 7, 3) := by decide +kernel
theorem dJ0_isLatin1_aae02_13 : decode cJ0_isLatin1_aae02 13 = .ok (.iconst 1, 1) := by decide +kernel
theorem dJ0_isLatin1_aae02_14 : decode cJ0_isLatin1_aae02 14 = .ok (.goto 4, 3) := by decide +kernel
theorem dJ0_isLatin1_aae02_17 : decode cJ0_isLatin1_aae02 17 = .ok (.iconst 0, 1) := by decide +kernel
theorem dJ0_isLatin1_aae02_18 : decode cJ0_isLatin1_aae02 18 = .ok (.ireturn, 1) := by decide +kernel
set_option maxRecDepth 20000 in
theorem gwJ3_checkIndex_8e157 : wsJ3_checkIndex_8e157.all goodWord = true := by decide +kernel
set_option maxRecDepth 20000 in
theorem ggJ0_checkIndex_df160_J3_checkIndex_8e157 : GoodIn wsJ0_checkIndex_df160 wsJ3_checkIndex_8e157 := goodIn_sub (List.forall_mem_cons.mpr ⟨(List.mem_of_getElem? (i := 5) rfl), fun _ h => (List.not_mem_nil h).elim⟩) gwJ3_checkIndex_8e157
set_option maxRecDepth 20000 in
theorem gJ0_checkIndex_df160_J3_checkIndex_8e157 : GoodIn wsJ0_checkIndex_df160 (va_wsS RJ0 1059 yJ3_checkIndex_8e157 wsJ3_checkIndex_8e157) := goodIn_app (goodIn_sub (List.forall_mem_cons.mpr ⟨(List.mem_of_getElem? (i := 2) rfl), List.forall_mem_cons.mpr ⟨(List.mem_of_getElem? (i := 3) rfl), List.forall_mem_cons.mpr ⟨(List.mem_of_getElem? (i := 4) rfl), fun _ h => (List.not_mem_nil h).elim⟩⟩⟩) (by decide +kernel)) ggJ0_checkIndex_df160_J3_checkIndex_8e157
theorem dJ0_checkIndex_df160_0 : decode cJ0_checkIndex_df160 0 = .ok (.iload_n 0, 1) := by decide +kernel
theorem dJ0_checkIndex_df160_1 : decode cJ0_checkIndex_df160 1 = .ok (.iload_n 1, 1) := by decide +kernel
theorem dJ0_checkIndex_df160_2 : decode cJ0_checkIndex_df160 2 = .ok (.getstatic 1053, 3) := by decide +kernel
theorem dJ0_checkIndex_df160_5 : decode cJ0_checkIndex_df160 5 = .ok (.invokestatic 1059, 3) := by decide +kernel
theorem dJ0_checkIndex_df160_8 : decode cJ0_checkIndex_df160 8 = .ok (.pop, 1) := by decide +kernel
theorem dJ0_checkIndex_df160_9 : decode cJ0_checkIndex_df160 9 = .ok (.return_, 1) := by decide +kernel
set_option maxRecDepth 20000 in
theorem gwJ0_checkIndex_df160 : wsJ0_checkIndex_df160.all goodWord = true := by decide +kernel
set_option maxRecDepth 20000 in
theorem ggJ1_charAt_3b067_J0_checkIndex_df160 : GoodIn wsJ1_charAt_3b067 wsJ0_checkIndex_df160 := goodIn_sub (List.forall_mem_cons.mpr ⟨(List.mem_of_getElem? (i := 4) rfl), List.forall_mem_cons.mpr ⟨(List.mem_of_getElem? (i := 5) rfl), List.forall_mem_cons.mpr ⟨(List.mem_of_getElem? (i := 6) rfl), List.forall_mem_cons.mpr ⟨(List.mem_of_getElem? (i := 7) rfl), List.forall_mem_cons.mpr ⟨(List.mem_of_getElem? (i := 8) rfl), List.forall_mem_cons.mpr ⟨(List.mem_of_getElem? (i := 9) rfl), fun _ h => (List.not_mem_nil h).elim⟩⟩⟩⟩⟩⟩) gwJ0_checkIndex_df160
set_option maxRecDepth 20000 in
theorem gJ1_charAt_3b067_J0_checkIndex_df160 : GoodIn wsJ1_charAt_3b067 (va_wsS RJ1 9 yJ0_checkIndex_df160 wsJ0_checkIndex_df160) := goodIn_app (goodIn_sub (List.forall_mem_cons.mpr ⟨(List.mem_of_getElem? (i := 1) rfl), List.forall_mem_cons.mpr ⟨(List.mem_of_getElem? (i := 2) rfl), List.forall_mem_cons.mpr ⟨(List.mem_of_getElem? (i := 3) rfl), fun _ h => (List.not_mem_nil h).elim⟩⟩⟩) (by decide +kernel)) ggJ1_charAt_3b067_J0_checkIndex_df160
theorem dJ1_charAt_3b067_0 : decode cJ1_charAt_3b067 0 = .ok (.iload_n 1, 1) := by decide +kernel
theorem dJ1_charAt_3b067_1 : decode cJ1_charAt_3b067 1 = .ok (.aload_n 0, 1) := by decide +kernel
theorem dJ1_charAt_3b067_2 : decode cJ1_charAt_3b067 2 = .ok (.arraylength, 1) := by decide +kernel
theorem dJ1_charAt_3b067_3 : decode cJ1_charAt_3b067 3 = .ok (.invokestatic 9, 3) := by decide +kernel
theorem dJ1_charAt_3b067_6 : decode cJ1_charAt_3b067 6 = .ok (.aload_n 0, 1) := by decide +kernel
theorem dJ1_charAt_3b067_7 : decode cJ1_charAt_3b067 7 = .ok (.iload_n 1, 1) := by decide +kernel
theorem dJ1_charAt_3b067_8 : decode cJ1_charAt_3b067 8 = .ok (.baload, 1) := by decide +kernel
theorem dJ1_charAt_3b067_9 : decode cJ1_charAt_3b067 9 = .ok (.sipush 255, 3) := by decide +kernel
theorem dJ1_charAt_3b067_12 : decode cJ1_charAt_3b067 12 = .ok (.iand, 1) := by decide +kernel
theorem dJ1_charAt_3b067_13 : decode cJ1_charAt_3b067 13 = .ok (.i2c, 1) := by decide +kernel
theorem dJ1_charAt_3b067_14 : decode cJ1_charAt_3b067 14 = .ok (.ireturn, 1) := by decide +kernel
set_option maxRecDepth 20000 in
theorem gwJ2_length_9d52b : wsJ2_length_9d52b.all goodWord = true := by decide +kernel
set_option maxRecDepth 20000 in
theorem ggJ2_getChar_3b067_J2_length_9d52b : GoodIn wsJ2_getChar_3b067 wsJ2_length_9d52b := goodIn_sub (List.forall_mem_cons.mpr ⟨(List.mem_of_getElem? (i := 7) rfl), fun _ h => (List.not_mem_nil h).elim⟩) gwJ2_length_9d52b
set_option maxRecDepth 20000 in
theorem gJ2_getChar_3b067_J2_length_9d52b : GoodIn wsJ2_getChar_3b067 (va_wsS RJ2 48 yJ2_length_9d52b wsJ2_length_9d52b) := goodIn_app (goodIn_sub (List.forall_mem_cons.mpr ⟨(List.mem_of_getElem? (i := 4) rfl), List.forall_mem_cons.mpr ⟨(List.mem_of_getElem? (i := 5) rfl), List.forall_mem_cons.mpr ⟨(List.mem_of_getElem? (i := 6) rfl), fun _ h => (List.not_mem_nil h).elim⟩⟩⟩) (by decide +kernel)) ggJ2_getChar_3b067_J2_length_9d52b
theorem dJ2_getChar_3b067_0 : decode cJ2_getChar_3b067 0 = .ok (.getstatic 44, 3) := by decide +kernel
theorem dJ2_getChar_3b067_3 : decode cJ2_getChar_3b067 3 = .ok (.ifCond .ne 25, 3) := by decide +kernel
theorem dJ2_getChar_3b067_6 : decode cJ2_getChar_3b067 6 = .ok (.iload_n 1, 1) := by decide +kernel
theorem dJ2_getChar_3b067_7 : decode cJ2_getChar_3b067 7 = .ok (.ifCond .lt 11, 3) := by decide +kernel
theorem dJ2_getChar_3b067_10 : decode cJ2_getChar_3b067 10 = .ok (.iload_n 1, 1) := by decide +kernel
theorem dJ2_getChar_3b067_11 : decode cJ2_getChar_3b067 11 = .ok (.aload_n 0, 1) := by decide +kernel
theorem dJ2_getChar_3b067_12 : decode cJ2_getChar_3b067 12 = .ok (.invokestatic 48, 3) := by decide +kernel
theorem dJ2_getChar_3b067_15 : decode cJ2_getChar_3b067 15 = .ok (.if_icmp .lt 13, 3) := by decide +kernel
theorem dJ2_getChar_3b067_18 : decode cJ2_getChar_3b067 18 = .ok (.new 52, 3) := by decide +kernel
theorem dJ2_getChar_3b067_21 : decode cJ2_getChar_3b067 21 = .ok (.dup, 1) := by decide +kernel
theorem dJ2_getChar_3b067_22 : decode cJ2_getChar_3b067 22 = .ok (.ldc 54, 2) := by decide +kernel
theorem dJ2_getChar_3b067_24 : decode cJ2_getChar_3b067 24 = .ok (.invokespecial 56, 3) := by decide +kernel
theorem dJ2_getChar_3b067_27 : decode cJ2_getChar_3b067 27 = .ok (.athrow, 1) := by decide +kernel
theorem dJ2_getChar_3b067_28 : decode cJ2_getChar_3b067 28 = .ok (.iload_n 1, 1) := by decide +kernel
theorem dJ2_getChar_3b067_29 : decode cJ2_getChar_3b067 29 = .ok (.iconst 1, 1) := by decide +kernel
theorem dJ2_getChar_3b067_30 : decode cJ2_getChar_3b067 30 = .ok (.ishl, 1) := by decide +kernel
theorem dJ2_getChar_3b067_31 : decode cJ2_getChar_3b067 31 = .ok (.istore_n 1, 1) := by decide +kernel
theorem dJ2_getChar_3b067_32 : decode cJ2_getChar_3b067 32 = .ok (.aload_n 0, 1) := by decide +kernel
theorem dJ2_getChar_3b067_33 : decode cJ2_getChar_3b067 33 = .ok (.iload_n 1, 1) := by decide +kernel
theorem dJ2_getChar_3b067_34 : decode cJ2_getChar_3b067 34 = .ok (.iinc 1 1, 3) := by decide +kernel
theorem dJ2_getChar_3b067_37 : decode cJ2_getChar_3b067 37 = .ok (.baload, 1) := by decide +kernel
theorem dJ2_getChar_3b067_38 : decode cJ2_getChar_3b067 38 = .ok (.sipush 255, 3) := by decide +kernel
theorem dJ2_getChar_3b067_41 : decode cJ2_getChar_3b067 41 = .ok (.iand, 1) := by decide +kernel
theorem dJ2_getChar_3b067_42 : decode cJ2_getChar_3b067 42 = .ok (.getstatic 59, 3) := by decide +kernel
theorem dJ2_getChar_3b067_45 : decode cJ2_getChar_3b067 45 = .ok (.ishl, 1) := by decide +kernel
theorem dJ2_getChar_3b067_46 : decode cJ2_getChar_3b067 46 = .ok (.aload_n 0, 1) := by decide +kernel
theorem dJ2_getChar_3b067_47 : decode cJ2_getChar_3b067 47 = .ok (.iload_n 1, 1) := by decide +kernel
theorem dJ2_getChar_3b067_48 : decode cJ2_getChar_3b067 48 = .ok (.baload, 1) := by decide +kernel
theorem dJ2_getChar_3b067_49 : decode cJ2_getChar_3b067 49 = .ok (.sipush 255, 3) := by decide +kernel
theorem dJ2_getChar_3b067_52 : decode cJ2_getChar_3b067 52 = .ok (.iand, 1) := by decide +kernel
theorem dJ2_getChar_3b067_53 : decode cJ2_getChar_3b067 53 = .ok (.getstatic 63, 3) := by decide +kernel
theorem dJ2_getChar_3b067_56 : decode cJ2_getChar_3b067 56 = .ok (.ishl, 1) := by decide +kernel
theorem dJ2_getChar_3b067_57 : decode cJ2_getChar_3b067 57 = .ok (.ior, 1) := by decide +kernel
theorem dJ2_getChar_3b067_58 : decode cJ2_getChar_3b067 58 = .ok (.i2c, 1) := by decide +kernel
theorem dJ2_getChar_3b067_59 : decode cJ2_getChar_3b067 59 = .ok (.ireturn, 1) := by decide +kernel
theorem dJ2_length_9d52b_0 : decode cJ2_length_9d52b 0 = .ok (.aload_n 0, 1) := by decide +kernel
theorem dJ2_length_9d52b_1 : decode cJ2_length_9d52b 1 = .ok (.arraylength, 1) := by decide +kernel
theorem dJ2_length_9d52b_2 : decode cJ2_length_9d52b 2 = .ok (.iconst 1, 1) := by decide +kernel
theorem dJ2_length_9d52b_3 : decode cJ2_length_9d52b 3 = .ok (.ishr, 1) := by decide +kernel
theorem dJ2_length_9d52b_4 : decode cJ2_length_9d52b 4 = .ok (.ireturn, 1) := by decide +kernel
set_option maxRecDepth 20000 in
theorem gwJ2_checkIndex_2214a : wsJ2_checkIndex_2214a.all goodWord = true := by decide +kernel
set_option maxRecDepth 20000 in
theorem ggJ2_charAt_3b067_J2_checkIndex_2214a : GoodIn wsJ2_charAt_3b067 wsJ2_checkIndex_2214a := goodIn_sub (List.forall_mem_cons.mpr ⟨(List.mem_of_getElem? (i := 4) rfl), List.forall_mem_cons.mpr ⟨(List.mem_of_getElem? (i := 5) rfl), List.forall_mem_cons.mpr ⟨(List.mem_of_getElem? (i := 6) rfl), List.forall_mem_cons.mpr ⟨(List.mem_of_getElem? (i := 3) rfl), List.forall_mem_cons.mpr ⟨(List.mem_of_getElem? (i := 7) rfl), List.forall_mem_cons.mpr ⟨(List.mem_of_getElem? (i := 8) rfl), List.forall_mem_cons.mpr ⟨(List.mem_of_getElem? (i := 9) rfl), List.forall_mem_cons.mpr ⟨(List.mem_of_getElem? (i := 10) rfl), List.forall_mem_cons.mpr ⟨(List.mem_of_getElem? (i := 11) rfl), List.forall_mem_cons.mpr ⟨(List.mem_of_getElem? (i := 12) rfl), List.forall_mem_cons.mpr ⟨(List.mem_of_getElem? (i := 13) rfl), List.forall_mem_cons.mpr ⟨(List.mem_of_getElem? (i := 14) rfl), List.forall_mem_cons.mpr ⟨(List.mem_of_getElem? (i := 15) rfl), List.forall_mem_cons.mpr ⟨(List.mem_of_getElem? (i := 16) rfl), fun _ h => (List.not_mem_nil h).elim⟩⟩⟩⟩⟩⟩⟩⟩⟩⟩⟩⟩⟩⟩) gwJ2_checkIndex_2214a
set_option maxRecDepth 20000 in
theorem gJ2_charAt_3b067_J2_checkIndex_2214a : GoodIn wsJ2_charAt_3b067 (va_wsS RJ2 67 yJ2_checkIndex_2214a wsJ2_checkIndex_2214a) := goodIn_app (goodIn_sub (List.forall_mem_cons.mpr ⟨(List.mem_of_getElem? (i := 1) rfl), List.forall_mem_cons.mpr ⟨(List.mem_of_getElem? (i := 2) rfl), List.forall_mem_cons.mpr ⟨(List.mem_of_getElem? (i := 3) rfl), fun _ h => (List.not_mem_nil h).elim⟩⟩⟩) (by decide +kernel)) ggJ2_charAt_3b067_J2_checkIndex_2214a
set_option maxRecDepth 20000 in
theorem gwJ2_getChar_3b067 : wsJ2_getChar_3b067.all goodWord = true := by decide +kernel
set_option maxRecDepth 20000 in
theorem ggJ2_charAt_3b067_J2_getChar_3b067 : GoodIn wsJ2_charAt_3b067 wsJ2_getChar_3b067 := goodIn_sub (List.forall_mem_cons.mpr ⟨(List.mem_of_getElem? (i := 19) rfl), List.forall_mem_cons.mpr ⟨(List.mem_of_getElem? (i := 20) rfl), List.forall_mem_cons.mpr ⟨(List.mem_of_getElem? (i := 21) rfl), List.forall_mem_cons.mpr ⟨(List.mem_of_getElem? (i := 22) rfl), List.forall_mem_cons.mpr ⟨(List.mem_of_getElem? (i := 5) rfl), List.forall_mem_cons.mpr ⟨(List.mem_of_getElem? (i := 6) rfl), List.forall_mem_cons.mpr ⟨(List.mem_of_getElem? (i := 3) rfl), List.forall_mem_cons.mpr ⟨(List.mem_of_getElem? (i := 7) rfl), fun _ h => (List.not_mem_nil h).elim⟩⟩⟩⟩⟩⟩⟩⟩) gwJ2_getChar_3b067
set_option maxRecDepth 20000 in
theorem gJ2_charAt_3b067_J2_getChar_3b067 : GoodIn wsJ2_charAt_3b067 (va_wsS RJ2 71 yJ2_getChar_3b067 wsJ2_getChar_3b067) := goodIn_app (goodIn_sub (List.forall_mem_cons.mpr ⟨(List.mem_of_getElem? (i := 17) rfl), List.forall_mem_cons.mpr ⟨(List.mem_of_getElem? (i := 18) rfl), List.forall_mem_cons.mpr ⟨(List.mem_of_getElem? (i := 3) rfl), fun _ h => (List.not_mem_nil h).elim⟩⟩⟩) (by decide +kernel)) ggJ2_charAt_3b067_J2_getChar_3b067
theorem dJ2_charAt_3b067_0 : decode cJ2_charAt_3b067 0 = .ok (.iload_n 1, 1) := by decide +kernel
theorem dJ2_charAt_3b067_1 : decode cJ2_charAt_3b067 1 = .ok (.aload_n 0, 1) := by decide +kernel
theorem dJ2_charAt_3b067_2 : decode cJ2_charAt_3b067 2 = .ok (.invokestatic 67, 3) := by decide +kernel
theorem dJ2_charAt_3b067_5 : decode cJ2_charAt_3b067 5 = .ok (.aload_n 0, 1) := by decide +kernel
theorem dJ2_charAt_3b067_6 : decode cJ2_charAt_3b067 6 = .ok (.iload_n 1, 1) := by decide +kernel
theorem dJ2_charAt_3b067_7 : decode cJ2_charAt_3b067 7 = .ok (.invokestatic 71, 3) := by decide +kernel
theorem dJ2_charAt_3b067_10 : decode cJ2_charAt_3b067 10 = .ok (.ireturn, 1) := by decide +kernel
set_option maxRecDepth 20000 in
theorem ggJ2_checkIndex_2214a_J2_length_9d52b : GoodIn wsJ2_checkIndex_2214a wsJ2_length_9d52b := goodIn_sub (List.forall_mem_cons.mpr ⟨(List.mem_of_getElem? (i := 4) rfl), fun _ h => (List.not_mem_nil h).elim⟩) gwJ2_length_9d52b
set_option maxRecDepth 20000 in
theorem gJ2_checkIndex_2214a_J2_length_9d52b : GoodIn wsJ2_checkIndex_2214a (va_wsS RJ2 48 yJ2_length_9d52b wsJ2_length_9d52b) := goodIn_app (goodIn_sub (List.forall_mem_cons.mpr ⟨(List.mem_of_getElem? (i := 1) rfl), List.forall_mem_cons.mpr ⟨(List.mem_of_getElem? (i := 2) rfl), List.forall_mem_cons.mpr ⟨(List.mem_of_getElem? (i := 3) rfl), fun _ h => (List.not_mem_nil h).elim⟩⟩⟩) (by decide +kernel)) ggJ2_checkIndex_2214a_J2_length_9d52b
set_option maxRecDepth 20000 in
theorem ggJ2_checkIndex_2214a_J0_checkIndex_df160 : GoodIn wsJ2_checkIndex_2214a wsJ0_checkIndex_df160 := goodIn_sub (List.forall_mem_cons.mpr ⟨(List.mem_of_getElem? (i := 8) rfl), List.forall_mem_cons.mpr ⟨(List.mem_of_getElem? (i := 9) rfl), List.forall_mem_cons.mpr ⟨(List.mem_of_getElem? (i := 10) rfl), List.forall_mem_cons.mpr ⟨(List.mem_of_getElem? (i := 11) rfl), List.forall_mem_cons.mpr ⟨(List.mem_of_getElem? (i := 12) rfl), List.forall_mem_cons.mpr ⟨(List.mem_of_getElem? (i := 13) rfl), fun _ h => (List.not_mem_nil h).elim⟩⟩⟩⟩⟩⟩) gwJ0_checkIndex_df160
set_option maxRecDepth 20000 in
theorem gJ2_checkIndex_2214a_J0_checkIndex_df160 : GoodIn wsJ2_checkIndex_2214a (va_wsS RJ2 414 yJ0_checkIndex_df160 wsJ0_checkIndex_df160) := goodIn_app (goodIn_sub (List.forall_mem_cons.mpr ⟨(List.mem_of_getElem? (i := 5) rfl), List.forall_mem_cons.mpr ⟨(List.mem_of_getElem? (i := 6) rfl), List.forall_mem_cons.mpr ⟨(List.mem_of_getElem? (i := 7) rfl), fun _ h => (List.not_mem_nil h).elim⟩⟩⟩) (by decide +kernel)) ggJ2_checkIndex_2214a_J0_checkIndex_df160
theorem dJ2_checkIndex_2214a_0 : decode cJ2_checkIndex_2214a 0 = .ok (.iload_n 0, 1) := by decide +kernel
theorem dJ2_checkIndex_2214a_1 : decode cJ2_checkIndex_2214a 1 = .ok (.aload_n 1, 1) := by decide +kernel
theorem dJ2_checkIndex_2214a_2 : decode cJ2_checkIndex_2214a 2 = .ok (.invokestatic 48, 3) := by decide +kernel
theorem dJ2_checkIndex_2214a_5 : decode cJ2_checkIndex_2214a 5 = .ok (.invokestatic 414, 3) := by decide +kernel
theorem dJ2_checkIndex_2214a_8 : decode cJ2_checkIndex_2214a 8 = .ok (.return_, 1) := by decide +kernel
theorem dJ7_fill_d0a16_0 : decode cJ7_fill_d0a16 0 = .ok (.iconst 0, 1) := by decide +kernel
theorem dJ7_fill_d0a16_1 : decode cJ7_fill_d0a16 1 = .ok (.istore_n 3, 1) := by decide +kernel
theorem dJ7_fill_d0a16_2 : decode cJ7_fill_d0a16 2 = .ok (.aload_n 0, 1) := by decide +kernel
theorem dJ7_fill_d0a16_3 : decode cJ7_fill_d0a16 3 = .ok (.arraylength, 1) := by decide +kernel
theorem dJ7_fill_d0a16_4 : decode cJ7_fill_d0a16 4 = .ok (.istore 4, 2) := by decide +kernel
theorem dJ7_fill_d0a16_6 : decode cJ7_fill_d0a16 6 = .ok (.iload_n 3, 1) := by decide +kernel
theorem dJ7_fill_d0a16_7 : decode cJ7_fill_d0a16 7 = .ok (.iload 4, 2) := by decide +kernel
theorem dJ7_fill_d0a16_9 : decode cJ7_fill_d0a16 9 = .ok (.if_icmp .ge 13, 3) := by decide +kernel
theorem dJ7_fill_d0a16_12 : decode cJ7_fill_d0a16 12 = .ok (.aload_n 0, 1) := by decide +kernel
theorem dJ7_fill_d0a16_13 : decode cJ7_fill_d0a16 13 = .ok (.iload_n 3, 1) := by decide +kernel
theorem dJ7_fill_d0a16_14 : decode cJ7_fill_d0a16 14 = .ok (.lload_n 1, 1) := by decide +kernel
theorem dJ7_fill_d0a16_15 : decode cJ7_fill_d0a16 15 = .ok (.lastore, 1) := by decide +kernel
theorem dJ7_fill_d0a16_16 : decode cJ7_fill_d0a16 16 = .ok (.iinc 3 1, 3) := by decide +kernel
theorem dJ7_fill_d0a16_19 : decode cJ7_fill_d0a16 19 = .ok (.goto (-13), 3) := by decide +kernel
theorem dJ7_fill_d0a16_22 : decode cJ7_fill_d0a16 22 = .ok (.return_, 1) := by decide +kernel
theorem dJ7_fill_53178_0 : decode cJ7_fill_53178 0 = .ok (.iconst 0, 1) := by decide +kernel
theorem dJ7_fill_53178_1 : decode cJ7_fill_53178 1 = .ok (.istore_n 2, 1) := by decide +kernel
theorem dJ7_fill_53178_2 : decode cJ7_fill_53178 2 = .ok (.aload_n 0, 1) := by decide +kernel
theorem dJ7_fill_53178_3 : decode cJ7_fill_53178 3 = .ok (.arraylength, 1) := by decide +kernel
theorem dJ7_fill_53178_4 : decode cJ7_fill_53178 4 = .ok (.istore_n 3, 1) := by decide +kernel
theorem dJ7_fill_53178_5 : decode cJ7_fill_53178 5 = .ok (.iload_n 2, 1) := by decide +kernel
theorem dJ7_fill_53178_6 : decode cJ7_fill_53178 6 = .ok (.iload_n 3, 1) := by decide +kernel
theorem dJ7_fill_53178_7 : decode cJ7_fill_53178 7 = .ok (.if_icmp .ge 13, 3) := by decide +kernel
theorem dJ7_fill_53178_10 : decode cJ7_fill_53178 10 = .ok (.aload_n 0, 1) := by decide +kernel
theorem dJ7_fill_53178_11 : decode cJ7_fill_53178 11 = .ok (.iload_n 2, 1) := by decide +kernel
theorem dJ7_fill_53178_12 : decode cJ7_fill_53178 12 = .ok (.iload_n 1, 1) := by decide +kernel
theorem dJ7_fill_53178_13 : decode cJ7_fill_53178 13 = .ok (.iastore, 1) := by decide +kernel
theorem dJ7_fill_53178_14 : decode cJ7_fill_53178 14 = .ok (.iinc 2 1, 3) := by decide +kernel
theorem dJ7_fill_53178_17 : decode cJ7_fill_53178 17 = .ok (.goto (-12), 3) := by decide +kernel
theorem dJ7_fill_53178_20 : decode cJ7_fill_53178 20 = .ok (.return_, 1) := by decide +kernel
theorem dJ3_checkIndex_8e157_0 : decode cJ3_checkIndex_8e157 0 = .ok (.iload_n 0, 1) := by decide +kernel
theorem dJ3_checkIndex_8e157_1 : decode cJ3_checkIndex_8e157 1 = .ok (.ifCond .lt 8, 3) := by decide +kernel
theorem dJ3_checkIndex_8e157_4 : decode cJ3_checkIndex_8e157 4 = .ok (.iload_n 0, 1) := by decide +kernel
theorem dJ3_checkIndex_8e157_5 : decode cJ3_checkIndex_8e157 5 = .ok (.iload_n 1, 1) := by decide +kernel
theorem dJ3_checkIndex_8e157_6 : decode cJ3_checkIndex_8e157 6 = .ok (.if_icmp .lt 10, 3) := by decide +kernel
theorem dJ3_checkIndex_8e157_9 : decode cJ3_checkIndex_8e157 9 = .ok (.aload_n 2, 1) := by decide +kernel
theorem dJ3_checkIndex_8e157_10 : decode cJ3_checkIndex_8e157 10 = .ok (.iload_n 0, 1) := by decide +kernel
theorem dJ3_checkIndex_8e157_11 : decode cJ3_checkIndex_8e157 11 = .ok (.iload_n 1, 1) := by decide +kernel
theorem dJ3_checkIndex_8e157_12 : decode cJ3_checkIndex_8e157 12 = .ok (.invokestatic 95, 3) := by decide +kernel
theorem dJ3_checkIndex_8e157_15 : decode cJ3_checkIndex_8e157 15 = .ok (.athrow, 1) := by decide +kernel
theorem dJ3_checkIndex_8e157_16 : decode cJ3_checkIndex_8e157 16 = .ok (.iload_n 0, 1) := by decide +kernel
theorem dJ3_checkIndex_8e157_17 : decode cJ3_checkIndex_8e157 17 = .ok (.ireturn, 1) := by decide +kernel
noncomputable abbrev vwCl : List vw_C := [(RX0, TX0, 4), (RX1, TX1, 5), (RX2, TX2, 4), (RX3, TX3, 14), (RX4, TX4, 5), (RX5, TX5, 7), (RX6, TX6, 6), (RX7, TX7, 13), (RX8, TX8, 12), (RX9, TX9, 17), (RX10, TX10, 57)]
