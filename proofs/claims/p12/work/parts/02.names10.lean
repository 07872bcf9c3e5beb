set_option maxRecDepth 20000 in
theorem gmX10_parts__X10_hangs_r2 : ∀ w ∈ wsX10_hangs_r2, w ∈ wsX10_parts := List.forall_mem_cons.mpr ⟨(gcX10_parts__X10_parts_r2 _ (List.mem_of_getElem? (i := 4) rfl)), List.forall_mem_cons.mpr ⟨(gcX10_parts__X10_parts_r2 _ (List.mem_of_getElem? (i := 5) rfl)), List.forall_mem_cons.mpr ⟨(gcX10_parts__X10_parts_r2 _ (List.mem_of_getElem? (i := 6) rfl)), List.forall_mem_cons.mpr ⟨(gcX10_parts__X10_parts_r2 _ (List.mem_of_getElem? (i := 7) rfl)), List.forall_mem_cons.mpr ⟨(gcX10_parts__X10_parts_r2 _ (List.mem_of_getElem? (i := 8) rfl)), List.forall_mem_cons.mpr ⟨(gcX10_parts__X10_parts_r2 _ (List.mem_of_getElem? (i := 9) rfl)), List.forall_mem_cons.mpr ⟨(gcX10_parts__X10_parts_r2 _ (List.mem_of_getElem? (i := 10) rfl)), List.forall_mem_cons.mpr ⟨(gcX10_parts__X10_parts_r2 _ (List.mem_of_getElem? (i := 11) rfl)), List.forall_mem_cons.mpr ⟨(gcX10_parts__X10_parts_r2 _ (List.mem_of_getElem? (i := 12) rfl)), List.forall_mem_cons.mpr ⟨(gcX10_parts__X10_parts_r2 _ (List.mem_of_getElem? (i := 13) rfl)), List.forall_mem_cons.mpr ⟨(gcX10_parts__X10_parts_r2 _ (List.mem_of_getElem? (i := 14) rfl)), List.forall_mem_cons.mpr ⟨(gcX10_parts__X10_parts_r2 _ (List.mem_of_getElem? (i := 15) rfl)), fun _ h => (List.not_mem_nil h).elim⟩⟩⟩⟩⟩⟩⟩⟩⟩⟩⟩⟩
theorem gcX10_parts__X100 : ∀ w ∈ wsX100, w ∈ wsX10_parts := fun w h => List.mem_cons_of_mem _ (List.mem_append_right _ (h))
set_option maxRecDepth 20000 in
theorem ggX10_parts_X10_hangs : GoodIn wsX10_parts wsX10_hangs := goodIn_sub (List.forall_mem_cons.mpr ⟨(gcX10_parts__X10_parts_r1 _ (List.mem_of_getElem? (i := 5) rfl)), List.forall_mem_append.mpr ⟨List.forall_mem_append.mpr ⟨gmX10_parts__X10_hangs_r1, gmX10_parts__X10_hangs_r2⟩, gcX10_parts__X100⟩⟩) gwX10_hangs
set_option maxRecDepth 20000 in
theorem gX10_parts_X10_hangs : GoodIn wsX10_parts (wsV RX10 421 RX10 yX10_hangs wsX10_hangs) := goodIn_app (goodIn_sub (List.forall_mem_cons.mpr ⟨(gcX10_parts__X10_parts_r1 _ (List.mem_of_getElem? (i := 1) rfl)), List.forall_mem_cons.mpr ⟨(gcX10_parts__X10_parts_r1 _ (List.mem_of_getElem? (i := 2) rfl)), List.forall_mem_cons.mpr ⟨(gcX10_parts__X10_parts_r1 _ (List.mem_of_getElem? (i := 3) rfl)), List.forall_mem_cons.mpr ⟨(gcX10_parts__X10_parts_r1 _ (List.mem_of_getElem? (i := 4) rfl)), fun _ h => (List.not_mem_nil h).elim⟩⟩⟩⟩) (by decide +kernel)) ggX10_parts_X10_hangs
set_option maxRecDepth 20000 in
theorem ggX10_parts_X10_pictures : GoodIn wsX10_parts wsX10_pictures := goodIn_sub (List.forall_mem_cons.mpr ⟨(gcX10_parts__X10_parts_r2 _ (List.mem_of_getElem? (i := 5) rfl)), List.forall_mem_append.mpr ⟨List.forall_mem_cons.mpr ⟨(gcX10_parts__X10_parts_r1 _ (List.mem_of_getElem? (i := 11) rfl)), fun _ h => (List.not_mem_nil h).elim⟩, gcX10_parts__X100⟩⟩) gwX10_pictures
set_option maxRecDepth 20000 in
theorem gX10_parts_X10_pictures : GoodIn wsX10_parts (wsV RX10 259 RX10 yX10_pictures wsX10_pictures) := goodIn_app (goodIn_sub (List.forall_mem_cons.mpr ⟨(gcX10_parts__X10_parts_r2 _ (List.mem_of_getElem? (i := 2) rfl)), List.forall_mem_cons.mpr ⟨(gcX10_parts__X10_parts_r2 _ (List.mem_of_getElem? (i := 3) rfl)), List.forall_mem_cons.mpr ⟨(gcX10_parts__X10_parts_r2 _ (List.mem_of_getElem? (i := 4) rfl)), List.forall_mem_cons.mpr ⟨(gcX10_parts__X10_parts_r1 _ (List.mem_of_getElem? (i := 4) rfl)), fun _ h => (List.not_mem_nil h).elim⟩⟩⟩⟩) (by decide +kernel)) ggX10_parts_X10_pictures
theorem dX10_parts_0 : decode cX10_parts 0 = .ok (.aload_n 0, 1) := by decide +kernel
theorem dX10_parts_1 : decode cX10_parts 1 = .ok (.invokevirtual 421, 3) := by decide +kernel
theorem dX10_parts_4 : decode cX10_parts 4 = .ok (.iconst 0, 1) := by decide +kernel
theorem dX10_parts_5 : decode cX10_parts 5 = .ok (.istore_n 1, 1) := by decide +kernel
theorem dX10_parts_6 : decode cX10_parts 6 = .ok (.iconst 0, 1) := by decide +kernel
theorem dX10_parts_7 : decode cX10_parts 7 = .ok (.istore_n 2, 1) := by decide +kernel
theorem dX10_parts_8 : decode cX10_parts 8 = .ok (.iload_n 2, 1) := by decide +kernel
theorem dX10_parts_9 : decode cX10_parts 9 = .ok (.aload_n 0, 1) := by decide +kernel
theorem dX10_parts_10 : decode cX10_parts 10 = .ok (.invokevirtual 259, 3) := by decide +kernel
theorem dX10_parts_13 : decode cX10_parts 13 = .ok (.if_icmp .ge 59, 3) := by decide +kernel
theorem dX10_parts_16 : decode cX10_parts 16 = .ok (.iconst 1, 1) := by decide +kernel
theorem dX10_parts_17 : decode cX10_parts 17 = .ok (.istore_n 3, 1) := by decide +kernel
theorem dX10_parts_18 : decode cX10_parts 18 = .ok (.iconst 0, 1) := by decide +kernel
theorem dX10_parts_19 : decode cX10_parts 19 = .ok (.istore 4, 2) := by decide +kernel
theorem dX10_parts_21 : decode cX10_parts 21 = .ok (.iload 4, 2) := by decide +kernel
theorem dX10_parts_23 : decode cX10_parts 23 = .ok (.iload_n 2, 1) := by decide +kernel
theorem dX10_parts_24 : decode cX10_parts 24 = .ok (.if_icmp .ge 35, 3) := by decide +kernel
theorem dX10_parts_27 : decode cX10_parts 27 = .ok (.iload_n 3, 1) := by decide +kernel
theorem dX10_parts_28 : decode cX10_parts 28 = .ok (.ifCond .eq 23, 3) := by decide +kernel
theorem dX10_parts_31 : decode cX10_parts 31 = .ok (.aload_n 0, 1) := by decide +kernel
theorem dX10_parts_32 : decode cX10_parts 32 = .ok (.getfield 113, 3) := by decide +kernel
theorem dX10_parts_35 : decode cX10_parts 35 = .ok (.iload 4, 2) := by decide +kernel
theorem dX10_parts_37 : decode cX10_parts 37 = .ok (.iaload, 1) := by decide +kernel
theorem dX10_parts_38 : decode cX10_parts 38 = .ok (.aload_n 0, 1) := by decide +kernel
theorem dX10_parts_39 : decode cX10_parts 39 = .ok (.getfield 113, 3) := by decide +kernel
theorem dX10_parts_42 : decode cX10_parts 42 = .ok (.iload_n 2, 1) := by decide +kernel
theorem dX10_parts_43 : decode cX10_parts 43 = .ok (.iaload, 1) := by decide +kernel
theorem dX10_parts_44 : decode cX10_parts 44 = .ok (.if_icmp .eq 7, 3) := by decide +kernel
theorem dX10_parts_47 : decode cX10_parts 47 = .ok (.iconst 1, 1) := by decide +kernel
theorem dX10_parts_48 : decode cX10_parts 48 = .ok (.goto 4, 3) := by decide +kernel
theorem dX10_parts_51 : decode cX10_parts 51 = .ok (.iconst 0, 1) := by decide +kernel
theorem dX10_parts_52 : decode cX10_parts 52 = .ok (.istore_n 3, 1) := by decide +kernel
theorem dX10_parts_53 : decode cX10_parts 53 = .ok (.iinc 4 1, 3) := by decide +kernel
theorem dX10_parts_56 : decode cX10_parts 56 = .ok (.goto (-35), 3) := by decide +kernel
theorem dX10_parts_59 : decode cX10_parts 59 = .ok (.iload_n 3, 1) := by decide +kernel
theorem dX10_parts_60 : decode cX10_parts 60 = .ok (.ifCond .eq 6, 3) := by decide +kernel
theorem dX10_parts_63 : decode cX10_parts 63 = .ok (.iinc 1 1, 3) := by decide +kernel
theorem dX10_parts_66 : decode cX10_parts 66 = .ok (.iinc 2 1, 3) := by decide +kernel
theorem dX10_parts_69 : decode cX10_parts 69 = .ok (.goto (-61), 3) := by decide +kernel
theorem dX10_parts_72 : decode cX10_parts 72 = .ok (.iload_n 1, 1) := by decide +kernel
theorem dX10_parts_73 : decode cX10_parts 73 = .ok (.ireturn, 1) := by decide +kernel
theorem gcX10_hang__X10_hang_r1 : ∀ w ∈ wsX10_hang_r1, w ∈ wsX10_hang := fun w h => List.mem_cons_of_mem _ (List.mem_append_left _ (List.mem_append_left _ (h)))
theorem gcX10_hang__X100 : ∀ w ∈ wsX100, w ∈ wsX10_hang := fun w h => List.mem_cons_of_mem _ (List.mem_append_right _ (h))
set_option maxRecDepth 20000 in
theorem gwX10_isPicture : wsX10_isPicture.all goodWord = true := by decide +kernel
set_option maxRecDepth 20000 in
theorem ggX10_hang_X10_isPicture : GoodIn wsX10_hang wsX10_isPicture := goodIn_sub (List.forall_mem_cons.mpr ⟨(gcX10_hang__X10_hang_r1 _ (List.mem_of_getElem? (i := 5) rfl)), List.forall_mem_append.mpr ⟨List.forall_mem_cons.mpr ⟨(gcX10_hang__X10_hang_r1 _ (List.mem_of_getElem? (i := 6) rfl)), List.forall_mem_cons.mpr ⟨(gcX10_hang__X10_hang_r1 _ (List.mem_of_getElem? (i := 7) rfl)), List.forall_mem_cons.mpr ⟨(gcX10_hang__X10_hang_r1 _ (List.mem_of_getElem? (i := 8) rfl)), List.forall_mem_cons.mpr ⟨(gcX10_hang__X10_hang_r1 _ (List.mem_of_getElem? (i := 4) rfl)), List.forall_mem_cons.mpr ⟨(gcX10_hang__X10_hang_r1 _ (List.mem_of_getElem? (i := 9) rfl)), List.forall_mem_cons.mpr ⟨(gcX10_hang__X10_hang_r1 _ (List.mem_of_getElem? (i := 10) rfl)), List.forall_mem_cons.mpr ⟨(gcX10_hang__X10_hang_r1 _ (List.mem_of_getElem? (i := 11) rfl)), List.forall_mem_cons.mpr ⟨(gcX10_hang__X10_hang_r1 _ (List.mem_of_getElem? (i := 12) rfl)), List.forall_mem_cons.mpr ⟨(gcX10_hang__X10_hang_r1 _ (List.mem_of_getElem? (i := 13) rfl)), fun _ h => (List.not_mem_nil h).elim⟩⟩⟩⟩⟩⟩⟩⟩⟩, gcX10_hang__X100⟩⟩) gwX10_isPicture
set_option maxRecDepth 20000 in
theorem gX10_hang_X10_isPicture : GoodIn wsX10_hang (wsV RX10 427 RX10 yX10_isPicture wsX10_isPicture) := goodIn_app (goodIn_sub (List.forall_mem_cons.mpr ⟨(gcX10_hang__X10_hang_r1 _ (List.mem_of_getElem? (i := 1) rfl)), List.forall_mem_cons.mpr ⟨(gcX10_hang__X10_hang_r1 _ (List.mem_of_getElem? (i := 2) rfl)), List.forall_mem_cons.mpr ⟨(gcX10_hang__X10_hang_r1 _ (List.mem_of_getElem? (i := 3) rfl)), List.forall_mem_cons.mpr ⟨(gcX10_hang__X10_hang_r1 _ (List.mem_of_getElem? (i := 4) rfl)), fun _ h => (List.not_mem_nil h).elim⟩⟩⟩⟩) (by decide +kernel)) ggX10_hang_X10_isPicture
theorem gcX10_hang__X10_hang_r2 : ∀ w ∈ wsX10_hang_r2, w ∈ wsX10_hang := fun w h => List.mem_cons_of_mem _ (List.mem_append_left _ (List.mem_append_right _ (h)))
set_option maxRecDepth 20000 in
theorem gmX10_hang__X10_hangs_r1 : ∀ w ∈ wsX10_hangs_r1, w ∈ wsX10_hang := List.forall_mem_cons.mpr ⟨(gcX10_hang__X10_hang_r1 _ (List.mem_of_getElem? (i := 0) rfl)), List.forall_mem_cons.mpr ⟨(gcX10_hang__X10_hang_r1 _ (List.mem_of_getElem? (i := 18) rfl)), List.forall_mem_cons.mpr ⟨(gcX10_hang__X10_hang_r1 _ (List.mem_of_getElem? (i := 19) rfl)), List.forall_mem_cons.mpr ⟨(gcX10_hang__X10_hang_r1 _ (List.mem_of_getElem? (i := 20) rfl)), List.forall_mem_cons.mpr ⟨(gcX10_hang__X10_hang_r1 _ (List.mem_of_getElem? (i := 21) rfl)), List.forall_mem_cons.mpr ⟨(gcX10_hang__X10_hang_r1 _ (List.mem_of_getElem? (i := 4) rfl)), List.forall_mem_cons.mpr ⟨(gcX10_hang__X10_hang_r1 _ (List.mem_of_getElem? (i := 22) rfl)), List.forall_mem_cons.mpr ⟨(gcX10_hang__X10_hang_r1 _ (List.mem_of_getElem? (i := 10) rfl)), List.forall_mem_cons.mpr ⟨(gcX10_hang__X10_hang_r1 _ (List.mem_of_getElem? (i := 23) rfl)), List.forall_mem_cons.mpr ⟨(gcX10_hang__X10_hang_r2 _ (List.mem_of_getElem? (i := 0) rfl)), List.forall_mem_cons.mpr ⟨(gcX10_hang__X10_hang_r2 _ (List.mem_of_getElem? (i := 1) rfl)), List.forall_mem_cons.mpr ⟨(gcX10_hang__X10_hang_r2 _ (List.mem_of_getElem? (i := 2) rfl)), List.forall_mem_cons.mpr ⟨(gcX10_hang__X10_hang_r2 _ (List.mem_of_getElem? (i := 3) rfl)), List.forall_mem_cons.mpr ⟨(gcX10_hang__X10_hang_r2 _ (List.mem_of_getElem? (i := 4) rfl)), List.forall_mem_cons.mpr ⟨(gcX10_hang__X10_hang_r2 _ (List.mem_of_getElem? (i := 5) rfl)), List.forall_mem_cons.mpr ⟨(gcX10_hang__X10_hang_r2 _ (List.mem_of_getElem? (i := 6) rfl)), List.forall_mem_cons.mpr ⟨(gcX10_hang__X10_hang_r2 _ (List.mem_of_getElem? (i := 7) rfl)), List.forall_mem_cons.mpr ⟨(gcX10_hang__X10_hang_r2 _ (List.mem_of_getElem? (i := 8) rfl)), List.forall_mem_cons.mpr ⟨(gcX10_hang__X10_hang_r2 _ (List.mem_of_getElem? (i := 9) rfl)), List.forall_mem_cons.mpr ⟨(gcX10_hang__X10_hang_r2 _ (List.mem_of_getElem? (i := 10) rfl)), List.forall_mem_cons.mpr ⟨(gcX10_hang__X10_hang_r2 _ (List.mem_of_getElem? (i := 11) rfl)), List.forall_mem_cons.mpr ⟨(gcX10_hang__X10_hang_r2 _ (List.mem_of_getElem? (i := 12) rfl)), List.forall_mem_cons.mpr ⟨(gcX10_hang__X10_hang_r1 _ (List.mem_of_getElem? (i := 6) rfl)), List.forall_mem_cons.mpr ⟨(gcX10_hang__X10_hang_r1 _ (List.mem_of_getElem? (i := 7) rfl)), fun _ h => (List.not_mem_nil h).elim⟩⟩⟩⟩⟩⟩⟩⟩⟩⟩⟩⟩⟩⟩⟩⟩⟩⟩⟩⟩⟩⟩⟩⟩
set_option maxRecDepth 20000 in
theorem gmX10_hang__X10_hangs_r2 : ∀ w ∈ wsX10_hangs_r2, w ∈ wsX10_hang := List.forall_mem_cons.mpr ⟨(gcX10_hang__X10_hang_r1 _ (List.mem_of_getElem? (i := 8) rfl)), List.forall_mem_cons.mpr ⟨(gcX10_hang__X10_hang_r1 _ (List.mem_of_getElem? (i := 9) rfl)), List.forall_mem_cons.mpr ⟨(gcX10_hang__X10_hang_r2 _ (List.mem_of_getElem? (i := 13) rfl)), List.forall_mem_cons.mpr ⟨(gcX10_hang__X10_hang_r2 _ (List.mem_of_getElem? (i := 14) rfl)), List.forall_mem_cons.mpr ⟨(gcX10_hang__X10_hang_r2 _ (List.mem_of_getElem? (i := 15) rfl)), List.forall_mem_cons.mpr ⟨(gcX10_hang__X10_hang_r2 _ (List.mem_of_getElem? (i := 16) rfl)), List.forall_mem_cons.mpr ⟨(gcX10_hang__X10_hang_r2 _ (List.mem_of_getElem? (i := 17) rfl)), List.forall_mem_cons.mpr ⟨(gcX10_hang__X10_hang_r2 _ (List.mem_of_getElem? (i := 18) rfl)), List.forall_mem_cons.mpr ⟨(gcX10_hang__X10_hang_r2 _ (List.mem_of_getElem? (i := 19) rfl)), List.forall_mem_cons.mpr ⟨(gcX10_hang__X10_hang_r2 _ (List.mem_of_getElem? (i := 20) rfl)), List.forall_mem_cons.mpr ⟨(gcX10_hang__X10_hang_r2 _ (List.mem_of_getElem? (i := 21) rfl)), List.forall_mem_cons.mpr ⟨(gcX10_hang__X10_hang_r2 _ (List.mem_of_getElem? (i := 22) rfl)), fun _ h => (List.not_mem_nil h).elim⟩⟩⟩⟩⟩⟩⟩⟩⟩⟩⟩⟩
set_option maxRecDepth 20000 in
theorem ggX10_hang_X10_hangs : GoodIn wsX10_hang wsX10_hangs := goodIn_sub (List.forall_mem_cons.mpr ⟨(gcX10_hang__X10_hang_r1 _ (List.mem_of_getElem? (i := 17) rfl)), List.forall_mem_append.mpr ⟨List.forall_mem_append.mpr ⟨gmX10_hang__X10_hangs_r1, gmX10_hang__X10_hangs_r2⟩, gcX10_hang__X100⟩⟩) gwX10_hangs
set_option maxRecDepth 20000 in
theorem gX10_hang_X10_hangs : GoodIn wsX10_hang (wsV RX10 421 RX10 yX10_hangs wsX10_hangs) := goodIn_app (goodIn_sub (List.forall_mem_cons.mpr ⟨(gcX10_hang__X10_hang_r1 _ (List.mem_of_getElem? (i := 14) rfl)), List.forall_mem_cons.mpr ⟨(gcX10_hang__X10_hang_r1 _ (List.mem_of_getElem? (i := 15) rfl)), List.forall_mem_cons.mpr ⟨(gcX10_hang__X10_hang_r1 _ (List.mem_of_getElem? (i := 16) rfl)), List.forall_mem_cons.mpr ⟨(gcX10_hang__X10_hang_r1 _ (List.mem_of_getElem? (i := 4) rfl)), fun _ h => (List.not_mem_nil h).elim⟩⟩⟩⟩) (by decide +kernel)) ggX10_hang_X10_hangs
theorem dX10_hang_0 : decode cX10_hang 0 = .ok (.aload_n 0, 1) := by decide +kernel
theorem dX10_hang_1 : decode cX10_hang 1 = .ok (.iload_n 1, 1) := by decide +kernel
theorem dX10_hang_2 : decode cX10_hang 2 = .ok (.invokevirtual 427, 3) := by decide +kernel
theorem dX10_hang_5 : decode cX10_hang 5 = .ok (.ifCond .eq 11, 3) := by decide +kernel
theorem dX10_hang_8 : decode cX10_hang 8 = .ok (.aload_n 0, 1) := by decide +kernel
theorem dX10_hang_9 : decode cX10_hang 9 = .ok (.iload_n 2, 1) := by decide +kernel
theorem dX10_hang_10 : decode cX10_hang 10 = .ok (.invokevirtual 427, 3) := by decide +kernel
theorem dX10_hang_13 : decode cX10_hang 13 = .ok (.ifCond .ne 5, 3) := by decide +kernel
theorem dX10_hang_16 : decode cX10_hang 16 = .ok (.iconst (-1), 1) := by decide +kernel
theorem dX10_hang_17 : decode cX10_hang 17 = .ok (.ireturn, 1) := by decide +kernel
theorem dX10_hang_18 : decode cX10_hang 18 = .ok (.aload_n 0, 1) := by decide +kernel
theorem dX10_hang_19 : decode cX10_hang 19 = .ok (.invokevirtual 421, 3) := by decide +kernel
theorem dX10_hang_22 : decode cX10_hang 22 = .ok (.aload_n 0, 1) := by decide +kernel
theorem dX10_hang_23 : decode cX10_hang 23 = .ok (.getfield 113, 3) := by decide +kernel
theorem dX10_hang_26 : decode cX10_hang 26 = .ok (.iload_n 1, 1) := by decide +kernel
theorem dX10_hang_27 : decode cX10_hang 27 = .ok (.iaload, 1) := by decide +kernel
theorem dX10_hang_28 : decode cX10_hang 28 = .ok (.aload_n 0, 1) := by decide +kernel
theorem dX10_hang_29 : decode cX10_hang 29 = .ok (.getfield 113, 3) := by decide +kernel
theorem dX10_hang_32 : decode cX10_hang 32 = .ok (.iload_n 2, 1) := by decide +kernel
theorem dX10_hang_33 : decode cX10_hang 33 = .ok (.iaload, 1) := by decide +kernel
theorem dX10_hang_34 : decode cX10_hang 34 = .ok (.if_icmp .ne 7, 3) := by decide +kernel
theorem dX10_hang_37 : decode cX10_hang 37 = .ok (.iconst 1, 1) := by decide +kernel
theorem dX10_hang_38 : decode cX10_hang 38 = .ok (.goto 4, 3) := by decide +kernel
theorem dX10_hang_41 : decode cX10_hang 41 = .ok (.iconst 0, 1) := by decide +kernel
theorem dX10_hang_42 : decode cX10_hang 42 = .ok (.ireturn, 1) := by decide +kernel
theorem gcX10_blind__X10_blind_r1 : ∀ w ∈ wsX10_blind_r1, w ∈ wsX10_blind := fun w h => List.mem_cons_of_mem _ (List.mem_append_left _ (List.mem_append_left _ (h)))
theorem gcX10_blind__X100 : ∀ w ∈ wsX100, w ∈ wsX10_blind := fun w h => List.mem_cons_of_mem _ (List.mem_append_right _ (h))
set_option maxRecDepth 20000 in
theorem ggX10_blind_X10_rows : GoodIn wsX10_blind wsX10_rows := goodIn_sub (List.forall_mem_cons.mpr ⟨(gcX10_blind__X10_blind_r1 _ (List.mem_of_getElem? (i := 5) rfl)), List.forall_mem_append.mpr ⟨List.forall_mem_cons.mpr ⟨(gcX10_blind__X10_blind_r1 _ (List.mem_of_getElem? (i := 6) rfl)), fun _ h => (List.not_mem_nil h).elim⟩, gcX10_blind__X100⟩⟩) gwX10_rows
set_option maxRecDepth 20000 in
theorem gX10_blind_X10_rows : GoodIn wsX10_blind (wsV RX10 265 RX10 yX10_rows wsX10_rows) := goodIn_app (goodIn_sub (List.forall_mem_cons.mpr ⟨(gcX10_blind__X10_blind_r1 _ (List.mem_of_getElem? (i := 1) rfl)), List.forall_mem_cons.mpr ⟨(gcX10_blind__X10_blind_r1 _ (List.mem_of_getElem? (i := 2) rfl)), List.forall_mem_cons.mpr ⟨(gcX10_blind__X10_blind_r1 _ (List.mem_of_getElem? (i := 3) rfl)), List.forall_mem_cons.mpr ⟨(gcX10_blind__X10_blind_r1 _ (List.mem_of_getElem? (i := 4) rfl)), fun _ h => (List.not_mem_nil h).elim⟩⟩⟩⟩) (by decide +kernel)) ggX10_blind_X10_rows
theorem gcX10_blind__X10_blind_r2 : ∀ w ∈ wsX10_blind_r2, w ∈ wsX10_blind := fun w h => List.mem_cons_of_mem _ (List.mem_append_left _ (List.mem_append_right _ (List.mem_append_left _ (h))))
set_option maxRecDepth 20000 in
theorem gmX10_blind__X10_canShow_r1 : ∀ w ∈ wsX10_canShow_r1, w ∈ wsX10_blind := List.forall_mem_cons.mpr ⟨(gcX10_blind__X10_blind_r1 _ (List.mem_of_getElem? (i := 0) rfl)), List.forall_mem_cons.mpr ⟨(gcX10_blind__X10_blind_r1 _ (List.mem_of_getElem? (i := 11) rfl)), List.forall_mem_cons.mpr ⟨(gcX10_blind__X10_blind_r1 _ (List.mem_of_getElem? (i := 12) rfl)), List.forall_mem_cons.mpr ⟨(gcX10_blind__X10_blind_r1 _ (List.mem_of_getElem? (i := 13) rfl)), List.forall_mem_cons.mpr ⟨(gcX10_blind__X10_blind_r1 _ (List.mem_of_getElem? (i := 14) rfl)), List.forall_mem_cons.mpr ⟨(gcX10_blind__X10_blind_r1 _ (List.mem_of_getElem? (i := 4) rfl)), List.forall_mem_cons.mpr ⟨(gcX10_blind__X10_blind_r1 _ (List.mem_of_getElem? (i := 15) rfl)), List.forall_mem_cons.mpr ⟨(gcX10_blind__X10_blind_r1 _ (List.mem_of_getElem? (i := 1) rfl)), List.forall_mem_cons.mpr ⟨(gcX10_blind__X10_blind_r1 _ (List.mem_of_getElem? (i := 2) rfl)), List.forall_mem_cons.mpr ⟨(gcX10_blind__X10_blind_r1 _ (List.mem_of_getElem? (i := 3) rfl)), List.forall_mem_cons.mpr ⟨(gcX10_blind__X10_blind_r1 _ (List.mem_of_getElem? (i := 5) rfl)), List.forall_mem_cons.mpr ⟨(gcX10_blind__X10_blind_r1 _ (List.mem_of_getElem? (i := 6) rfl)), List.forall_mem_cons.mpr ⟨(gcX10_blind__X10_blind_r1 _ (List.mem_of_getElem? (i := 16) rfl)), List.forall_mem_cons.mpr ⟨(gcX10_blind__X10_blind_r1 _ (List.mem_of_getElem? (i := 17) rfl)), List.forall_mem_cons.mpr ⟨(gcX10_blind__X10_blind_r1 _ (List.mem_of_getElem? (i := 18) rfl)), List.forall_mem_cons.mpr ⟨(gcX10_blind__X10_blind_r1 _ (List.mem_of_getElem? (i := 19) rfl)), List.forall_mem_cons.mpr ⟨(gcX10_blind__X10_blind_r1 _ (List.mem_of_getElem? (i := 20) rfl)), List.forall_mem_cons.mpr ⟨(gcX10_blind__X10_blind_r1 _ (List.mem_of_getElem? (i := 21) rfl)), List.forall_mem_cons.mpr ⟨(gcX10_blind__X10_blind_r1 _ (List.mem_of_getElem? (i := 22) rfl)), List.forall_mem_cons.mpr ⟨(gcX10_blind__X10_blind_r1 _ (List.mem_of_getElem? (i := 23) rfl)), List.forall_mem_cons.mpr ⟨(gcX10_blind__X10_blind_r2 _ (List.mem_of_getElem? (i := 0) rfl)), List.forall_mem_cons.mpr ⟨(gcX10_blind__X10_blind_r2 _ (List.mem_of_getElem? (i := 1) rfl)), List.forall_mem_cons.mpr ⟨(gcX10_blind__X10_blind_r2 _ (List.mem_of_getElem? (i := 2) rfl)), List.forall_mem_cons.mpr ⟨(gcX10_blind__X10_blind_r2 _ (List.mem_of_getElem? (i := 3) rfl)), fun _ h => (List.not_mem_nil h).elim⟩⟩⟩⟩⟩⟩⟩⟩⟩⟩⟩⟩⟩⟩⟩⟩⟩⟩⟩⟩⟩⟩⟩⟩
theorem gcX10_blind__X10_blind_r3 : ∀ w ∈ wsX10_blind_r3, w ∈ wsX10_blind := fun w h => List.mem_cons_of_mem _ (List.mem_append_left _ (List.mem_append_right _ (List.mem_append_right _ (h))))
set_option maxRecDepth 20000 in
theorem gmX10_blind__X10_canShow_r2 : ∀ w ∈ wsX10_canShow_r2, w ∈ wsX10_blind := List.forall_mem_cons.mpr ⟨(gcX10_blind__X10_blind_r2 _ (List.mem_of_getElem? (i := 4) rfl)), List.forall_mem_cons.mpr ⟨(gcX10_blind__X10_blind_r2 _ (List.mem_of_getElem? (i := 5) rfl)), List.forall_mem_cons.mpr ⟨(gcX10_blind__X10_blind_r2 _ (List.mem_of_getElem? (i := 6) rfl)), List.forall_mem_cons.mpr ⟨(gcX10_blind__X10_blind_r2 _ (List.mem_of_getElem? (i := 7) rfl)), List.forall_mem_cons.mpr ⟨(gcX10_blind__X10_blind_r2 _ (List.mem_of_getElem? (i := 8) rfl)), List.forall_mem_cons.mpr ⟨(gcX10_blind__X10_blind_r2 _ (List.mem_of_getElem? (i := 9) rfl)), List.forall_mem_cons.mpr ⟨(gcX10_blind__X10_blind_r2 _ (List.mem_of_getElem? (i := 10) rfl)), List.forall_mem_cons.mpr ⟨(gcX10_blind__X10_blind_r2 _ (List.mem_of_getElem? (i := 11) rfl)), List.forall_mem_cons.mpr ⟨(gcX10_blind__X10_blind_r2 _ (List.mem_of_getElem? (i := 12) rfl)), List.forall_mem_cons.mpr ⟨(gcX10_blind__X10_blind_r2 _ (List.mem_of_getElem? (i := 13) rfl)), List.forall_mem_cons.mpr ⟨(gcX10_blind__X10_blind_r2 _ (List.mem_of_getElem? (i := 14) rfl)), List.forall_mem_cons.mpr ⟨(gcX10_blind__X10_blind_r2 _ (List.mem_of_getElem? (i := 15) rfl)), List.forall_mem_cons.mpr ⟨(gcX10_blind__X10_blind_r2 _ (List.mem_of_getElem? (i := 16) rfl)), List.forall_mem_cons.mpr ⟨(gcX10_blind__X10_blind_r2 _ (List.mem_of_getElem? (i := 17) rfl)), List.forall_mem_cons.mpr ⟨(gcX10_blind__X10_blind_r2 _ (List.mem_of_getElem? (i := 18) rfl)), List.forall_mem_cons.mpr ⟨(gcX10_blind__X10_blind_r2 _ (List.mem_of_getElem? (i := 19) rfl)), List.forall_mem_cons.mpr ⟨(gcX10_blind__X10_blind_r2 _ (List.mem_of_getElem? (i := 20) rfl)), List.forall_mem_cons.mpr ⟨(gcX10_blind__X10_blind_r2 _ (List.mem_of_getElem? (i := 21) rfl)), List.forall_mem_cons.mpr ⟨(gcX10_blind__X10_blind_r2 _ (List.mem_of_getElem? (i := 22) rfl)), List.forall_mem_cons.mpr ⟨(gcX10_blind__X10_blind_r2 _ (List.mem_of_getElem? (i := 23) rfl)), List.forall_mem_cons.mpr ⟨(gcX10_blind__X10_blind_r3 _ (List.mem_of_getElem? (i := 0) rfl)), List.forall_mem_cons.mpr ⟨(gcX10_blind__X10_blind_r3 _ (List.mem_of_getElem? (i := 1) rfl)), List.forall_mem_cons.mpr ⟨(gcX10_blind__X10_blind_r3 _ (List.mem_of_getElem? (i := 2) rfl)), List.forall_mem_cons.mpr ⟨(gcX10_blind__X10_blind_r3 _ (List.mem_of_getElem? (i := 3) rfl)), fun _ h => (List.not_mem_nil h).elim⟩⟩⟩⟩⟩⟩⟩⟩⟩⟩⟩⟩⟩⟩⟩⟩⟩⟩⟩⟩⟩⟩⟩⟩
set_option maxRecDepth 20000 in
theorem gmX10_blind__X10_canShow_r3 : ∀ w ∈ wsX10_canShow_r3, w ∈ wsX10_blind := List.forall_mem_cons.mpr ⟨(gcX10_blind__X10_blind_r3 _ (List.mem_of_getElem? (i := 4) rfl)), List.forall_mem_cons.mpr ⟨(gcX10_blind__X10_blind_r3 _ (List.mem_of_getElem? (i := 5) rfl)), List.forall_mem_cons.mpr ⟨(gcX10_blind__X10_blind_r3 _ (List.mem_of_getElem? (i := 6) rfl)), List.forall_mem_cons.mpr ⟨(gcX10_blind__X10_blind_r3 _ (List.mem_of_getElem? (i := 7) rfl)), List.forall_mem_cons.mpr ⟨(gcX10_blind__X10_blind_r3 _ (List.mem_of_getElem? (i := 8) rfl)), List.forall_mem_cons.mpr ⟨(gcX10_blind__X10_blind_r3 _ (List.mem_of_getElem? (i := 9) rfl)), fun _ h => (List.not_mem_nil h).elim⟩⟩⟩⟩⟩⟩
set_option maxRecDepth 20000 in
theorem gwX10_canShow : wsX10_canShow.all goodWord = true := by decide +kernel
set_option maxRecDepth 20000 in
theorem ggX10_blind_X10_canShow : GoodIn wsX10_blind wsX10_canShow := goodIn_sub (List.forall_mem_cons.mpr ⟨(gcX10_blind__X10_blind_r1 _ (List.mem_of_getElem? (i := 10) rfl)), List.forall_mem_append.mpr ⟨List.forall_mem_append.mpr ⟨gmX10_blind__X10_canShow_r1, List.forall_mem_append.mpr ⟨gmX10_blind__X10_canShow_r2, gmX10_blind__X10_canShow_r3⟩⟩, gcX10_blind__X100⟩⟩) gwX10_canShow
set_option maxRecDepth 20000 in
theorem gX10_blind_X10_canShow : GoodIn wsX10_blind (wsV RX10 430 RX10 yX10_canShow wsX10_canShow) := goodIn_app (goodIn_sub (List.forall_mem_cons.mpr ⟨(gcX10_blind__X10_blind_r1 _ (List.mem_of_getElem? (i := 7) rfl)), List.forall_mem_cons.mpr ⟨(gcX10_blind__X10_blind_r1 _ (List.mem_of_getElem? (i := 8) rfl)), List.forall_mem_cons.mpr ⟨(gcX10_blind__X10_blind_r1 _ (List.mem_of_getElem? (i := 9) rfl)), List.forall_mem_cons.mpr ⟨(gcX10_blind__X10_blind_r1 _ (List.mem_of_getElem? (i := 4) rfl)), fun _ h => (List.not_mem_nil h).elim⟩⟩⟩⟩) (by decide +kernel)) ggX10_blind_X10_canShow
theorem dX10_blind_0 : decode cX10_blind 0 = .ok (.iconst 0, 1) := by decide +kernel
theorem dX10_blind_1 : decode cX10_blind 1 = .ok (.istore_n 1, 1) := by decide +kernel
theorem dX10_blind_2 : decode cX10_blind 2 = .ok (.iconst 0, 1) := by decide +kernel
theorem dX10_blind_3 : decode cX10_blind 3 = .ok (.istore_n 2, 1) := by decide +kernel
theorem dX10_blind_4 : decode cX10_blind 4 = .ok (.iload_n 2, 1) := by decide +kernel
theorem dX10_blind_5 : decode cX10_blind 5 = .ok (.aload_n 0, 1) := by decide +kernel
theorem dX10_blind_6 : decode cX10_blind 6 = .ok (.invokevirtual 265, 3) := by decide +kernel
theorem dX10_blind_9 : decode cX10_blind 9 = .ok (.if_icmp .ge 29, 3) := by decide +kernel
theorem dX10_blind_12 : decode cX10_blind 12 = .ok (.aload_n 0, 1) := by decide +kernel
theorem dX10_blind_13 : decode cX10_blind 13 = .ok (.getfield 91, 3) := by decide +kernel
theorem dX10_blind_16 : decode cX10_blind 16 = .ok (.iload_n 2, 1) := by decide +kernel
theorem dX10_blind_17 : decode cX10_blind 17 = .ok (.baload, 1) := by decide +kernel
theorem dX10_blind_18 : decode cX10_blind 18 = .ok (.ifCond .ne 14, 3) := by decide +kernel
theorem dX10_blind_21 : decode cX10_blind 21 = .ok (.aload_n 0, 1) := by decide +kernel
theorem dX10_blind_22 : decode cX10_blind 22 = .ok (.iload_n 2, 1) := by decide +kernel
theorem dX10_blind_23 : decode cX10_blind 23 = .ok (.invokevirtual 430, 3) := by decide +kernel
theorem dX10_blind_26 : decode cX10_blind 26 = .ok (.ifCond .ne 6, 3) := by decide +kernel
theorem dX10_blind_29 : decode cX10_blind 29 = .ok (.iinc 1 1, 3) := by decide +kernel
theorem dX10_blind_32 : decode cX10_blind 32 = .ok (.iinc 2 1, 3) := by decide +kernel
theorem dX10_blind_35 : decode cX10_blind 35 = .ok (.goto (-31), 3) := by decide +kernel
theorem dX10_blind_38 : decode cX10_blind 38 = .ok (.iload_n 1, 1) := by decide +kernel
theorem dX10_blind_39 : decode cX10_blind 39 = .ok (.ireturn, 1) := by decide +kernel
theorem gcX10_looseMany__X10_looseMany_r1 : ∀ w ∈ wsX10_looseMany_r1, w ∈ wsX10_looseMany := fun w h => List.mem_cons_of_mem _ (List.mem_append_left _ (List.mem_append_left _ (h)))
theorem gcX10_looseMany__X10_looseMany_r2 : ∀ w ∈ wsX10_looseMany_r2, w ∈ wsX10_looseMany := fun w h => List.mem_cons_of_mem _ (List.mem_append_left _ (List.mem_append_right _ (List.mem_append_left _ (h))))
set_option maxRecDepth 20000 in
theorem gmX10_looseMany__X10_hangs_r1 : ∀ w ∈ wsX10_hangs_r1, w ∈ wsX10_looseMany := List.forall_mem_cons.mpr ⟨(gcX10_looseMany__X10_looseMany_r1 _ (List.mem_of_getElem? (i := 5) rfl)), List.forall_mem_cons.mpr ⟨(gcX10_looseMany__X10_looseMany_r1 _ (List.mem_of_getElem? (i := 6) rfl)), List.forall_mem_cons.mpr ⟨(gcX10_looseMany__X10_looseMany_r1 _ (List.mem_of_getElem? (i := 7) rfl)), List.forall_mem_cons.mpr ⟨(gcX10_looseMany__X10_looseMany_r1 _ (List.mem_of_getElem? (i := 8) rfl)), List.forall_mem_cons.mpr ⟨(gcX10_looseMany__X10_looseMany_r1 _ (List.mem_of_getElem? (i := 9) rfl)), List.forall_mem_cons.mpr ⟨(gcX10_looseMany__X10_looseMany_r1 _ (List.mem_of_getElem? (i := 3) rfl)), List.forall_mem_cons.mpr ⟨(gcX10_looseMany__X10_looseMany_r1 _ (List.mem_of_getElem? (i := 10) rfl)), List.forall_mem_cons.mpr ⟨(gcX10_looseMany__X10_looseMany_r1 _ (List.mem_of_getElem? (i := 11) rfl)), List.forall_mem_cons.mpr ⟨(gcX10_looseMany__X10_looseMany_r1 _ (List.mem_of_getElem? (i := 12) rfl)), List.forall_mem_cons.mpr ⟨(gcX10_looseMany__X10_looseMany_r1 _ (List.mem_of_getElem? (i := 13) rfl)), List.forall_mem_cons.mpr ⟨(gcX10_looseMany__X10_looseMany_r1 _ (List.mem_of_getElem? (i := 14) rfl)), List.forall_mem_cons.mpr ⟨(gcX10_looseMany__X10_looseMany_r1 _ (List.mem_of_getElem? (i := 15) rfl)), List.forall_mem_cons.mpr ⟨(gcX10_looseMany__X10_looseMany_r1 _ (List.mem_of_getElem? (i := 16) rfl)), List.forall_mem_cons.mpr ⟨(gcX10_looseMany__X10_looseMany_r1 _ (List.mem_of_getElem? (i := 17) rfl)), List.forall_mem_cons.mpr ⟨(gcX10_looseMany__X10_looseMany_r1 _ (List.mem_of_getElem? (i := 18) rfl)), List.forall_mem_cons.mpr ⟨(gcX10_looseMany__X10_looseMany_r1 _ (List.mem_of_getElem? (i := 19) rfl)), List.forall_mem_cons.mpr ⟨(gcX10_looseMany__X10_looseMany_r1 _ (List.mem_of_getElem? (i := 20) rfl)), List.forall_mem_cons.mpr ⟨(gcX10_looseMany__X10_looseMany_r1 _ (List.mem_of_getElem? (i := 21) rfl)), List.forall_mem_cons.mpr ⟨(gcX10_looseMany__X10_looseMany_r1 _ (List.mem_of_getElem? (i := 22) rfl)), List.forall_mem_cons.mpr ⟨(gcX10_looseMany__X10_looseMany_r1 _ (List.mem_of_getElem? (i := 23) rfl)), List.forall_mem_cons.mpr ⟨(gcX10_looseMany__X10_looseMany_r2 _ (List.mem_of_getElem? (i := 0) rfl)), List.forall_mem_cons.mpr ⟨(gcX10_looseMany__X10_looseMany_r2 _ (List.mem_of_getElem? (i := 1) rfl)), List.forall_mem_cons.mpr ⟨(gcX10_looseMany__X10_looseMany_r2 _ (List.mem_of_getElem? (i := 2) rfl)), List.forall_mem_cons.mpr ⟨(gcX10_looseMany__X10_looseMany_r2 _ (List.mem_of_getElem? (i := 3) rfl)), fun _ h => (List.not_mem_nil h).elim⟩⟩⟩⟩⟩⟩⟩⟩⟩⟩⟩⟩⟩⟩⟩⟩⟩⟩⟩⟩⟩⟩⟩⟩
set_option maxRecDepth 20000 in
theorem gmX10_looseMany__X10_hangs_r2 : ∀ w ∈ wsX10_hangs_r2, w ∈ wsX10_looseMany := List.forall_mem_cons.mpr ⟨(gcX10_looseMany__X10_looseMany_r2 _ (List.mem_of_getElem? (i := 4) rfl)), List.forall_mem_cons.mpr ⟨(gcX10_looseMany__X10_looseMany_r2 _ (List.mem_of_getElem? (i := 5) rfl)), List.forall_mem_cons.mpr ⟨(gcX10_looseMany__X10_looseMany_r2 _ (List.mem_of_getElem? (i := 6) rfl)), List.forall_mem_cons.mpr ⟨(gcX10_looseMany__X10_looseMany_r2 _ (List.mem_of_getElem? (i := 7) rfl)), List.forall_mem_cons.mpr ⟨(gcX10_looseMany__X10_looseMany_r2 _ (List.mem_of_getElem? (i := 8) rfl)), List.forall_mem_cons.mpr ⟨(gcX10_looseMany__X10_looseMany_r2 _ (List.mem_of_getElem? (i := 9) rfl)), List.forall_mem_cons.mpr ⟨(gcX10_looseMany__X10_looseMany_r2 _ (List.mem_of_getElem? (i := 10) rfl)), List.forall_mem_cons.mpr ⟨(gcX10_looseMany__X10_looseMany_r2 _ (List.mem_of_getElem? (i := 11) rfl)), List.forall_mem_cons.mpr ⟨(gcX10_looseMany__X10_looseMany_r2 _ (List.mem_of_getElem? (i := 12) rfl)), List.forall_mem_cons.mpr ⟨(gcX10_looseMany__X10_looseMany_r2 _ (List.mem_of_getElem? (i := 13) rfl)), List.forall_mem_cons.mpr ⟨(gcX10_looseMany__X10_looseMany_r2 _ (List.mem_of_getElem? (i := 14) rfl)), List.forall_mem_cons.mpr ⟨(gcX10_looseMany__X10_looseMany_r2 _ (List.mem_of_getElem? (i := 15) rfl)), fun _ h => (List.not_mem_nil h).elim⟩⟩⟩⟩⟩⟩⟩⟩⟩⟩⟩⟩
theorem gcX10_looseMany__X100 : ∀ w ∈ wsX100, w ∈ wsX10_looseMany := fun w h => List.mem_cons_of_mem _ (List.mem_append_right _ (h))
set_option maxRecDepth 20000 in
theorem ggX10_looseMany_X10_hangs : GoodIn wsX10_looseMany wsX10_hangs := goodIn_sub (List.forall_mem_cons.mpr ⟨(gcX10_looseMany__X10_looseMany_r1 _ (List.mem_of_getElem? (i := 4) rfl)), List.forall_mem_append.mpr ⟨List.forall_mem_append.mpr ⟨gmX10_looseMany__X10_hangs_r1, gmX10_looseMany__X10_hangs_r2⟩, gcX10_looseMany__X100⟩⟩) gwX10_hangs
set_option maxRecDepth 20000 in
theorem gX10_looseMany_X10_hangs : GoodIn wsX10_looseMany (wsV RX10 421 RX10 yX10_hangs wsX10_hangs) := goodIn_app (goodIn_sub (List.forall_mem_cons.mpr ⟨(gcX10_looseMany__X10_looseMany_r1 _ (List.mem_of_getElem? (i := 0) rfl)), List.forall_mem_cons.mpr ⟨(gcX10_looseMany__X10_looseMany_r1 _ (List.mem_of_getElem? (i := 1) rfl)), List.forall_mem_cons.mpr ⟨(gcX10_looseMany__X10_looseMany_r1 _ (List.mem_of_getElem? (i := 2) rfl)), List.forall_mem_cons.mpr ⟨(gcX10_looseMany__X10_looseMany_r1 _ (List.mem_of_getElem? (i := 3) rfl)), fun _ h => (List.not_mem_nil h).elim⟩⟩⟩⟩) (by decide +kernel)) ggX10_looseMany_X10_hangs
set_option maxRecDepth 20000 in
theorem ggX10_looseMany_X10_pictures : GoodIn wsX10_looseMany wsX10_pictures := goodIn_sub (List.forall_mem_cons.mpr ⟨(gcX10_looseMany__X10_looseMany_r2 _ (List.mem_of_getElem? (i := 5) rfl)), List.forall_mem_append.mpr ⟨List.forall_mem_cons.mpr ⟨(gcX10_looseMany__X10_looseMany_r1 _ (List.mem_of_getElem? (i := 11) rfl)), fun _ h => (List.not_mem_nil h).elim⟩, gcX10_looseMany__X100⟩⟩) gwX10_pictures
set_option maxRecDepth 20000 in
theorem gX10_looseMany_X10_pictures : GoodIn wsX10_looseMany (wsV RX10 259 RX10 yX10_pictures wsX10_pictures) := goodIn_app (goodIn_sub (List.forall_mem_cons.mpr ⟨(gcX10_looseMany__X10_looseMany_r2 _ (List.mem_of_getElem? (i := 2) rfl)), List.forall_mem_cons.mpr ⟨(gcX10_looseMany__X10_looseMany_r2 _ (List.mem_of_getElem? (i := 3) rfl)), List.forall_mem_cons.mpr ⟨(gcX10_looseMany__X10_looseMany_r2 _ (List.mem_of_getElem? (i := 4) rfl)), List.forall_mem_cons.mpr ⟨(gcX10_looseMany__X10_looseMany_r1 _ (List.mem_of_getElem? (i := 3) rfl)), fun _ h => (List.not_mem_nil h).elim⟩⟩⟩⟩) (by decide +kernel)) ggX10_looseMany_X10_pictures
theorem gcX10_looseMany__X10_looseMany_r3 : ∀ w ∈ wsX10_looseMany_r3, w ∈ wsX10_looseMany := fun w h => List.mem_cons_of_mem _ (List.mem_append_left _ (List.mem_append_right _ (List.mem_append_right _ (h))))
set_option maxRecDepth 20000 in
theorem ggX10_looseMany_X10_isLoose : GoodIn wsX10_looseMany wsX10_isLoose := goodIn_sub (List.forall_mem_cons.mpr ⟨(gcX10_looseMany__X10_looseMany_r2 _ (List.mem_of_getElem? (i := 19) rfl)), List.forall_mem_append.mpr ⟨List.forall_mem_cons.mpr ⟨(gcX10_looseMany__X10_looseMany_r1 _ (List.mem_of_getElem? (i := 5) rfl)), List.forall_mem_cons.mpr ⟨(gcX10_looseMany__X10_looseMany_r2 _ (List.mem_of_getElem? (i := 20) rfl)), List.forall_mem_cons.mpr ⟨(gcX10_looseMany__X10_looseMany_r2 _ (List.mem_of_getElem? (i := 21) rfl)), List.forall_mem_cons.mpr ⟨(gcX10_looseMany__X10_looseMany_r2 _ (List.mem_of_getElem? (i := 22) rfl)), List.forall_mem_cons.mpr ⟨(gcX10_looseMany__X10_looseMany_r1 _ (List.mem_of_getElem? (i := 3) rfl)), List.forall_mem_cons.mpr ⟨(gcX10_looseMany__X10_looseMany_r2 _ (List.mem_of_getElem? (i := 23) rfl)), List.forall_mem_cons.mpr ⟨(gcX10_looseMany__X10_looseMany_r1 _ (List.mem_of_getElem? (i := 11) rfl)), List.forall_mem_cons.mpr ⟨(gcX10_looseMany__X10_looseMany_r3 _ (List.mem_of_getElem? (i := 0) rfl)), List.forall_mem_cons.mpr ⟨(gcX10_looseMany__X10_looseMany_r3 _ (List.mem_of_getElem? (i := 1) rfl)), List.forall_mem_cons.mpr ⟨(gcX10_looseMany__X10_looseMany_r3 _ (List.mem_of_getElem? (i := 2) rfl)), List.forall_mem_cons.mpr ⟨(gcX10_looseMany__X10_looseMany_r3 _ (List.mem_of_getElem? (i := 3) rfl)), List.forall_mem_cons.mpr ⟨(gcX10_looseMany__X10_looseMany_r3 _ (List.mem_of_getElem? (i := 4) rfl)), List.forall_mem_cons.mpr ⟨(gcX10_looseMany__X10_looseMany_r3 _ (List.mem_of_getElem? (i := 5) rfl)), fun _ h => (List.not_mem_nil h).elim⟩⟩⟩⟩⟩⟩⟩⟩⟩⟩⟩⟩⟩, gcX10_looseMany__X100⟩⟩) gwX10_isLoose
set_option maxRecDepth 20000 in
theorem gX10_looseMany_X10_isLoose : GoodIn wsX10_looseMany (wsV RX10 424 RX10 yX10_isLoose wsX10_isLoose) := goodIn_app (goodIn_sub (List.forall_mem_cons.mpr ⟨(gcX10_looseMany__X10_looseMany_r2 _ (List.mem_of_getElem? (i := 16) rfl)), List.forall_mem_cons.mpr ⟨(gcX10_looseMany__X10_looseMany_r2 _ (List.mem_of_getElem? (i := 17) rfl)), List.forall_mem_cons.mpr ⟨(gcX10_looseMany__X10_looseMany_r2 _ (List.mem_of_getElem? (i := 18) rfl)), List.forall_mem_cons.mpr ⟨(gcX10_looseMany__X10_looseMany_r1 _ (List.mem_of_getElem? (i := 3) rfl)), fun _ h => (List.not_mem_nil h).elim⟩⟩⟩⟩) (by decide +kernel)) ggX10_looseMany_X10_isLoose
theorem dX10_looseMany_0 : decode cX10_looseMany 0 = .ok (.aload_n 0, 1) := by decide +kernel
theorem dX10_looseMany_1 : decode cX10_looseMany 1 = .ok (.invokevirtual 421, 3) := by decide +kernel
theorem dX10_looseMany_4 : decode cX10_looseMany 4 = .ok (.iconst 0, 1) := by decide +kernel
theorem dX10_looseMany_5 : decode cX10_looseMany 5 = .ok (.istore_n 1, 1) := by decide +kernel
theorem dX10_looseMany_6 : decode cX10_looseMany 6 = .ok (.iconst 0, 1) := by decide +kernel
theorem dX10_looseMany_7 : decode cX10_looseMany 7 = .ok (.istore_n 2, 1) := by decide +kernel
theorem dX10_looseMany_8 : decode cX10_looseMany 8 = .ok (.iload_n 2, 1) := by decide +kernel
theorem dX10_looseMany_9 : decode cX10_looseMany 9 = .ok (.aload_n 0, 1) := by decide +kernel
theorem dX10_looseMany_10 : decode cX10_looseMany 10 = .ok (.invokevirtual 259, 3) := by decide +kernel
theorem dX10_looseMany_13 : decode cX10_looseMany 13 = .ok (.if_icmp .ge 20, 3) := by decide +kernel
theorem dX10_looseMany_16 : decode cX10_looseMany 16 = .ok (.aload_n 0, 1) := by decide +kernel
theorem dX10_looseMany_17 : decode cX10_looseMany 17 = .ok (.iload_n 2, 1) := by decide +kernel
theorem dX10_looseMany_18 : decode cX10_looseMany 18 = .ok (.invokevirtual 424, 3) := by decide +kernel
theorem dX10_looseMany_21 : decode cX10_looseMany 21 = .ok (.ifCond .eq 6, 3) := by decide +kernel
theorem dX10_looseMany_24 : decode cX10_looseMany 24 = .ok (.iinc 1 1, 3) := by decide +kernel
theorem dX10_looseMany_27 : decode cX10_looseMany 27 = .ok (.iinc 2 1, 3) := by decide +kernel
theorem dX10_looseMany_30 : decode cX10_looseMany 30 = .ok (.goto (-22), 3) := by decide +kernel
theorem dX10_looseMany_33 : decode cX10_looseMany 33 = .ok (.iload_n 1, 1) := by decide +kernel
theorem dX10_looseMany_34 : decode cX10_looseMany 34 = .ok (.ireturn, 1) := by decide +kernel
theorem gcX10_needs__X10_needs_r1 : ∀ w ∈ wsX10_needs_r1, w ∈ wsX10_needs := fun w h => List.mem_cons_of_mem _ (List.mem_append_left _ (List.mem_append_left _ (h)))
theorem gcX10_needs__X100 : ∀ w ∈ wsX100, w ∈ wsX10_needs := fun w h => List.mem_cons_of_mem _ (List.mem_append_right _ (h))
set_option maxRecDepth 20000 in
theorem gwX10_isRow : wsX10_isRow.all goodWord = true := by decide +kernel
set_option maxRecDepth 20000 in
theorem ggX10_needs_X10_isRow : GoodIn wsX10_needs wsX10_isRow := goodIn_sub (List.forall_mem_cons.mpr ⟨(gcX10_needs__X10_needs_r1 _ (List.mem_of_getElem? (i := 5) rfl)), List.forall_mem_append.mpr ⟨List.forall_mem_cons.mpr ⟨(gcX10_needs__X10_needs_r1 _ (List.mem_of_getElem? (i := 6) rfl)), List.forall_mem_cons.mpr ⟨(gcX10_needs__X10_needs_r1 _ (List.mem_of_getElem? (i := 7) rfl)), List.forall_mem_cons.mpr ⟨(gcX10_needs__X10_needs_r1 _ (List.mem_of_getElem? (i := 8) rfl)), List.forall_mem_cons.mpr ⟨(gcX10_needs__X10_needs_r1 _ (List.mem_of_getElem? (i := 4) rfl)), List.forall_mem_cons.mpr ⟨(gcX10_needs__X10_needs_r1 _ (List.mem_of_getElem? (i := 9) rfl)), List.forall_mem_cons.mpr ⟨(gcX10_needs__X10_needs_r1 _ (List.mem_of_getElem? (i := 10) rfl)), List.forall_mem_cons.mpr ⟨(gcX10_needs__X10_needs_r1 _ (List.mem_of_getElem? (i := 11) rfl)), List.forall_mem_cons.mpr ⟨(gcX10_needs__X10_needs_r1 _ (List.mem_of_getElem? (i := 12) rfl)), List.forall_mem_cons.mpr ⟨(gcX10_needs__X10_needs_r1 _ (List.mem_of_getElem? (i := 13) rfl)), fun _ h => (List.not_mem_nil h).elim⟩⟩⟩⟩⟩⟩⟩⟩⟩, gcX10_needs__X100⟩⟩) gwX10_isRow
set_option maxRecDepth 20000 in
theorem gX10_needs_X10_isRow : GoodIn wsX10_needs (wsV RX10 433 RX10 yX10_isRow wsX10_isRow) := goodIn_app (goodIn_sub (List.forall_mem_cons.mpr ⟨(gcX10_needs__X10_needs_r1 _ (List.mem_of_getElem? (i := 1) rfl)), List.forall_mem_cons.mpr ⟨(gcX10_needs__X10_needs_r1 _ (List.mem_of_getElem? (i := 2) rfl)), List.forall_mem_cons.mpr ⟨(gcX10_needs__X10_needs_r1 _ (List.mem_of_getElem? (i := 3) rfl)), List.forall_mem_cons.mpr ⟨(gcX10_needs__X10_needs_r1 _ (List.mem_of_getElem? (i := 4) rfl)), fun _ h => (List.not_mem_nil h).elim⟩⟩⟩⟩) (by decide +kernel)) ggX10_needs_X10_isRow
theorem gcX10_needs__X10_needs_r2 : ∀ w ∈ wsX10_needs_r2, w ∈ wsX10_needs := fun w h => List.mem_cons_of_mem _ (List.mem_append_left _ (List.mem_append_right _ (List.mem_append_left _ (h))))
set_option maxRecDepth 20000 in
theorem gmX10_needs__X10_looseMany_r1 : ∀ w ∈ wsX10_looseMany_r1, w ∈ wsX10_needs := List.forall_mem_cons.mpr ⟨(gcX10_needs__X10_needs_r1 _ (List.mem_of_getElem? (i := 18) rfl)), List.forall_mem_cons.mpr ⟨(gcX10_needs__X10_needs_r1 _ (List.mem_of_getElem? (i := 19) rfl)), List.forall_mem_cons.mpr ⟨(gcX10_needs__X10_needs_r1 _ (List.mem_of_getElem? (i := 20) rfl)), List.forall_mem_cons.mpr ⟨(gcX10_needs__X10_needs_r1 _ (List.mem_of_getElem? (i := 4) rfl)), List.forall_mem_cons.mpr ⟨(gcX10_needs__X10_needs_r1 _ (List.mem_of_getElem? (i := 21) rfl)), List.forall_mem_cons.mpr ⟨(gcX10_needs__X10_needs_r1 _ (List.mem_of_getElem? (i := 22) rfl)), List.forall_mem_cons.mpr ⟨(gcX10_needs__X10_needs_r1 _ (List.mem_of_getElem? (i := 0) rfl)), List.forall_mem_cons.mpr ⟨(gcX10_needs__X10_needs_r1 _ (List.mem_of_getElem? (i := 6) rfl)), List.forall_mem_cons.mpr ⟨(gcX10_needs__X10_needs_r1 _ (List.mem_of_getElem? (i := 7) rfl)), List.forall_mem_cons.mpr ⟨(gcX10_needs__X10_needs_r1 _ (List.mem_of_getElem? (i := 8) rfl)), List.forall_mem_cons.mpr ⟨(gcX10_needs__X10_needs_r1 _ (List.mem_of_getElem? (i := 9) rfl)), List.forall_mem_cons.mpr ⟨(gcX10_needs__X10_needs_r1 _ (List.mem_of_getElem? (i := 10) rfl)), List.forall_mem_cons.mpr ⟨(gcX10_needs__X10_needs_r1 _ (List.mem_of_getElem? (i := 23) rfl)), List.forall_mem_cons.mpr ⟨(gcX10_needs__X10_needs_r2 _ (List.mem_of_getElem? (i := 0) rfl)), List.forall_mem_cons.mpr ⟨(gcX10_needs__X10_needs_r2 _ (List.mem_of_getElem? (i := 1) rfl)), List.forall_mem_cons.mpr ⟨(gcX10_needs__X10_needs_r2 _ (List.mem_of_getElem? (i := 2) rfl)), List.forall_mem_cons.mpr ⟨(gcX10_needs__X10_needs_r2 _ (List.mem_of_getElem? (i := 3) rfl)), List.forall_mem_cons.mpr ⟨(gcX10_needs__X10_needs_r2 _ (List.mem_of_getElem? (i := 4) rfl)), List.forall_mem_cons.mpr ⟨(gcX10_needs__X10_needs_r2 _ (List.mem_of_getElem? (i := 5) rfl)), List.forall_mem_cons.mpr ⟨(gcX10_needs__X10_needs_r2 _ (List.mem_of_getElem? (i := 6) rfl)), List.forall_mem_cons.mpr ⟨(gcX10_needs__X10_needs_r2 _ (List.mem_of_getElem? (i := 7) rfl)), List.forall_mem_cons.mpr ⟨(gcX10_needs__X10_needs_r2 _ (List.mem_of_getElem? (i := 8) rfl)), List.forall_mem_cons.mpr ⟨(gcX10_needs__X10_needs_r2 _ (List.mem_of_getElem? (i := 9) rfl)), List.forall_mem_cons.mpr ⟨(gcX10_needs__X10_needs_r2 _ (List.mem_of_getElem? (i := 10) rfl)), fun _ h => (List.not_mem_nil h).elim⟩⟩⟩⟩⟩⟩⟩⟩⟩⟩⟩⟩⟩⟩⟩⟩⟩⟩⟩⟩⟩⟩⟩⟩
theorem gcX10_needs__X10_needs_r3 : ∀ w ∈ wsX10_needs_r3, w ∈ wsX10_needs := fun w h => List.mem_cons_of_mem _ (List.mem_append_left _ (List.mem_append_right _ (List.mem_append_right _ (h))))
set_option maxRecDepth 20000 in
theorem gmX10_needs__X10_looseMany_r2 : ∀ w ∈ wsX10_looseMany_r2, w ∈ wsX10_needs := List.forall_mem_cons.mpr ⟨(gcX10_needs__X10_needs_r2 _ (List.mem_of_getElem? (i := 11) rfl)), List.forall_mem_cons.mpr ⟨(gcX10_needs__X10_needs_r2 _ (List.mem_of_getElem? (i := 12) rfl)), List.forall_mem_cons.mpr ⟨(gcX10_needs__X10_needs_r2 _ (List.mem_of_getElem? (i := 13) rfl)), List.forall_mem_cons.mpr ⟨(gcX10_needs__X10_needs_r2 _ (List.mem_of_getElem? (i := 14) rfl)), List.forall_mem_cons.mpr ⟨(gcX10_needs__X10_needs_r2 _ (List.mem_of_getElem? (i := 15) rfl)), List.forall_mem_cons.mpr ⟨(gcX10_needs__X10_needs_r2 _ (List.mem_of_getElem? (i := 16) rfl)), List.forall_mem_cons.mpr ⟨(gcX10_needs__X10_needs_r2 _ (List.mem_of_getElem? (i := 17) rfl)), List.forall_mem_cons.mpr ⟨(gcX10_needs__X10_needs_r2 _ (List.mem_of_getElem? (i := 18) rfl)), List.forall_mem_cons.mpr ⟨(gcX10_needs__X10_needs_r2 _ (List.mem_of_getElem? (i := 19) rfl)), List.forall_mem_cons.mpr ⟨(gcX10_needs__X10_needs_r2 _ (List.mem_of_getElem? (i := 20) rfl)), List.forall_mem_cons.mpr ⟨(gcX10_needs__X10_needs_r2 _ (List.mem_of_getElem? (i := 21) rfl)), List.forall_mem_cons.mpr ⟨(gcX10_needs__X10_needs_r2 _ (List.mem_of_getElem? (i := 22) rfl)), List.forall_mem_cons.mpr ⟨(gcX10_needs__X10_needs_r2 _ (List.mem_of_getElem? (i := 23) rfl)), List.forall_mem_cons.mpr ⟨(gcX10_needs__X10_needs_r3 _ (List.mem_of_getElem? (i := 0) rfl)), List.forall_mem_cons.mpr ⟨(gcX10_needs__X10_needs_r3 _ (List.mem_of_getElem? (i := 1) rfl)), List.forall_mem_cons.mpr ⟨(gcX10_needs__X10_needs_r3 _ (List.mem_of_getElem? (i := 2) rfl)), List.forall_mem_cons.mpr ⟨(gcX10_needs__X10_needs_r3 _ (List.mem_of_getElem? (i := 3) rfl)), List.forall_mem_cons.mpr ⟨(gcX10_needs__X10_needs_r3 _ (List.mem_of_getElem? (i := 4) rfl)), List.forall_mem_cons.mpr ⟨(gcX10_needs__X10_needs_r3 _ (List.mem_of_getElem? (i := 5) rfl)), List.forall_mem_cons.mpr ⟨(gcX10_needs__X10_needs_r3 _ (List.mem_of_getElem? (i := 6) rfl)), List.forall_mem_cons.mpr ⟨(gcX10_needs__X10_needs_r3 _ (List.mem_of_getElem? (i := 7) rfl)), List.forall_mem_cons.mpr ⟨(gcX10_needs__X10_needs_r3 _ (List.mem_of_getElem? (i := 8) rfl)), List.forall_mem_cons.mpr ⟨(gcX10_needs__X10_needs_r3 _ (List.mem_of_getElem? (i := 9) rfl)), List.forall_mem_cons.mpr ⟨(gcX10_needs__X10_needs_r3 _ (List.mem_of_getElem? (i := 10) rfl)), fun _ h => (List.not_mem_nil h).elim⟩⟩⟩⟩⟩⟩⟩⟩⟩⟩⟩⟩⟩⟩⟩⟩⟩⟩⟩⟩⟩⟩⟩⟩
set_option maxRecDepth 20000 in
theorem gmX10_needs__X10_looseMany_r3 : ∀ w ∈ wsX10_looseMany_r3, w ∈ wsX10_needs := List.forall_mem_cons.mpr ⟨(gcX10_needs__X10_needs_r3 _ (List.mem_of_getElem? (i := 11) rfl)), List.forall_mem_cons.mpr ⟨(gcX10_needs__X10_needs_r3 _ (List.mem_of_getElem? (i := 12) rfl)), List.forall_mem_cons.mpr ⟨(gcX10_needs__X10_needs_r3 _ (List.mem_of_getElem? (i := 13) rfl)), List.forall_mem_cons.mpr ⟨(gcX10_needs__X10_needs_r3 _ (List.mem_of_getElem? (i := 14) rfl)), List.forall_mem_cons.mpr ⟨(gcX10_needs__X10_needs_r3 _ (List.mem_of_getElem? (i := 15) rfl)), List.forall_mem_cons.mpr ⟨(gcX10_needs__X10_needs_r3 _ (List.mem_of_getElem? (i := 16) rfl)), fun _ h => (List.not_mem_nil h).elim⟩⟩⟩⟩⟩⟩
set_option maxRecDepth 20000 in
theorem gwX10_looseMany : wsX10_looseMany.all goodWord = true := by decide +kernel
set_option maxRecDepth 20000 in
theorem ggX10_needs_X10_looseMany : GoodIn wsX10_needs wsX10_looseMany := goodIn_sub (List.forall_mem_cons.mpr ⟨(gcX10_needs__X10_needs_r1 _ (List.mem_of_getElem? (i := 17) rfl)), List.forall_mem_append.mpr ⟨List.forall_mem_append.mpr ⟨gmX10_needs__X10_looseMany_r1, List.forall_mem_append.mpr ⟨gmX10_needs__X10_looseMany_r2, gmX10_needs__X10_looseMany_r3⟩⟩, gcX10_needs__X100⟩⟩) gwX10_looseMany
set_option maxRecDepth 20000 in
theorem gX10_needs_X10_looseMany : GoodIn wsX10_needs (wsV RX10 436 RX10 yX10_looseMany wsX10_looseMany) := goodIn_app (goodIn_sub (List.forall_mem_cons.mpr ⟨(gcX10_needs__X10_needs_r1 _ (List.mem_of_getElem? (i := 14) rfl)), List.forall_mem_cons.mpr ⟨(gcX10_needs__X10_needs_r1 _ (List.mem_of_getElem? (i := 15) rfl)), List.forall_mem_cons.mpr ⟨(gcX10_needs__X10_needs_r1 _ (List.mem_of_getElem? (i := 16) rfl)), List.forall_mem_cons.mpr ⟨(gcX10_needs__X10_needs_r1 _ (List.mem_of_getElem? (i := 4) rfl)), fun _ h => (List.not_mem_nil h).elim⟩⟩⟩⟩) (by decide +kernel)) ggX10_needs_X10_looseMany
theorem dX10_needs_0 : decode cX10_needs 0 = .ok (.aload_n 0, 1) := by decide +kernel
theorem dX10_needs_1 : decode cX10_needs 1 = .ok (.iload_n 1, 1) := by decide +kernel
theorem dX10_needs_2 : decode cX10_needs 2 = .ok (.invokevirtual 433, 3) := by decide +kernel
theorem dX10_needs_5 : decode cX10_needs 5 = .ok (.ifCond .eq 12, 3) := by decide +kernel
theorem dX10_needs_8 : decode cX10_needs 8 = .ok (.aload_n 0, 1) := by decide +kernel
theorem dX10_needs_9 : decode cX10_needs 9 = .ok (.getfield 91, 3) := by decide +kernel
theorem dX10_needs_12 : decode cX10_needs 12 = .ok (.iload_n 1, 1) := by decide +kernel
theorem dX10_needs_13 : decode cX10_needs 13 = .ok (.baload, 1) := by decide +kernel
theorem dX10_needs_14 : decode cX10_needs 14 = .ok (.ifCond .eq 5, 3) := by decide +kernel
theorem dX10_needs_17 : decode cX10_needs 17 = .ok (.iconst (-1), 1) := by decide +kernel
theorem dX10_needs_18 : decode cX10_needs 18 = .ok (.ireturn, 1) := by decide +kernel
theorem dX10_needs_19 : decode cX10_needs 19 = .ok (.aload_n 0, 1) := by decide +kernel
theorem dX10_needs_20 : decode cX10_needs 20 = .ok (.invokevirtual 436, 3) := by decide +kernel
theorem dX10_needs_23 : decode cX10_needs 23 = .ok (.istore_n 2, 1) := by decide +kernel
theorem dX10_needs_24 : decode cX10_needs 24 = .ok (.aload_n 0, 1) := by decide +kernel
theorem dX10_needs_25 : decode cX10_needs 25 = .ok (.getfield 91, 3) := by decide +kernel
theorem dX10_needs_28 : decode cX10_needs 28 = .ok (.iload_n 1, 1) := by decide +kernel
theorem dX10_needs_29 : decode cX10_needs 29 = .ok (.iconst 1, 1) := by decide +kernel
theorem dX10_needs_30 : decode cX10_needs 30 = .ok (.bastore, 1) := by decide +kernel
theorem dX10_needs_31 : decode cX10_needs 31 = .ok (.aload_n 0, 1) := by decide +kernel
theorem dX10_needs_32 : decode cX10_needs 32 = .ok (.invokevirtual 436, 3) := by decide +kernel
theorem dX10_needs_35 : decode cX10_needs 35 = .ok (.istore_n 3, 1) := by decide +kernel
theorem dX10_needs_36 : decode cX10_needs 36 = .ok (.aload_n 0, 1) := by decide +kernel
theorem dX10_needs_37 : decode cX10_needs 37 = .ok (.getfield 91, 3) := by decide +kernel
theorem dX10_needs_40 : decode cX10_needs 40 = .ok (.iload_n 1, 1) := by decide +kernel
theorem dX10_needs_41 : decode cX10_needs 41 = .ok (.iconst 0, 1) := by decide +kernel
theorem dX10_needs_42 : decode cX10_needs 42 = .ok (.bastore, 1) := by decide +kernel
theorem dX10_needs_43 : decode cX10_needs 43 = .ok (.iload_n 3, 1) := by decide +kernel
theorem dX10_needs_44 : decode cX10_needs 44 = .ok (.iload_n 2, 1) := by decide +kernel
theorem dX10_needs_45 : decode cX10_needs 45 = .ok (.isub, 1) := by decide +kernel
theorem dX10_needs_46 : decode cX10_needs 46 = .ok (.ireturn, 1) := by decide +kernel
theorem gcX10_rowsOf__X100 : ∀ w ∈ wsX100, w ∈ wsX10_rowsOf := fun w h => List.mem_cons_of_mem _ (List.mem_append_right _ (h))
set_option maxRecDepth 20000 in
theorem ggX10_rowsOf_X10_rows : GoodIn wsX10_rowsOf wsX10_rows := goodIn_sub (List.forall_mem_cons.mpr ⟨(List.mem_of_getElem? (i := 6) rfl), List.forall_mem_append.mpr ⟨List.forall_mem_cons.mpr ⟨(List.mem_of_getElem? (i := 7) rfl), fun _ h => (List.not_mem_nil h).elim⟩, gcX10_rowsOf__X100⟩⟩) gwX10_rows
set_option maxRecDepth 20000 in
theorem gX10_rowsOf_X10_rows : GoodIn wsX10_rowsOf (wsV RX10 265 RX10 yX10_rows wsX10_rows) := goodIn_app (goodIn_sub (List.forall_mem_cons.mpr ⟨(List.mem_of_getElem? (i := 2) rfl), List.forall_mem_cons.mpr ⟨(List.mem_of_getElem? (i := 3) rfl), List.forall_mem_cons.mpr ⟨(List.mem_of_getElem? (i := 4) rfl), List.forall_mem_cons.mpr ⟨(List.mem_of_getElem? (i := 5) rfl), fun _ h => (List.not_mem_nil h).elim⟩⟩⟩⟩) (by decide +kernel)) ggX10_rowsOf_X10_rows
set_option maxRecDepth 20000 in
theorem ggX10_rowsOf_X10_pictureOf : GoodIn wsX10_rowsOf wsX10_pictureOf := goodIn_sub (List.forall_mem_cons.mpr ⟨(List.mem_of_getElem? (i := 11) rfl), List.forall_mem_append.mpr ⟨List.forall_mem_cons.mpr ⟨(List.mem_of_getElem? (i := 12) rfl), fun _ h => (List.not_mem_nil h).elim⟩, gcX10_rowsOf__X100⟩⟩) gwX10_pictureOf
set_option maxRecDepth 20000 in
theorem gX10_rowsOf_X10_pictureOf : GoodIn wsX10_rowsOf (wsV RX10 274 RX10 yX10_pictureOf wsX10_pictureOf) := goodIn_app (goodIn_sub (List.forall_mem_cons.mpr ⟨(List.mem_of_getElem? (i := 8) rfl), List.forall_mem_cons.mpr ⟨(List.mem_of_getElem? (i := 9) rfl), List.forall_mem_cons.mpr ⟨(List.mem_of_getElem? (i := 10) rfl), List.forall_mem_cons.mpr ⟨(List.mem_of_getElem? (i := 5) rfl), fun _ h => (List.not_mem_nil h).elim⟩⟩⟩⟩) (by decide +kernel)) ggX10_rowsOf_X10_pictureOf
set_option maxRecDepth 20000 in
theorem ggX10_rowsOf_X10_pointOf : GoodIn wsX10_rowsOf wsX10_pointOf := goodIn_sub (List.forall_mem_cons.mpr ⟨(List.mem_of_getElem? (i := 16) rfl), List.forall_mem_append.mpr ⟨List.forall_mem_cons.mpr ⟨(List.mem_of_getElem? (i := 17) rfl), fun _ h => (List.not_mem_nil h).elim⟩, gcX10_rowsOf__X100⟩⟩) gwX10_pointOf
set_option maxRecDepth 20000 in
theorem gX10_rowsOf_X10_pointOf : GoodIn wsX10_rowsOf (wsV RX10 281 RX10 yX10_pointOf wsX10_pointOf) := goodIn_app (goodIn_sub (List.forall_mem_cons.mpr ⟨(List.mem_of_getElem? (i := 13) rfl), List.forall_mem_cons.mpr ⟨(List.mem_of_getElem? (i := 14) rfl), List.forall_mem_cons.mpr ⟨(List.mem_of_getElem? (i := 15) rfl), List.forall_mem_cons.mpr ⟨(List.mem_of_getElem? (i := 5) rfl), fun _ h => (List.not_mem_nil h).elim⟩⟩⟩⟩) (by decide +kernel)) ggX10_rowsOf_X10_pointOf
theorem dX10_rowsOf_0 : decode cX10_rowsOf 0 = .ok (.iconst 0, 1) := by decide +kernel
theorem dX10_rowsOf_1 : decode cX10_rowsOf 1 = .ok (.istore_n 3, 1) := by decide +kernel
theorem dX10_rowsOf_2 : decode cX10_rowsOf 2 = .ok (.iconst 0, 1) := by decide +kernel
theorem dX10_rowsOf_3 : decode cX10_rowsOf 3 = .ok (.istore 4, 2) := by decide +kernel
theorem dX10_rowsOf_5 : decode cX10_rowsOf 5 = .ok (.iload 4, 2) := by decide +kernel
theorem dX10_rowsOf_7 : decode cX10_rowsOf 7 = .ok (.aload_n 0, 1) := by decide +kernel
theorem dX10_rowsOf_8 : decode cX10_rowsOf 8 = .ok (.invokevirtual 265, 3) := by decide +kernel
theorem dX10_rowsOf_11 : decode cX10_rowsOf 11 = .ok (.if_icmp .ge 52, 3) := by decide +kernel
theorem dX10_rowsOf_14 : decode cX10_rowsOf 14 = .ok (.aload_n 0, 1) := by decide +kernel
theorem dX10_rowsOf_15 : decode cX10_rowsOf 15 = .ok (.getfield 91, 3) := by decide +kernel
theorem dX10_rowsOf_18 : decode cX10_rowsOf 18 = .ok (.iload 4, 2) := by decide +kernel
theorem dX10_rowsOf_20 : decode cX10_rowsOf 20 = .ok (.baload, 1) := by decide +kernel
theorem dX10_rowsOf_21 : decode cX10_rowsOf 21 = .ok (.ifCond .ne 36, 3) := by decide +kernel
theorem dX10_rowsOf_24 : decode cX10_rowsOf 24 = .ok (.iload_n 1, 1) := by decide +kernel
theorem dX10_rowsOf_25 : decode cX10_rowsOf 25 = .ok (.iconst (-1), 1) := by decide +kernel
theorem dX10_rowsOf_26 : decode cX10_rowsOf 26 = .ok (.if_icmp .eq 13, 3) := by decide +kernel
theorem dX10_rowsOf_29 : decode cX10_rowsOf 29 = .ok (.aload_n 0, 1) := by decide +kernel
theorem dX10_rowsOf_30 : decode cX10_rowsOf 30 = .ok (.iload 4, 2) := by decide +kernel
theorem dX10_rowsOf_32 : decode cX10_rowsOf 32 = .ok (.invokevirtual 274, 3) := by decide +kernel
theorem dX10_rowsOf_35 : decode cX10_rowsOf 35 = .ok (.iload_n 1, 1) := by decide +kernel
theorem dX10_rowsOf_36 : decode cX10_rowsOf 36 = .ok (.if_icmp .ne 21, 3) := by decide +kernel
theorem dX10_rowsOf_39 : decode cX10_rowsOf 39 = .ok (.iload_n 2, 1) := by decide +kernel
theorem dX10_rowsOf_40 : decode cX10_rowsOf 40 = .ok (.iconst (-1), 1) := by decide +kernel
theorem dX10_rowsOf_41 : decode cX10_rowsOf 41 = .ok (.if_icmp .eq 13, 3) := by decide +kernel
theorem dX10_rowsOf_44 : decode cX10_rowsOf 44 = .ok (.aload_n 0, 1) := by decide +kernel
theorem dX10_rowsOf_45 : decode cX10_rowsOf 45 = .ok (.iload 4, 2) := by decide +kernel
theorem dX10_rowsOf_47 : decode cX10_rowsOf 47 = .ok (.invokevirtual 281, 3) := by decide +kernel
theorem dX10_rowsOf_50 : decode cX10_rowsOf 50 = .ok (.iload_n 2, 1) := by decide +kernel
theorem dX10_rowsOf_51 : decode cX10_rowsOf 51 = .ok (.if_icmp .ne 6, 3) := by decide +kernel
theorem dX10_rowsOf_54 : decode cX10_rowsOf 54 = .ok (.iinc 3 1, 3) := by decide +kernel
theorem dX10_rowsOf_57 : decode cX10_rowsOf 57 = .ok (.iinc 4 1, 3) := by decide +kernel
theorem dX10_rowsOf_60 : decode cX10_rowsOf 60 = .ok (.goto (-55), 3) := by decide +kernel
theorem dX10_rowsOf_63 : decode cX10_rowsOf 63 = .ok (.iload_n 3, 1) := by decide +kernel
theorem dX10_rowsOf_64 : decode cX10_rowsOf 64 = .ok (.ireturn, 1) := by decide +kernel
theorem gcX10_picture__X10_picture_r1 : ∀ w ∈ wsX10_picture_r1, w ∈ wsX10_picture := fun w h => List.mem_cons_of_mem _ (List.mem_append_left _ (List.mem_append_left _ (h)))
theorem gcX10_picture__X100 : ∀ w ∈ wsX100, w ∈ wsX10_picture := fun w h => List.mem_cons_of_mem _ (List.mem_append_right _ (h))
set_option maxRecDepth 20000 in
theorem ggX10_picture_X10_isPicture : GoodIn wsX10_picture wsX10_isPicture := goodIn_sub (List.forall_mem_cons.mpr ⟨(gcX10_picture__X10_picture_r1 _ (List.mem_of_getElem? (i := 8) rfl)), List.forall_mem_append.mpr ⟨List.forall_mem_cons.mpr ⟨(gcX10_picture__X10_picture_r1 _ (List.mem_of_getElem? (i := 9) rfl)), List.forall_mem_cons.mpr ⟨(gcX10_picture__X10_picture_r1 _ (List.mem_of_getElem? (i := 10) rfl)), List.forall_mem_cons.mpr ⟨(gcX10_picture__X10_picture_r1 _ (List.mem_of_getElem? (i := 11) rfl)), List.forall_mem_cons.mpr ⟨(gcX10_picture__X10_picture_r1 _ (List.mem_of_getElem? (i := 7) rfl)), List.forall_mem_cons.mpr ⟨(gcX10_picture__X10_picture_r1 _ (List.mem_of_getElem? (i := 12) rfl)), List.forall_mem_cons.mpr ⟨(gcX10_picture__X10_picture_r1 _ (List.mem_of_getElem? (i := 13) rfl)), List.forall_mem_cons.mpr ⟨(gcX10_picture__X10_picture_r1 _ (List.mem_of_getElem? (i := 14) rfl)), List.forall_mem_cons.mpr ⟨(gcX10_picture__X10_picture_r1 _ (List.mem_of_getElem? (i := 15) rfl)), List.forall_mem_cons.mpr ⟨(gcX10_picture__X10_picture_r1 _ (List.mem_of_getElem? (i := 16) rfl)), fun _ h => (List.not_mem_nil h).elim⟩⟩⟩⟩⟩⟩⟩⟩⟩, gcX10_picture__X100⟩⟩) gwX10_isPicture
set_option maxRecDepth 20000 in
theorem gX10_picture_X10_isPicture : GoodIn wsX10_picture (wsV RX10 427 RX10 yX10_isPicture wsX10_isPicture) := goodIn_app (goodIn_sub (List.forall_mem_cons.mpr ⟨(gcX10_picture__X10_picture_r1 _ (List.mem_of_getElem? (i := 4) rfl)), List.forall_mem_cons.mpr ⟨(gcX10_picture__X10_picture_r1 _ (List.mem_of_getElem? (i := 5) rfl)), List.forall_mem_cons.mpr ⟨(gcX10_picture__X10_picture_r1 _ (List.mem_of_getElem? (i := 6) rfl)), List.forall_mem_cons.mpr ⟨(gcX10_picture__X10_picture_r1 _ (List.mem_of_getElem? (i := 7) rfl)), fun _ h => (List.not_mem_nil h).elim⟩⟩⟩⟩) (by decide +kernel)) ggX10_picture_X10_isPicture
set_option maxRecDepth 20000 in
theorem ggX10_picture_X10_strip : GoodIn wsX10_picture wsX10_strip := goodIn_sub (List.forall_mem_cons.mpr ⟨(gcX10_picture__X10_picture_r1 _ (List.mem_of_getElem? (i := 20) rfl)), List.forall_mem_append.mpr ⟨List.forall_mem_cons.mpr ⟨(gcX10_picture__X10_picture_r1 _ (List.mem_of_getElem? (i := 21) rfl)), fun _ h => (List.not_mem_nil h).elim⟩, gcX10_picture__X100⟩⟩) gwX10_strip
set_option maxRecDepth 20000 in
theorem gX10_picture_X10_strip : GoodIn wsX10_picture (wsV RX10 268 RX10 yX10_strip wsX10_strip) := goodIn_app (goodIn_sub (List.forall_mem_cons.mpr ⟨(gcX10_picture__X10_picture_r1 _ (List.mem_of_getElem? (i := 17) rfl)), List.forall_mem_cons.mpr ⟨(gcX10_picture__X10_picture_r1 _ (List.mem_of_getElem? (i := 18) rfl)), List.forall_mem_cons.mpr ⟨(gcX10_picture__X10_picture_r1 _ (List.mem_of_getElem? (i := 19) rfl)), List.forall_mem_cons.mpr ⟨(gcX10_picture__X10_picture_r1 _ (List.mem_of_getElem? (i := 7) rfl)), fun _ h => (List.not_mem_nil h).elim⟩⟩⟩⟩) (by decide +kernel)) ggX10_picture_X10_strip
theorem gcX10_picture__X10_picture_r2 : ∀ w ∈ wsX10_picture_r2, w ∈ wsX10_picture := fun w h => List.mem_cons_of_mem _ (List.mem_append_left _ (List.mem_append_right _ (List.mem_append_left _ (h))))
set_option maxRecDepth 20000 in
theorem gwX10_rowsOf : wsX10_rowsOf.all goodWord = true := by decide +kernel
set_option maxRecDepth 20000 in
theorem ggX10_picture_X10_rowsOf : GoodIn wsX10_picture wsX10_rowsOf := goodIn_sub (List.forall_mem_cons.mpr ⟨(gcX10_picture__X10_picture_r2 _ (List.mem_of_getElem? (i := 1) rfl)), List.forall_mem_append.mpr ⟨List.forall_mem_cons.mpr ⟨(gcX10_picture__X10_picture_r2 _ (List.mem_of_getElem? (i := 2) rfl)), List.forall_mem_cons.mpr ⟨(gcX10_picture__X10_picture_r2 _ (List.mem_of_getElem? (i := 3) rfl)), List.forall_mem_cons.mpr ⟨(gcX10_picture__X10_picture_r2 _ (List.mem_of_getElem? (i := 4) rfl)), List.forall_mem_cons.mpr ⟨(gcX10_picture__X10_picture_r2 _ (List.mem_of_getElem? (i := 5) rfl)), List.forall_mem_cons.mpr ⟨(gcX10_picture__X10_picture_r1 _ (List.mem_of_getElem? (i := 7) rfl)), List.forall_mem_cons.mpr ⟨(gcX10_picture__X10_picture_r2 _ (List.mem_of_getElem? (i := 6) rfl)), List.forall_mem_cons.mpr ⟨(gcX10_picture__X10_picture_r1 _ (List.mem_of_getElem? (i := 13) rfl)), List.forall_mem_cons.mpr ⟨(gcX10_picture__X10_picture_r2 _ (List.mem_of_getElem? (i := 7) rfl)), List.forall_mem_cons.mpr ⟨(gcX10_picture__X10_picture_r2 _ (List.mem_of_getElem? (i := 8) rfl)), List.forall_mem_cons.mpr ⟨(gcX10_picture__X10_picture_r2 _ (List.mem_of_getElem? (i := 9) rfl)), List.forall_mem_cons.mpr ⟨(gcX10_picture__X10_picture_r2 _ (List.mem_of_getElem? (i := 10) rfl)), List.forall_mem_cons.mpr ⟨(gcX10_picture__X10_picture_r2 _ (List.mem_of_getElem? (i := 11) rfl)), List.forall_mem_cons.mpr ⟨(gcX10_picture__X10_picture_r2 _ (List.mem_of_getElem? (i := 12) rfl)), List.forall_mem_cons.mpr ⟨(gcX10_picture__X10_picture_r2 _ (List.mem_of_getElem? (i := 13) rfl)), List.forall_mem_cons.mpr ⟨(gcX10_picture__X10_picture_r2 _ (List.mem_of_getElem? (i := 14) rfl)), List.forall_mem_cons.mpr ⟨(gcX10_picture__X10_picture_r2 _ (List.mem_of_getElem? (i := 15) rfl)), List.forall_mem_cons.mpr ⟨(gcX10_picture__X10_picture_r2 _ (List.mem_of_getElem? (i := 16) rfl)), fun _ h => (List.not_mem_nil h).elim⟩⟩⟩⟩⟩⟩⟩⟩⟩⟩⟩⟩⟩⟩⟩⟩⟩, gcX10_picture__X100⟩⟩) gwX10_rowsOf
set_option maxRecDepth 20000 in
theorem gX10_picture_X10_rowsOf : GoodIn wsX10_picture (wsV RX10 440 RX10 yX10_rowsOf wsX10_rowsOf) := goodIn_app (goodIn_sub (List.forall_mem_cons.mpr ⟨(gcX10_picture__X10_picture_r1 _ (List.mem_of_getElem? (i := 22) rfl)), List.forall_mem_cons.mpr ⟨(gcX10_picture__X10_picture_r1 _ (List.mem_of_getElem? (i := 23) rfl)), List.forall_mem_cons.mpr ⟨(gcX10_picture__X10_picture_r2 _ (List.mem_of_getElem? (i := 0) rfl)), List.forall_mem_cons.mpr ⟨(gcX10_picture__X10_picture_r1 _ (List.mem_of_getElem? (i := 7) rfl)), fun _ h => (List.not_mem_nil h).elim⟩⟩⟩⟩) (by decide +kernel)) ggX10_picture_X10_rowsOf
theorem gcX10_picture__X10_picture_r3 : ∀ w ∈ wsX10_picture_r3, w ∈ wsX10_picture := fun w h => List.mem_cons_of_mem _ (List.mem_append_left _ (List.mem_append_right _ (List.mem_append_right _ (h))))
set_option maxRecDepth 20000 in
theorem gmX10_picture__X10_hangs_r1 : ∀ w ∈ wsX10_hangs_r1, w ∈ wsX10_picture := List.forall_mem_cons.mpr ⟨(gcX10_picture__X10_picture_r2 _ (List.mem_of_getElem? (i := 21) rfl)), List.forall_mem_cons.mpr ⟨(gcX10_picture__X10_picture_r2 _ (List.mem_of_getElem? (i := 2) rfl)), List.forall_mem_cons.mpr ⟨(gcX10_picture__X10_picture_r2 _ (List.mem_of_getElem? (i := 3) rfl)), List.forall_mem_cons.mpr ⟨(gcX10_picture__X10_picture_r2 _ (List.mem_of_getElem? (i := 4) rfl)), List.forall_mem_cons.mpr ⟨(gcX10_picture__X10_picture_r2 _ (List.mem_of_getElem? (i := 5) rfl)), List.forall_mem_cons.mpr ⟨(gcX10_picture__X10_picture_r1 _ (List.mem_of_getElem? (i := 7) rfl)), List.forall_mem_cons.mpr ⟨(gcX10_picture__X10_picture_r2 _ (List.mem_of_getElem? (i := 6) rfl)), List.forall_mem_cons.mpr ⟨(gcX10_picture__X10_picture_r1 _ (List.mem_of_getElem? (i := 13) rfl)), List.forall_mem_cons.mpr ⟨(gcX10_picture__X10_picture_r2 _ (List.mem_of_getElem? (i := 7) rfl)), List.forall_mem_cons.mpr ⟨(gcX10_picture__X10_picture_r2 _ (List.mem_of_getElem? (i := 8) rfl)), List.forall_mem_cons.mpr ⟨(gcX10_picture__X10_picture_r2 _ (List.mem_of_getElem? (i := 9) rfl)), List.forall_mem_cons.mpr ⟨(gcX10_picture__X10_picture_r2 _ (List.mem_of_getElem? (i := 10) rfl)), List.forall_mem_cons.mpr ⟨(gcX10_picture__X10_picture_r2 _ (List.mem_of_getElem? (i := 11) rfl)), List.forall_mem_cons.mpr ⟨(gcX10_picture__X10_picture_r2 _ (List.mem_of_getElem? (i := 12) rfl)), List.forall_mem_cons.mpr ⟨(gcX10_picture__X10_picture_r2 _ (List.mem_of_getElem? (i := 13) rfl)), List.forall_mem_cons.mpr ⟨(gcX10_picture__X10_picture_r2 _ (List.mem_of_getElem? (i := 14) rfl)), List.forall_mem_cons.mpr ⟨(gcX10_picture__X10_picture_r2 _ (List.mem_of_getElem? (i := 15) rfl)), List.forall_mem_cons.mpr ⟨(gcX10_picture__X10_picture_r2 _ (List.mem_of_getElem? (i := 16) rfl)), List.forall_mem_cons.mpr ⟨(gcX10_picture__X10_picture_r2 _ (List.mem_of_getElem? (i := 22) rfl)), List.forall_mem_cons.mpr ⟨(gcX10_picture__X10_picture_r2 _ (List.mem_of_getElem? (i := 23) rfl)), List.forall_mem_cons.mpr ⟨(gcX10_picture__X10_picture_r3 _ (List.mem_of_getElem? (i := 0) rfl)), List.forall_mem_cons.mpr ⟨(gcX10_picture__X10_picture_r3 _ (List.mem_of_getElem? (i := 1) rfl)), List.forall_mem_cons.mpr ⟨(gcX10_picture__X10_picture_r1 _ (List.mem_of_getElem? (i := 9) rfl)), List.forall_mem_cons.mpr ⟨(gcX10_picture__X10_picture_r1 _ (List.mem_of_getElem? (i := 10) rfl)), fun _ h => (List.not_mem_nil h).elim⟩⟩⟩⟩⟩⟩⟩⟩⟩⟩⟩⟩⟩⟩⟩⟩⟩⟩⟩⟩⟩⟩⟩⟩
set_option maxRecDepth 20000 in
theorem gmX10_picture__X10_hangs_r2 : ∀ w ∈ wsX10_hangs_r2, w ∈ wsX10_picture := List.forall_mem_cons.mpr ⟨(gcX10_picture__X10_picture_r1 _ (List.mem_of_getElem? (i := 11) rfl)), List.forall_mem_cons.mpr ⟨(gcX10_picture__X10_picture_r1 _ (List.mem_of_getElem? (i := 12) rfl)), List.forall_mem_cons.mpr ⟨(gcX10_picture__X10_picture_r3 _ (List.mem_of_getElem? (i := 2) rfl)), List.forall_mem_cons.mpr ⟨(gcX10_picture__X10_picture_r3 _ (List.mem_of_getElem? (i := 3) rfl)), List.forall_mem_cons.mpr ⟨(gcX10_picture__X10_picture_r3 _ (List.mem_of_getElem? (i := 4) rfl)), List.forall_mem_cons.mpr ⟨(gcX10_picture__X10_picture_r3 _ (List.mem_of_getElem? (i := 5) rfl)), List.forall_mem_cons.mpr ⟨(gcX10_picture__X10_picture_r3 _ (List.mem_of_getElem? (i := 6) rfl)), List.forall_mem_cons.mpr ⟨(gcX10_picture__X10_picture_r1 _ (List.mem_of_getElem? (i := 17) rfl)), List.forall_mem_cons.mpr ⟨(gcX10_picture__X10_picture_r1 _ (List.mem_of_getElem? (i := 18) rfl)), List.forall_mem_cons.mpr ⟨(gcX10_picture__X10_picture_r1 _ (List.mem_of_getElem? (i := 19) rfl)), List.forall_mem_cons.mpr ⟨(gcX10_picture__X10_picture_r1 _ (List.mem_of_getElem? (i := 20) rfl)), List.forall_mem_cons.mpr ⟨(gcX10_picture__X10_picture_r1 _ (List.mem_of_getElem? (i := 21) rfl)), fun _ h => (List.not_mem_nil h).elim⟩⟩⟩⟩⟩⟩⟩⟩⟩⟩⟩⟩
set_option maxRecDepth 20000 in
theorem ggX10_picture_X10_hangs : GoodIn wsX10_picture wsX10_hangs := goodIn_sub (List.forall_mem_cons.mpr ⟨(gcX10_picture__X10_picture_r2 _ (List.mem_of_getElem? (i := 20) rfl)), List.forall_mem_append.mpr ⟨List.forall_mem_append.mpr ⟨gmX10_picture__X10_hangs_r1, gmX10_picture__X10_hangs_r2⟩, gcX10_picture__X100⟩⟩) gwX10_hangs
set_option maxRecDepth 20000 in
theorem gX10_picture_X10_hangs : GoodIn wsX10_picture (wsV RX10 421 RX10 yX10_hangs wsX10_hangs) := goodIn_app (goodIn_sub (List.forall_mem_cons.mpr ⟨(gcX10_picture__X10_picture_r2 _ (List.mem_of_getElem? (i := 17) rfl)), List.forall_mem_cons.mpr ⟨(gcX10_picture__X10_picture_r2 _ (List.mem_of_getElem? (i := 18) rfl)), List.forall_mem_cons.mpr ⟨(gcX10_picture__X10_picture_r2 _ (List.mem_of_getElem? (i := 19) rfl)), List.forall_mem_cons.mpr ⟨(gcX10_picture__X10_picture_r1 _ (List.mem_of_getElem? (i := 7) rfl)), fun _ h => (List.not_mem_nil h).elim⟩⟩⟩⟩) (by decide +kernel)) ggX10_picture_X10_hangs
set_option maxRecDepth 20000 in
theorem ggX10_picture_X10_isLoose : GoodIn wsX10_picture wsX10_isLoose := goodIn_sub (List.forall_mem_cons.mpr ⟨(gcX10_picture__X10_picture_r3 _ (List.mem_of_getElem? (i := 10) rfl)), List.forall_mem_append.mpr ⟨List.forall_mem_cons.mpr ⟨(gcX10_picture__X10_picture_r2 _ (List.mem_of_getElem? (i := 21) rfl)), List.forall_mem_cons.mpr ⟨(gcX10_picture__X10_picture_r3 _ (List.mem_of_getElem? (i := 11) rfl)), List.forall_mem_cons.mpr ⟨(gcX10_picture__X10_picture_r3 _ (List.mem_of_getElem? (i := 12) rfl)), List.forall_mem_cons.mpr ⟨(gcX10_picture__X10_picture_r3 _ (List.mem_of_getElem? (i := 13) rfl)), List.forall_mem_cons.mpr ⟨(gcX10_picture__X10_picture_r1 _ (List.mem_of_getElem? (i := 7) rfl)), List.forall_mem_cons.mpr ⟨(gcX10_picture__X10_picture_r3 _ (List.mem_of_getElem? (i := 14) rfl)), List.forall_mem_cons.mpr ⟨(gcX10_picture__X10_picture_r1 _ (List.mem_of_getElem? (i := 13) rfl)), List.forall_mem_cons.mpr ⟨(gcX10_picture__X10_picture_r3 _ (List.mem_of_getElem? (i := 15) rfl)), List.forall_mem_cons.mpr ⟨(gcX10_picture__X10_picture_r3 _ (List.mem_of_getElem? (i := 16) rfl)), List.forall_mem_cons.mpr ⟨(gcX10_picture__X10_picture_r3 _ (List.mem_of_getElem? (i := 17) rfl)), List.forall_mem_cons.mpr ⟨(gcX10_picture__X10_picture_r3 _ (List.mem_of_getElem? (i := 18) rfl)), List.forall_mem_cons.mpr ⟨(gcX10_picture__X10_picture_r3 _ (List.mem_of_getElem? (i := 19) rfl)), List.forall_mem_cons.mpr ⟨(gcX10_picture__X10_picture_r3 _ (List.mem_of_getElem? (i := 20) rfl)), fun _ h => (List.not_mem_nil h).elim⟩⟩⟩⟩⟩⟩⟩⟩⟩⟩⟩⟩⟩, gcX10_picture__X100⟩⟩) gwX10_isLoose
set_option maxRecDepth 20000 in
theorem gX10_picture_X10_isLoose : GoodIn wsX10_picture (wsV RX10 424 RX10 yX10_isLoose wsX10_isLoose) := goodIn_app (goodIn_sub (List.forall_mem_cons.mpr ⟨(gcX10_picture__X10_picture_r3 _ (List.mem_of_getElem? (i := 7) rfl)), List.forall_mem_cons.mpr ⟨(gcX10_picture__X10_picture_r3 _ (List.mem_of_getElem? (i := 8) rfl)), List.forall_mem_cons.mpr ⟨(gcX10_picture__X10_picture_r3 _ (List.mem_of_getElem? (i := 9) rfl)), List.forall_mem_cons.mpr ⟨(gcX10_picture__X10_picture_r1 _ (List.mem_of_getElem? (i := 7) rfl)), fun _ h => (List.not_mem_nil h).elim⟩⟩⟩⟩) (by decide +kernel)) ggX10_picture_X10_isLoose
set_option maxRecDepth 20000 in
theorem ggX10_picture_X10_centreOf : GoodIn wsX10_picture wsX10_centreOf := goodIn_sub (List.forall_mem_cons.mpr ⟨(gcX10_picture__X10_picture_r3 _ (List.mem_of_getElem? (i := 5) rfl)), List.forall_mem_append.mpr ⟨List.forall_mem_cons.mpr ⟨(gcX10_picture__X10_picture_r3 _ (List.mem_of_getElem? (i := 6) rfl)), fun _ h => (List.not_mem_nil h).elim⟩, gcX10_picture__X100⟩⟩) gwX10_centreOf
set_option maxRecDepth 20000 in
theorem gX10_picture_X10_centreOf : GoodIn wsX10_picture (wsV RX10 271 RX10 yX10_centreOf wsX10_centreOf) := goodIn_app (goodIn_sub (List.forall_mem_cons.mpr ⟨(gcX10_picture__X10_picture_r3 _ (List.mem_of_getElem? (i := 2) rfl)), List.forall_mem_cons.mpr ⟨(gcX10_picture__X10_picture_r3 _ (List.mem_of_getElem? (i := 3) rfl)), List.forall_mem_cons.mpr ⟨(gcX10_picture__X10_picture_r3 _ (List.mem_of_getElem? (i := 4) rfl)), List.forall_mem_cons.mpr ⟨(gcX10_picture__X10_picture_r1 _ (List.mem_of_getElem? (i := 7) rfl)), fun _ h => (List.not_mem_nil h).elim⟩⟩⟩⟩) (by decide +kernel)) ggX10_picture_X10_centreOf
theorem dX10_picture_0 : decode cX10_picture 0 = .ok (.aload_n 0, 1) := by decide +kernel
theorem dX10_picture_1 : decode cX10_picture 1 = .ok (.iload_n 1, 1) := by decide +kernel
theorem dX10_picture_2 : decode cX10_picture 2 = .ok (.invokevirtual 427, 3) := by decide +kernel
theorem dX10_picture_5 : decode cX10_picture 5 = .ok (.ifCond .ne 7, 3) := by decide +kernel
theorem dX10_picture_8 : decode cX10_picture 8 = .ok (.ldc_w 439, 3) := by decide +kernel
theorem dX10_picture_11 : decode cX10_picture 11 = .ok (.ireturn, 1) := by decide +kernel
theorem dX10_picture_12 : decode cX10_picture 12 = .ok (.iload_n 2, 1) := by decide +kernel
theorem dX10_picture_13 : decode cX10_picture 13 = .ok (.tableswitch 135 0 7 #[47, 53, 60, 79, 86, 96, 103, 121], 47) := by decide +kernel
theorem dX10_picture_60 : decode cX10_picture 60 = .ok (.aload_n 0, 1) := by decide +kernel
theorem dX10_picture_61 : decode cX10_picture 61 = .ok (.iload_n 1, 1) := by decide +kernel
theorem dX10_picture_62 : decode cX10_picture 62 = .ok (.invokevirtual 268, 3) := by decide +kernel
theorem dX10_picture_65 : decode cX10_picture 65 = .ok (.ireturn, 1) := by decide +kernel
theorem dX10_picture_66 : decode cX10_picture 66 = .ok (.aload_n 0, 1) := by decide +kernel
theorem dX10_picture_67 : decode cX10_picture 67 = .ok (.getfield 98, 3) := by decide +kernel
theorem dX10_picture_70 : decode cX10_picture 70 = .ok (.iload_n 1, 1) := by decide +kernel
theorem dX10_picture_71 : decode cX10_picture 71 = .ok (.iaload, 1) := by decide +kernel
theorem dX10_picture_72 : decode cX10_picture 72 = .ok (.ireturn, 1) := by decide +kernel
theorem dX10_picture_73 : decode cX10_picture 73 = .ok (.aload_n 0, 1) := by decide +kernel
theorem dX10_picture_74 : decode cX10_picture 74 = .ok (.getfield 64, 3) := by decide +kernel
theorem dX10_picture_77 : decode cX10_picture 77 = .ok (.bipush 12, 2) := by decide +kernel
theorem dX10_picture_79 : decode cX10_picture 79 = .ok (.iload_n 1, 1) := by decide +kernel
theorem dX10_picture_80 : decode cX10_picture 80 = .ok (.iadd, 1) := by decide +kernel
theorem dX10_picture_81 : decode cX10_picture 81 = .ok (.iaload, 1) := by decide +kernel
theorem dX10_picture_82 : decode cX10_picture 82 = .ok (.iconst 4, 1) := by decide +kernel
theorem dX10_picture_83 : decode cX10_picture 83 = .ok (.if_icmp .ne 7, 3) := by decide +kernel
theorem dX10_picture_86 : decode cX10_picture 86 = .ok (.iconst 1, 1) := by decide +kernel
theorem dX10_picture_87 : decode cX10_picture 87 = .ok (.goto 4, 3) := by decide +kernel
theorem dX10_picture_90 : decode cX10_picture 90 = .ok (.iconst 0, 1) := by decide +kernel
theorem dX10_picture_91 : decode cX10_picture 91 = .ok (.ireturn, 1) := by decide +kernel
theorem dX10_picture_92 : decode cX10_picture 92 = .ok (.aload_n 0, 1) := by decide +kernel
theorem dX10_picture_93 : decode cX10_picture 93 = .ok (.getfield 101, 3) := by decide +kernel
theorem dX10_picture_96 : decode cX10_picture 96 = .ok (.iload_n 1, 1) := by decide +kernel
theorem dX10_picture_97 : decode cX10_picture 97 = .ok (.iaload, 1) := by decide +kernel
theorem dX10_picture_98 : decode cX10_picture 98 = .ok (.ireturn, 1) := by decide +kernel
theorem dX10_picture_99 : decode cX10_picture 99 = .ok (.aload_n 0, 1) := by decide +kernel
theorem dX10_picture_100 : decode cX10_picture 100 = .ok (.getfield 101, 3) := by decide +kernel
theorem dX10_picture_103 : decode cX10_picture 103 = .ok (.bipush 38, 2) := by decide +kernel
theorem dX10_picture_105 : decode cX10_picture 105 = .ok (.iload_n 1, 1) := by decide +kernel
theorem dX10_picture_106 : decode cX10_picture 106 = .ok (.iadd, 1) := by decide +kernel
theorem dX10_picture_107 : decode cX10_picture 107 = .ok (.iaload, 1) := by decide +kernel
theorem dX10_picture_108 : decode cX10_picture 108 = .ok (.ireturn, 1) := by decide +kernel
theorem dX10_picture_109 : decode cX10_picture 109 = .ok (.aload_n 0, 1) := by decide +kernel
theorem dX10_picture_110 : decode cX10_picture 110 = .ok (.iload_n 1, 1) := by decide +kernel
theorem dX10_picture_111 : decode cX10_picture 111 = .ok (.iconst (-1), 1) := by decide +kernel
theorem dX10_picture_112 : decode cX10_picture 112 = .ok (.invokevirtual 440, 3) := by decide +kernel
theorem dX10_picture_115 : decode cX10_picture 115 = .ok (.ireturn, 1) := by decide +kernel
theorem dX10_picture_116 : decode cX10_picture 116 = .ok (.aload_n 0, 1) := by decide +kernel
theorem dX10_picture_117 : decode cX10_picture 117 = .ok (.invokevirtual 421, 3) := by decide +kernel
theorem dX10_picture_120 : decode cX10_picture 120 = .ok (.aload_n 0, 1) := by decide +kernel
theorem dX10_picture_121 : decode cX10_picture 121 = .ok (.iload_n 1, 1) := by decide +kernel
theorem dX10_picture_122 : decode cX10_picture 122 = .ok (.invokevirtual 424, 3) := by decide +kernel
theorem dX10_picture_125 : decode cX10_picture 125 = .ok (.ifCond .eq 7, 3) := by decide +kernel
theorem dX10_picture_128 : decode cX10_picture 128 = .ok (.iconst 1, 1) := by decide +kernel
theorem dX10_picture_129 : decode cX10_picture 129 = .ok (.goto 4, 3) := by decide +kernel
theorem dX10_picture_132 : decode cX10_picture 132 = .ok (.iconst 0, 1) := by decide +kernel
theorem dX10_picture_133 : decode cX10_picture 133 = .ok (.ireturn, 1) := by decide +kernel
theorem dX10_picture_134 : decode cX10_picture 134 = .ok (.aload_n 0, 1) := by decide +kernel
theorem dX10_picture_135 : decode cX10_picture 135 = .ok (.iload_n 1, 1) := by decide +kernel
theorem dX10_picture_136 : decode cX10_picture 136 = .ok (.invokevirtual 271, 3) := by decide +kernel
theorem dX10_picture_139 : decode cX10_picture 139 = .ok (.ifCond .le 7, 3) := by decide +kernel
theorem dX10_picture_142 : decode cX10_picture 142 = .ok (.iconst 1, 1) := by decide +kernel
theorem dX10_picture_143 : decode cX10_picture 143 = .ok (.goto 4, 3) := by decide +kernel
theorem dX10_picture_146 : decode cX10_picture 146 = .ok (.iconst 0, 1) := by decide +kernel
theorem dX10_picture_147 : decode cX10_picture 147 = .ok (.ireturn, 1) := by decide +kernel
theorem dX10_picture_148 : decode cX10_picture 148 = .ok (.ldc_w 439, 3) := by decide +kernel
theorem dX10_picture_151 : decode cX10_picture 151 = .ok (.ireturn, 1) := by decide +kernel
theorem gcX10_point__X10_point_r1 : ∀ w ∈ wsX10_point_r1, w ∈ wsX10_point := fun w h => List.mem_cons_of_mem _ (List.mem_append_left _ (List.mem_append_left _ (h)))
theorem gcX10_point__X100 : ∀ w ∈ wsX100, w ∈ wsX10_point := fun w h => List.mem_cons_of_mem _ (List.mem_append_right _ (h))
set_option maxRecDepth 20000 in
theorem gwX10_isPoint : wsX10_isPoint.all goodWord = true := by decide +kernel
set_option maxRecDepth 20000 in
theorem ggX10_point_X10_isPoint : GoodIn wsX10_point wsX10_isPoint := goodIn_sub (List.forall_mem_cons.mpr ⟨(gcX10_point__X10_point_r1 _ (List.mem_of_getElem? (i := 7) rfl)), List.forall_mem_append.mpr ⟨List.forall_mem_cons.mpr ⟨(gcX10_point__X10_point_r1 _ (List.mem_of_getElem? (i := 8) rfl)), List.forall_mem_cons.mpr ⟨(gcX10_point__X10_point_r1 _ (List.mem_of_getElem? (i := 9) rfl)), List.forall_mem_cons.mpr ⟨(gcX10_point__X10_point_r1 _ (List.mem_of_getElem? (i := 10) rfl)), List.forall_mem_cons.mpr ⟨(gcX10_point__X10_point_r1 _ (List.mem_of_getElem? (i := 6) rfl)), List.forall_mem_cons.mpr ⟨(gcX10_point__X10_point_r1 _ (List.mem_of_getElem? (i := 11) rfl)), List.forall_mem_cons.mpr ⟨(gcX10_point__X10_point_r1 _ (List.mem_of_getElem? (i := 12) rfl)), List.forall_mem_cons.mpr ⟨(gcX10_point__X10_point_r1 _ (List.mem_of_getElem? (i := 13) rfl)), List.forall_mem_cons.mpr ⟨(gcX10_point__X10_point_r1 _ (List.mem_of_getElem? (i := 14) rfl)), List.forall_mem_cons.mpr ⟨(gcX10_point__X10_point_r1 _ (List.mem_of_getElem? (i := 15) rfl)), fun _ h => (List.not_mem_nil h).elim⟩⟩⟩⟩⟩⟩⟩⟩⟩, gcX10_point__X100⟩⟩) gwX10_isPoint
set_option maxRecDepth 20000 in
theorem gX10_point_X10_isPoint : GoodIn wsX10_point (wsV RX10 443 RX10 yX10_isPoint wsX10_isPoint) := goodIn_app (goodIn_sub (List.forall_mem_cons.mpr ⟨(gcX10_point__X10_point_r1 _ (List.mem_of_getElem? (i := 3) rfl)), List.forall_mem_cons.mpr ⟨(gcX10_point__X10_point_r1 _ (List.mem_of_getElem? (i := 4) rfl)), List.forall_mem_cons.mpr ⟨(gcX10_point__X10_point_r1 _ (List.mem_of_getElem? (i := 5) rfl)), List.forall_mem_cons.mpr ⟨(gcX10_point__X10_point_r1 _ (List.mem_of_getElem? (i := 6) rfl)), fun _ h => (List.not_mem_nil h).elim⟩⟩⟩⟩) (by decide +kernel)) ggX10_point_X10_isPoint
theorem gcX10_point__X10_point_r2 : ∀ w ∈ wsX10_point_r2, w ∈ wsX10_point := fun w h => List.mem_cons_of_mem _ (List.mem_append_left _ (List.mem_append_right _ (List.mem_append_left _ (h))))
set_option maxRecDepth 20000 in
theorem ggX10_point_X10_rowsOf : GoodIn wsX10_point wsX10_rowsOf := goodIn_sub (List.forall_mem_cons.mpr ⟨(gcX10_point__X10_point_r1 _ (List.mem_of_getElem? (i := 19) rfl)), List.forall_mem_append.mpr ⟨List.forall_mem_cons.mpr ⟨(gcX10_point__X10_point_r1 _ (List.mem_of_getElem? (i := 20) rfl)), List.forall_mem_cons.mpr ⟨(gcX10_point__X10_point_r1 _ (List.mem_of_getElem? (i := 21) rfl)), List.forall_mem_cons.mpr ⟨(gcX10_point__X10_point_r1 _ (List.mem_of_getElem? (i := 22) rfl)), List.forall_mem_cons.mpr ⟨(gcX10_point__X10_point_r1 _ (List.mem_of_getElem? (i := 23) rfl)), List.forall_mem_cons.mpr ⟨(gcX10_point__X10_point_r1 _ (List.mem_of_getElem? (i := 6) rfl)), List.forall_mem_cons.mpr ⟨(gcX10_point__X10_point_r2 _ (List.mem_of_getElem? (i := 0) rfl)), List.forall_mem_cons.mpr ⟨(gcX10_point__X10_point_r1 _ (List.mem_of_getElem? (i := 12) rfl)), List.forall_mem_cons.mpr ⟨(gcX10_point__X10_point_r2 _ (List.mem_of_getElem? (i := 1) rfl)), List.forall_mem_cons.mpr ⟨(gcX10_point__X10_point_r2 _ (List.mem_of_getElem? (i := 2) rfl)), List.forall_mem_cons.mpr ⟨(gcX10_point__X10_point_r2 _ (List.mem_of_getElem? (i := 3) rfl)), List.forall_mem_cons.mpr ⟨(gcX10_point__X10_point_r2 _ (List.mem_of_getElem? (i := 4) rfl)), List.forall_mem_cons.mpr ⟨(gcX10_point__X10_point_r2 _ (List.mem_of_getElem? (i := 5) rfl)), List.forall_mem_cons.mpr ⟨(gcX10_point__X10_point_r2 _ (List.mem_of_getElem? (i := 6) rfl)), List.forall_mem_cons.mpr ⟨(gcX10_point__X10_point_r2 _ (List.mem_of_getElem? (i := 7) rfl)), List.forall_mem_cons.mpr ⟨(gcX10_point__X10_point_r2 _ (List.mem_of_getElem? (i := 8) rfl)), List.forall_mem_cons.mpr ⟨(gcX10_point__X10_point_r2 _ (List.mem_of_getElem? (i := 9) rfl)), List.forall_mem_cons.mpr ⟨(gcX10_point__X10_point_r2 _ (List.mem_of_getElem? (i := 10) rfl)), fun _ h => (List.not_mem_nil h).elim⟩⟩⟩⟩⟩⟩⟩⟩⟩⟩⟩⟩⟩⟩⟩⟩⟩, gcX10_point__X100⟩⟩) gwX10_rowsOf
set_option maxRecDepth 20000 in
theorem gX10_point_X10_rowsOf : GoodIn wsX10_point (wsV RX10 440 RX10 yX10_rowsOf wsX10_rowsOf) := goodIn_app (goodIn_sub (List.forall_mem_cons.mpr ⟨(gcX10_point__X10_point_r1 _ (List.mem_of_getElem? (i := 16) rfl)), List.forall_mem_cons.mpr ⟨(gcX10_point__X10_point_r1 _ (List.mem_of_getElem? (i := 17) rfl)), List.forall_mem_cons.mpr ⟨(gcX10_point__X10_point_r1 _ (List.mem_of_getElem? (i := 18) rfl)), List.forall_mem_cons.mpr ⟨(gcX10_point__X10_point_r1 _ (List.mem_of_getElem? (i := 6) rfl)), fun _ h => (List.not_mem_nil h).elim⟩⟩⟩⟩) (by decide +kernel)) ggX10_point_X10_rowsOf
set_option maxRecDepth 20000 in
theorem ggX10_point_X10_isControl : GoodIn wsX10_point wsX10_isControl := goodIn_sub (List.forall_mem_cons.mpr ⟨(gcX10_point__X10_point_r2 _ (List.mem_of_getElem? (i := 14) rfl)), List.forall_mem_append.mpr ⟨List.forall_mem_cons.mpr ⟨(gcX10_point__X10_point_r1 _ (List.mem_of_getElem? (i := 2) rfl)), List.forall_mem_cons.mpr ⟨(gcX10_point__X10_point_r2 _ (List.mem_of_getElem? (i := 15) rfl)), fun _ h => (List.not_mem_nil h).elim⟩⟩, gcX10_point__X100⟩⟩) gwX10_isControl
set_option maxRecDepth 20000 in
theorem gX10_point_X10_isControl : GoodIn wsX10_point (wsV RX10 287 RX10 yX10_isControl wsX10_isControl) := goodIn_app (goodIn_sub (List.forall_mem_cons.mpr ⟨(gcX10_point__X10_point_r2 _ (List.mem_of_getElem? (i := 11) rfl)), List.forall_mem_cons.mpr ⟨(gcX10_point__X10_point_r2 _ (List.mem_of_getElem? (i := 12) rfl)), List.forall_mem_cons.mpr ⟨(gcX10_point__X10_point_r2 _ (List.mem_of_getElem? (i := 13) rfl)), List.forall_mem_cons.mpr ⟨(gcX10_point__X10_point_r1 _ (List.mem_of_getElem? (i := 6) rfl)), fun _ h => (List.not_mem_nil h).elim⟩⟩⟩⟩) (by decide +kernel)) ggX10_point_X10_isControl
theorem gcX10_point__X10_point_r3 : ∀ w ∈ wsX10_point_r3, w ∈ wsX10_point := fun w h => List.mem_cons_of_mem _ (List.mem_append_left _ (List.mem_append_right _ (List.mem_append_right _ (h))))
set_option maxRecDepth 20000 in
theorem gmX10_point__X10_hangs_r1 : ∀ w ∈ wsX10_hangs_r1, w ∈ wsX10_point := List.forall_mem_cons.mpr ⟨(gcX10_point__X10_point_r2 _ (List.mem_of_getElem? (i := 20) rfl)), List.forall_mem_cons.mpr ⟨(gcX10_point__X10_point_r1 _ (List.mem_of_getElem? (i := 20) rfl)), List.forall_mem_cons.mpr ⟨(gcX10_point__X10_point_r1 _ (List.mem_of_getElem? (i := 21) rfl)), List.forall_mem_cons.mpr ⟨(gcX10_point__X10_point_r1 _ (List.mem_of_getElem? (i := 22) rfl)), List.forall_mem_cons.mpr ⟨(gcX10_point__X10_point_r1 _ (List.mem_of_getElem? (i := 23) rfl)), List.forall_mem_cons.mpr ⟨(gcX10_point__X10_point_r1 _ (List.mem_of_getElem? (i := 6) rfl)), List.forall_mem_cons.mpr ⟨(gcX10_point__X10_point_r2 _ (List.mem_of_getElem? (i := 0) rfl)), List.forall_mem_cons.mpr ⟨(gcX10_point__X10_point_r1 _ (List.mem_of_getElem? (i := 12) rfl)), List.forall_mem_cons.mpr ⟨(gcX10_point__X10_point_r2 _ (List.mem_of_getElem? (i := 1) rfl)), List.forall_mem_cons.mpr ⟨(gcX10_point__X10_point_r2 _ (List.mem_of_getElem? (i := 2) rfl)), List.forall_mem_cons.mpr ⟨(gcX10_point__X10_point_r2 _ (List.mem_of_getElem? (i := 3) rfl)), List.forall_mem_cons.mpr ⟨(gcX10_point__X10_point_r2 _ (List.mem_of_getElem? (i := 4) rfl)), List.forall_mem_cons.mpr ⟨(gcX10_point__X10_point_r2 _ (List.mem_of_getElem? (i := 5) rfl)), List.forall_mem_cons.mpr ⟨(gcX10_point__X10_point_r2 _ (List.mem_of_getElem? (i := 6) rfl)), List.forall_mem_cons.mpr ⟨(gcX10_point__X10_point_r2 _ (List.mem_of_getElem? (i := 7) rfl)), List.forall_mem_cons.mpr ⟨(gcX10_point__X10_point_r2 _ (List.mem_of_getElem? (i := 8) rfl)), List.forall_mem_cons.mpr ⟨(gcX10_point__X10_point_r2 _ (List.mem_of_getElem? (i := 9) rfl)), List.forall_mem_cons.mpr ⟨(gcX10_point__X10_point_r2 _ (List.mem_of_getElem? (i := 10) rfl)), List.forall_mem_cons.mpr ⟨(gcX10_point__X10_point_r2 _ (List.mem_of_getElem? (i := 21) rfl)), List.forall_mem_cons.mpr ⟨(gcX10_point__X10_point_r2 _ (List.mem_of_getElem? (i := 22) rfl)), List.forall_mem_cons.mpr ⟨(gcX10_point__X10_point_r2 _ (List.mem_of_getElem? (i := 23) rfl)), List.forall_mem_cons.mpr ⟨(gcX10_point__X10_point_r3 _ (List.mem_of_getElem? (i := 0) rfl)), List.forall_mem_cons.mpr ⟨(gcX10_point__X10_point_r3 _ (List.mem_of_getElem? (i := 1) rfl)), List.forall_mem_cons.mpr ⟨(gcX10_point__X10_point_r3 _ (List.mem_of_getElem? (i := 2) rfl)), fun _ h => (List.not_mem_nil h).elim⟩⟩⟩⟩⟩⟩⟩⟩⟩⟩⟩⟩⟩⟩⟩⟩⟩⟩⟩⟩⟩⟩⟩⟩
set_option maxRecDepth 20000 in
theorem gmX10_point__X10_hangs_r2 : ∀ w ∈ wsX10_hangs_r2, w ∈ wsX10_point := List.forall_mem_cons.mpr ⟨(gcX10_point__X10_point_r3 _ (List.mem_of_getElem? (i := 3) rfl)), List.forall_mem_cons.mpr ⟨(gcX10_point__X10_point_r3 _ (List.mem_of_getElem? (i := 4) rfl)), List.forall_mem_cons.mpr ⟨(gcX10_point__X10_point_r3 _ (List.mem_of_getElem? (i := 5) rfl)), List.forall_mem_cons.mpr ⟨(gcX10_point__X10_point_r3 _ (List.mem_of_getElem? (i := 6) rfl)), List.forall_mem_cons.mpr ⟨(gcX10_point__X10_point_r3 _ (List.mem_of_getElem? (i := 7) rfl)), List.forall_mem_cons.mpr ⟨(gcX10_point__X10_point_r3 _ (List.mem_of_getElem? (i := 8) rfl)), List.forall_mem_cons.mpr ⟨(gcX10_point__X10_point_r3 _ (List.mem_of_getElem? (i := 9) rfl)), List.forall_mem_cons.mpr ⟨(gcX10_point__X10_point_r3 _ (List.mem_of_getElem? (i := 10) rfl)), List.forall_mem_cons.mpr ⟨(gcX10_point__X10_point_r3 _ (List.mem_of_getElem? (i := 11) rfl)), List.forall_mem_cons.mpr ⟨(gcX10_point__X10_point_r3 _ (List.mem_of_getElem? (i := 12) rfl)), List.forall_mem_cons.mpr ⟨(gcX10_point__X10_point_r3 _ (List.mem_of_getElem? (i := 13) rfl)), List.forall_mem_cons.mpr ⟨(gcX10_point__X10_point_r3 _ (List.mem_of_getElem? (i := 14) rfl)), fun _ h => (List.not_mem_nil h).elim⟩⟩⟩⟩⟩⟩⟩⟩⟩⟩⟩⟩
set_option maxRecDepth 20000 in
theorem ggX10_point_X10_hangs : GoodIn wsX10_point wsX10_hangs := goodIn_sub (List.forall_mem_cons.mpr ⟨(gcX10_point__X10_point_r2 _ (List.mem_of_getElem? (i := 19) rfl)), List.forall_mem_append.mpr ⟨List.forall_mem_append.mpr ⟨gmX10_point__X10_hangs_r1, gmX10_point__X10_hangs_r2⟩, gcX10_point__X100⟩⟩) gwX10_hangs
set_option maxRecDepth 20000 in
theorem gX10_point_X10_hangs : GoodIn wsX10_point (wsV RX10 421 RX10 yX10_hangs wsX10_hangs) := goodIn_app (goodIn_sub (List.forall_mem_cons.mpr ⟨(gcX10_point__X10_point_r2 _ (List.mem_of_getElem? (i := 16) rfl)), List.forall_mem_cons.mpr ⟨(gcX10_point__X10_point_r2 _ (List.mem_of_getElem? (i := 17) rfl)), List.forall_mem_cons.mpr ⟨(gcX10_point__X10_point_r2 _ (List.mem_of_getElem? (i := 18) rfl)), List.forall_mem_cons.mpr ⟨(gcX10_point__X10_point_r1 _ (List.mem_of_getElem? (i := 6) rfl)), fun _ h => (List.not_mem_nil h).elim⟩⟩⟩⟩) (by decide +kernel)) ggX10_point_X10_hangs
set_option maxRecDepth 20000 in
theorem ggX10_point_X10_isLoose : GoodIn wsX10_point wsX10_isLoose := goodIn_sub (List.forall_mem_cons.mpr ⟨(gcX10_point__X10_point_r3 _ (List.mem_of_getElem? (i := 18) rfl)), List.forall_mem_append.mpr ⟨List.forall_mem_cons.mpr ⟨(gcX10_point__X10_point_r2 _ (List.mem_of_getElem? (i := 20) rfl)), List.forall_mem_cons.mpr ⟨(gcX10_point__X10_point_r1 _ (List.mem_of_getElem? (i := 8) rfl)), List.forall_mem_cons.mpr ⟨(gcX10_point__X10_point_r1 _ (List.mem_of_getElem? (i := 9) rfl)), List.forall_mem_cons.mpr ⟨(gcX10_point__X10_point_r1 _ (List.mem_of_getElem? (i := 10) rfl)), List.forall_mem_cons.mpr ⟨(gcX10_point__X10_point_r1 _ (List.mem_of_getElem? (i := 6) rfl)), List.forall_mem_cons.mpr ⟨(gcX10_point__X10_point_r1 _ (List.mem_of_getElem? (i := 11) rfl)), List.forall_mem_cons.mpr ⟨(gcX10_point__X10_point_r1 _ (List.mem_of_getElem? (i := 12) rfl)), List.forall_mem_cons.mpr ⟨(gcX10_point__X10_point_r2 _ (List.mem_of_getElem? (i := 11) rfl)), List.forall_mem_cons.mpr ⟨(gcX10_point__X10_point_r2 _ (List.mem_of_getElem? (i := 12) rfl)), List.forall_mem_cons.mpr ⟨(gcX10_point__X10_point_r2 _ (List.mem_of_getElem? (i := 13) rfl)), List.forall_mem_cons.mpr ⟨(gcX10_point__X10_point_r2 _ (List.mem_of_getElem? (i := 14) rfl)), List.forall_mem_cons.mpr ⟨(gcX10_point__X10_point_r1 _ (List.mem_of_getElem? (i := 2) rfl)), List.forall_mem_cons.mpr ⟨(gcX10_point__X10_point_r2 _ (List.mem_of_getElem? (i := 15) rfl)), fun _ h => (List.not_mem_nil h).elim⟩⟩⟩⟩⟩⟩⟩⟩⟩⟩⟩⟩⟩, gcX10_point__X100⟩⟩) gwX10_isLoose
set_option maxRecDepth 20000 in
theorem gX10_point_X10_isLoose : GoodIn wsX10_point (wsV RX10 424 RX10 yX10_isLoose wsX10_isLoose) := goodIn_app (goodIn_sub (List.forall_mem_cons.mpr ⟨(gcX10_point__X10_point_r3 _ (List.mem_of_getElem? (i := 15) rfl)), List.forall_mem_cons.mpr ⟨(gcX10_point__X10_point_r3 _ (List.mem_of_getElem? (i := 16) rfl)), List.forall_mem_cons.mpr ⟨(gcX10_point__X10_point_r3 _ (List.mem_of_getElem? (i := 17) rfl)), List.forall_mem_cons.mpr ⟨(gcX10_point__X10_point_r1 _ (List.mem_of_getElem? (i := 6) rfl)), fun _ h => (List.not_mem_nil h).elim⟩⟩⟩⟩) (by decide +kernel)) ggX10_point_X10_isLoose
theorem dX10_point_0 : decode cX10_point 0 = .ok (.aload_n 0, 1) := by decide +kernel
theorem dX10_point_1 : decode cX10_point 1 = .ok (.iload_n 1, 1) := by decide +kernel
theorem dX10_point_2 : decode cX10_point 2 = .ok (.invokevirtual 443, 3) := by decide +kernel
theorem dX10_point_5 : decode cX10_point 5 = .ok (.ifCond .ne 7, 3) := by decide +kernel
theorem dX10_point_8 : decode cX10_point 8 = .ok (.ldc_w 439, 3) := by decide +kernel
theorem dX10_point_11 : decode cX10_point 11 = .ok (.ireturn, 1) := by decide +kernel
theorem dX10_point_12 : decode cX10_point 12 = .ok (.iload_n 2, 1) := by decide +kernel
theorem dX10_point_13 : decode cX10_point 13 = .ok (.tableswitch 119 0 5 #[39, 49, 59, 66, 84, 98], 39) := by decide +kernel
theorem dX10_point_52 : decode cX10_point 52 = .ok (.aload_n 0, 1) := by decide +kernel
theorem dX10_point_53 : decode cX10_point 53 = .ok (.getfield 101, 3) := by decide +kernel
theorem dX10_point_56 : decode cX10_point 56 = .ok (.bipush 12, 2) := by decide +kernel
theorem dX10_point_58 : decode cX10_point 58 = .ok (.iload_n 1, 1) := by decide +kernel
theorem dX10_point_59 : decode cX10_point 59 = .ok (.iadd, 1) := by decide +kernel
theorem dX10_point_60 : decode cX10_point 60 = .ok (.iaload, 1) := by decide +kernel
theorem dX10_point_61 : decode cX10_point 61 = .ok (.ireturn, 1) := by decide +kernel
theorem dX10_point_62 : decode cX10_point 62 = .ok (.aload_n 0, 1) := by decide +kernel
theorem dX10_point_63 : decode cX10_point 63 = .ok (.getfield 101, 3) := by decide +kernel
theorem dX10_point_66 : decode cX10_point 66 = .ok (.bipush 50, 2) := by decide +kernel
theorem dX10_point_68 : decode cX10_point 68 = .ok (.iload_n 1, 1) := by decide +kernel
theorem dX10_point_69 : decode cX10_point 69 = .ok (.iadd, 1) := by decide +kernel
theorem dX10_point_70 : decode cX10_point 70 = .ok (.iaload, 1) := by decide +kernel
theorem dX10_point_71 : decode cX10_point 71 = .ok (.ireturn, 1) := by decide +kernel
theorem dX10_point_72 : decode cX10_point 72 = .ok (.aload_n 0, 1) := by decide +kernel
theorem dX10_point_73 : decode cX10_point 73 = .ok (.iconst (-1), 1) := by decide +kernel
theorem dX10_point_74 : decode cX10_point 74 = .ok (.iload_n 1, 1) := by decide +kernel
theorem dX10_point_75 : decode cX10_point 75 = .ok (.invokevirtual 440, 3) := by decide +kernel
theorem dX10_point_78 : decode cX10_point 78 = .ok (.ireturn, 1) := by decide +kernel
theorem dX10_point_79 : decode cX10_point 79 = .ok (.aload_n 0, 1) := by decide +kernel
theorem dX10_point_80 : decode cX10_point 80 = .ok (.getfield 73, 3) := by decide +kernel
theorem dX10_point_83 : decode cX10_point 83 = .ok (.bipush 20, 2) := by decide +kernel
theorem dX10_point_85 : decode cX10_point 85 = .ok (.iload_n 1, 1) := by decide +kernel
theorem dX10_point_86 : decode cX10_point 86 = .ok (.iadd, 1) := by decide +kernel
theorem dX10_point_87 : decode cX10_point 87 = .ok (.iaload, 1) := by decide +kernel
theorem dX10_point_88 : decode cX10_point 88 = .ok (.ifCond .eq 7, 3) := by decide +kernel
theorem dX10_point_91 : decode cX10_point 91 = .ok (.iconst 1, 1) := by decide +kernel
theorem dX10_point_92 : decode cX10_point 92 = .ok (.goto 4, 3) := by decide +kernel
theorem dX10_point_95 : decode cX10_point 95 = .ok (.iconst 0, 1) := by decide +kernel
theorem dX10_point_96 : decode cX10_point 96 = .ok (.ireturn, 1) := by decide +kernel
theorem dX10_point_97 : decode cX10_point 97 = .ok (.aload_n 0, 1) := by decide +kernel
theorem dX10_point_98 : decode cX10_point 98 = .ok (.iload_n 1, 1) := by decide +kernel
theorem dX10_point_99 : decode cX10_point 99 = .ok (.invokevirtual 287, 3) := by decide +kernel
theorem dX10_point_102 : decode cX10_point 102 = .ok (.ifCond .eq 7, 3) := by decide +kernel
theorem dX10_point_105 : decode cX10_point 105 = .ok (.iconst 1, 1) := by decide +kernel
theorem dX10_point_106 : decode cX10_point 106 = .ok (.goto 4, 3) := by decide +kernel
theorem dX10_point_109 : decode cX10_point 109 = .ok (.iconst 0, 1) := by decide +kernel
theorem dX10_point_110 : decode cX10_point 110 = .ok (.ireturn, 1) := by decide +kernel
theorem dX10_point_111 : decode cX10_point 111 = .ok (.aload_n 0, 1) := by decide +kernel
theorem dX10_point_112 : decode cX10_point 112 = .ok (.invokevirtual 421, 3) := by decide +kernel
theorem dX10_point_115 : decode cX10_point 115 = .ok (.aload_n 0, 1) := by decide +kernel
theorem dX10_point_116 : decode cX10_point 116 = .ok (.bipush 12, 2) := by decide +kernel
theorem dX10_point_118 : decode cX10_point 118 = .ok (.iload_n 1, 1) := by decide +kernel
theorem dX10_point_119 : decode cX10_point 119 = .ok (.iadd, 1) := by decide +kernel
theorem dX10_point_120 : decode cX10_point 120 = .ok (.invokevirtual 424, 3) := by decide +kernel
theorem dX10_point_123 : decode cX10_point 123 = .ok (.ifCond .eq 7, 3) := by decide +kernel
theorem dX10_point_126 : decode cX10_point 126 = .ok (.iconst 1, 1) := by decide +kernel
theorem dX10_point_127 : decode cX10_point 127 = .ok (.goto 4, 3) := by decide +kernel
theorem dX10_point_130 : decode cX10_point 130 = .ok (.iconst 0, 1) := by decide +kernel
theorem dX10_point_131 : decode cX10_point 131 = .ok (.ireturn, 1) := by decide +kernel
theorem dX10_point_132 : decode cX10_point 132 = .ok (.ldc_w 439, 3) := by decide +kernel
theorem dX10_point_135 : decode cX10_point 135 = .ok (.ireturn, 1) := by decide +kernel
theorem gcX10_row__X10_row_r1 : ∀ w ∈ wsX10_row_r1, w ∈ wsX10_row := fun w h => List.mem_cons_of_mem _ (List.mem_append_left _ (List.mem_append_left _ (h)))
theorem gcX10_row__X100 : ∀ w ∈ wsX100, w ∈ wsX10_row := fun w h => List.mem_cons_of_mem _ (List.mem_append_right _ (h))
set_option maxRecDepth 20000 in
theorem ggX10_row_X10_isRow : GoodIn wsX10_row wsX10_isRow := goodIn_sub (List.forall_mem_cons.mpr ⟨(gcX10_row__X10_row_r1 _ (List.mem_of_getElem? (i := 7) rfl)), List.forall_mem_append.mpr ⟨List.forall_mem_cons.mpr ⟨(gcX10_row__X10_row_r1 _ (List.mem_of_getElem? (i := 8) rfl)), List.forall_mem_cons.mpr ⟨(gcX10_row__X10_row_r1 _ (List.mem_of_getElem? (i := 9) rfl)), List.forall_mem_cons.mpr ⟨(gcX10_row__X10_row_r1 _ (List.mem_of_getElem? (i := 10) rfl)), List.forall_mem_cons.mpr ⟨(gcX10_row__X10_row_r1 _ (List.mem_of_getElem? (i := 6) rfl)), List.forall_mem_cons.mpr ⟨(gcX10_row__X10_row_r1 _ (List.mem_of_getElem? (i := 11) rfl)), List.forall_mem_cons.mpr ⟨(gcX10_row__X10_row_r1 _ (List.mem_of_getElem? (i := 12) rfl)), List.forall_mem_cons.mpr ⟨(gcX10_row__X10_row_r1 _ (List.mem_of_getElem? (i := 13) rfl)), List.forall_mem_cons.mpr ⟨(gcX10_row__X10_row_r1 _ (List.mem_of_getElem? (i := 14) rfl)), List.forall_mem_cons.mpr ⟨(gcX10_row__X10_row_r1 _ (List.mem_of_getElem? (i := 15) rfl)), fun _ h => (List.not_mem_nil h).elim⟩⟩⟩⟩⟩⟩⟩⟩⟩, gcX10_row__X100⟩⟩) gwX10_isRow
set_option maxRecDepth 20000 in
theorem gX10_row_X10_isRow : GoodIn wsX10_row (wsV RX10 433 RX10 yX10_isRow wsX10_isRow) := goodIn_app (goodIn_sub (List.forall_mem_cons.mpr ⟨(gcX10_row__X10_row_r1 _ (List.mem_of_getElem? (i := 3) rfl)), List.forall_mem_cons.mpr ⟨(gcX10_row__X10_row_r1 _ (List.mem_of_getElem? (i := 4) rfl)), List.forall_mem_cons.mpr ⟨(gcX10_row__X10_row_r1 _ (List.mem_of_getElem? (i := 5) rfl)), List.forall_mem_cons.mpr ⟨(gcX10_row__X10_row_r1 _ (List.mem_of_getElem? (i := 6) rfl)), fun _ h => (List.not_mem_nil h).elim⟩⟩⟩⟩) (by decide +kernel)) ggX10_row_X10_isRow
set_option maxRecDepth 20000 in
theorem ggX10_row_X10_pictureOf : GoodIn wsX10_row wsX10_pictureOf := goodIn_sub (List.forall_mem_cons.mpr ⟨(gcX10_row__X10_row_r1 _ (List.mem_of_getElem? (i := 19) rfl)), List.forall_mem_append.mpr ⟨List.forall_mem_cons.mpr ⟨(gcX10_row__X10_row_r1 _ (List.mem_of_getElem? (i := 20) rfl)), fun _ h => (List.not_mem_nil h).elim⟩, gcX10_row__X100⟩⟩) gwX10_pictureOf
set_option maxRecDepth 20000 in
theorem gX10_row_X10_pictureOf : GoodIn wsX10_row (wsV RX10 274 RX10 yX10_pictureOf wsX10_pictureOf) := goodIn_app (goodIn_sub (List.forall_mem_cons.mpr ⟨(gcX10_row__X10_row_r1 _ (List.mem_of_getElem? (i := 16) rfl)), List.forall_mem_cons.mpr ⟨(gcX10_row__X10_row_r1 _ (List.mem_of_getElem? (i := 17) rfl)), List.forall_mem_cons.mpr ⟨(gcX10_row__X10_row_r1 _ (List.mem_of_getElem? (i := 18) rfl)), List.forall_mem_cons.mpr ⟨(gcX10_row__X10_row_r1 _ (List.mem_of_getElem? (i := 6) rfl)), fun _ h => (List.not_mem_nil h).elim⟩⟩⟩⟩) (by decide +kernel)) ggX10_row_X10_pictureOf
theorem gcX10_row__X10_row_r2 : ∀ w ∈ wsX10_row_r2, w ∈ wsX10_row := fun w h => List.mem_cons_of_mem _ (List.mem_append_left _ (List.mem_append_right _ (List.mem_append_left _ (h))))
set_option maxRecDepth 20000 in
theorem ggX10_row_X10_pointOf : GoodIn wsX10_row wsX10_pointOf := goodIn_sub (List.forall_mem_cons.mpr ⟨(gcX10_row__X10_row_r2 _ (List.mem_of_getElem? (i := 0) rfl)), List.forall_mem_append.mpr ⟨List.forall_mem_cons.mpr ⟨(gcX10_row__X10_row_r2 _ (List.mem_of_getElem? (i := 1) rfl)), fun _ h => (List.not_mem_nil h).elim⟩, gcX10_row__X100⟩⟩) gwX10_pointOf
set_option maxRecDepth 20000 in
theorem gX10_row_X10_pointOf : GoodIn wsX10_row (wsV RX10 281 RX10 yX10_pointOf wsX10_pointOf) := goodIn_app (goodIn_sub (List.forall_mem_cons.mpr ⟨(gcX10_row__X10_row_r1 _ (List.mem_of_getElem? (i := 21) rfl)), List.forall_mem_cons.mpr ⟨(gcX10_row__X10_row_r1 _ (List.mem_of_getElem? (i := 22) rfl)), List.forall_mem_cons.mpr ⟨(gcX10_row__X10_row_r1 _ (List.mem_of_getElem? (i := 23) rfl)), List.forall_mem_cons.mpr ⟨(gcX10_row__X10_row_r1 _ (List.mem_of_getElem? (i := 6) rfl)), fun _ h => (List.not_mem_nil h).elim⟩⟩⟩⟩) (by decide +kernel)) ggX10_row_X10_pointOf
set_option maxRecDepth 20000 in
theorem ggX10_row_X10_weightOf : GoodIn wsX10_row wsX10_weightOf := goodIn_sub (List.forall_mem_cons.mpr ⟨(gcX10_row__X10_row_r2 _ (List.mem_of_getElem? (i := 5) rfl)), List.forall_mem_append.mpr ⟨List.forall_mem_cons.mpr ⟨(gcX10_row__X10_row_r2 _ (List.mem_of_getElem? (i := 6) rfl)), fun _ h => (List.not_mem_nil h).elim⟩, gcX10_row__X100⟩⟩) gwX10_weightOf
set_option maxRecDepth 20000 in
theorem gX10_row_X10_weightOf : GoodIn wsX10_row (wsV RX10 325 RX10 yX10_weightOf wsX10_weightOf) := goodIn_app (goodIn_sub (List.forall_mem_cons.mpr ⟨(gcX10_row__X10_row_r2 _ (List.mem_of_getElem? (i := 2) rfl)), List.forall_mem_cons.mpr ⟨(gcX10_row__X10_row_r2 _ (List.mem_of_getElem? (i := 3) rfl)), List.forall_mem_cons.mpr ⟨(gcX10_row__X10_row_r2 _ (List.mem_of_getElem? (i := 4) rfl)), List.forall_mem_cons.mpr ⟨(gcX10_row__X10_row_r1 _ (List.mem_of_getElem? (i := 6) rfl)), fun _ h => (List.not_mem_nil h).elim⟩⟩⟩⟩) (by decide +kernel)) ggX10_row_X10_weightOf
set_option maxRecDepth 20000 in
theorem gmX10_row__X10_miss_r1 : ∀ w ∈ wsX10_miss_r1, w ∈ wsX10_row := List.forall_mem_cons.mpr ⟨(gcX10_row__X10_row_r2 _ (List.mem_of_getElem? (i := 11) rfl)), List.forall_mem_cons.mpr ⟨(gcX10_row__X10_row_r1 _ (List.mem_of_getElem? (i := 21) rfl)), List.forall_mem_cons.mpr ⟨(gcX10_row__X10_row_r1 _ (List.mem_of_getElem? (i := 22) rfl)), List.forall_mem_cons.mpr ⟨(gcX10_row__X10_row_r1 _ (List.mem_of_getElem? (i := 23) rfl)), List.forall_mem_cons.mpr ⟨(gcX10_row__X10_row_r1 _ (List.mem_of_getElem? (i := 6) rfl)), List.forall_mem_cons.mpr ⟨(gcX10_row__X10_row_r2 _ (List.mem_of_getElem? (i := 0) rfl)), List.forall_mem_cons.mpr ⟨(gcX10_row__X10_row_r2 _ (List.mem_of_getElem? (i := 1) rfl)), List.forall_mem_cons.mpr ⟨(gcX10_row__X10_row_r2 _ (List.mem_of_getElem? (i := 12) rfl)), List.forall_mem_cons.mpr ⟨(gcX10_row__X10_row_r2 _ (List.mem_of_getElem? (i := 13) rfl)), List.forall_mem_cons.mpr ⟨(gcX10_row__X10_row_r2 _ (List.mem_of_getElem? (i := 14) rfl)), List.forall_mem_cons.mpr ⟨(gcX10_row__X10_row_r2 _ (List.mem_of_getElem? (i := 15) rfl)), List.forall_mem_cons.mpr ⟨(gcX10_row__X10_row_r1 _ (List.mem_of_getElem? (i := 16) rfl)), List.forall_mem_cons.mpr ⟨(gcX10_row__X10_row_r1 _ (List.mem_of_getElem? (i := 17) rfl)), List.forall_mem_cons.mpr ⟨(gcX10_row__X10_row_r1 _ (List.mem_of_getElem? (i := 18) rfl)), List.forall_mem_cons.mpr ⟨(gcX10_row__X10_row_r1 _ (List.mem_of_getElem? (i := 19) rfl)), List.forall_mem_cons.mpr ⟨(gcX10_row__X10_row_r1 _ (List.mem_of_getElem? (i := 20) rfl)), List.forall_mem_cons.mpr ⟨(gcX10_row__X10_row_r2 _ (List.mem_of_getElem? (i := 16) rfl)), List.forall_mem_cons.mpr ⟨(gcX10_row__X10_row_r2 _ (List.mem_of_getElem? (i := 17) rfl)), List.forall_mem_cons.mpr ⟨(gcX10_row__X10_row_r2 _ (List.mem_of_getElem? (i := 18) rfl)), List.forall_mem_cons.mpr ⟨(gcX10_row__X10_row_r2 _ (List.mem_of_getElem? (i := 19) rfl)), List.forall_mem_cons.mpr ⟨(gcX10_row__X10_row_r2 _ (List.mem_of_getElem? (i := 20) rfl)), List.forall_mem_cons.mpr ⟨(gcX10_row__X10_row_r2 _ (List.mem_of_getElem? (i := 21) rfl)), List.forall_mem_cons.mpr ⟨(gcX10_row__X10_row_r2 _ (List.mem_of_getElem? (i := 22) rfl)), List.forall_mem_cons.mpr ⟨(gcX10_row__X10_row_r2 _ (List.mem_of_getElem? (i := 23) rfl)), fun _ h => (List.not_mem_nil h).elim⟩⟩⟩⟩⟩⟩⟩⟩⟩⟩⟩⟩⟩⟩⟩⟩⟩⟩⟩⟩⟩⟩⟩⟩
theorem gcX10_row__X10_row_r3 : ∀ w ∈ wsX10_row_r3, w ∈ wsX10_row := fun w h => List.mem_cons_of_mem _ (List.mem_append_left _ (List.mem_append_right _ (List.mem_append_right _ (List.mem_append_left _ (h)))))
set_option maxRecDepth 20000 in
theorem gmX10_row__X10_miss_r2 : ∀ w ∈ wsX10_miss_r2, w ∈ wsX10_row := List.forall_mem_cons.mpr ⟨(gcX10_row__X10_row_r3 _ (List.mem_of_getElem? (i := 0) rfl)), List.forall_mem_cons.mpr ⟨(gcX10_row__X10_row_r1 _ (List.mem_of_getElem? (i := 1) rfl)), fun _ h => (List.not_mem_nil h).elim⟩⟩
set_option maxRecDepth 20000 in
theorem ggX10_row_X10_miss : GoodIn wsX10_row wsX10_miss := goodIn_sub (List.forall_mem_cons.mpr ⟨(gcX10_row__X10_row_r2 _ (List.mem_of_getElem? (i := 10) rfl)), List.forall_mem_append.mpr ⟨List.forall_mem_append.mpr ⟨gmX10_row__X10_miss_r1, gmX10_row__X10_miss_r2⟩, gcX10_row__X100⟩⟩) gwX10_miss
set_option maxRecDepth 20000 in
theorem gX10_row_X10_miss : GoodIn wsX10_row (wsV RX10 322 RX10 yX10_miss wsX10_miss) := goodIn_app (goodIn_sub (List.forall_mem_cons.mpr ⟨(gcX10_row__X10_row_r2 _ (List.mem_of_getElem? (i := 7) rfl)), List.forall_mem_cons.mpr ⟨(gcX10_row__X10_row_r2 _ (List.mem_of_getElem? (i := 8) rfl)), List.forall_mem_cons.mpr ⟨(gcX10_row__X10_row_r2 _ (List.mem_of_getElem? (i := 9) rfl)), List.forall_mem_cons.mpr ⟨(gcX10_row__X10_row_r1 _ (List.mem_of_getElem? (i := 6) rfl)), fun _ h => (List.not_mem_nil h).elim⟩⟩⟩⟩) (by decide +kernel)) ggX10_row_X10_miss
set_option maxRecDepth 20000 in
theorem gmX10_row__X10_canShow_r1 : ∀ w ∈ wsX10_canShow_r1, w ∈ wsX10_row := List.forall_mem_cons.mpr ⟨(gcX10_row__X10_row_r1 _ (List.mem_of_getElem? (i := 2) rfl)), List.forall_mem_cons.mpr ⟨(gcX10_row__X10_row_r3 _ (List.mem_of_getElem? (i := 5) rfl)), List.forall_mem_cons.mpr ⟨(gcX10_row__X10_row_r3 _ (List.mem_of_getElem? (i := 6) rfl)), List.forall_mem_cons.mpr ⟨(gcX10_row__X10_row_r3 _ (List.mem_of_getElem? (i := 7) rfl)), List.forall_mem_cons.mpr ⟨(gcX10_row__X10_row_r3 _ (List.mem_of_getElem? (i := 8) rfl)), List.forall_mem_cons.mpr ⟨(gcX10_row__X10_row_r1 _ (List.mem_of_getElem? (i := 6) rfl)), List.forall_mem_cons.mpr ⟨(gcX10_row__X10_row_r3 _ (List.mem_of_getElem? (i := 9) rfl)), List.forall_mem_cons.mpr ⟨(gcX10_row__X10_row_r1 _ (List.mem_of_getElem? (i := 8) rfl)), List.forall_mem_cons.mpr ⟨(gcX10_row__X10_row_r1 _ (List.mem_of_getElem? (i := 9) rfl)), List.forall_mem_cons.mpr ⟨(gcX10_row__X10_row_r1 _ (List.mem_of_getElem? (i := 10) rfl)), List.forall_mem_cons.mpr ⟨(gcX10_row__X10_row_r1 _ (List.mem_of_getElem? (i := 11) rfl)), List.forall_mem_cons.mpr ⟨(gcX10_row__X10_row_r1 _ (List.mem_of_getElem? (i := 12) rfl)), List.forall_mem_cons.mpr ⟨(gcX10_row__X10_row_r1 _ (List.mem_of_getElem? (i := 16) rfl)), List.forall_mem_cons.mpr ⟨(gcX10_row__X10_row_r1 _ (List.mem_of_getElem? (i := 17) rfl)), List.forall_mem_cons.mpr ⟨(gcX10_row__X10_row_r1 _ (List.mem_of_getElem? (i := 18) rfl)), List.forall_mem_cons.mpr ⟨(gcX10_row__X10_row_r1 _ (List.mem_of_getElem? (i := 19) rfl)), List.forall_mem_cons.mpr ⟨(gcX10_row__X10_row_r1 _ (List.mem_of_getElem? (i := 20) rfl)), List.forall_mem_cons.mpr ⟨(gcX10_row__X10_row_r1 _ (List.mem_of_getElem? (i := 21) rfl)), List.forall_mem_cons.mpr ⟨(gcX10_row__X10_row_r1 _ (List.mem_of_getElem? (i := 22) rfl)), List.forall_mem_cons.mpr ⟨(gcX10_row__X10_row_r1 _ (List.mem_of_getElem? (i := 23) rfl)), List.forall_mem_cons.mpr ⟨(gcX10_row__X10_row_r2 _ (List.mem_of_getElem? (i := 0) rfl)), List.forall_mem_cons.mpr ⟨(gcX10_row__X10_row_r2 _ (List.mem_of_getElem? (i := 1) rfl)), List.forall_mem_cons.mpr ⟨(gcX10_row__X10_row_r3 _ (List.mem_of_getElem? (i := 10) rfl)), List.forall_mem_cons.mpr ⟨(gcX10_row__X10_row_r3 _ (List.mem_of_getElem? (i := 11) rfl)), fun _ h => (List.not_mem_nil h).elim⟩⟩⟩⟩⟩⟩⟩⟩⟩⟩⟩⟩⟩⟩⟩⟩⟩⟩⟩⟩⟩⟩⟩⟩
theorem gcX10_row__X10_row_r4 : ∀ w ∈ wsX10_row_r4, w ∈ wsX10_row := fun w h => List.mem_cons_of_mem _ (List.mem_append_left _ (List.mem_append_right _ (List.mem_append_right _ (List.mem_append_right _ (h)))))
set_option maxRecDepth 20000 in
theorem gmX10_row__X10_canShow_r2 : ∀ w ∈ wsX10_canShow_r2, w ∈ wsX10_row := List.forall_mem_cons.mpr ⟨(gcX10_row__X10_row_r3 _ (List.mem_of_getElem? (i := 12) rfl)), List.forall_mem_cons.mpr ⟨(gcX10_row__X10_row_r3 _ (List.mem_of_getElem? (i := 13) rfl)), List.forall_mem_cons.mpr ⟨(gcX10_row__X10_row_r3 _ (List.mem_of_getElem? (i := 14) rfl)), List.forall_mem_cons.mpr ⟨(gcX10_row__X10_row_r3 _ (List.mem_of_getElem? (i := 15) rfl)), List.forall_mem_cons.mpr ⟨(gcX10_row__X10_row_r3 _ (List.mem_of_getElem? (i := 16) rfl)), List.forall_mem_cons.mpr ⟨(gcX10_row__X10_row_r3 _ (List.mem_of_getElem? (i := 17) rfl)), List.forall_mem_cons.mpr ⟨(gcX10_row__X10_row_r3 _ (List.mem_of_getElem? (i := 18) rfl)), List.forall_mem_cons.mpr ⟨(gcX10_row__X10_row_r3 _ (List.mem_of_getElem? (i := 19) rfl)), List.forall_mem_cons.mpr ⟨(gcX10_row__X10_row_r3 _ (List.mem_of_getElem? (i := 20) rfl)), List.forall_mem_cons.mpr ⟨(gcX10_row__X10_row_r3 _ (List.mem_of_getElem? (i := 21) rfl)), List.forall_mem_cons.mpr ⟨(gcX10_row__X10_row_r3 _ (List.mem_of_getElem? (i := 22) rfl)), List.forall_mem_cons.mpr ⟨(gcX10_row__X10_row_r3 _ (List.mem_of_getElem? (i := 23) rfl)), List.forall_mem_cons.mpr ⟨(gcX10_row__X10_row_r4 _ (List.mem_of_getElem? (i := 0) rfl)), List.forall_mem_cons.mpr ⟨(gcX10_row__X10_row_r4 _ (List.mem_of_getElem? (i := 1) rfl)), List.forall_mem_cons.mpr ⟨(gcX10_row__X10_row_r4 _ (List.mem_of_getElem? (i := 2) rfl)), List.forall_mem_cons.mpr ⟨(gcX10_row__X10_row_r4 _ (List.mem_of_getElem? (i := 3) rfl)), List.forall_mem_cons.mpr ⟨(gcX10_row__X10_row_r4 _ (List.mem_of_getElem? (i := 4) rfl)), List.forall_mem_cons.mpr ⟨(gcX10_row__X10_row_r4 _ (List.mem_of_getElem? (i := 5) rfl)), List.forall_mem_cons.mpr ⟨(gcX10_row__X10_row_r4 _ (List.mem_of_getElem? (i := 6) rfl)), List.forall_mem_cons.mpr ⟨(gcX10_row__X10_row_r4 _ (List.mem_of_getElem? (i := 7) rfl)), List.forall_mem_cons.mpr ⟨(gcX10_row__X10_row_r4 _ (List.mem_of_getElem? (i := 8) rfl)), List.forall_mem_cons.mpr ⟨(gcX10_row__X10_row_r4 _ (List.mem_of_getElem? (i := 9) rfl)), List.forall_mem_cons.mpr ⟨(gcX10_row__X10_row_r4 _ (List.mem_of_getElem? (i := 10) rfl)), List.forall_mem_cons.mpr ⟨(gcX10_row__X10_row_r4 _ (List.mem_of_getElem? (i := 11) rfl)), fun _ h => (List.not_mem_nil h).elim⟩⟩⟩⟩⟩⟩⟩⟩⟩⟩⟩⟩⟩⟩⟩⟩⟩⟩⟩⟩⟩⟩⟩⟩
set_option maxRecDepth 20000 in
theorem gmX10_row__X10_canShow_r3 : ∀ w ∈ wsX10_canShow_r3, w ∈ wsX10_row := List.forall_mem_cons.mpr ⟨(gcX10_row__X10_row_r4 _ (List.mem_of_getElem? (i := 12) rfl)), List.forall_mem_cons.mpr ⟨(gcX10_row__X10_row_r4 _ (List.mem_of_getElem? (i := 13) rfl)), List.forall_mem_cons.mpr ⟨(gcX10_row__X10_row_r4 _ (List.mem_of_getElem? (i := 14) rfl)), List.forall_mem_cons.mpr ⟨(gcX10_row__X10_row_r4 _ (List.mem_of_getElem? (i := 15) rfl)), List.forall_mem_cons.mpr ⟨(gcX10_row__X10_row_r4 _ (List.mem_of_getElem? (i := 16) rfl)), List.forall_mem_cons.mpr ⟨(gcX10_row__X10_row_r4 _ (List.mem_of_getElem? (i := 17) rfl)), fun _ h => (List.not_mem_nil h).elim⟩⟩⟩⟩⟩⟩
set_option maxRecDepth 20000 in
theorem ggX10_row_X10_canShow : GoodIn wsX10_row wsX10_canShow := goodIn_sub (List.forall_mem_cons.mpr ⟨(gcX10_row__X10_row_r3 _ (List.mem_of_getElem? (i := 4) rfl)), List.forall_mem_append.mpr ⟨List.forall_mem_append.mpr ⟨gmX10_row__X10_canShow_r1, List.forall_mem_append.mpr ⟨gmX10_row__X10_canShow_r2, gmX10_row__X10_canShow_r3⟩⟩, gcX10_row__X100⟩⟩) gwX10_canShow
set_option maxRecDepth 20000 in
theorem gX10_row_X10_canShow : GoodIn wsX10_row (wsV RX10 430 RX10 yX10_canShow wsX10_canShow) := goodIn_app (goodIn_sub (List.forall_mem_cons.mpr ⟨(gcX10_row__X10_row_r3 _ (List.mem_of_getElem? (i := 1) rfl)), List.forall_mem_cons.mpr ⟨(gcX10_row__X10_row_r3 _ (List.mem_of_getElem? (i := 2) rfl)), List.forall_mem_cons.mpr ⟨(gcX10_row__X10_row_r3 _ (List.mem_of_getElem? (i := 3) rfl)), List.forall_mem_cons.mpr ⟨(gcX10_row__X10_row_r1 _ (List.mem_of_getElem? (i := 6) rfl)), fun _ h => (List.not_mem_nil h).elim⟩⟩⟩⟩) (by decide +kernel)) ggX10_row_X10_canShow
theorem dX10_row_0 : decode cX10_row 0 = .ok (.aload_n 0, 1) := by decide +kernel
theorem dX10_row_1 : decode cX10_row 1 = .ok (.iload_n 1, 1) := by decide +kernel
theorem dX10_row_2 : decode cX10_row 2 = .ok (.invokevirtual 433, 3) := by decide +kernel
theorem dX10_row_5 : decode cX10_row 5 = .ok (.ifCond .ne 7, 3) := by decide +kernel
theorem dX10_row_8 : decode cX10_row 8 = .ok (.ldc_w 439, 3) := by decide +kernel
theorem dX10_row_11 : decode cX10_row 11 = .ok (.ireturn, 1) := by decide +kernel
theorem dX10_row_12 : decode cX10_row 12 = .ok (.iload_n 2, 1) := by decide +kernel
theorem dX10_row_13 : decode cX10_row 13 = .ok (.tableswitch 124 0 8 #[51, 57, 63, 63, 79, 85, 100, 100, 110], 51) := by decide +kernel
theorem dX10_row_64 : decode cX10_row 64 = .ok (.aload_n 0, 1) := by decide +kernel
theorem dX10_row_65 : decode cX10_row 65 = .ok (.iload_n 1, 1) := by decide +kernel
theorem dX10_row_66 : decode cX10_row 66 = .ok (.invokevirtual 274, 3) := by decide +kernel
theorem dX10_row_69 : decode cX10_row 69 = .ok (.ireturn, 1) := by decide +kernel
theorem dX10_row_70 : decode cX10_row 70 = .ok (.aload_n 0, 1) := by decide +kernel
theorem dX10_row_71 : decode cX10_row 71 = .ok (.iload_n 1, 1) := by decide +kernel
theorem dX10_row_72 : decode cX10_row 72 = .ok (.invokevirtual 281, 3) := by decide +kernel
theorem dX10_row_75 : decode cX10_row 75 = .ok (.ireturn, 1) := by decide +kernel
theorem dX10_row_76 : decode cX10_row 76 = .ok (.aload_n 0, 1) := by decide +kernel
theorem dX10_row_77 : decode cX10_row 77 = .ok (.getfield 85, 3) := by decide +kernel
theorem dX10_row_80 : decode cX10_row 80 = .ok (.bipush 120, 2) := by decide +kernel
theorem dX10_row_82 : decode cX10_row 82 = .ok (.iconst 2, 1) := by decide +kernel
theorem dX10_row_83 : decode cX10_row 83 = .ok (.iload_n 1, 1) := by decide +kernel
theorem dX10_row_84 : decode cX10_row 84 = .ok (.imul, 1) := by decide +kernel
theorem dX10_row_85 : decode cX10_row 85 = .ok (.iadd, 1) := by decide +kernel
theorem dX10_row_86 : decode cX10_row 86 = .ok (.iload_n 2, 1) := by decide +kernel
theorem dX10_row_87 : decode cX10_row 87 = .ok (.iadd, 1) := by decide +kernel
theorem dX10_row_88 : decode cX10_row 88 = .ok (.iconst 2, 1) := by decide +kernel
theorem dX10_row_89 : decode cX10_row 89 = .ok (.isub, 1) := by decide +kernel
theorem dX10_row_90 : decode cX10_row 90 = .ok (.iaload, 1) := by decide +kernel
theorem dX10_row_91 : decode cX10_row 91 = .ok (.ireturn, 1) := by decide +kernel
theorem dX10_row_92 : decode cX10_row 92 = .ok (.aload_n 0, 1) := by decide +kernel
theorem dX10_row_93 : decode cX10_row 93 = .ok (.iload_n 1, 1) := by decide +kernel
theorem dX10_row_94 : decode cX10_row 94 = .ok (.invokevirtual 325, 3) := by decide +kernel
theorem dX10_row_97 : decode cX10_row 97 = .ok (.ireturn, 1) := by decide +kernel
theorem dX10_row_98 : decode cX10_row 98 = .ok (.aload_n 0, 1) := by decide +kernel
theorem dX10_row_99 : decode cX10_row 99 = .ok (.getfield 91, 3) := by decide +kernel
theorem dX10_row_102 : decode cX10_row 102 = .ok (.iload_n 1, 1) := by decide +kernel
theorem dX10_row_103 : decode cX10_row 103 = .ok (.baload, 1) := by decide +kernel
theorem dX10_row_104 : decode cX10_row 104 = .ok (.ifCond .eq 7, 3) := by decide +kernel
theorem dX10_row_107 : decode cX10_row 107 = .ok (.iconst 1, 1) := by decide +kernel
theorem dX10_row_108 : decode cX10_row 108 = .ok (.goto 4, 3) := by decide +kernel
theorem dX10_row_111 : decode cX10_row 111 = .ok (.iconst 0, 1) := by decide +kernel
theorem dX10_row_112 : decode cX10_row 112 = .ok (.ireturn, 1) := by decide +kernel
theorem dX10_row_113 : decode cX10_row 113 = .ok (.aload_n 0, 1) := by decide +kernel
theorem dX10_row_114 : decode cX10_row 114 = .ok (.iload_n 1, 1) := by decide +kernel
theorem dX10_row_115 : decode cX10_row 115 = .ok (.iload_n 2, 1) := by decide +kernel
theorem dX10_row_116 : decode cX10_row 116 = .ok (.bipush 6, 2) := by decide +kernel
theorem dX10_row_118 : decode cX10_row 118 = .ok (.isub, 1) := by decide +kernel
theorem dX10_row_119 : decode cX10_row 119 = .ok (.invokevirtual 322, 3) := by decide +kernel
theorem dX10_row_122 : decode cX10_row 122 = .ok (.ireturn, 1) := by decide +kernel
theorem dX10_row_123 : decode cX10_row 123 = .ok (.aload_n 0, 1) := by decide +kernel
theorem dX10_row_124 : decode cX10_row 124 = .ok (.iload_n 1, 1) := by decide +kernel
theorem dX10_row_125 : decode cX10_row 125 = .ok (.invokevirtual 430, 3) := by decide +kernel
theorem dX10_row_128 : decode cX10_row 128 = .ok (.ifCond .eq 7, 3) := by decide +kernel
theorem dX10_row_131 : decode cX10_row 131 = .ok (.iconst 1, 1) := by decide +kernel
theorem dX10_row_132 : decode cX10_row 132 = .ok (.goto 4, 3) := by decide +kernel
theorem dX10_row_135 : decode cX10_row 135 = .ok (.iconst 0, 1) := by decide +kernel
theorem dX10_row_136 : decode cX10_row 136 = .ok (.ireturn, 1) := by decide +kernel
theorem dX10_row_137 : decode cX10_row 137 = .ok (.ldc_w 439, 3) := by decide +kernel
theorem dX10_row_140 : decode cX10_row 140 = .ok (.ireturn, 1) := by decide +kernel
theorem gcX10_drift__X10_drift_r1 : ∀ w ∈ wsX10_drift_r1, w ∈ wsX10_drift := fun w h => List.mem_cons_of_mem _ (List.mem_append_left _ (List.mem_append_left _ (h)))
set_option maxRecDepth 20000 in
theorem ggX10_drift_X10_isIn : GoodIn wsX10_drift wsX10_isIn := goodIn_sub (List.forall_mem_cons.mpr ⟨(gcX10_drift__X10_drift_r1 _ (List.mem_of_getElem? (i := 6) rfl)), fun _ h => (List.not_mem_nil h).elim⟩) gwX10_isIn
set_option maxRecDepth 20000 in
theorem gX10_drift_X10_isIn : GoodIn wsX10_drift (va_wsS RX10 183 yX10_isIn wsX10_isIn) := goodIn_app (goodIn_sub (List.forall_mem_cons.mpr ⟨(gcX10_drift__X10_drift_r1 _ (List.mem_of_getElem? (i := 3) rfl)), List.forall_mem_cons.mpr ⟨(gcX10_drift__X10_drift_r1 _ (List.mem_of_getElem? (i := 4) rfl)), List.forall_mem_cons.mpr ⟨(gcX10_drift__X10_drift_r1 _ (List.mem_of_getElem? (i := 5) rfl)), fun _ h => (List.not_mem_nil h).elim⟩⟩⟩) (by decide +kernel)) ggX10_drift_X10_isIn
theorem gcX10_drift__X10_drift_r2 : ∀ w ∈ wsX10_drift_r2, w ∈ wsX10_drift := fun w h => List.mem_cons_of_mem _ (List.mem_append_left _ (List.mem_append_right _ (h)))
theorem gcX10_drift__X100 : ∀ w ∈ wsX100, w ∈ wsX10_drift := fun w h => List.mem_cons_of_mem _ (List.mem_append_right _ (h))
set_option maxRecDepth 20000 in
theorem ggX10_drift_X10_hasDrift : GoodIn wsX10_drift wsX10_hasDrift := goodIn_sub (List.forall_mem_cons.mpr ⟨(gcX10_drift__X10_drift_r1 _ (List.mem_of_getElem? (i := 10) rfl)), List.forall_mem_append.mpr ⟨List.forall_mem_cons.mpr ⟨(gcX10_drift__X10_drift_r1 _ (List.mem_of_getElem? (i := 11) rfl)), List.forall_mem_cons.mpr ⟨(gcX10_drift__X10_drift_r1 _ (List.mem_of_getElem? (i := 12) rfl)), List.forall_mem_cons.mpr ⟨(gcX10_drift__X10_drift_r1 _ (List.mem_of_getElem? (i := 13) rfl)), List.forall_mem_cons.mpr ⟨(gcX10_drift__X10_drift_r1 _ (List.mem_of_getElem? (i := 5) rfl)), List.forall_mem_cons.mpr ⟨(gcX10_drift__X10_drift_r1 _ (List.mem_of_getElem? (i := 14) rfl)), List.forall_mem_cons.mpr ⟨(gcX10_drift__X10_drift_r1 _ (List.mem_of_getElem? (i := 0) rfl)), List.forall_mem_cons.mpr ⟨(gcX10_drift__X10_drift_r1 _ (List.mem_of_getElem? (i := 15) rfl)), List.forall_mem_cons.mpr ⟨(gcX10_drift__X10_drift_r1 _ (List.mem_of_getElem? (i := 16) rfl)), List.forall_mem_cons.mpr ⟨(gcX10_drift__X10_drift_r1 _ (List.mem_of_getElem? (i := 17) rfl)), List.forall_mem_cons.mpr ⟨(gcX10_drift__X10_drift_r1 _ (List.mem_of_getElem? (i := 18) rfl)), List.forall_mem_cons.mpr ⟨(gcX10_drift__X10_drift_r1 _ (List.mem_of_getElem? (i := 19) rfl)), List.forall_mem_cons.mpr ⟨(gcX10_drift__X10_drift_r1 _ (List.mem_of_getElem? (i := 20) rfl)), List.forall_mem_cons.mpr ⟨(gcX10_drift__X10_drift_r1 _ (List.mem_of_getElem? (i := 21) rfl)), List.forall_mem_cons.mpr ⟨(gcX10_drift__X10_drift_r1 _ (List.mem_of_getElem? (i := 22) rfl)), List.forall_mem_cons.mpr ⟨(gcX10_drift__X10_drift_r1 _ (List.mem_of_getElem? (i := 23) rfl)), List.forall_mem_cons.mpr ⟨(gcX10_drift__X10_drift_r2 _ (List.mem_of_getElem? (i := 0) rfl)), fun _ h => (List.not_mem_nil h).elim⟩⟩⟩⟩⟩⟩⟩⟩⟩⟩⟩⟩⟩⟩⟩⟩, gcX10_drift__X100⟩⟩) gwX10_hasDrift
set_option maxRecDepth 20000 in
theorem gX10_drift_X10_hasDrift : GoodIn wsX10_drift (wsV RX10 368 RX10 yX10_hasDrift wsX10_hasDrift) := goodIn_app (goodIn_sub (List.forall_mem_cons.mpr ⟨(gcX10_drift__X10_drift_r1 _ (List.mem_of_getElem? (i := 7) rfl)), List.forall_mem_cons.mpr ⟨(gcX10_drift__X10_drift_r1 _ (List.mem_of_getElem? (i := 8) rfl)), List.forall_mem_cons.mpr ⟨(gcX10_drift__X10_drift_r1 _ (List.mem_of_getElem? (i := 9) rfl)), List.forall_mem_cons.mpr ⟨(gcX10_drift__X10_drift_r1 _ (List.mem_of_getElem? (i := 5) rfl)), fun _ h => (List.not_mem_nil h).elim⟩⟩⟩⟩) (by decide +kernel)) ggX10_drift_X10_hasDrift
theorem dX10_drift_0 : decode cX10_drift 0 = .ok (.iload_n 1, 1) := by decide +kernel
theorem dX10_drift_1 : decode cX10_drift 1 = .ok (.i2l, 1) := by decide +kernel
theorem dX10_drift_2 : decode cX10_drift 2 = .ok (.lconst 0, 1) := by decide +kernel
theorem dX10_drift_3 : decode cX10_drift 3 = .ok (.aload_n 0, 1) := by decide +kernel
theorem dX10_drift_4 : decode cX10_drift 4 = .ok (.getfield 58, 3) := by decide +kernel
theorem dX10_drift_7 : decode cX10_drift 7 = .ok (.bipush 6, 2) := by decide +kernel
theorem dX10_drift_9 : decode cX10_drift 9 = .ok (.iaload, 1) := by decide +kernel
theorem dX10_drift_10 : decode cX10_drift 10 = .ok (.iconst 1, 1) := by decide +kernel
theorem dX10_drift_11 : decode cX10_drift 11 = .ok (.isub, 1) := by decide +kernel
theorem dX10_drift_12 : decode cX10_drift 12 = .ok (.i2l, 1) := by decide +kernel
theorem dX10_drift_13 : decode cX10_drift 13 = .ok (.invokestatic 183, 3) := by decide +kernel
theorem dX10_drift_16 : decode cX10_drift 16 = .ok (.ifCond .eq 38, 3) := by decide +kernel
theorem dX10_drift_19 : decode cX10_drift 19 = .ok (.iload_n 2, 1) := by decide +kernel
theorem dX10_drift_20 : decode cX10_drift 20 = .ok (.i2l, 1) := by decide +kernel
theorem dX10_drift_21 : decode cX10_drift 21 = .ok (.lconst 0, 1) := by decide +kernel
theorem dX10_drift_22 : decode cX10_drift 22 = .ok (.lconst 1, 1) := by decide +kernel
theorem dX10_drift_23 : decode cX10_drift 23 = .ok (.invokestatic 183, 3) := by decide +kernel
theorem dX10_drift_26 : decode cX10_drift 26 = .ok (.ifCond .eq 28, 3) := by decide +kernel
theorem dX10_drift_29 : decode cX10_drift 29 = .ok (.aload_n 0, 1) := by decide +kernel
theorem dX10_drift_30 : decode cX10_drift 30 = .ok (.iload_n 1, 1) := by decide +kernel
theorem dX10_drift_31 : decode cX10_drift 31 = .ok (.invokevirtual 368, 3) := by decide +kernel
theorem dX10_drift_34 : decode cX10_drift 34 = .ok (.ifCond .eq 20, 3) := by decide +kernel
theorem dX10_drift_37 : decode cX10_drift 37 = .ok (.aload_n 0, 1) := by decide +kernel
theorem dX10_drift_38 : decode cX10_drift 38 = .ok (.getfield 101, 3) := by decide +kernel
theorem dX10_drift_41 : decode cX10_drift 41 = .ok (.bipush 38, 2) := by decide +kernel
theorem dX10_drift_43 : decode cX10_drift 43 = .ok (.iload_n 2, 1) := by decide +kernel
theorem dX10_drift_44 : decode cX10_drift 44 = .ok (.imul, 1) := by decide +kernel
theorem dX10_drift_45 : decode cX10_drift 45 = .ok (.bipush 32, 2) := by decide +kernel
theorem dX10_drift_47 : decode cX10_drift 47 = .ok (.iadd, 1) := by decide +kernel
theorem dX10_drift_48 : decode cX10_drift 48 = .ok (.iload_n 1, 1) := by decide +kernel
theorem dX10_drift_49 : decode cX10_drift 49 = .ok (.iadd, 1) := by decide +kernel
theorem dX10_drift_50 : decode cX10_drift 50 = .ok (.iaload, 1) := by decide +kernel
theorem dX10_drift_51 : decode cX10_drift 51 = .ok (.goto 6, 3) := by decide +kernel
theorem dX10_drift_54 : decode cX10_drift 54 = .ok (.ldc_w 439, 3) := by decide +kernel
theorem dX10_drift_57 : decode cX10_drift 57 = .ok (.ireturn, 1) := by decide +kernel
theorem gcX10_doubt__X10_doubt_r1 : ∀ w ∈ wsX10_doubt_r1, w ∈ wsX10_doubt := fun w h => List.mem_cons_of_mem _ (List.mem_append_left _ (List.mem_append_left _ (h)))
theorem gcX10_doubt__X100 : ∀ w ∈ wsX100, w ∈ wsX10_doubt := fun w h => List.mem_cons_of_mem _ (List.mem_append_right _ (h))
set_option maxRecDepth 20000 in
theorem ggX10_doubt_X10_isRow : GoodIn wsX10_doubt wsX10_isRow := goodIn_sub (List.forall_mem_cons.mpr ⟨(gcX10_doubt__X10_doubt_r1 _ (List.mem_of_getElem? (i := 5) rfl)), List.forall_mem_append.mpr ⟨List.forall_mem_cons.mpr ⟨(gcX10_doubt__X10_doubt_r1 _ (List.mem_of_getElem? (i := 6) rfl)), List.forall_mem_cons.mpr ⟨(gcX10_doubt__X10_doubt_r1 _ (List.mem_of_getElem? (i := 7) rfl)), List.forall_mem_cons.mpr ⟨(gcX10_doubt__X10_doubt_r1 _ (List.mem_of_getElem? (i := 8) rfl)), List.forall_mem_cons.mpr ⟨(gcX10_doubt__X10_doubt_r1 _ (List.mem_of_getElem? (i := 4) rfl)), List.forall_mem_cons.mpr ⟨(gcX10_doubt__X10_doubt_r1 _ (List.mem_of_getElem? (i := 9) rfl)), List.forall_mem_cons.mpr ⟨(gcX10_doubt__X10_doubt_r1 _ (List.mem_of_getElem? (i := 10) rfl)), List.forall_mem_cons.mpr ⟨(gcX10_doubt__X10_doubt_r1 _ (List.mem_of_getElem? (i := 11) rfl)), List.forall_mem_cons.mpr ⟨(gcX10_doubt__X10_doubt_r1 _ (List.mem_of_getElem? (i := 12) rfl)), List.forall_mem_cons.mpr ⟨(gcX10_doubt__X10_doubt_r1 _ (List.mem_of_getElem? (i := 13) rfl)), fun _ h => (List.not_mem_nil h).elim⟩⟩⟩⟩⟩⟩⟩⟩⟩, gcX10_doubt__X100⟩⟩) gwX10_isRow
set_option maxRecDepth 20000 in
theorem gX10_doubt_X10_isRow : GoodIn wsX10_doubt (wsV RX10 433 RX10 yX10_isRow wsX10_isRow) := goodIn_app (goodIn_sub (List.forall_mem_cons.mpr ⟨(gcX10_doubt__X10_doubt_r1 _ (List.mem_of_getElem? (i := 1) rfl)), List.forall_mem_cons.mpr ⟨(gcX10_doubt__X10_doubt_r1 _ (List.mem_of_getElem? (i := 2) rfl)), List.forall_mem_cons.mpr ⟨(gcX10_doubt__X10_doubt_r1 _ (List.mem_of_getElem? (i := 3) rfl)), List.forall_mem_cons.mpr ⟨(gcX10_doubt__X10_doubt_r1 _ (List.mem_of_getElem? (i := 4) rfl)), fun _ h => (List.not_mem_nil h).elim⟩⟩⟩⟩) (by decide +kernel)) ggX10_doubt_X10_isRow
theorem gcX10_doubt__X10_doubt_r2 : ∀ w ∈ wsX10_doubt_r2, w ∈ wsX10_doubt := fun w h => List.mem_cons_of_mem _ (List.mem_append_left _ (List.mem_append_right _ (List.mem_append_left _ (h))))
set_option maxRecDepth 20000 in
theorem gmX10_doubt__X10_doubtOf_r1 : ∀ w ∈ wsX10_doubtOf_r1, w ∈ wsX10_doubt := List.forall_mem_cons.mpr ⟨(gcX10_doubt__X10_doubt_r1 _ (List.mem_of_getElem? (i := 18) rfl)), List.forall_mem_cons.mpr ⟨(gcX10_doubt__X10_doubt_r1 _ (List.mem_of_getElem? (i := 19) rfl)), List.forall_mem_cons.mpr ⟨(gcX10_doubt__X10_doubt_r1 _ (List.mem_of_getElem? (i := 20) rfl)), List.forall_mem_cons.mpr ⟨(gcX10_doubt__X10_doubt_r1 _ (List.mem_of_getElem? (i := 4) rfl)), List.forall_mem_cons.mpr ⟨(gcX10_doubt__X10_doubt_r1 _ (List.mem_of_getElem? (i := 21) rfl)), List.forall_mem_cons.mpr ⟨(gcX10_doubt__X10_doubt_r1 _ (List.mem_of_getElem? (i := 22) rfl)), List.forall_mem_cons.mpr ⟨(gcX10_doubt__X10_doubt_r1 _ (List.mem_of_getElem? (i := 23) rfl)), List.forall_mem_cons.mpr ⟨(gcX10_doubt__X10_doubt_r2 _ (List.mem_of_getElem? (i := 0) rfl)), List.forall_mem_cons.mpr ⟨(gcX10_doubt__X10_doubt_r2 _ (List.mem_of_getElem? (i := 1) rfl)), List.forall_mem_cons.mpr ⟨(gcX10_doubt__X10_doubt_r2 _ (List.mem_of_getElem? (i := 2) rfl)), List.forall_mem_cons.mpr ⟨(gcX10_doubt__X10_doubt_r2 _ (List.mem_of_getElem? (i := 3) rfl)), List.forall_mem_cons.mpr ⟨(gcX10_doubt__X10_doubt_r2 _ (List.mem_of_getElem? (i := 4) rfl)), List.forall_mem_cons.mpr ⟨(gcX10_doubt__X10_doubt_r2 _ (List.mem_of_getElem? (i := 5) rfl)), List.forall_mem_cons.mpr ⟨(gcX10_doubt__X10_doubt_r2 _ (List.mem_of_getElem? (i := 6) rfl)), List.forall_mem_cons.mpr ⟨(gcX10_doubt__X10_doubt_r2 _ (List.mem_of_getElem? (i := 7) rfl)), List.forall_mem_cons.mpr ⟨(gcX10_doubt__X10_doubt_r2 _ (List.mem_of_getElem? (i := 8) rfl)), List.forall_mem_cons.mpr ⟨(gcX10_doubt__X10_doubt_r2 _ (List.mem_of_getElem? (i := 9) rfl)), List.forall_mem_cons.mpr ⟨(gcX10_doubt__X10_doubt_r2 _ (List.mem_of_getElem? (i := 10) rfl)), List.forall_mem_cons.mpr ⟨(gcX10_doubt__X10_doubt_r2 _ (List.mem_of_getElem? (i := 11) rfl)), List.forall_mem_cons.mpr ⟨(gcX10_doubt__X10_doubt_r2 _ (List.mem_of_getElem? (i := 12) rfl)), List.forall_mem_cons.mpr ⟨(gcX10_doubt__X10_doubt_r2 _ (List.mem_of_getElem? (i := 13) rfl)), List.forall_mem_cons.mpr ⟨(gcX10_doubt__X10_doubt_r2 _ (List.mem_of_getElem? (i := 14) rfl)), List.forall_mem_cons.mpr ⟨(gcX10_doubt__X10_doubt_r2 _ (List.mem_of_getElem? (i := 15) rfl)), List.forall_mem_cons.mpr ⟨(gcX10_doubt__X10_doubt_r2 _ (List.mem_of_getElem? (i := 16) rfl)), fun _ h => (List.not_mem_nil h).elim⟩⟩⟩⟩⟩⟩⟩⟩⟩⟩⟩⟩⟩⟩⟩⟩⟩⟩⟩⟩⟩⟩⟩⟩
theorem gcX10_doubt__X10_doubt_r3 : ∀ w ∈ wsX10_doubt_r3, w ∈ wsX10_doubt := fun w h => List.mem_cons_of_mem _ (List.mem_append_left _ (List.mem_append_right _ (List.mem_append_right _ (h))))
set_option maxRecDepth 20000 in
theorem gmX10_doubt__X10_doubtOf_r2 : ∀ w ∈ wsX10_doubtOf_r2, w ∈ wsX10_doubt := List.forall_mem_cons.mpr ⟨(gcX10_doubt__X10_doubt_r2 _ (List.mem_of_getElem? (i := 17) rfl)), List.forall_mem_cons.mpr ⟨(gcX10_doubt__X10_doubt_r2 _ (List.mem_of_getElem? (i := 18) rfl)), List.forall_mem_cons.mpr ⟨(gcX10_doubt__X10_doubt_r2 _ (List.mem_of_getElem? (i := 19) rfl)), List.forall_mem_cons.mpr ⟨(gcX10_doubt__X10_doubt_r2 _ (List.mem_of_getElem? (i := 20) rfl)), List.forall_mem_cons.mpr ⟨(gcX10_doubt__X10_doubt_r2 _ (List.mem_of_getElem? (i := 21) rfl)), List.forall_mem_cons.mpr ⟨(gcX10_doubt__X10_doubt_r2 _ (List.mem_of_getElem? (i := 22) rfl)), List.forall_mem_cons.mpr ⟨(gcX10_doubt__X10_doubt_r2 _ (List.mem_of_getElem? (i := 23) rfl)), List.forall_mem_cons.mpr ⟨(gcX10_doubt__X10_doubt_r3 _ (List.mem_of_getElem? (i := 0) rfl)), List.forall_mem_cons.mpr ⟨(gcX10_doubt__X10_doubt_r3 _ (List.mem_of_getElem? (i := 1) rfl)), List.forall_mem_cons.mpr ⟨(gcX10_doubt__X10_doubt_r3 _ (List.mem_of_getElem? (i := 2) rfl)), List.forall_mem_cons.mpr ⟨(gcX10_doubt__X10_doubt_r3 _ (List.mem_of_getElem? (i := 3) rfl)), fun _ h => (List.not_mem_nil h).elim⟩⟩⟩⟩⟩⟩⟩⟩⟩⟩⟩
set_option maxRecDepth 20000 in
theorem ggX10_doubt_X10_doubtOf : GoodIn wsX10_doubt wsX10_doubtOf := goodIn_sub (List.forall_mem_cons.mpr ⟨(gcX10_doubt__X10_doubt_r1 _ (List.mem_of_getElem? (i := 17) rfl)), List.forall_mem_append.mpr ⟨List.forall_mem_append.mpr ⟨gmX10_doubt__X10_doubtOf_r1, gmX10_doubt__X10_doubtOf_r2⟩, gcX10_doubt__X100⟩⟩) gwX10_doubtOf
set_option maxRecDepth 20000 in
theorem gX10_doubt_X10_doubtOf : GoodIn wsX10_doubt (wsV RX10 328 RX10 yX10_doubtOf wsX10_doubtOf) := goodIn_app (goodIn_sub (List.forall_mem_cons.mpr ⟨(gcX10_doubt__X10_doubt_r1 _ (List.mem_of_getElem? (i := 14) rfl)), List.forall_mem_cons.mpr ⟨(gcX10_doubt__X10_doubt_r1 _ (List.mem_of_getElem? (i := 15) rfl)), List.forall_mem_cons.mpr ⟨(gcX10_doubt__X10_doubt_r1 _ (List.mem_of_getElem? (i := 16) rfl)), List.forall_mem_cons.mpr ⟨(gcX10_doubt__X10_doubt_r1 _ (List.mem_of_getElem? (i := 4) rfl)), fun _ h => (List.not_mem_nil h).elim⟩⟩⟩⟩) (by decide +kernel)) ggX10_doubt_X10_doubtOf
theorem dX10_doubt_0 : decode cX10_doubt 0 = .ok (.aload_n 0, 1) := by decide +kernel
theorem dX10_doubt_1 : decode cX10_doubt 1 = .ok (.iload_n 1, 1) := by decide +kernel
theorem dX10_doubt_2 : decode cX10_doubt 2 = .ok (.invokevirtual 433, 3) := by decide +kernel
theorem dX10_doubt_5 : decode cX10_doubt 5 = .ok (.ifCond .eq 11, 3) := by decide +kernel
theorem dX10_doubt_8 : decode cX10_doubt 8 = .ok (.aload_n 0, 1) := by decide +kernel
theorem dX10_doubt_9 : decode cX10_doubt 9 = .ok (.iload_n 1, 1) := by decide +kernel
theorem dX10_doubt_10 : decode cX10_doubt 10 = .ok (.invokevirtual 328, 3) := by decide +kernel
theorem dX10_doubt_13 : decode cX10_doubt 13 = .ok (.goto 6, 3) := by decide +kernel
theorem dX10_doubt_16 : decode cX10_doubt 16 = .ok (.ldc2_w 446, 3) := by decide +kernel
theorem dX10_doubt_19 : decode cX10_doubt 19 = .ok (.lreturn, 1) := by decide +kernel
theorem gcX10_worstNow__X10_worstNow_r1 : ∀ w ∈ wsX10_worstNow_r1, w ∈ wsX10_worstNow := fun w h => List.mem_cons_of_mem _ (List.mem_append_left _ (List.mem_append_left _ (h)))
theorem gcX10_worstNow__X100 : ∀ w ∈ wsX100, w ∈ wsX10_worstNow := fun w h => List.mem_cons_of_mem _ (List.mem_append_right _ (h))
set_option maxRecDepth 20000 in
theorem ggX10_worstNow_X10_rows : GoodIn wsX10_worstNow wsX10_rows := goodIn_sub (List.forall_mem_cons.mpr ⟨(gcX10_worstNow__X10_worstNow_r1 _ (List.mem_of_getElem? (i := 4) rfl)), List.forall_mem_append.mpr ⟨List.forall_mem_cons.mpr ⟨(gcX10_worstNow__X10_worstNow_r1 _ (List.mem_of_getElem? (i := 5) rfl)), fun _ h => (List.not_mem_nil h).elim⟩, gcX10_worstNow__X100⟩⟩) gwX10_rows
set_option maxRecDepth 20000 in
theorem gX10_worstNow_X10_rows : GoodIn wsX10_worstNow (wsV RX10 265 RX10 yX10_rows wsX10_rows) := goodIn_app (goodIn_sub (List.forall_mem_cons.mpr ⟨(gcX10_worstNow__X10_worstNow_r1 _ (List.mem_of_getElem? (i := 0) rfl)), List.forall_mem_cons.mpr ⟨(gcX10_worstNow__X10_worstNow_r1 _ (List.mem_of_getElem? (i := 1) rfl)), List.forall_mem_cons.mpr ⟨(gcX10_worstNow__X10_worstNow_r1 _ (List.mem_of_getElem? (i := 2) rfl)), List.forall_mem_cons.mpr ⟨(gcX10_worstNow__X10_worstNow_r1 _ (List.mem_of_getElem? (i := 3) rfl)), fun _ h => (List.not_mem_nil h).elim⟩⟩⟩⟩) (by decide +kernel)) ggX10_worstNow_X10_rows
theorem gcX10_worstNow__X10_worstNow_r2 : ∀ w ∈ wsX10_worstNow_r2, w ∈ wsX10_worstNow := fun w h => List.mem_cons_of_mem _ (List.mem_append_left _ (List.mem_append_right _ (List.mem_append_left _ (h))))
set_option maxRecDepth 20000 in
theorem gmX10_worstNow__X10_canShow_r1 : ∀ w ∈ wsX10_canShow_r1, w ∈ wsX10_worstNow := List.forall_mem_cons.mpr ⟨(gcX10_worstNow__X10_worstNow_r1 _ (List.mem_of_getElem? (i := 10) rfl)), List.forall_mem_cons.mpr ⟨(gcX10_worstNow__X10_worstNow_r1 _ (List.mem_of_getElem? (i := 11) rfl)), List.forall_mem_cons.mpr ⟨(gcX10_worstNow__X10_worstNow_r1 _ (List.mem_of_getElem? (i := 12) rfl)), List.forall_mem_cons.mpr ⟨(gcX10_worstNow__X10_worstNow_r1 _ (List.mem_of_getElem? (i := 13) rfl)), List.forall_mem_cons.mpr ⟨(gcX10_worstNow__X10_worstNow_r1 _ (List.mem_of_getElem? (i := 14) rfl)), List.forall_mem_cons.mpr ⟨(gcX10_worstNow__X10_worstNow_r1 _ (List.mem_of_getElem? (i := 3) rfl)), List.forall_mem_cons.mpr ⟨(gcX10_worstNow__X10_worstNow_r1 _ (List.mem_of_getElem? (i := 15) rfl)), List.forall_mem_cons.mpr ⟨(gcX10_worstNow__X10_worstNow_r1 _ (List.mem_of_getElem? (i := 0) rfl)), List.forall_mem_cons.mpr ⟨(gcX10_worstNow__X10_worstNow_r1 _ (List.mem_of_getElem? (i := 1) rfl)), List.forall_mem_cons.mpr ⟨(gcX10_worstNow__X10_worstNow_r1 _ (List.mem_of_getElem? (i := 2) rfl)), List.forall_mem_cons.mpr ⟨(gcX10_worstNow__X10_worstNow_r1 _ (List.mem_of_getElem? (i := 4) rfl)), List.forall_mem_cons.mpr ⟨(gcX10_worstNow__X10_worstNow_r1 _ (List.mem_of_getElem? (i := 5) rfl)), List.forall_mem_cons.mpr ⟨(gcX10_worstNow__X10_worstNow_r1 _ (List.mem_of_getElem? (i := 16) rfl)), List.forall_mem_cons.mpr ⟨(gcX10_worstNow__X10_worstNow_r1 _ (List.mem_of_getElem? (i := 17) rfl)), List.forall_mem_cons.mpr ⟨(gcX10_worstNow__X10_worstNow_r1 _ (List.mem_of_getElem? (i := 18) rfl)), List.forall_mem_cons.mpr ⟨(gcX10_worstNow__X10_worstNow_r1 _ (List.mem_of_getElem? (i := 19) rfl)), List.forall_mem_cons.mpr ⟨(gcX10_worstNow__X10_worstNow_r1 _ (List.mem_of_getElem? (i := 20) rfl)), List.forall_mem_cons.mpr ⟨(gcX10_worstNow__X10_worstNow_r1 _ (List.mem_of_getElem? (i := 21) rfl)), List.forall_mem_cons.mpr ⟨(gcX10_worstNow__X10_worstNow_r1 _ (List.mem_of_getElem? (i := 22) rfl)), List.forall_mem_cons.mpr ⟨(gcX10_worstNow__X10_worstNow_r1 _ (List.mem_of_getElem? (i := 23) rfl)), List.forall_mem_cons.mpr ⟨(gcX10_worstNow__X10_worstNow_r2 _ (List.mem_of_getElem? (i := 0) rfl)), List.forall_mem_cons.mpr ⟨(gcX10_worstNow__X10_worstNow_r2 _ (List.mem_of_getElem? (i := 1) rfl)), List.forall_mem_cons.mpr ⟨(gcX10_worstNow__X10_worstNow_r2 _ (List.mem_of_getElem? (i := 2) rfl)), List.forall_mem_cons.mpr ⟨(gcX10_worstNow__X10_worstNow_r2 _ (List.mem_of_getElem? (i := 3) rfl)), fun _ h => (List.not_mem_nil h).elim⟩⟩⟩⟩⟩⟩⟩⟩⟩⟩⟩⟩⟩⟩⟩⟩⟩⟩⟩⟩⟩⟩⟩⟩
theorem gcX10_worstNow__X10_worstNow_r3 : ∀ w ∈ wsX10_worstNow_r3, w ∈ wsX10_worstNow := fun w h => List.mem_cons_of_mem _ (List.mem_append_left _ (List.mem_append_right _ (List.mem_append_right _ (List.mem_append_left _ (h)))))
set_option maxRecDepth 20000 in
theorem gmX10_worstNow__X10_canShow_r2 : ∀ w ∈ wsX10_canShow_r2, w ∈ wsX10_worstNow := List.forall_mem_cons.mpr ⟨(gcX10_worstNow__X10_worstNow_r2 _ (List.mem_of_getElem? (i := 4) rfl)), List.forall_mem_cons.mpr ⟨(gcX10_worstNow__X10_worstNow_r2 _ (List.mem_of_getElem? (i := 5) rfl)), List.forall_mem_cons.mpr ⟨(gcX10_worstNow__X10_worstNow_r2 _ (List.mem_of_getElem? (i := 6) rfl)), List.forall_mem_cons.mpr ⟨(gcX10_worstNow__X10_worstNow_r2 _ (List.mem_of_getElem? (i := 7) rfl)), List.forall_mem_cons.mpr ⟨(gcX10_worstNow__X10_worstNow_r2 _ (List.mem_of_getElem? (i := 8) rfl)), List.forall_mem_cons.mpr ⟨(gcX10_worstNow__X10_worstNow_r2 _ (List.mem_of_getElem? (i := 9) rfl)), List.forall_mem_cons.mpr ⟨(gcX10_worstNow__X10_worstNow_r2 _ (List.mem_of_getElem? (i := 10) rfl)), List.forall_mem_cons.mpr ⟨(gcX10_worstNow__X10_worstNow_r2 _ (List.mem_of_getElem? (i := 11) rfl)), List.forall_mem_cons.mpr ⟨(gcX10_worstNow__X10_worstNow_r2 _ (List.mem_of_getElem? (i := 12) rfl)), List.forall_mem_cons.mpr ⟨(gcX10_worstNow__X10_worstNow_r2 _ (List.mem_of_getElem? (i := 13) rfl)), List.forall_mem_cons.mpr ⟨(gcX10_worstNow__X10_worstNow_r2 _ (List.mem_of_getElem? (i := 14) rfl)), List.forall_mem_cons.mpr ⟨(gcX10_worstNow__X10_worstNow_r2 _ (List.mem_of_getElem? (i := 15) rfl)), List.forall_mem_cons.mpr ⟨(gcX10_worstNow__X10_worstNow_r2 _ (List.mem_of_getElem? (i := 16) rfl)), List.forall_mem_cons.mpr ⟨(gcX10_worstNow__X10_worstNow_r2 _ (List.mem_of_getElem? (i := 17) rfl)), List.forall_mem_cons.mpr ⟨(gcX10_worstNow__X10_worstNow_r2 _ (List.mem_of_getElem? (i := 18) rfl)), List.forall_mem_cons.mpr ⟨(gcX10_worstNow__X10_worstNow_r2 _ (List.mem_of_getElem? (i := 19) rfl)), List.forall_mem_cons.mpr ⟨(gcX10_worstNow__X10_worstNow_r2 _ (List.mem_of_getElem? (i := 20) rfl)), List.forall_mem_cons.mpr ⟨(gcX10_worstNow__X10_worstNow_r2 _ (List.mem_of_getElem? (i := 21) rfl)), List.forall_mem_cons.mpr ⟨(gcX10_worstNow__X10_worstNow_r2 _ (List.mem_of_getElem? (i := 22) rfl)), List.forall_mem_cons.mpr ⟨(gcX10_worstNow__X10_worstNow_r2 _ (List.mem_of_getElem? (i := 23) rfl)), List.forall_mem_cons.mpr ⟨(gcX10_worstNow__X10_worstNow_r3 _ (List.mem_of_getElem? (i := 0) rfl)), List.forall_mem_cons.mpr ⟨(gcX10_worstNow__X10_worstNow_r3 _ (List.mem_of_getElem? (i := 1) rfl)), List.forall_mem_cons.mpr ⟨(gcX10_worstNow__X10_worstNow_r3 _ (List.mem_of_getElem? (i := 2) rfl)), List.forall_mem_cons.mpr ⟨(gcX10_worstNow__X10_worstNow_r3 _ (List.mem_of_getElem? (i := 3) rfl)), fun _ h => (List.not_mem_nil h).elim⟩⟩⟩⟩⟩⟩⟩⟩⟩⟩⟩⟩⟩⟩⟩⟩⟩⟩⟩⟩⟩⟩⟩⟩
set_option maxRecDepth 20000 in
theorem gmX10_worstNow__X10_canShow_r3 : ∀ w ∈ wsX10_canShow_r3, w ∈ wsX10_worstNow := List.forall_mem_cons.mpr ⟨(gcX10_worstNow__X10_worstNow_r3 _ (List.mem_of_getElem? (i := 4) rfl)), List.forall_mem_cons.mpr ⟨(gcX10_worstNow__X10_worstNow_r3 _ (List.mem_of_getElem? (i := 5) rfl)), List.forall_mem_cons.mpr ⟨(gcX10_worstNow__X10_worstNow_r3 _ (List.mem_of_getElem? (i := 6) rfl)), List.forall_mem_cons.mpr ⟨(gcX10_worstNow__X10_worstNow_r3 _ (List.mem_of_getElem? (i := 7) rfl)), List.forall_mem_cons.mpr ⟨(gcX10_worstNow__X10_worstNow_r3 _ (List.mem_of_getElem? (i := 8) rfl)), List.forall_mem_cons.mpr ⟨(gcX10_worstNow__X10_worstNow_r3 _ (List.mem_of_getElem? (i := 9) rfl)), fun _ h => (List.not_mem_nil h).elim⟩⟩⟩⟩⟩⟩
set_option maxRecDepth 20000 in
theorem ggX10_worstNow_X10_canShow : GoodIn wsX10_worstNow wsX10_canShow := goodIn_sub (List.forall_mem_cons.mpr ⟨(gcX10_worstNow__X10_worstNow_r1 _ (List.mem_of_getElem? (i := 9) rfl)), List.forall_mem_append.mpr ⟨List.forall_mem_append.mpr ⟨gmX10_worstNow__X10_canShow_r1, List.forall_mem_append.mpr ⟨gmX10_worstNow__X10_canShow_r2, gmX10_worstNow__X10_canShow_r3⟩⟩, gcX10_worstNow__X100⟩⟩) gwX10_canShow
set_option maxRecDepth 20000 in
theorem gX10_worstNow_X10_canShow : GoodIn wsX10_worstNow (wsV RX10 430 RX10 yX10_canShow wsX10_canShow) := goodIn_app (goodIn_sub (List.forall_mem_cons.mpr ⟨(gcX10_worstNow__X10_worstNow_r1 _ (List.mem_of_getElem? (i := 6) rfl)), List.forall_mem_cons.mpr ⟨(gcX10_worstNow__X10_worstNow_r1 _ (List.mem_of_getElem? (i := 7) rfl)), List.forall_mem_cons.mpr ⟨(gcX10_worstNow__X10_worstNow_r1 _ (List.mem_of_getElem? (i := 8) rfl)), List.forall_mem_cons.mpr ⟨(gcX10_worstNow__X10_worstNow_r1 _ (List.mem_of_getElem? (i := 3) rfl)), fun _ h => (List.not_mem_nil h).elim⟩⟩⟩⟩) (by decide +kernel)) ggX10_worstNow_X10_canShow
theorem gcX10_worstNow__X10_worstNow_r4 : ∀ w ∈ wsX10_worstNow_r4, w ∈ wsX10_worstNow := fun w h => List.mem_cons_of_mem _ (List.mem_append_left _ (List.mem_append_right _ (List.mem_append_right _ (List.mem_append_right _ (h)))))
set_option maxRecDepth 20000 in
theorem gmX10_worstNow__X10_doubtOf_r1 : ∀ w ∈ wsX10_doubtOf_r1, w ∈ wsX10_worstNow := List.forall_mem_cons.mpr ⟨(gcX10_worstNow__X10_worstNow_r3 _ (List.mem_of_getElem? (i := 14) rfl)), List.forall_mem_cons.mpr ⟨(gcX10_worstNow__X10_worstNow_r3 _ (List.mem_of_getElem? (i := 15) rfl)), List.forall_mem_cons.mpr ⟨(gcX10_worstNow__X10_worstNow_r3 _ (List.mem_of_getElem? (i := 16) rfl)), List.forall_mem_cons.mpr ⟨(gcX10_worstNow__X10_worstNow_r1 _ (List.mem_of_getElem? (i := 3) rfl)), List.forall_mem_cons.mpr ⟨(gcX10_worstNow__X10_worstNow_r3 _ (List.mem_of_getElem? (i := 17) rfl)), List.forall_mem_cons.mpr ⟨(gcX10_worstNow__X10_worstNow_r3 _ (List.mem_of_getElem? (i := 18) rfl)), List.forall_mem_cons.mpr ⟨(gcX10_worstNow__X10_worstNow_r1 _ (List.mem_of_getElem? (i := 21) rfl)), List.forall_mem_cons.mpr ⟨(gcX10_worstNow__X10_worstNow_r1 _ (List.mem_of_getElem? (i := 22) rfl)), List.forall_mem_cons.mpr ⟨(gcX10_worstNow__X10_worstNow_r1 _ (List.mem_of_getElem? (i := 23) rfl)), List.forall_mem_cons.mpr ⟨(gcX10_worstNow__X10_worstNow_r2 _ (List.mem_of_getElem? (i := 0) rfl)), List.forall_mem_cons.mpr ⟨(gcX10_worstNow__X10_worstNow_r2 _ (List.mem_of_getElem? (i := 1) rfl)), List.forall_mem_cons.mpr ⟨(gcX10_worstNow__X10_worstNow_r3 _ (List.mem_of_getElem? (i := 19) rfl)), List.forall_mem_cons.mpr ⟨(gcX10_worstNow__X10_worstNow_r3 _ (List.mem_of_getElem? (i := 20) rfl)), List.forall_mem_cons.mpr ⟨(gcX10_worstNow__X10_worstNow_r3 _ (List.mem_of_getElem? (i := 21) rfl)), List.forall_mem_cons.mpr ⟨(gcX10_worstNow__X10_worstNow_r3 _ (List.mem_of_getElem? (i := 22) rfl)), List.forall_mem_cons.mpr ⟨(gcX10_worstNow__X10_worstNow_r1 _ (List.mem_of_getElem? (i := 16) rfl)), List.forall_mem_cons.mpr ⟨(gcX10_worstNow__X10_worstNow_r1 _ (List.mem_of_getElem? (i := 17) rfl)), List.forall_mem_cons.mpr ⟨(gcX10_worstNow__X10_worstNow_r1 _ (List.mem_of_getElem? (i := 18) rfl)), List.forall_mem_cons.mpr ⟨(gcX10_worstNow__X10_worstNow_r1 _ (List.mem_of_getElem? (i := 19) rfl)), List.forall_mem_cons.mpr ⟨(gcX10_worstNow__X10_worstNow_r1 _ (List.mem_of_getElem? (i := 20) rfl)), List.forall_mem_cons.mpr ⟨(gcX10_worstNow__X10_worstNow_r3 _ (List.mem_of_getElem? (i := 23) rfl)), List.forall_mem_cons.mpr ⟨(gcX10_worstNow__X10_worstNow_r4 _ (List.mem_of_getElem? (i := 0) rfl)), List.forall_mem_cons.mpr ⟨(gcX10_worstNow__X10_worstNow_r4 _ (List.mem_of_getElem? (i := 1) rfl)), List.forall_mem_cons.mpr ⟨(gcX10_worstNow__X10_worstNow_r4 _ (List.mem_of_getElem? (i := 2) rfl)), fun _ h => (List.not_mem_nil h).elim⟩⟩⟩⟩⟩⟩⟩⟩⟩⟩⟩⟩⟩⟩⟩⟩⟩⟩⟩⟩⟩⟩⟩⟩
set_option maxRecDepth 20000 in
theorem gmX10_worstNow__X10_doubtOf_r2 : ∀ w ∈ wsX10_doubtOf_r2, w ∈ wsX10_worstNow := List.forall_mem_cons.mpr ⟨(gcX10_worstNow__X10_worstNow_r4 _ (List.mem_of_getElem? (i := 3) rfl)), List.forall_mem_cons.mpr ⟨(gcX10_worstNow__X10_worstNow_r4 _ (List.mem_of_getElem? (i := 4) rfl)), List.forall_mem_cons.mpr ⟨(gcX10_worstNow__X10_worstNow_r4 _ (List.mem_of_getElem? (i := 5) rfl)), List.forall_mem_cons.mpr ⟨(gcX10_worstNow__X10_worstNow_r4 _ (List.mem_of_getElem? (i := 6) rfl)), List.forall_mem_cons.mpr ⟨(gcX10_worstNow__X10_worstNow_r4 _ (List.mem_of_getElem? (i := 7) rfl)), List.forall_mem_cons.mpr ⟨(gcX10_worstNow__X10_worstNow_r4 _ (List.mem_of_getElem? (i := 8) rfl)), List.forall_mem_cons.mpr ⟨(gcX10_worstNow__X10_worstNow_r4 _ (List.mem_of_getElem? (i := 9) rfl)), List.forall_mem_cons.mpr ⟨(gcX10_worstNow__X10_worstNow_r4 _ (List.mem_of_getElem? (i := 10) rfl)), List.forall_mem_cons.mpr ⟨(gcX10_worstNow__X10_worstNow_r4 _ (List.mem_of_getElem? (i := 11) rfl)), List.forall_mem_cons.mpr ⟨(gcX10_worstNow__X10_worstNow_r4 _ (List.mem_of_getElem? (i := 12) rfl)), List.forall_mem_cons.mpr ⟨(gcX10_worstNow__X10_worstNow_r4 _ (List.mem_of_getElem? (i := 13) rfl)), fun _ h => (List.not_mem_nil h).elim⟩⟩⟩⟩⟩⟩⟩⟩⟩⟩⟩
set_option maxRecDepth 20000 in
theorem ggX10_worstNow_X10_doubtOf : GoodIn wsX10_worstNow wsX10_doubtOf := goodIn_sub (List.forall_mem_cons.mpr ⟨(gcX10_worstNow__X10_worstNow_r3 _ (List.mem_of_getElem? (i := 13) rfl)), List.forall_mem_append.mpr ⟨List.forall_mem_append.mpr ⟨gmX10_worstNow__X10_doubtOf_r1, gmX10_worstNow__X10_doubtOf_r2⟩, gcX10_worstNow__X100⟩⟩) gwX10_doubtOf
set_option maxRecDepth 20000 in
theorem gX10_worstNow_X10_doubtOf : GoodIn wsX10_worstNow (wsV RX10 328 RX10 yX10_doubtOf wsX10_doubtOf) := goodIn_app (goodIn_sub (List.forall_mem_cons.mpr ⟨(gcX10_worstNow__X10_worstNow_r3 _ (List.mem_of_getElem? (i := 10) rfl)), List.forall_mem_cons.mpr ⟨(gcX10_worstNow__X10_worstNow_r3 _ (List.mem_of_getElem? (i := 11) rfl)), List.forall_mem_cons.mpr ⟨(gcX10_worstNow__X10_worstNow_r3 _ (List.mem_of_getElem? (i := 12) rfl)), List.forall_mem_cons.mpr ⟨(gcX10_worstNow__X10_worstNow_r1 _ (List.mem_of_getElem? (i := 3) rfl)), fun _ h => (List.not_mem_nil h).elim⟩⟩⟩⟩) (by decide +kernel)) ggX10_worstNow_X10_doubtOf
theorem dX10_worstNow_0 : decode cX10_worstNow 0 = .ok (.iconst (-1), 1) := by decide +kernel
theorem dX10_worstNow_1 : decode cX10_worstNow 1 = .ok (.istore_n 1, 1) := by decide +kernel
theorem dX10_worstNow_2 : decode cX10_worstNow 2 = .ok (.iconst 0, 1) := by decide +kernel
theorem dX10_worstNow_3 : decode cX10_worstNow 3 = .ok (.istore_n 2, 1) := by decide +kernel
theorem dX10_worstNow_4 : decode cX10_worstNow 4 = .ok (.iload_n 2, 1) := by decide +kernel
theorem dX10_worstNow_5 : decode cX10_worstNow 5 = .ok (.aload_n 0, 1) := by decide +kernel
theorem dX10_worstNow_6 : decode cX10_worstNow 6 = .ok (.invokevirtual 265, 3) := by decide +kernel
theorem dX10_worstNow_9 : decode cX10_worstNow 9 = .ok (.if_icmp .ge 38, 3) := by decide +kernel
theorem dX10_worstNow_12 : decode cX10_worstNow 12 = .ok (.aload_n 0, 1) := by decide +kernel
theorem dX10_worstNow_13 : decode cX10_worstNow 13 = .ok (.iload_n 2, 1) := by decide +kernel
theorem dX10_worstNow_14 : decode cX10_worstNow 14 = .ok (.invokevirtual 430, 3) := by decide +kernel
theorem dX10_worstNow_17 : decode cX10_worstNow 17 = .ok (.ifCond .eq 24, 3) := by decide +kernel
theorem dX10_worstNow_20 : decode cX10_worstNow 20 = .ok (.iload_n 1, 1) := by decide +kernel
theorem dX10_worstNow_21 : decode cX10_worstNow 21 = .ok (.iconst (-1), 1) := by decide +kernel
theorem dX10_worstNow_22 : decode cX10_worstNow 22 = .ok (.if_icmp .eq 17, 3) := by decide +kernel
theorem dX10_worstNow_25 : decode cX10_worstNow 25 = .ok (.aload_n 0, 1) := by decide +kernel
theorem dX10_worstNow_26 : decode cX10_worstNow 26 = .ok (.iload_n 2, 1) := by decide +kernel
theorem dX10_worstNow_27 : decode cX10_worstNow 27 = .ok (.invokevirtual 328, 3) := by decide +kernel
theorem dX10_worstNow_30 : decode cX10_worstNow 30 = .ok (.aload_n 0, 1) := by decide +kernel
theorem dX10_worstNow_31 : decode cX10_worstNow 31 = .ok (.iload_n 1, 1) := by decide +kernel
theorem dX10_worstNow_32 : decode cX10_worstNow 32 = .ok (.invokevirtual 328, 3) := by decide +kernel
theorem dX10_worstNow_35 : decode cX10_worstNow 35 = .ok (.lcmp, 1) := by decide +kernel
theorem dX10_worstNow_36 : decode cX10_worstNow 36 = .ok (.ifCond .le 5, 3) := by decide +kernel
theorem dX10_worstNow_39 : decode cX10_worstNow 39 = .ok (.iload_n 2, 1) := by decide +kernel
theorem dX10_worstNow_40 : decode cX10_worstNow 40 = .ok (.istore_n 1, 1) := by decide +kernel
theorem dX10_worstNow_41 : decode cX10_worstNow 41 = .ok (.iinc 2 1, 3) := by decide +kernel
theorem dX10_worstNow_44 : decode cX10_worstNow 44 = .ok (.goto (-40), 3) := by decide +kernel
theorem dX10_worstNow_47 : decode cX10_worstNow 47 = .ok (.iload_n 1, 1) := by decide +kernel
theorem dX10_worstNow_48 : decode cX10_worstNow 48 = .ok (.ireturn, 1) := by decide +kernel
theorem gcX10_worst__X10_worst_r1 : ∀ w ∈ wsX10_worst_r1, w ∈ wsX10_worst := fun w h => List.mem_cons_of_mem _ (List.mem_append_left _ (List.mem_append_left _ (h)))
theorem gcX10_worst__X10_worst_r2 : ∀ w ∈ wsX10_worst_r2, w ∈ wsX10_worst := fun w h => List.mem_cons_of_mem _ (List.mem_append_left _ (List.mem_append_right _ (List.mem_append_left _ (h))))
set_option maxRecDepth 20000 in
theorem gmX10_worst__X10_worstNow_r1 : ∀ w ∈ wsX10_worstNow_r1, w ∈ wsX10_worst := List.forall_mem_cons.mpr ⟨(gcX10_worst__X10_worst_r1 _ (List.mem_of_getElem? (i := 5) rfl)), List.forall_mem_cons.mpr ⟨(gcX10_worst__X10_worst_r1 _ (List.mem_of_getElem? (i := 6) rfl)), List.forall_mem_cons.mpr ⟨(gcX10_worst__X10_worst_r1 _ (List.mem_of_getElem? (i := 7) rfl)), List.forall_mem_cons.mpr ⟨(gcX10_worst__X10_worst_r1 _ (List.mem_of_getElem? (i := 3) rfl)), List.forall_mem_cons.mpr ⟨(gcX10_worst__X10_worst_r1 _ (List.mem_of_getElem? (i := 8) rfl)), List.forall_mem_cons.mpr ⟨(gcX10_worst__X10_worst_r1 _ (List.mem_of_getElem? (i := 9) rfl)), List.forall_mem_cons.mpr ⟨(gcX10_worst__X10_worst_r1 _ (List.mem_of_getElem? (i := 10) rfl)), List.forall_mem_cons.mpr ⟨(gcX10_worst__X10_worst_r1 _ (List.mem_of_getElem? (i := 11) rfl)), List.forall_mem_cons.mpr ⟨(gcX10_worst__X10_worst_r1 _ (List.mem_of_getElem? (i := 12) rfl)), List.forall_mem_cons.mpr ⟨(gcX10_worst__X10_worst_r1 _ (List.mem_of_getElem? (i := 13) rfl)), List.forall_mem_cons.mpr ⟨(gcX10_worst__X10_worst_r1 _ (List.mem_of_getElem? (i := 14) rfl)), List.forall_mem_cons.mpr ⟨(gcX10_worst__X10_worst_r1 _ (List.mem_of_getElem? (i := 15) rfl)), List.forall_mem_cons.mpr ⟨(gcX10_worst__X10_worst_r1 _ (List.mem_of_getElem? (i := 16) rfl)), List.forall_mem_cons.mpr ⟨(gcX10_worst__X10_worst_r1 _ (List.mem_of_getElem? (i := 17) rfl)), List.forall_mem_cons.mpr ⟨(gcX10_worst__X10_worst_r1 _ (List.mem_of_getElem? (i := 18) rfl)), List.forall_mem_cons.mpr ⟨(gcX10_worst__X10_worst_r1 _ (List.mem_of_getElem? (i := 19) rfl)), List.forall_mem_cons.mpr ⟨(gcX10_worst__X10_worst_r1 _ (List.mem_of_getElem? (i := 20) rfl)), List.forall_mem_cons.mpr ⟨(gcX10_worst__X10_worst_r1 _ (List.mem_of_getElem? (i := 21) rfl)), List.forall_mem_cons.mpr ⟨(gcX10_worst__X10_worst_r1 _ (List.mem_of_getElem? (i := 22) rfl)), List.forall_mem_cons.mpr ⟨(gcX10_worst__X10_worst_r1 _ (List.mem_of_getElem? (i := 23) rfl)), List.forall_mem_cons.mpr ⟨(gcX10_worst__X10_worst_r2 _ (List.mem_of_getElem? (i := 0) rfl)), List.forall_mem_cons.mpr ⟨(gcX10_worst__X10_worst_r2 _ (List.mem_of_getElem? (i := 1) rfl)), List.forall_mem_cons.mpr ⟨(gcX10_worst__X10_worst_r2 _ (List.mem_of_getElem? (i := 2) rfl)), List.forall_mem_cons.mpr ⟨(gcX10_worst__X10_worst_r2 _ (List.mem_of_getElem? (i := 3) rfl)), fun _ h => (List.not_mem_nil h).elim⟩⟩⟩⟩⟩⟩⟩⟩⟩⟩⟩⟩⟩⟩⟩⟩⟩⟩⟩⟩⟩⟩⟩⟩
theorem gcX10_worst__X10_worst_r3 : ∀ w ∈ wsX10_worst_r3, w ∈ wsX10_worst := fun w h => List.mem_cons_of_mem _ (List.mem_append_left _ (List.mem_append_right _ (List.mem_append_right _ (List.mem_append_left _ (h)))))
set_option maxRecDepth 20000 in
theorem gmX10_worst__X10_worstNow_r2 : ∀ w ∈ wsX10_worstNow_r2, w ∈ wsX10_worst := List.forall_mem_cons.mpr ⟨(gcX10_worst__X10_worst_r2 _ (List.mem_of_getElem? (i := 4) rfl)), List.forall_mem_cons.mpr ⟨(gcX10_worst__X10_worst_r2 _ (List.mem_of_getElem? (i := 5) rfl)), List.forall_mem_cons.mpr ⟨(gcX10_worst__X10_worst_r2 _ (List.mem_of_getElem? (i := 6) rfl)), List.forall_mem_cons.mpr ⟨(gcX10_worst__X10_worst_r2 _ (List.mem_of_getElem? (i := 7) rfl)), List.forall_mem_cons.mpr ⟨(gcX10_worst__X10_worst_r2 _ (List.mem_of_getElem? (i := 8) rfl)), List.forall_mem_cons.mpr ⟨(gcX10_worst__X10_worst_r2 _ (List.mem_of_getElem? (i := 9) rfl)), List.forall_mem_cons.mpr ⟨(gcX10_worst__X10_worst_r2 _ (List.mem_of_getElem? (i := 10) rfl)), List.forall_mem_cons.mpr ⟨(gcX10_worst__X10_worst_r2 _ (List.mem_of_getElem? (i := 11) rfl)), List.forall_mem_cons.mpr ⟨(gcX10_worst__X10_worst_r2 _ (List.mem_of_getElem? (i := 12) rfl)), List.forall_mem_cons.mpr ⟨(gcX10_worst__X10_worst_r2 _ (List.mem_of_getElem? (i := 13) rfl)), List.forall_mem_cons.mpr ⟨(gcX10_worst__X10_worst_r2 _ (List.mem_of_getElem? (i := 14) rfl)), List.forall_mem_cons.mpr ⟨(gcX10_worst__X10_worst_r2 _ (List.mem_of_getElem? (i := 15) rfl)), List.forall_mem_cons.mpr ⟨(gcX10_worst__X10_worst_r2 _ (List.mem_of_getElem? (i := 16) rfl)), List.forall_mem_cons.mpr ⟨(gcX10_worst__X10_worst_r2 _ (List.mem_of_getElem? (i := 17) rfl)), List.forall_mem_cons.mpr ⟨(gcX10_worst__X10_worst_r2 _ (List.mem_of_getElem? (i := 18) rfl)), List.forall_mem_cons.mpr ⟨(gcX10_worst__X10_worst_r2 _ (List.mem_of_getElem? (i := 19) rfl)), List.forall_mem_cons.mpr ⟨(gcX10_worst__X10_worst_r2 _ (List.mem_of_getElem? (i := 20) rfl)), List.forall_mem_cons.mpr ⟨(gcX10_worst__X10_worst_r2 _ (List.mem_of_getElem? (i := 21) rfl)), List.forall_mem_cons.mpr ⟨(gcX10_worst__X10_worst_r2 _ (List.mem_of_getElem? (i := 22) rfl)), List.forall_mem_cons.mpr ⟨(gcX10_worst__X10_worst_r2 _ (List.mem_of_getElem? (i := 23) rfl)), List.forall_mem_cons.mpr ⟨(gcX10_worst__X10_worst_r3 _ (List.mem_of_getElem? (i := 0) rfl)), List.forall_mem_cons.mpr ⟨(gcX10_worst__X10_worst_r3 _ (List.mem_of_getElem? (i := 1) rfl)), List.forall_mem_cons.mpr ⟨(gcX10_worst__X10_worst_r3 _ (List.mem_of_getElem? (i := 2) rfl)), List.forall_mem_cons.mpr ⟨(gcX10_worst__X10_worst_r3 _ (List.mem_of_getElem? (i := 3) rfl)), fun _ h => (List.not_mem_nil h).elim⟩⟩⟩⟩⟩⟩⟩⟩⟩⟩⟩⟩⟩⟩⟩⟩⟩⟩⟩⟩⟩⟩⟩⟩
theorem gcX10_worst__X10_worst_r4 : ∀ w ∈ wsX10_worst_r4, w ∈ wsX10_worst := fun w h => List.mem_cons_of_mem _ (List.mem_append_left _ (List.mem_append_right _ (List.mem_append_right _ (List.mem_append_right _ (h)))))
set_option maxRecDepth 20000 in
theorem gmX10_worst__X10_worstNow_r3 : ∀ w ∈ wsX10_worstNow_r3, w ∈ wsX10_worst := List.forall_mem_cons.mpr ⟨(gcX10_worst__X10_worst_r3 _ (List.mem_of_getElem? (i := 4) rfl)), List.forall_mem_cons.mpr ⟨(gcX10_worst__X10_worst_r3 _ (List.mem_of_getElem? (i := 5) rfl)), List.forall_mem_cons.mpr ⟨(gcX10_worst__X10_worst_r3 _ (List.mem_of_getElem? (i := 6) rfl)), List.forall_mem_cons.mpr ⟨(gcX10_worst__X10_worst_r3 _ (List.mem_of_getElem? (i := 7) rfl)), List.forall_mem_cons.mpr ⟨(gcX10_worst__X10_worst_r3 _ (List.mem_of_getElem? (i := 8) rfl)), List.forall_mem_cons.mpr ⟨(gcX10_worst__X10_worst_r3 _ (List.mem_of_getElem? (i := 9) rfl)), List.forall_mem_cons.mpr ⟨(gcX10_worst__X10_worst_r3 _ (List.mem_of_getElem? (i := 10) rfl)), List.forall_mem_cons.mpr ⟨(gcX10_worst__X10_worst_r3 _ (List.mem_of_getElem? (i := 11) rfl)), List.forall_mem_cons.mpr ⟨(gcX10_worst__X10_worst_r3 _ (List.mem_of_getElem? (i := 12) rfl)), List.forall_mem_cons.mpr ⟨(gcX10_worst__X10_worst_r3 _ (List.mem_of_getElem? (i := 13) rfl)), List.forall_mem_cons.mpr ⟨(gcX10_worst__X10_worst_r3 _ (List.mem_of_getElem? (i := 14) rfl)), List.forall_mem_cons.mpr ⟨(gcX10_worst__X10_worst_r3 _ (List.mem_of_getElem? (i := 15) rfl)), List.forall_mem_cons.mpr ⟨(gcX10_worst__X10_worst_r3 _ (List.mem_of_getElem? (i := 16) rfl)), List.forall_mem_cons.mpr ⟨(gcX10_worst__X10_worst_r3 _ (List.mem_of_getElem? (i := 17) rfl)), List.forall_mem_cons.mpr ⟨(gcX10_worst__X10_worst_r3 _ (List.mem_of_getElem? (i := 18) rfl)), List.forall_mem_cons.mpr ⟨(gcX10_worst__X10_worst_r3 _ (List.mem_of_getElem? (i := 19) rfl)), List.forall_mem_cons.mpr ⟨(gcX10_worst__X10_worst_r3 _ (List.mem_of_getElem? (i := 20) rfl)), List.forall_mem_cons.mpr ⟨(gcX10_worst__X10_worst_r3 _ (List.mem_of_getElem? (i := 21) rfl)), List.forall_mem_cons.mpr ⟨(gcX10_worst__X10_worst_r3 _ (List.mem_of_getElem? (i := 22) rfl)), List.forall_mem_cons.mpr ⟨(gcX10_worst__X10_worst_r3 _ (List.mem_of_getElem? (i := 23) rfl)), List.forall_mem_cons.mpr ⟨(gcX10_worst__X10_worst_r4 _ (List.mem_of_getElem? (i := 0) rfl)), List.forall_mem_cons.mpr ⟨(gcX10_worst__X10_worst_r4 _ (List.mem_of_getElem? (i := 1) rfl)), List.forall_mem_cons.mpr ⟨(gcX10_worst__X10_worst_r4 _ (List.mem_of_getElem? (i := 2) rfl)), List.forall_mem_cons.mpr ⟨(gcX10_worst__X10_worst_r4 _ (List.mem_of_getElem? (i := 3) rfl)), fun _ h => (List.not_mem_nil h).elim⟩⟩⟩⟩⟩⟩⟩⟩⟩⟩⟩⟩⟩⟩⟩⟩⟩⟩⟩⟩⟩⟩⟩⟩
set_option maxRecDepth 20000 in
theorem gmX10_worst__X10_worstNow_r4 : ∀ w ∈ wsX10_worstNow_r4, w ∈ wsX10_worst := List.forall_mem_cons.mpr ⟨(gcX10_worst__X10_worst_r4 _ (List.mem_of_getElem? (i := 4) rfl)), List.forall_mem_cons.mpr ⟨(gcX10_worst__X10_worst_r4 _ (List.mem_of_getElem? (i := 5) rfl)), List.forall_mem_cons.mpr ⟨(gcX10_worst__X10_worst_r4 _ (List.mem_of_getElem? (i := 6) rfl)), List.forall_mem_cons.mpr ⟨(gcX10_worst__X10_worst_r4 _ (List.mem_of_getElem? (i := 7) rfl)), List.forall_mem_cons.mpr ⟨(gcX10_worst__X10_worst_r4 _ (List.mem_of_getElem? (i := 8) rfl)), List.forall_mem_cons.mpr ⟨(gcX10_worst__X10_worst_r4 _ (List.mem_of_getElem? (i := 9) rfl)), List.forall_mem_cons.mpr ⟨(gcX10_worst__X10_worst_r4 _ (List.mem_of_getElem? (i := 10) rfl)), List.forall_mem_cons.mpr ⟨(gcX10_worst__X10_worst_r4 _ (List.mem_of_getElem? (i := 11) rfl)), List.forall_mem_cons.mpr ⟨(gcX10_worst__X10_worst_r4 _ (List.mem_of_getElem? (i := 12) rfl)), List.forall_mem_cons.mpr ⟨(gcX10_worst__X10_worst_r4 _ (List.mem_of_getElem? (i := 13) rfl)), List.forall_mem_cons.mpr ⟨(gcX10_worst__X10_worst_r4 _ (List.mem_of_getElem? (i := 14) rfl)), List.forall_mem_cons.mpr ⟨(gcX10_worst__X10_worst_r4 _ (List.mem_of_getElem? (i := 15) rfl)), List.forall_mem_cons.mpr ⟨(gcX10_worst__X10_worst_r4 _ (List.mem_of_getElem? (i := 16) rfl)), List.forall_mem_cons.mpr ⟨(gcX10_worst__X10_worst_r4 _ (List.mem_of_getElem? (i := 17) rfl)), fun _ h => (List.not_mem_nil h).elim⟩⟩⟩⟩⟩⟩⟩⟩⟩⟩⟩⟩⟩⟩
theorem gcX10_worst__X100 : ∀ w ∈ wsX100, w ∈ wsX10_worst := fun w h => List.mem_cons_of_mem _ (List.mem_append_right _ (h))
set_option maxRecDepth 20000 in
theorem gwX10_worstNow : wsX10_worstNow.all goodWord = true := by decide +kernel
set_option maxRecDepth 20000 in
theorem ggX10_worst_X10_worstNow : GoodIn wsX10_worst wsX10_worstNow := goodIn_sub (List.forall_mem_cons.mpr ⟨(gcX10_worst__X10_worst_r1 _ (List.mem_of_getElem? (i := 4) rfl)), List.forall_mem_append.mpr ⟨List.forall_mem_append.mpr ⟨gmX10_worst__X10_worstNow_r1, List.forall_mem_append.mpr ⟨gmX10_worst__X10_worstNow_r2, List.forall_mem_append.mpr ⟨gmX10_worst__X10_worstNow_r3, gmX10_worst__X10_worstNow_r4⟩⟩⟩, gcX10_worst__X100⟩⟩) gwX10_worstNow
set_option maxRecDepth 20000 in
theorem gX10_worst_X10_worstNow : GoodIn wsX10_worst (wsV RX10 448 RX10 yX10_worstNow wsX10_worstNow) := goodIn_app (goodIn_sub (List.forall_mem_cons.mpr ⟨(gcX10_worst__X10_worst_r1 _ (List.mem_of_getElem? (i := 0) rfl)), List.forall_mem_cons.mpr ⟨(gcX10_worst__X10_worst_r1 _ (List.mem_of_getElem? (i := 1) rfl)), List.forall_mem_cons.mpr ⟨(gcX10_worst__X10_worst_r1 _ (List.mem_of_getElem? (i := 2) rfl)), List.forall_mem_cons.mpr ⟨(gcX10_worst__X10_worst_r1 _ (List.mem_of_getElem? (i := 3) rfl)), fun _ h => (List.not_mem_nil h).elim⟩⟩⟩⟩) (by decide +kernel)) ggX10_worst_X10_worstNow
theorem dX10_worst_0 : decode cX10_worst 0 = .ok (.aload_n 0, 1) := by decide +kernel
theorem dX10_worst_1 : decode cX10_worst 1 = .ok (.invokevirtual 448, 3) := by decide +kernel
theorem dX10_worst_4 : decode cX10_worst 4 = .ok (.ireturn, 1) := by decide +kernel
theorem gcX10_drop__X100 : ∀ w ∈ wsX100, w ∈ wsX10_drop := fun w h => List.mem_cons_of_mem _ (List.mem_append_right _ (h))
set_option maxRecDepth 20000 in
theorem ggX10_drop_X10_isRow : GoodIn wsX10_drop wsX10_isRow := goodIn_sub (List.forall_mem_cons.mpr ⟨(List.mem_of_getElem? (i := 6) rfl), List.forall_mem_append.mpr ⟨List.forall_mem_cons.mpr ⟨(List.mem_of_getElem? (i := 7) rfl), List.forall_mem_cons.mpr ⟨(List.mem_of_getElem? (i := 8) rfl), List.forall_mem_cons.mpr ⟨(List.mem_of_getElem? (i := 9) rfl), List.forall_mem_cons.mpr ⟨(List.mem_of_getElem? (i := 5) rfl), List.forall_mem_cons.mpr ⟨(List.mem_of_getElem? (i := 10) rfl), List.forall_mem_cons.mpr ⟨(List.mem_of_getElem? (i := 11) rfl), List.forall_mem_cons.mpr ⟨(List.mem_of_getElem? (i := 12) rfl), List.forall_mem_cons.mpr ⟨(List.mem_of_getElem? (i := 13) rfl), List.forall_mem_cons.mpr ⟨(List.mem_of_getElem? (i := 14) rfl), fun _ h => (List.not_mem_nil h).elim⟩⟩⟩⟩⟩⟩⟩⟩⟩, gcX10_drop__X100⟩⟩) gwX10_isRow
set_option maxRecDepth 20000 in
theorem gX10_drop_X10_isRow : GoodIn wsX10_drop (wsV RX10 433 RX10 yX10_isRow wsX10_isRow) := goodIn_app (goodIn_sub (List.forall_mem_cons.mpr ⟨(List.mem_of_getElem? (i := 2) rfl), List.forall_mem_cons.mpr ⟨(List.mem_of_getElem? (i := 3) rfl), List.forall_mem_cons.mpr ⟨(List.mem_of_getElem? (i := 4) rfl), List.forall_mem_cons.mpr ⟨(List.mem_of_getElem? (i := 5) rfl), fun _ h => (List.not_mem_nil h).elim⟩⟩⟩⟩) (by decide +kernel)) ggX10_drop_X10_isRow
theorem dX10_drop_0 : decode cX10_drop 0 = .ok (.aload_n 0, 1) := by decide +kernel
theorem dX10_drop_1 : decode cX10_drop 1 = .ok (.iload_n 1, 1) := by decide +kernel
theorem dX10_drop_2 : decode cX10_drop 2 = .ok (.invokevirtual 433, 3) := by decide +kernel
theorem dX10_drop_5 : decode cX10_drop 5 = .ok (.ifCond .eq 13, 3) := by decide +kernel
theorem dX10_drop_8 : decode cX10_drop 8 = .ok (.aload_n 0, 1) := by decide +kernel
theorem dX10_drop_9 : decode cX10_drop 9 = .ok (.getfield 91, 3) := by decide +kernel
theorem dX10_drop_12 : decode cX10_drop 12 = .ok (.iload_n 1, 1) := by decide +kernel
theorem dX10_drop_13 : decode cX10_drop 13 = .ok (.baload, 1) := by decide +kernel
theorem dX10_drop_14 : decode cX10_drop 14 = .ok (.iload_n 2, 1) := by decide +kernel
theorem dX10_drop_15 : decode cX10_drop 15 = .ok (.if_icmp .ne 5, 3) := by decide +kernel
theorem dX10_drop_18 : decode cX10_drop 18 = .ok (.iconst 0, 1) := by decide +kernel
theorem dX10_drop_19 : decode cX10_drop 19 = .ok (.ireturn, 1) := by decide +kernel
theorem dX10_drop_20 : decode cX10_drop 20 = .ok (.aload_n 0, 1) := by decide +kernel
theorem dX10_drop_21 : decode cX10_drop 21 = .ok (.getfield 91, 3) := by decide +kernel
theorem dX10_drop_24 : decode cX10_drop 24 = .ok (.iload_n 1, 1) := by decide +kernel
theorem dX10_drop_25 : decode cX10_drop 25 = .ok (.iload_n 2, 1) := by decide +kernel
theorem dX10_drop_26 : decode cX10_drop 26 = .ok (.bastore, 1) := by decide +kernel
theorem dX10_drop_27 : decode cX10_drop 27 = .ok (.iconst 1, 1) := by decide +kernel
theorem dX10_drop_28 : decode cX10_drop 28 = .ok (.ireturn, 1) := by decide +kernel
theorem gcX10_clean__X10_clean_r1 : ∀ w ∈ wsX10_clean_r1, w ∈ wsX10_clean := fun w h => List.mem_cons_of_mem _ (List.mem_append_left _ (List.mem_append_left _ (h)))
theorem gcX10_clean__X100 : ∀ w ∈ wsX100, w ∈ wsX10_clean := fun w h => List.mem_cons_of_mem _ (List.mem_append_right _ (h))
set_option maxRecDepth 20000 in
theorem ggX10_clean_X10_rows : GoodIn wsX10_clean wsX10_rows := goodIn_sub (List.forall_mem_cons.mpr ⟨(gcX10_clean__X10_clean_r1 _ (List.mem_of_getElem? (i := 6) rfl)), List.forall_mem_append.mpr ⟨List.forall_mem_cons.mpr ⟨(gcX10_clean__X10_clean_r1 _ (List.mem_of_getElem? (i := 7) rfl)), fun _ h => (List.not_mem_nil h).elim⟩, gcX10_clean__X100⟩⟩) gwX10_rows
set_option maxRecDepth 20000 in
theorem gX10_clean_X10_rows : GoodIn wsX10_clean (wsV RX10 265 RX10 yX10_rows wsX10_rows) := goodIn_app (goodIn_sub (List.forall_mem_cons.mpr ⟨(gcX10_clean__X10_clean_r1 _ (List.mem_of_getElem? (i := 2) rfl)), List.forall_mem_cons.mpr ⟨(gcX10_clean__X10_clean_r1 _ (List.mem_of_getElem? (i := 3) rfl)), List.forall_mem_cons.mpr ⟨(gcX10_clean__X10_clean_r1 _ (List.mem_of_getElem? (i := 4) rfl)), List.forall_mem_cons.mpr ⟨(gcX10_clean__X10_clean_r1 _ (List.mem_of_getElem? (i := 5) rfl)), fun _ h => (List.not_mem_nil h).elim⟩⟩⟩⟩) (by decide +kernel)) ggX10_clean_X10_rows
theorem gcX10_clean__X10_clean_r2 : ∀ w ∈ wsX10_clean_r2, w ∈ wsX10_clean := fun w h => List.mem_cons_of_mem _ (List.mem_append_left _ (List.mem_append_right _ (List.mem_append_left _ (h))))
set_option maxRecDepth 20000 in
theorem gmX10_clean__X10_rests_r1 : ∀ w ∈ wsX10_rests_r1, w ∈ wsX10_clean := List.forall_mem_cons.mpr ⟨(gcX10_clean__X10_clean_r1 _ (List.mem_of_getElem? (i := 12) rfl)), List.forall_mem_cons.mpr ⟨(gcX10_clean__X10_clean_r1 _ (List.mem_of_getElem? (i := 13) rfl)), List.forall_mem_cons.mpr ⟨(gcX10_clean__X10_clean_r1 _ (List.mem_of_getElem? (i := 14) rfl)), List.forall_mem_cons.mpr ⟨(gcX10_clean__X10_clean_r1 _ (List.mem_of_getElem? (i := 5) rfl)), List.forall_mem_cons.mpr ⟨(gcX10_clean__X10_clean_r1 _ (List.mem_of_getElem? (i := 15) rfl)), List.forall_mem_cons.mpr ⟨(gcX10_clean__X10_clean_r1 _ (List.mem_of_getElem? (i := 7) rfl)), List.forall_mem_cons.mpr ⟨(gcX10_clean__X10_clean_r1 _ (List.mem_of_getElem? (i := 16) rfl)), List.forall_mem_cons.mpr ⟨(gcX10_clean__X10_clean_r1 _ (List.mem_of_getElem? (i := 17) rfl)), List.forall_mem_cons.mpr ⟨(gcX10_clean__X10_clean_r1 _ (List.mem_of_getElem? (i := 18) rfl)), List.forall_mem_cons.mpr ⟨(gcX10_clean__X10_clean_r1 _ (List.mem_of_getElem? (i := 19) rfl)), List.forall_mem_cons.mpr ⟨(gcX10_clean__X10_clean_r1 _ (List.mem_of_getElem? (i := 20) rfl)), List.forall_mem_cons.mpr ⟨(gcX10_clean__X10_clean_r1 _ (List.mem_of_getElem? (i := 21) rfl)), List.forall_mem_cons.mpr ⟨(gcX10_clean__X10_clean_r1 _ (List.mem_of_getElem? (i := 22) rfl)), List.forall_mem_cons.mpr ⟨(gcX10_clean__X10_clean_r1 _ (List.mem_of_getElem? (i := 23) rfl)), List.forall_mem_cons.mpr ⟨(gcX10_clean__X10_clean_r2 _ (List.mem_of_getElem? (i := 0) rfl)), List.forall_mem_cons.mpr ⟨(gcX10_clean__X10_clean_r2 _ (List.mem_of_getElem? (i := 1) rfl)), List.forall_mem_cons.mpr ⟨(gcX10_clean__X10_clean_r2 _ (List.mem_of_getElem? (i := 2) rfl)), List.forall_mem_cons.mpr ⟨(gcX10_clean__X10_clean_r2 _ (List.mem_of_getElem? (i := 3) rfl)), List.forall_mem_cons.mpr ⟨(gcX10_clean__X10_clean_r2 _ (List.mem_of_getElem? (i := 4) rfl)), List.forall_mem_cons.mpr ⟨(gcX10_clean__X10_clean_r2 _ (List.mem_of_getElem? (i := 5) rfl)), List.forall_mem_cons.mpr ⟨(gcX10_clean__X10_clean_r1 _ (List.mem_of_getElem? (i := 1) rfl)), List.forall_mem_cons.mpr ⟨(gcX10_clean__X10_clean_r2 _ (List.mem_of_getElem? (i := 6) rfl)), List.forall_mem_cons.mpr ⟨(gcX10_clean__X10_clean_r2 _ (List.mem_of_getElem? (i := 7) rfl)), List.forall_mem_cons.mpr ⟨(gcX10_clean__X10_clean_r2 _ (List.mem_of_getElem? (i := 8) rfl)), fun _ h => (List.not_mem_nil h).elim⟩⟩⟩⟩⟩⟩⟩⟩⟩⟩⟩⟩⟩⟩⟩⟩⟩⟩⟩⟩⟩⟩⟩⟩
theorem gcX10_clean__X10_clean_r3 : ∀ w ∈ wsX10_clean_r3, w ∈ wsX10_clean := fun w h => List.mem_cons_of_mem _ (List.mem_append_left _ (List.mem_append_right _ (List.mem_append_right _ (List.mem_append_left _ (h)))))
set_option maxRecDepth 20000 in
theorem gmX10_clean__X10_rests_r2 : ∀ w ∈ wsX10_rests_r2, w ∈ wsX10_clean := List.forall_mem_cons.mpr ⟨(gcX10_clean__X10_clean_r2 _ (List.mem_of_getElem? (i := 9) rfl)), List.forall_mem_cons.mpr ⟨(gcX10_clean__X10_clean_r2 _ (List.mem_of_getElem? (i := 10) rfl)), List.forall_mem_cons.mpr ⟨(gcX10_clean__X10_clean_r2 _ (List.mem_of_getElem? (i := 11) rfl)), List.forall_mem_cons.mpr ⟨(gcX10_clean__X10_clean_r1 _ (List.mem_of_getElem? (i := 2) rfl)), List.forall_mem_cons.mpr ⟨(gcX10_clean__X10_clean_r1 _ (List.mem_of_getElem? (i := 3) rfl)), List.forall_mem_cons.mpr ⟨(gcX10_clean__X10_clean_r1 _ (List.mem_of_getElem? (i := 4) rfl)), List.forall_mem_cons.mpr ⟨(gcX10_clean__X10_clean_r1 _ (List.mem_of_getElem? (i := 6) rfl)), List.forall_mem_cons.mpr ⟨(gcX10_clean__X10_clean_r2 _ (List.mem_of_getElem? (i := 12) rfl)), List.forall_mem_cons.mpr ⟨(gcX10_clean__X10_clean_r2 _ (List.mem_of_getElem? (i := 13) rfl)), List.forall_mem_cons.mpr ⟨(gcX10_clean__X10_clean_r2 _ (List.mem_of_getElem? (i := 14) rfl)), List.forall_mem_cons.mpr ⟨(gcX10_clean__X10_clean_r2 _ (List.mem_of_getElem? (i := 15) rfl)), List.forall_mem_cons.mpr ⟨(gcX10_clean__X10_clean_r2 _ (List.mem_of_getElem? (i := 16) rfl)), List.forall_mem_cons.mpr ⟨(gcX10_clean__X10_clean_r2 _ (List.mem_of_getElem? (i := 17) rfl)), List.forall_mem_cons.mpr ⟨(gcX10_clean__X10_clean_r2 _ (List.mem_of_getElem? (i := 18) rfl)), List.forall_mem_cons.mpr ⟨(gcX10_clean__X10_clean_r2 _ (List.mem_of_getElem? (i := 19) rfl)), List.forall_mem_cons.mpr ⟨(gcX10_clean__X10_clean_r2 _ (List.mem_of_getElem? (i := 20) rfl)), List.forall_mem_cons.mpr ⟨(gcX10_clean__X10_clean_r2 _ (List.mem_of_getElem? (i := 21) rfl)), List.forall_mem_cons.mpr ⟨(gcX10_clean__X10_clean_r2 _ (List.mem_of_getElem? (i := 22) rfl)), List.forall_mem_cons.mpr ⟨(gcX10_clean__X10_clean_r2 _ (List.mem_of_getElem? (i := 23) rfl)), List.forall_mem_cons.mpr ⟨(gcX10_clean__X10_clean_r3 _ (List.mem_of_getElem? (i := 0) rfl)), List.forall_mem_cons.mpr ⟨(gcX10_clean__X10_clean_r3 _ (List.mem_of_getElem? (i := 1) rfl)), List.forall_mem_cons.mpr ⟨(gcX10_clean__X10_clean_r3 _ (List.mem_of_getElem? (i := 2) rfl)), List.forall_mem_cons.mpr ⟨(gcX10_clean__X10_clean_r3 _ (List.mem_of_getElem? (i := 3) rfl)), List.forall_mem_cons.mpr ⟨(gcX10_clean__X10_clean_r3 _ (List.mem_of_getElem? (i := 4) rfl)), fun _ h => (List.not_mem_nil h).elim⟩⟩⟩⟩⟩⟩⟩⟩⟩⟩⟩⟩⟩⟩⟩⟩⟩⟩⟩⟩⟩⟩⟩⟩
theorem gcX10_clean__X10_clean_r4 : ∀ w ∈ wsX10_clean_r4, w ∈ wsX10_clean := fun w h => List.mem_cons_of_mem _ (List.mem_append_left _ (List.mem_append_right _ (List.mem_append_right _ (List.mem_append_right _ (List.mem_append_left _ (h))))))
set_option maxRecDepth 20000 in
theorem gmX10_clean__X10_rests_r3 : ∀ w ∈ wsX10_rests_r3, w ∈ wsX10_clean := List.forall_mem_cons.mpr ⟨(gcX10_clean__X10_clean_r3 _ (List.mem_of_getElem? (i := 5) rfl)), List.forall_mem_cons.mpr ⟨(gcX10_clean__X10_clean_r3 _ (List.mem_of_getElem? (i := 6) rfl)), List.forall_mem_cons.mpr ⟨(gcX10_clean__X10_clean_r3 _ (List.mem_of_getElem? (i := 7) rfl)), List.forall_mem_cons.mpr ⟨(gcX10_clean__X10_clean_r3 _ (List.mem_of_getElem? (i := 8) rfl)), List.forall_mem_cons.mpr ⟨(gcX10_clean__X10_clean_r3 _ (List.mem_of_getElem? (i := 9) rfl)), List.forall_mem_cons.mpr ⟨(gcX10_clean__X10_clean_r3 _ (List.mem_of_getElem? (i := 10) rfl)), List.forall_mem_cons.mpr ⟨(gcX10_clean__X10_clean_r3 _ (List.mem_of_getElem? (i := 11) rfl)), List.forall_mem_cons.mpr ⟨(gcX10_clean__X10_clean_r3 _ (List.mem_of_getElem? (i := 12) rfl)), List.forall_mem_cons.mpr ⟨(gcX10_clean__X10_clean_r3 _ (List.mem_of_getElem? (i := 13) rfl)), List.forall_mem_cons.mpr ⟨(gcX10_clean__X10_clean_r3 _ (List.mem_of_getElem? (i := 14) rfl)), List.forall_mem_cons.mpr ⟨(gcX10_clean__X10_clean_r3 _ (List.mem_of_getElem? (i := 15) rfl)), List.forall_mem_cons.mpr ⟨(gcX10_clean__X10_clean_r3 _ (List.mem_of_getElem? (i := 16) rfl)), List.forall_mem_cons.mpr ⟨(gcX10_clean__X10_clean_r3 _ (List.mem_of_getElem? (i := 17) rfl)), List.forall_mem_cons.mpr ⟨(gcX10_clean__X10_clean_r3 _ (List.mem_of_getElem? (i := 18) rfl)), List.forall_mem_cons.mpr ⟨(gcX10_clean__X10_clean_r3 _ (List.mem_of_getElem? (i := 19) rfl)), List.forall_mem_cons.mpr ⟨(gcX10_clean__X10_clean_r3 _ (List.mem_of_getElem? (i := 20) rfl)), List.forall_mem_cons.mpr ⟨(gcX10_clean__X10_clean_r3 _ (List.mem_of_getElem? (i := 21) rfl)), List.forall_mem_cons.mpr ⟨(gcX10_clean__X10_clean_r3 _ (List.mem_of_getElem? (i := 22) rfl)), List.forall_mem_cons.mpr ⟨(gcX10_clean__X10_clean_r3 _ (List.mem_of_getElem? (i := 23) rfl)), List.forall_mem_cons.mpr ⟨(gcX10_clean__X10_clean_r4 _ (List.mem_of_getElem? (i := 0) rfl)), List.forall_mem_cons.mpr ⟨(gcX10_clean__X10_clean_r4 _ (List.mem_of_getElem? (i := 1) rfl)), List.forall_mem_cons.mpr ⟨(gcX10_clean__X10_clean_r4 _ (List.mem_of_getElem? (i := 2) rfl)), List.forall_mem_cons.mpr ⟨(gcX10_clean__X10_clean_r4 _ (List.mem_of_getElem? (i := 3) rfl)), List.forall_mem_cons.mpr ⟨(gcX10_clean__X10_clean_r4 _ (List.mem_of_getElem? (i := 4) rfl)), fun _ h => (List.not_mem_nil h).elim⟩⟩⟩⟩⟩⟩⟩⟩⟩⟩⟩⟩⟩⟩⟩⟩⟩⟩⟩⟩⟩⟩⟩⟩
theorem gcX10_clean__X10_clean_r5 : ∀ w ∈ wsX10_clean_r5, w ∈ wsX10_clean := fun w h => List.mem_cons_of_mem _ (List.mem_append_left _ (List.mem_append_right _ (List.mem_append_right _ (List.mem_append_right _ (List.mem_append_right _ (List.mem_append_left _ (h)))))))
set_option maxRecDepth 20000 in
theorem gmX10_clean__X10_rests_r4 : ∀ w ∈ wsX10_rests_r4, w ∈ wsX10_clean := List.forall_mem_cons.mpr ⟨(gcX10_clean__X10_clean_r4 _ (List.mem_of_getElem? (i := 5) rfl)), List.forall_mem_cons.mpr ⟨(gcX10_clean__X10_clean_r4 _ (List.mem_of_getElem? (i := 6) rfl)), List.forall_mem_cons.mpr ⟨(gcX10_clean__X10_clean_r4 _ (List.mem_of_getElem? (i := 7) rfl)), List.forall_mem_cons.mpr ⟨(gcX10_clean__X10_clean_r4 _ (List.mem_of_getElem? (i := 8) rfl)), List.forall_mem_cons.mpr ⟨(gcX10_clean__X10_clean_r4 _ (List.mem_of_getElem? (i := 9) rfl)), List.forall_mem_cons.mpr ⟨(gcX10_clean__X10_clean_r4 _ (List.mem_of_getElem? (i := 10) rfl)), List.forall_mem_cons.mpr ⟨(gcX10_clean__X10_clean_r4 _ (List.mem_of_getElem? (i := 11) rfl)), List.forall_mem_cons.mpr ⟨(gcX10_clean__X10_clean_r4 _ (List.mem_of_getElem? (i := 12) rfl)), List.forall_mem_cons.mpr ⟨(gcX10_clean__X10_clean_r4 _ (List.mem_of_getElem? (i := 13) rfl)), List.forall_mem_cons.mpr ⟨(gcX10_clean__X10_clean_r4 _ (List.mem_of_getElem? (i := 14) rfl)), List.forall_mem_cons.mpr ⟨(gcX10_clean__X10_clean_r4 _ (List.mem_of_getElem? (i := 15) rfl)), List.forall_mem_cons.mpr ⟨(gcX10_clean__X10_clean_r4 _ (List.mem_of_getElem? (i := 16) rfl)), List.forall_mem_cons.mpr ⟨(gcX10_clean__X10_clean_r4 _ (List.mem_of_getElem? (i := 17) rfl)), List.forall_mem_cons.mpr ⟨(gcX10_clean__X10_clean_r4 _ (List.mem_of_getElem? (i := 18) rfl)), List.forall_mem_cons.mpr ⟨(gcX10_clean__X10_clean_r4 _ (List.mem_of_getElem? (i := 19) rfl)), List.forall_mem_cons.mpr ⟨(gcX10_clean__X10_clean_r4 _ (List.mem_of_getElem? (i := 20) rfl)), List.forall_mem_cons.mpr ⟨(gcX10_clean__X10_clean_r4 _ (List.mem_of_getElem? (i := 21) rfl)), List.forall_mem_cons.mpr ⟨(gcX10_clean__X10_clean_r4 _ (List.mem_of_getElem? (i := 22) rfl)), List.forall_mem_cons.mpr ⟨(gcX10_clean__X10_clean_r4 _ (List.mem_of_getElem? (i := 23) rfl)), List.forall_mem_cons.mpr ⟨(gcX10_clean__X10_clean_r5 _ (List.mem_of_getElem? (i := 0) rfl)), List.forall_mem_cons.mpr ⟨(gcX10_clean__X10_clean_r5 _ (List.mem_of_getElem? (i := 1) rfl)), fun _ h => (List.not_mem_nil h).elim⟩⟩⟩⟩⟩⟩⟩⟩⟩⟩⟩⟩⟩⟩⟩⟩⟩⟩⟩⟩⟩
set_option maxRecDepth 20000 in
theorem ggX10_clean_X10_rests : GoodIn wsX10_clean wsX10_rests := goodIn_sub (List.forall_mem_cons.mpr ⟨(gcX10_clean__X10_clean_r1 _ (List.mem_of_getElem? (i := 11) rfl)), List.forall_mem_append.mpr ⟨List.forall_mem_append.mpr ⟨gmX10_clean__X10_rests_r1, List.forall_mem_append.mpr ⟨gmX10_clean__X10_rests_r2, List.forall_mem_append.mpr ⟨gmX10_clean__X10_rests_r3, gmX10_clean__X10_rests_r4⟩⟩⟩, gcX10_clean__X100⟩⟩) gwX10_rests
set_option maxRecDepth 20000 in
theorem gX10_clean_X10_rests : GoodIn wsX10_clean (wsV RX10 365 RX10 yX10_rests wsX10_rests) := goodIn_app (goodIn_sub (List.forall_mem_cons.mpr ⟨(gcX10_clean__X10_clean_r1 _ (List.mem_of_getElem? (i := 8) rfl)), List.forall_mem_cons.mpr ⟨(gcX10_clean__X10_clean_r1 _ (List.mem_of_getElem? (i := 9) rfl)), List.forall_mem_cons.mpr ⟨(gcX10_clean__X10_clean_r1 _ (List.mem_of_getElem? (i := 10) rfl)), List.forall_mem_cons.mpr ⟨(gcX10_clean__X10_clean_r1 _ (List.mem_of_getElem? (i := 5) rfl)), fun _ h => (List.not_mem_nil h).elim⟩⟩⟩⟩) (by decide +kernel)) ggX10_clean_X10_rests
set_option maxRecDepth 20000 in
theorem gmX10_clean__X10_worstNow_r1 : ∀ w ∈ wsX10_worstNow_r1, w ∈ wsX10_clean := List.forall_mem_cons.mpr ⟨(gcX10_clean__X10_clean_r1 _ (List.mem_of_getElem? (i := 2) rfl)), List.forall_mem_cons.mpr ⟨(gcX10_clean__X10_clean_r1 _ (List.mem_of_getElem? (i := 3) rfl)), List.forall_mem_cons.mpr ⟨(gcX10_clean__X10_clean_r1 _ (List.mem_of_getElem? (i := 4) rfl)), List.forall_mem_cons.mpr ⟨(gcX10_clean__X10_clean_r1 _ (List.mem_of_getElem? (i := 5) rfl)), List.forall_mem_cons.mpr ⟨(gcX10_clean__X10_clean_r1 _ (List.mem_of_getElem? (i := 6) rfl)), List.forall_mem_cons.mpr ⟨(gcX10_clean__X10_clean_r1 _ (List.mem_of_getElem? (i := 7) rfl)), List.forall_mem_cons.mpr ⟨(gcX10_clean__X10_clean_r5 _ (List.mem_of_getElem? (i := 6) rfl)), List.forall_mem_cons.mpr ⟨(gcX10_clean__X10_clean_r5 _ (List.mem_of_getElem? (i := 7) rfl)), List.forall_mem_cons.mpr ⟨(gcX10_clean__X10_clean_r5 _ (List.mem_of_getElem? (i := 8) rfl)), List.forall_mem_cons.mpr ⟨(gcX10_clean__X10_clean_r5 _ (List.mem_of_getElem? (i := 9) rfl)), List.forall_mem_cons.mpr ⟨(gcX10_clean__X10_clean_r1 _ (List.mem_of_getElem? (i := 1) rfl)), List.forall_mem_cons.mpr ⟨(gcX10_clean__X10_clean_r5 _ (List.mem_of_getElem? (i := 10) rfl)), List.forall_mem_cons.mpr ⟨(gcX10_clean__X10_clean_r5 _ (List.mem_of_getElem? (i := 11) rfl)), List.forall_mem_cons.mpr ⟨(gcX10_clean__X10_clean_r5 _ (List.mem_of_getElem? (i := 12) rfl)), List.forall_mem_cons.mpr ⟨(gcX10_clean__X10_clean_r5 _ (List.mem_of_getElem? (i := 13) rfl)), List.forall_mem_cons.mpr ⟨(gcX10_clean__X10_clean_r5 _ (List.mem_of_getElem? (i := 14) rfl)), List.forall_mem_cons.mpr ⟨(gcX10_clean__X10_clean_r3 _ (List.mem_of_getElem? (i := 3) rfl)), List.forall_mem_cons.mpr ⟨(gcX10_clean__X10_clean_r3 _ (List.mem_of_getElem? (i := 4) rfl)), List.forall_mem_cons.mpr ⟨(gcX10_clean__X10_clean_r3 _ (List.mem_of_getElem? (i := 5) rfl)), List.forall_mem_cons.mpr ⟨(gcX10_clean__X10_clean_r3 _ (List.mem_of_getElem? (i := 6) rfl)), List.forall_mem_cons.mpr ⟨(gcX10_clean__X10_clean_r3 _ (List.mem_of_getElem? (i := 7) rfl)), List.forall_mem_cons.mpr ⟨(gcX10_clean__X10_clean_r2 _ (List.mem_of_getElem? (i := 12) rfl)), List.forall_mem_cons.mpr ⟨(gcX10_clean__X10_clean_r2 _ (List.mem_of_getElem? (i := 13) rfl)), List.forall_mem_cons.mpr ⟨(gcX10_clean__X10_clean_r2 _ (List.mem_of_getElem? (i := 14) rfl)), fun _ h => (List.not_mem_nil h).elim⟩⟩⟩⟩⟩⟩⟩⟩⟩⟩⟩⟩⟩⟩⟩⟩⟩⟩⟩⟩⟩⟩⟩⟩
set_option maxRecDepth 20000 in
theorem gmX10_clean__X10_worstNow_r2 : ∀ w ∈ wsX10_worstNow_r2, w ∈ wsX10_clean := List.forall_mem_cons.mpr ⟨(gcX10_clean__X10_clean_r2 _ (List.mem_of_getElem? (i := 15) rfl)), List.forall_mem_cons.mpr ⟨(gcX10_clean__X10_clean_r2 _ (List.mem_of_getElem? (i := 16) rfl)), List.forall_mem_cons.mpr ⟨(gcX10_clean__X10_clean_r5 _ (List.mem_of_getElem? (i := 15) rfl)), List.forall_mem_cons.mpr ⟨(gcX10_clean__X10_clean_r5 _ (List.mem_of_getElem? (i := 16) rfl)), List.forall_mem_cons.mpr ⟨(gcX10_clean__X10_clean_r5 _ (List.mem_of_getElem? (i := 17) rfl)), List.forall_mem_cons.mpr ⟨(gcX10_clean__X10_clean_r5 _ (List.mem_of_getElem? (i := 18) rfl)), List.forall_mem_cons.mpr ⟨(gcX10_clean__X10_clean_r4 _ (List.mem_of_getElem? (i := 3) rfl)), List.forall_mem_cons.mpr ⟨(gcX10_clean__X10_clean_r4 _ (List.mem_of_getElem? (i := 4) rfl)), List.forall_mem_cons.mpr ⟨(gcX10_clean__X10_clean_r4 _ (List.mem_of_getElem? (i := 5) rfl)), List.forall_mem_cons.mpr ⟨(gcX10_clean__X10_clean_r4 _ (List.mem_of_getElem? (i := 6) rfl)), List.forall_mem_cons.mpr ⟨(gcX10_clean__X10_clean_r4 _ (List.mem_of_getElem? (i := 12) rfl)), List.forall_mem_cons.mpr ⟨(gcX10_clean__X10_clean_r4 _ (List.mem_of_getElem? (i := 13) rfl)), List.forall_mem_cons.mpr ⟨(gcX10_clean__X10_clean_r4 _ (List.mem_of_getElem? (i := 14) rfl)), List.forall_mem_cons.mpr ⟨(gcX10_clean__X10_clean_r4 _ (List.mem_of_getElem? (i := 15) rfl)), List.forall_mem_cons.mpr ⟨(gcX10_clean__X10_clean_r4 _ (List.mem_of_getElem? (i := 16) rfl)), List.forall_mem_cons.mpr ⟨(gcX10_clean__X10_clean_r4 _ (List.mem_of_getElem? (i := 17) rfl)), List.forall_mem_cons.mpr ⟨(gcX10_clean__X10_clean_r4 _ (List.mem_of_getElem? (i := 18) rfl)), List.forall_mem_cons.mpr ⟨(gcX10_clean__X10_clean_r4 _ (List.mem_of_getElem? (i := 19) rfl)), List.forall_mem_cons.mpr ⟨(gcX10_clean__X10_clean_r4 _ (List.mem_of_getElem? (i := 20) rfl)), List.forall_mem_cons.mpr ⟨(gcX10_clean__X10_clean_r4 _ (List.mem_of_getElem? (i := 21) rfl)), List.forall_mem_cons.mpr ⟨(gcX10_clean__X10_clean_r5 _ (List.mem_of_getElem? (i := 19) rfl)), List.forall_mem_cons.mpr ⟨(gcX10_clean__X10_clean_r5 _ (List.mem_of_getElem? (i := 20) rfl)), List.forall_mem_cons.mpr ⟨(gcX10_clean__X10_clean_r5 _ (List.mem_of_getElem? (i := 21) rfl)), List.forall_mem_cons.mpr ⟨(gcX10_clean__X10_clean_r5 _ (List.mem_of_getElem? (i := 22) rfl)), fun _ h => (List.not_mem_nil h).elim⟩⟩⟩⟩⟩⟩⟩⟩⟩⟩⟩⟩⟩⟩⟩⟩⟩⟩⟩⟩⟩⟩⟩⟩
theorem gcX10_clean__X10_clean_r6 : ∀ w ∈ wsX10_clean_r6, w ∈ wsX10_clean := fun w h => List.mem_cons_of_mem _ (List.mem_append_left _ (List.mem_append_right _ (List.mem_append_right _ (List.mem_append_right _ (List.mem_append_right _ (List.mem_append_right _ (h)))))))
set_option maxRecDepth 20000 in
theorem gmX10_clean__X10_worstNow_r3 : ∀ w ∈ wsX10_worstNow_r3, w ∈ wsX10_clean := List.forall_mem_cons.mpr ⟨(gcX10_clean__X10_clean_r1 _ (List.mem_of_getElem? (i := 16) rfl)), List.forall_mem_cons.mpr ⟨(gcX10_clean__X10_clean_r1 _ (List.mem_of_getElem? (i := 17) rfl)), List.forall_mem_cons.mpr ⟨(gcX10_clean__X10_clean_r1 _ (List.mem_of_getElem? (i := 18) rfl)), List.forall_mem_cons.mpr ⟨(gcX10_clean__X10_clean_r1 _ (List.mem_of_getElem? (i := 19) rfl)), List.forall_mem_cons.mpr ⟨(gcX10_clean__X10_clean_r1 _ (List.mem_of_getElem? (i := 20) rfl)), List.forall_mem_cons.mpr ⟨(gcX10_clean__X10_clean_r1 _ (List.mem_of_getElem? (i := 21) rfl)), List.forall_mem_cons.mpr ⟨(gcX10_clean__X10_clean_r1 _ (List.mem_of_getElem? (i := 22) rfl)), List.forall_mem_cons.mpr ⟨(gcX10_clean__X10_clean_r1 _ (List.mem_of_getElem? (i := 23) rfl)), List.forall_mem_cons.mpr ⟨(gcX10_clean__X10_clean_r2 _ (List.mem_of_getElem? (i := 0) rfl)), List.forall_mem_cons.mpr ⟨(gcX10_clean__X10_clean_r2 _ (List.mem_of_getElem? (i := 1) rfl)), List.forall_mem_cons.mpr ⟨(gcX10_clean__X10_clean_r5 _ (List.mem_of_getElem? (i := 23) rfl)), List.forall_mem_cons.mpr ⟨(gcX10_clean__X10_clean_r6 _ (List.mem_of_getElem? (i := 0) rfl)), List.forall_mem_cons.mpr ⟨(gcX10_clean__X10_clean_r6 _ (List.mem_of_getElem? (i := 1) rfl)), List.forall_mem_cons.mpr ⟨(gcX10_clean__X10_clean_r6 _ (List.mem_of_getElem? (i := 2) rfl)), List.forall_mem_cons.mpr ⟨(gcX10_clean__X10_clean_r6 _ (List.mem_of_getElem? (i := 3) rfl)), List.forall_mem_cons.mpr ⟨(gcX10_clean__X10_clean_r6 _ (List.mem_of_getElem? (i := 4) rfl)), List.forall_mem_cons.mpr ⟨(gcX10_clean__X10_clean_r6 _ (List.mem_of_getElem? (i := 5) rfl)), List.forall_mem_cons.mpr ⟨(gcX10_clean__X10_clean_r6 _ (List.mem_of_getElem? (i := 6) rfl)), List.forall_mem_cons.mpr ⟨(gcX10_clean__X10_clean_r3 _ (List.mem_of_getElem? (i := 2) rfl)), List.forall_mem_cons.mpr ⟨(gcX10_clean__X10_clean_r2 _ (List.mem_of_getElem? (i := 22) rfl)), List.forall_mem_cons.mpr ⟨(gcX10_clean__X10_clean_r2 _ (List.mem_of_getElem? (i := 23) rfl)), List.forall_mem_cons.mpr ⟨(gcX10_clean__X10_clean_r3 _ (List.mem_of_getElem? (i := 0) rfl)), List.forall_mem_cons.mpr ⟨(gcX10_clean__X10_clean_r3 _ (List.mem_of_getElem? (i := 1) rfl)), List.forall_mem_cons.mpr ⟨(gcX10_clean__X10_clean_r3 _ (List.mem_of_getElem? (i := 8) rfl)), fun _ h => (List.not_mem_nil h).elim⟩⟩⟩⟩⟩⟩⟩⟩⟩⟩⟩⟩⟩⟩⟩⟩⟩⟩⟩⟩⟩⟩⟩⟩
set_option maxRecDepth 20000 in
theorem gmX10_clean__X10_worstNow_r4 : ∀ w ∈ wsX10_worstNow_r4, w ∈ wsX10_clean := List.forall_mem_cons.mpr ⟨(gcX10_clean__X10_clean_r3 _ (List.mem_of_getElem? (i := 9) rfl)), List.forall_mem_cons.mpr ⟨(gcX10_clean__X10_clean_r3 _ (List.mem_of_getElem? (i := 10) rfl)), List.forall_mem_cons.mpr ⟨(gcX10_clean__X10_clean_r3 _ (List.mem_of_getElem? (i := 11) rfl)), List.forall_mem_cons.mpr ⟨(gcX10_clean__X10_clean_r3 _ (List.mem_of_getElem? (i := 12) rfl)), List.forall_mem_cons.mpr ⟨(gcX10_clean__X10_clean_r3 _ (List.mem_of_getElem? (i := 13) rfl)), List.forall_mem_cons.mpr ⟨(gcX10_clean__X10_clean_r3 _ (List.mem_of_getElem? (i := 14) rfl)), List.forall_mem_cons.mpr ⟨(gcX10_clean__X10_clean_r3 _ (List.mem_of_getElem? (i := 15) rfl)), List.forall_mem_cons.mpr ⟨(gcX10_clean__X10_clean_r3 _ (List.mem_of_getElem? (i := 16) rfl)), List.forall_mem_cons.mpr ⟨(gcX10_clean__X10_clean_r3 _ (List.mem_of_getElem? (i := 17) rfl)), List.forall_mem_cons.mpr ⟨(gcX10_clean__X10_clean_r2 _ (List.mem_of_getElem? (i := 17) rfl)), List.forall_mem_cons.mpr ⟨(gcX10_clean__X10_clean_r2 _ (List.mem_of_getElem? (i := 18) rfl)), List.forall_mem_cons.mpr ⟨(gcX10_clean__X10_clean_r2 _ (List.mem_of_getElem? (i := 19) rfl)), List.forall_mem_cons.mpr ⟨(gcX10_clean__X10_clean_r2 _ (List.mem_of_getElem? (i := 20) rfl)), List.forall_mem_cons.mpr ⟨(gcX10_clean__X10_clean_r2 _ (List.mem_of_getElem? (i := 21) rfl)), fun _ h => (List.not_mem_nil h).elim⟩⟩⟩⟩⟩⟩⟩⟩⟩⟩⟩⟩⟩⟩
set_option maxRecDepth 20000 in
theorem ggX10_clean_X10_worstNow : GoodIn wsX10_clean wsX10_worstNow := goodIn_sub (List.forall_mem_cons.mpr ⟨(gcX10_clean__X10_clean_r5 _ (List.mem_of_getElem? (i := 5) rfl)), List.forall_mem_append.mpr ⟨List.forall_mem_append.mpr ⟨gmX10_clean__X10_worstNow_r1, List.forall_mem_append.mpr ⟨gmX10_clean__X10_worstNow_r2, List.forall_mem_append.mpr ⟨gmX10_clean__X10_worstNow_r3, gmX10_clean__X10_worstNow_r4⟩⟩⟩, gcX10_clean__X100⟩⟩) gwX10_worstNow
set_option maxRecDepth 20000 in
theorem gX10_clean_X10_worstNow : GoodIn wsX10_clean (wsV RX10 448 RX10 yX10_worstNow wsX10_worstNow) := goodIn_app (goodIn_sub (List.forall_mem_cons.mpr ⟨(gcX10_clean__X10_clean_r5 _ (List.mem_of_getElem? (i := 2) rfl)), List.forall_mem_cons.mpr ⟨(gcX10_clean__X10_clean_r5 _ (List.mem_of_getElem? (i := 3) rfl)), List.forall_mem_cons.mpr ⟨(gcX10_clean__X10_clean_r5 _ (List.mem_of_getElem? (i := 4) rfl)), List.forall_mem_cons.mpr ⟨(gcX10_clean__X10_clean_r1 _ (List.mem_of_getElem? (i := 5) rfl)), fun _ h => (List.not_mem_nil h).elim⟩⟩⟩⟩) (by decide +kernel)) ggX10_clean_X10_worstNow
set_option maxRecDepth 20000 in
theorem gmX10_clean__X10_doubtOf_r1 : ∀ w ∈ wsX10_doubtOf_r1, w ∈ wsX10_clean := List.forall_mem_cons.mpr ⟨(gcX10_clean__X10_clean_r6 _ (List.mem_of_getElem? (i := 3) rfl)), List.forall_mem_cons.mpr ⟨(gcX10_clean__X10_clean_r6 _ (List.mem_of_getElem? (i := 4) rfl)), List.forall_mem_cons.mpr ⟨(gcX10_clean__X10_clean_r6 _ (List.mem_of_getElem? (i := 5) rfl)), List.forall_mem_cons.mpr ⟨(gcX10_clean__X10_clean_r1 _ (List.mem_of_getElem? (i := 5) rfl)), List.forall_mem_cons.mpr ⟨(gcX10_clean__X10_clean_r6 _ (List.mem_of_getElem? (i := 6) rfl)), List.forall_mem_cons.mpr ⟨(gcX10_clean__X10_clean_r3 _ (List.mem_of_getElem? (i := 2) rfl)), List.forall_mem_cons.mpr ⟨(gcX10_clean__X10_clean_r2 _ (List.mem_of_getElem? (i := 12) rfl)), List.forall_mem_cons.mpr ⟨(gcX10_clean__X10_clean_r2 _ (List.mem_of_getElem? (i := 13) rfl)), List.forall_mem_cons.mpr ⟨(gcX10_clean__X10_clean_r2 _ (List.mem_of_getElem? (i := 14) rfl)), List.forall_mem_cons.mpr ⟨(gcX10_clean__X10_clean_r2 _ (List.mem_of_getElem? (i := 15) rfl)), List.forall_mem_cons.mpr ⟨(gcX10_clean__X10_clean_r2 _ (List.mem_of_getElem? (i := 16) rfl)), List.forall_mem_cons.mpr ⟨(gcX10_clean__X10_clean_r2 _ (List.mem_of_getElem? (i := 22) rfl)), List.forall_mem_cons.mpr ⟨(gcX10_clean__X10_clean_r2 _ (List.mem_of_getElem? (i := 23) rfl)), List.forall_mem_cons.mpr ⟨(gcX10_clean__X10_clean_r3 _ (List.mem_of_getElem? (i := 0) rfl)), List.forall_mem_cons.mpr ⟨(gcX10_clean__X10_clean_r3 _ (List.mem_of_getElem? (i := 1) rfl)), List.forall_mem_cons.mpr ⟨(gcX10_clean__X10_clean_r3 _ (List.mem_of_getElem? (i := 3) rfl)), List.forall_mem_cons.mpr ⟨(gcX10_clean__X10_clean_r3 _ (List.mem_of_getElem? (i := 4) rfl)), List.forall_mem_cons.mpr ⟨(gcX10_clean__X10_clean_r3 _ (List.mem_of_getElem? (i := 5) rfl)), List.forall_mem_cons.mpr ⟨(gcX10_clean__X10_clean_r3 _ (List.mem_of_getElem? (i := 6) rfl)), List.forall_mem_cons.mpr ⟨(gcX10_clean__X10_clean_r3 _ (List.mem_of_getElem? (i := 7) rfl)), List.forall_mem_cons.mpr ⟨(gcX10_clean__X10_clean_r3 _ (List.mem_of_getElem? (i := 8) rfl)), List.forall_mem_cons.mpr ⟨(gcX10_clean__X10_clean_r3 _ (List.mem_of_getElem? (i := 9) rfl)), List.forall_mem_cons.mpr ⟨(gcX10_clean__X10_clean_r3 _ (List.mem_of_getElem? (i := 10) rfl)), List.forall_mem_cons.mpr ⟨(gcX10_clean__X10_clean_r3 _ (List.mem_of_getElem? (i := 11) rfl)), fun _ h => (List.not_mem_nil h).elim⟩⟩⟩⟩⟩⟩⟩⟩⟩⟩⟩⟩⟩⟩⟩⟩⟩⟩⟩⟩⟩⟩⟩⟩
set_option maxRecDepth 20000 in
theorem gmX10_clean__X10_doubtOf_r2 : ∀ w ∈ wsX10_doubtOf_r2, w ∈ wsX10_clean := List.forall_mem_cons.mpr ⟨(gcX10_clean__X10_clean_r3 _ (List.mem_of_getElem? (i := 12) rfl)), List.forall_mem_cons.mpr ⟨(gcX10_clean__X10_clean_r3 _ (List.mem_of_getElem? (i := 13) rfl)), List.forall_mem_cons.mpr ⟨(gcX10_clean__X10_clean_r3 _ (List.mem_of_getElem? (i := 14) rfl)), List.forall_mem_cons.mpr ⟨(gcX10_clean__X10_clean_r3 _ (List.mem_of_getElem? (i := 15) rfl)), List.forall_mem_cons.mpr ⟨(gcX10_clean__X10_clean_r3 _ (List.mem_of_getElem? (i := 16) rfl)), List.forall_mem_cons.mpr ⟨(gcX10_clean__X10_clean_r3 _ (List.mem_of_getElem? (i := 17) rfl)), List.forall_mem_cons.mpr ⟨(gcX10_clean__X10_clean_r2 _ (List.mem_of_getElem? (i := 17) rfl)), List.forall_mem_cons.mpr ⟨(gcX10_clean__X10_clean_r2 _ (List.mem_of_getElem? (i := 18) rfl)), List.forall_mem_cons.mpr ⟨(gcX10_clean__X10_clean_r2 _ (List.mem_of_getElem? (i := 19) rfl)), List.forall_mem_cons.mpr ⟨(gcX10_clean__X10_clean_r2 _ (List.mem_of_getElem? (i := 20) rfl)), List.forall_mem_cons.mpr ⟨(gcX10_clean__X10_clean_r2 _ (List.mem_of_getElem? (i := 21) rfl)), fun _ h => (List.not_mem_nil h).elim⟩⟩⟩⟩⟩⟩⟩⟩⟩⟩⟩
set_option maxRecDepth 20000 in
theorem ggX10_clean_X10_doubtOf : GoodIn wsX10_clean wsX10_doubtOf := goodIn_sub (List.forall_mem_cons.mpr ⟨(gcX10_clean__X10_clean_r6 _ (List.mem_of_getElem? (i := 2) rfl)), List.forall_mem_append.mpr ⟨List.forall_mem_append.mpr ⟨gmX10_clean__X10_doubtOf_r1, gmX10_clean__X10_doubtOf_r2⟩, gcX10_clean__X100⟩⟩) gwX10_doubtOf
set_option maxRecDepth 20000 in
theorem gX10_clean_X10_doubtOf : GoodIn wsX10_clean (wsV RX10 328 RX10 yX10_doubtOf wsX10_doubtOf) := goodIn_app (goodIn_sub (List.forall_mem_cons.mpr ⟨(gcX10_clean__X10_clean_r5 _ (List.mem_of_getElem? (i := 23) rfl)), List.forall_mem_cons.mpr ⟨(gcX10_clean__X10_clean_r6 _ (List.mem_of_getElem? (i := 0) rfl)), List.forall_mem_cons.mpr ⟨(gcX10_clean__X10_clean_r6 _ (List.mem_of_getElem? (i := 1) rfl)), List.forall_mem_cons.mpr ⟨(gcX10_clean__X10_clean_r1 _ (List.mem_of_getElem? (i := 5) rfl)), fun _ h => (List.not_mem_nil h).elim⟩⟩⟩⟩) (by decide +kernel)) ggX10_clean_X10_doubtOf
theorem dX10_clean_0 : decode cX10_clean 0 = .ok (.lload_n 1, 1) := by decide +kernel
theorem dX10_clean_1 : decode cX10_clean 1 = .ok (.lconst 0, 1) := by decide +kernel
theorem dX10_clean_2 : decode cX10_clean 2 = .ok (.lcmp, 1) := by decide +kernel
theorem dX10_clean_3 : decode cX10_clean 3 = .ok (.ifCond .ge 5, 3) := by decide +kernel
theorem dX10_clean_6 : decode cX10_clean 6 = .ok (.iconst (-1), 1) := by decide +kernel
theorem dX10_clean_7 : decode cX10_clean 7 = .ok (.ireturn, 1) := by decide +kernel
theorem dX10_clean_8 : decode cX10_clean 8 = .ok (.iconst 0, 1) := by decide +kernel
theorem dX10_clean_9 : decode cX10_clean 9 = .ok (.istore_n 3, 1) := by decide +kernel
theorem dX10_clean_10 : decode cX10_clean 10 = .ok (.iload_n 3, 1) := by decide +kernel
theorem dX10_clean_11 : decode cX10_clean 11 = .ok (.aload_n 0, 1) := by decide +kernel
theorem dX10_clean_12 : decode cX10_clean 12 = .ok (.invokevirtual 265, 3) := by decide +kernel
theorem dX10_clean_15 : decode cX10_clean 15 = .ok (.if_icmp .ge 21, 3) := by decide +kernel
theorem dX10_clean_18 : decode cX10_clean 18 = .ok (.aload_n 0, 1) := by decide +kernel
theorem dX10_clean_19 : decode cX10_clean 19 = .ok (.getfield 116, 3) := by decide +kernel
theorem dX10_clean_22 : decode cX10_clean 22 = .ok (.iload_n 3, 1) := by decide +kernel
theorem dX10_clean_23 : decode cX10_clean 23 = .ok (.aload_n 0, 1) := by decide +kernel
theorem dX10_clean_24 : decode cX10_clean 24 = .ok (.getfield 91, 3) := by decide +kernel
theorem dX10_clean_27 : decode cX10_clean 27 = .ok (.iload_n 3, 1) := by decide +kernel
theorem dX10_clean_28 : decode cX10_clean 28 = .ok (.baload, 1) := by decide +kernel
theorem dX10_clean_29 : decode cX10_clean 29 = .ok (.bastore, 1) := by decide +kernel
theorem dX10_clean_30 : decode cX10_clean 30 = .ok (.iinc 3 1, 3) := by decide +kernel
theorem dX10_clean_33 : decode cX10_clean 33 = .ok (.goto (-23), 3) := by decide +kernel
theorem dX10_clean_36 : decode cX10_clean 36 = .ok (.iconst 0, 1) := by decide +kernel
theorem dX10_clean_37 : decode cX10_clean 37 = .ok (.istore_n 3, 1) := by decide +kernel
theorem dX10_clean_38 : decode cX10_clean 38 = .ok (.iconst 1, 1) := by decide +kernel
theorem dX10_clean_39 : decode cX10_clean 39 = .ok (.istore 4, 2) := by decide +kernel
theorem dX10_clean_41 : decode cX10_clean 41 = .ok (.iload 4, 2) := by decide +kernel
theorem dX10_clean_43 : decode cX10_clean 43 = .ok (.ifCond .eq 66, 3) := by decide +kernel
theorem dX10_clean_46 : decode cX10_clean 46 = .ok (.aload_n 0, 1) := by decide +kernel
theorem dX10_clean_47 : decode cX10_clean 47 = .ok (.bipush 50, 2) := by decide +kernel
theorem dX10_clean_49 : decode cX10_clean 49 = .ok (.invokevirtual 365, 3) := by decide +kernel
theorem dX10_clean_52 : decode cX10_clean 52 = .ok (.istore 5, 2) := by decide +kernel
theorem dX10_clean_54 : decode cX10_clean 54 = .ok (.aload_n 0, 1) := by decide +kernel
theorem dX10_clean_55 : decode cX10_clean 55 = .ok (.invokevirtual 448, 3) := by decide +kernel
theorem dX10_clean_58 : decode cX10_clean 58 = .ok (.istore 6, 2) := by decide +kernel
theorem dX10_clean_60 : decode cX10_clean 60 = .ok (.iload 6, 2) := by decide +kernel
theorem dX10_clean_62 : decode cX10_clean 62 = .ok (.iconst (-1), 1) := by decide +kernel
theorem dX10_clean_63 : decode cX10_clean 63 = .ok (.if_icmp .eq 24, 3) := by decide +kernel
theorem dX10_clean_66 : decode cX10_clean 66 = .ok (.aload_n 0, 1) := by decide +kernel
theorem dX10_clean_67 : decode cX10_clean 67 = .ok (.iload 6, 2) := by decide +kernel
theorem dX10_clean_69 : decode cX10_clean 69 = .ok (.invokevirtual 328, 3) := by decide +kernel
theorem dX10_clean_72 : decode cX10_clean 72 = .ok (.lload_n 1, 1) := by decide +kernel
theorem dX10_clean_73 : decode cX10_clean 73 = .ok (.lcmp, 1) := by decide +kernel
theorem dX10_clean_74 : decode cX10_clean 74 = .ok (.ifCond .le 13, 3) := by decide +kernel
theorem dX10_clean_77 : decode cX10_clean 77 = .ok (.iload_n 3, 1) := by decide +kernel
theorem dX10_clean_78 : decode cX10_clean 78 = .ok (.bipush 20, 2) := by decide +kernel
theorem dX10_clean_80 : decode cX10_clean 80 = .ok (.if_icmp .ge 7, 3) := by decide +kernel
theorem dX10_clean_83 : decode cX10_clean 83 = .ok (.iconst 1, 1) := by decide +kernel
theorem dX10_clean_84 : decode cX10_clean 84 = .ok (.goto 4, 3) := by decide +kernel
theorem dX10_clean_87 : decode cX10_clean 87 = .ok (.iconst 0, 1) := by decide +kernel
theorem dX10_clean_88 : decode cX10_clean 88 = .ok (.istore 4, 2) := by decide +kernel
theorem dX10_clean_90 : decode cX10_clean 90 = .ok (.iload 4, 2) := by decide +kernel
theorem dX10_clean_92 : decode cX10_clean 92 = .ok (.ifCond .eq 14, 3) := by decide +kernel
theorem dX10_clean_95 : decode cX10_clean 95 = .ok (.aload_n 0, 1) := by decide +kernel
theorem dX10_clean_96 : decode cX10_clean 96 = .ok (.getfield 91, 3) := by decide +kernel
theorem dX10_clean_99 : decode cX10_clean 99 = .ok (.iload 6, 2) := by decide +kernel
theorem dX10_clean_101 : decode cX10_clean 101 = .ok (.iconst 1, 1) := by decide +kernel
theorem dX10_clean_102 : decode cX10_clean 102 = .ok (.bastore, 1) := by decide +kernel
theorem dX10_clean_103 : decode cX10_clean 103 = .ok (.iinc 3 1, 3) := by decide +kernel
theorem dX10_clean_106 : decode cX10_clean 106 = .ok (.goto (-65), 3) := by decide +kernel
theorem dX10_clean_109 : decode cX10_clean 109 = .ok (.iconst 0, 1) := by decide +kernel
theorem dX10_clean_110 : decode cX10_clean 110 = .ok (.istore 5, 2) := by decide +kernel
theorem dX10_clean_112 : decode cX10_clean 112 = .ok (.iconst 0, 1) := by decide +kernel
theorem dX10_clean_113 : decode cX10_clean 113 = .ok (.istore 6, 2) := by decide +kernel
theorem dX10_clean_115 : decode cX10_clean 115 = .ok (.iload 6, 2) := by decide +kernel
theorem dX10_clean_117 : decode cX10_clean 117 = .ok (.aload_n 0, 1) := by decide +kernel
theorem dX10_clean_118 : decode cX10_clean 118 = .ok (.invokevirtual 265, 3) := by decide +kernel
theorem dX10_clean_121 : decode cX10_clean 121 = .ok (.if_icmp .ge 54, 3) := by decide +kernel
theorem dX10_clean_124 : decode cX10_clean 124 = .ok (.aload_n 0, 1) := by decide +kernel
theorem dX10_clean_125 : decode cX10_clean 125 = .ok (.getfield 91, 3) := by decide +kernel
theorem dX10_clean_128 : decode cX10_clean 128 = .ok (.iload 6, 2) := by decide +kernel
theorem dX10_clean_130 : decode cX10_clean 130 = .ok (.baload, 1) := by decide +kernel
theorem dX10_clean_131 : decode cX10_clean 131 = .ok (.ifCond .eq 38, 3) := by decide +kernel
theorem dX10_clean_134 : decode cX10_clean 134 = .ok (.aload_n 0, 1) := by decide +kernel
theorem dX10_clean_135 : decode cX10_clean 135 = .ok (.getfield 116, 3) := by decide +kernel
theorem dX10_clean_138 : decode cX10_clean 138 = .ok (.iload 6, 2) := by decide +kernel
theorem dX10_clean_140 : decode cX10_clean 140 = .ok (.baload, 1) := by decide +kernel
theorem dX10_clean_141 : decode cX10_clean 141 = .ok (.ifCond .ne 28, 3) := by decide +kernel
theorem dX10_clean_144 : decode cX10_clean 144 = .ok (.aload_n 0, 1) := by decide +kernel
theorem dX10_clean_145 : decode cX10_clean 145 = .ok (.iload 6, 2) := by decide +kernel
theorem dX10_clean_147 : decode cX10_clean 147 = .ok (.invokevirtual 328, 3) := by decide +kernel
theorem dX10_clean_150 : decode cX10_clean 150 = .ok (.lload_n 1, 1) := by decide +kernel
theorem dX10_clean_151 : decode cX10_clean 151 = .ok (.lcmp, 1) := by decide +kernel
theorem dX10_clean_152 : decode cX10_clean 152 = .ok (.ifCond .le 6, 3) := by decide +kernel
theorem dX10_clean_155 : decode cX10_clean 155 = .ok (.goto 14, 3) := by decide +kernel
theorem dX10_clean_158 : decode cX10_clean 158 = .ok (.aload_n 0, 1) := by decide +kernel
theorem dX10_clean_159 : decode cX10_clean 159 = .ok (.getfield 91, 3) := by decide +kernel
theorem dX10_clean_162 : decode cX10_clean 162 = .ok (.iload 6, 2) := by decide +kernel
theorem dX10_clean_164 : decode cX10_clean 164 = .ok (.iconst 0, 1) := by decide +kernel
theorem dX10_clean_165 : decode cX10_clean 165 = .ok (.bastore, 1) := by decide +kernel
theorem dX10_clean_166 : decode cX10_clean 166 = .ok (.iinc 5 1, 3) := by decide +kernel
theorem dX10_clean_169 : decode cX10_clean 169 = .ok (.iinc 6 1, 3) := by decide +kernel
theorem dX10_clean_172 : decode cX10_clean 172 = .ok (.goto (-57), 3) := by decide +kernel
theorem dX10_clean_175 : decode cX10_clean 175 = .ok (.iload 5, 2) := by decide +kernel
theorem dX10_clean_177 : decode cX10_clean 177 = .ok (.ifCond .le 12, 3) := by decide +kernel
theorem dX10_clean_180 : decode cX10_clean 180 = .ok (.aload_n 0, 1) := by decide +kernel
theorem dX10_clean_181 : decode cX10_clean 181 = .ok (.bipush 50, 2) := by decide +kernel
theorem dX10_clean_183 : decode cX10_clean 183 = .ok (.invokevirtual 365, 3) := by decide +kernel
theorem dX10_clean_186 : decode cX10_clean 186 = .ok (.goto 4, 3) := by decide +kernel
theorem dX10_clean_189 : decode cX10_clean 189 = .ok (.iconst 0, 1) := by decide +kernel
theorem dX10_clean_190 : decode cX10_clean 190 = .ok (.istore 6, 2) := by decide +kernel
theorem dX10_clean_192 : decode cX10_clean 192 = .ok (.iload_n 3, 1) := by decide +kernel
theorem dX10_clean_193 : decode cX10_clean 193 = .ok (.iload 5, 2) := by decide +kernel
theorem dX10_clean_195 : decode cX10_clean 195 = .ok (.isub, 1) := by decide +kernel
theorem dX10_clean_196 : decode cX10_clean 196 = .ok (.ireturn, 1) := by decide +kernel
theorem gcX10_tiePoints__X10_tiePoints_r1 : ∀ w ∈ wsX10_tiePoints_r1, w ∈ wsX10_tiePoints := fun w h => List.mem_cons_of_mem _ (List.mem_append_left _ (List.mem_append_left _ (h)))
theorem gcX10_tiePoints__X100 : ∀ w ∈ wsX100, w ∈ wsX10_tiePoints := fun w h => List.mem_cons_of_mem _ (List.mem_append_right _ (h))
set_option maxRecDepth 20000 in
theorem ggX10_tiePoints_X10_points : GoodIn wsX10_tiePoints wsX10_points := goodIn_sub (List.forall_mem_cons.mpr ⟨(gcX10_tiePoints__X10_tiePoints_r1 _ (List.mem_of_getElem? (i := 4) rfl)), List.forall_mem_append.mpr ⟨List.forall_mem_cons.mpr ⟨(gcX10_tiePoints__X10_tiePoints_r1 _ (List.mem_of_getElem? (i := 5) rfl)), fun _ h => (List.not_mem_nil h).elim⟩, gcX10_tiePoints__X100⟩⟩) gwX10_points
set_option maxRecDepth 20000 in
theorem gX10_tiePoints_X10_points : GoodIn wsX10_tiePoints (wsV RX10 262 RX10 yX10_points wsX10_points) := goodIn_app (goodIn_sub (List.forall_mem_cons.mpr ⟨(gcX10_tiePoints__X10_tiePoints_r1 _ (List.mem_of_getElem? (i := 0) rfl)), List.forall_mem_cons.mpr ⟨(gcX10_tiePoints__X10_tiePoints_r1 _ (List.mem_of_getElem? (i := 1) rfl)), List.forall_mem_cons.mpr ⟨(gcX10_tiePoints__X10_tiePoints_r1 _ (List.mem_of_getElem? (i := 2) rfl)), List.forall_mem_cons.mpr ⟨(gcX10_tiePoints__X10_tiePoints_r1 _ (List.mem_of_getElem? (i := 3) rfl)), fun _ h => (List.not_mem_nil h).elim⟩⟩⟩⟩) (by decide +kernel)) ggX10_tiePoints_X10_points
theorem gcX10_tiePoints__X10_tiePoints_r2 : ∀ w ∈ wsX10_tiePoints_r2, w ∈ wsX10_tiePoints := fun w h => List.mem_cons_of_mem _ (List.mem_append_left _ (List.mem_append_right _ (h)))
set_option maxRecDepth 20000 in
theorem ggX10_tiePoints_X10_rowOf : GoodIn wsX10_tiePoints wsX10_rowOf := goodIn_sub (List.forall_mem_cons.mpr ⟨(gcX10_tiePoints__X10_tiePoints_r1 _ (List.mem_of_getElem? (i := 9) rfl)), List.forall_mem_append.mpr ⟨List.forall_mem_cons.mpr ⟨(gcX10_tiePoints__X10_tiePoints_r1 _ (List.mem_of_getElem? (i := 10) rfl)), List.forall_mem_cons.mpr ⟨(gcX10_tiePoints__X10_tiePoints_r1 _ (List.mem_of_getElem? (i := 11) rfl)), List.forall_mem_cons.mpr ⟨(gcX10_tiePoints__X10_tiePoints_r1 _ (List.mem_of_getElem? (i := 12) rfl)), List.forall_mem_cons.mpr ⟨(gcX10_tiePoints__X10_tiePoints_r1 _ (List.mem_of_getElem? (i := 13) rfl)), List.forall_mem_cons.mpr ⟨(gcX10_tiePoints__X10_tiePoints_r1 _ (List.mem_of_getElem? (i := 3) rfl)), List.forall_mem_cons.mpr ⟨(gcX10_tiePoints__X10_tiePoints_r1 _ (List.mem_of_getElem? (i := 14) rfl)), List.forall_mem_cons.mpr ⟨(gcX10_tiePoints__X10_tiePoints_r1 _ (List.mem_of_getElem? (i := 5) rfl)), List.forall_mem_cons.mpr ⟨(gcX10_tiePoints__X10_tiePoints_r1 _ (List.mem_of_getElem? (i := 15) rfl)), List.forall_mem_cons.mpr ⟨(gcX10_tiePoints__X10_tiePoints_r1 _ (List.mem_of_getElem? (i := 16) rfl)), List.forall_mem_cons.mpr ⟨(gcX10_tiePoints__X10_tiePoints_r1 _ (List.mem_of_getElem? (i := 17) rfl)), List.forall_mem_cons.mpr ⟨(gcX10_tiePoints__X10_tiePoints_r1 _ (List.mem_of_getElem? (i := 18) rfl)), List.forall_mem_cons.mpr ⟨(gcX10_tiePoints__X10_tiePoints_r1 _ (List.mem_of_getElem? (i := 19) rfl)), List.forall_mem_cons.mpr ⟨(gcX10_tiePoints__X10_tiePoints_r1 _ (List.mem_of_getElem? (i := 20) rfl)), List.forall_mem_cons.mpr ⟨(gcX10_tiePoints__X10_tiePoints_r1 _ (List.mem_of_getElem? (i := 21) rfl)), List.forall_mem_cons.mpr ⟨(gcX10_tiePoints__X10_tiePoints_r1 _ (List.mem_of_getElem? (i := 22) rfl)), List.forall_mem_cons.mpr ⟨(gcX10_tiePoints__X10_tiePoints_r1 _ (List.mem_of_getElem? (i := 23) rfl)), List.forall_mem_cons.mpr ⟨(gcX10_tiePoints__X10_tiePoints_r2 _ (List.mem_of_getElem? (i := 0) rfl)), fun _ h => (List.not_mem_nil h).elim⟩⟩⟩⟩⟩⟩⟩⟩⟩⟩⟩⟩⟩⟩⟩⟩⟩, gcX10_tiePoints__X100⟩⟩) gwX10_rowOf
set_option maxRecDepth 20000 in
theorem gX10_tiePoints_X10_rowOf : GoodIn wsX10_tiePoints (wsV RX10 290 RX10 yX10_rowOf wsX10_rowOf) := goodIn_app (goodIn_sub (List.forall_mem_cons.mpr ⟨(gcX10_tiePoints__X10_tiePoints_r1 _ (List.mem_of_getElem? (i := 6) rfl)), List.forall_mem_cons.mpr ⟨(gcX10_tiePoints__X10_tiePoints_r1 _ (List.mem_of_getElem? (i := 7) rfl)), List.forall_mem_cons.mpr ⟨(gcX10_tiePoints__X10_tiePoints_r1 _ (List.mem_of_getElem? (i := 8) rfl)), List.forall_mem_cons.mpr ⟨(gcX10_tiePoints__X10_tiePoints_r1 _ (List.mem_of_getElem? (i := 3) rfl)), fun _ h => (List.not_mem_nil h).elim⟩⟩⟩⟩) (by decide +kernel)) ggX10_tiePoints_X10_rowOf
theorem dX10_tiePoints_0 : decode cX10_tiePoints 0 = .ok (.iconst 0, 1) := by decide +kernel
theorem dX10_tiePoints_1 : decode cX10_tiePoints 1 = .ok (.istore_n 3, 1) := by decide +kernel
theorem dX10_tiePoints_2 : decode cX10_tiePoints 2 = .ok (.iconst 0, 1) := by decide +kernel
theorem dX10_tiePoints_3 : decode cX10_tiePoints 3 = .ok (.istore 4, 2) := by decide +kernel
theorem dX10_tiePoints_5 : decode cX10_tiePoints 5 = .ok (.iload 4, 2) := by decide +kernel
theorem dX10_tiePoints_7 : decode cX10_tiePoints 7 = .ok (.aload_n 0, 1) := by decide +kernel
theorem dX10_tiePoints_8 : decode cX10_tiePoints 8 = .ok (.invokevirtual 262, 3) := by decide +kernel
theorem dX10_tiePoints_11 : decode cX10_tiePoints 11 = .ok (.if_icmp .ge 34, 3) := by decide +kernel
theorem dX10_tiePoints_14 : decode cX10_tiePoints 14 = .ok (.aload_n 0, 1) := by decide +kernel
theorem dX10_tiePoints_15 : decode cX10_tiePoints 15 = .ok (.iload_n 1, 1) := by decide +kernel
theorem dX10_tiePoints_16 : decode cX10_tiePoints 16 = .ok (.iload 4, 2) := by decide +kernel
theorem dX10_tiePoints_18 : decode cX10_tiePoints 18 = .ok (.invokevirtual 290, 3) := by decide +kernel
theorem dX10_tiePoints_21 : decode cX10_tiePoints 21 = .ok (.iconst (-1), 1) := by decide +kernel
theorem dX10_tiePoints_22 : decode cX10_tiePoints 22 = .ok (.if_icmp .eq 17, 3) := by decide +kernel
theorem dX10_tiePoints_25 : decode cX10_tiePoints 25 = .ok (.aload_n 0, 1) := by decide +kernel
theorem dX10_tiePoints_26 : decode cX10_tiePoints 26 = .ok (.iload_n 2, 1) := by decide +kernel
theorem dX10_tiePoints_27 : decode cX10_tiePoints 27 = .ok (.iload 4, 2) := by decide +kernel
theorem dX10_tiePoints_29 : decode cX10_tiePoints 29 = .ok (.invokevirtual 290, 3) := by decide +kernel
theorem dX10_tiePoints_32 : decode cX10_tiePoints 32 = .ok (.iconst (-1), 1) := by decide +kernel
theorem dX10_tiePoints_33 : decode cX10_tiePoints 33 = .ok (.if_icmp .eq 6, 3) := by decide +kernel
theorem dX10_tiePoints_36 : decode cX10_tiePoints 36 = .ok (.iinc 3 1, 3) := by decide +kernel
theorem dX10_tiePoints_39 : decode cX10_tiePoints 39 = .ok (.iinc 4 1, 3) := by decide +kernel
theorem dX10_tiePoints_42 : decode cX10_tiePoints 42 = .ok (.goto (-37), 3) := by decide +kernel
theorem dX10_tiePoints_45 : decode cX10_tiePoints 45 = .ok (.iload_n 3, 1) := by decide +kernel
theorem dX10_tiePoints_46 : decode cX10_tiePoints 46 = .ok (.ireturn, 1) := by decide +kernel
theorem gcX10_step__X10_step_r1 : ∀ w ∈ wsX10_step_r1, w ∈ wsX10_step := fun w h => List.mem_cons_of_mem _ (List.mem_append_left _ (List.mem_append_left _ (h)))
theorem gcX10_step__X100 : ∀ w ∈ wsX100, w ∈ wsX10_step := fun w h => List.mem_cons_of_mem _ (List.mem_append_right _ (h))
set_option maxRecDepth 20000 in
theorem ggX10_step_X10_points : GoodIn wsX10_step wsX10_points := goodIn_sub (List.forall_mem_cons.mpr ⟨(gcX10_step__X10_step_r1 _ (List.mem_of_getElem? (i := 4) rfl)), List.forall_mem_append.mpr ⟨List.forall_mem_cons.mpr ⟨(gcX10_step__X10_step_r1 _ (List.mem_of_getElem? (i := 5) rfl)), fun _ h => (List.not_mem_nil h).elim⟩, gcX10_step__X100⟩⟩) gwX10_points
set_option maxRecDepth 20000 in
theorem gX10_step_X10_points : GoodIn wsX10_step (wsV RX10 262 RX10 yX10_points wsX10_points) := goodIn_app (goodIn_sub (List.forall_mem_cons.mpr ⟨(gcX10_step__X10_step_r1 _ (List.mem_of_getElem? (i := 0) rfl)), List.forall_mem_cons.mpr ⟨(gcX10_step__X10_step_r1 _ (List.mem_of_getElem? (i := 1) rfl)), List.forall_mem_cons.mpr ⟨(gcX10_step__X10_step_r1 _ (List.mem_of_getElem? (i := 2) rfl)), List.forall_mem_cons.mpr ⟨(gcX10_step__X10_step_r1 _ (List.mem_of_getElem? (i := 3) rfl)), fun _ h => (List.not_mem_nil h).elim⟩⟩⟩⟩) (by decide +kernel)) ggX10_step_X10_points
theorem gcX10_step__X10_step_r2 : ∀ w ∈ wsX10_step_r2, w ∈ wsX10_step := fun w h => List.mem_cons_of_mem _ (List.mem_append_left _ (List.mem_append_right _ (h)))
set_option maxRecDepth 20000 in
theorem ggX10_step_X10_rowOf : GoodIn wsX10_step wsX10_rowOf := goodIn_sub (List.forall_mem_cons.mpr ⟨(gcX10_step__X10_step_r1 _ (List.mem_of_getElem? (i := 9) rfl)), List.forall_mem_append.mpr ⟨List.forall_mem_cons.mpr ⟨(gcX10_step__X10_step_r1 _ (List.mem_of_getElem? (i := 10) rfl)), List.forall_mem_cons.mpr ⟨(gcX10_step__X10_step_r1 _ (List.mem_of_getElem? (i := 11) rfl)), List.forall_mem_cons.mpr ⟨(gcX10_step__X10_step_r1 _ (List.mem_of_getElem? (i := 12) rfl)), List.forall_mem_cons.mpr ⟨(gcX10_step__X10_step_r1 _ (List.mem_of_getElem? (i := 13) rfl)), List.forall_mem_cons.mpr ⟨(gcX10_step__X10_step_r1 _ (List.mem_of_getElem? (i := 3) rfl)), List.forall_mem_cons.mpr ⟨(gcX10_step__X10_step_r1 _ (List.mem_of_getElem? (i := 14) rfl)), List.forall_mem_cons.mpr ⟨(gcX10_step__X10_step_r1 _ (List.mem_of_getElem? (i := 5) rfl)), List.forall_mem_cons.mpr ⟨(gcX10_step__X10_step_r1 _ (List.mem_of_getElem? (i := 15) rfl)), List.forall_mem_cons.mpr ⟨(gcX10_step__X10_step_r1 _ (List.mem_of_getElem? (i := 16) rfl)), List.forall_mem_cons.mpr ⟨(gcX10_step__X10_step_r1 _ (List.mem_of_getElem? (i := 17) rfl)), List.forall_mem_cons.mpr ⟨(gcX10_step__X10_step_r1 _ (List.mem_of_getElem? (i := 18) rfl)), List.forall_mem_cons.mpr ⟨(gcX10_step__X10_step_r1 _ (List.mem_of_getElem? (i := 19) rfl)), List.forall_mem_cons.mpr ⟨(gcX10_step__X10_step_r1 _ (List.mem_of_getElem? (i := 20) rfl)), List.forall_mem_cons.mpr ⟨(gcX10_step__X10_step_r1 _ (List.mem_of_getElem? (i := 21) rfl)), List.forall_mem_cons.mpr ⟨(gcX10_step__X10_step_r1 _ (List.mem_of_getElem? (i := 22) rfl)), List.forall_mem_cons.mpr ⟨(gcX10_step__X10_step_r1 _ (List.mem_of_getElem? (i := 23) rfl)), List.forall_mem_cons.mpr ⟨(gcX10_step__X10_step_r2 _ (List.mem_of_getElem? (i := 0) rfl)), fun _ h => (List.not_mem_nil h).elim⟩⟩⟩⟩⟩⟩⟩⟩⟩⟩⟩⟩⟩⟩⟩⟩⟩, gcX10_step__X100⟩⟩) gwX10_rowOf
set_option maxRecDepth 20000 in
theorem gX10_step_X10_rowOf : GoodIn wsX10_step (wsV RX10 290 RX10 yX10_rowOf wsX10_rowOf) := goodIn_app (goodIn_sub (List.forall_mem_cons.mpr ⟨(gcX10_step__X10_step_r1 _ (List.mem_of_getElem? (i := 6) rfl)), List.forall_mem_cons.mpr ⟨(gcX10_step__X10_step_r1 _ (List.mem_of_getElem? (i := 7) rfl)), List.forall_mem_cons.mpr ⟨(gcX10_step__X10_step_r1 _ (List.mem_of_getElem? (i := 8) rfl)), List.forall_mem_cons.mpr ⟨(gcX10_step__X10_step_r1 _ (List.mem_of_getElem? (i := 3) rfl)), fun _ h => (List.not_mem_nil h).elim⟩⟩⟩⟩) (by decide +kernel)) ggX10_step_X10_rowOf
set_option maxRecDepth 20000 in
theorem ggX10_step_X10_turned : GoodIn wsX10_step wsX10_turned := goodIn_sub (List.forall_mem_cons.mpr ⟨(gcX10_step__X10_step_r2 _ (List.mem_of_getElem? (i := 4) rfl)), List.forall_mem_append.mpr ⟨List.forall_mem_cons.mpr ⟨(gcX10_step__X10_step_r2 _ (List.mem_of_getElem? (i := 5) rfl)), List.forall_mem_cons.mpr ⟨(gcX10_step__X10_step_r1 _ (List.mem_of_getElem? (i := 15) rfl)), List.forall_mem_cons.mpr ⟨(gcX10_step__X10_step_r1 _ (List.mem_of_getElem? (i := 16) rfl)), List.forall_mem_cons.mpr ⟨(gcX10_step__X10_step_r1 _ (List.mem_of_getElem? (i := 17) rfl)), List.forall_mem_cons.mpr ⟨(gcX10_step__X10_step_r1 _ (List.mem_of_getElem? (i := 3) rfl)), List.forall_mem_cons.mpr ⟨(gcX10_step__X10_step_r1 _ (List.mem_of_getElem? (i := 18) rfl)), List.forall_mem_cons.mpr ⟨(gcX10_step__X10_step_r1 _ (List.mem_of_getElem? (i := 19) rfl)), List.forall_mem_cons.mpr ⟨(gcX10_step__X10_step_r2 _ (List.mem_of_getElem? (i := 6) rfl)), List.forall_mem_cons.mpr ⟨(gcX10_step__X10_step_r2 _ (List.mem_of_getElem? (i := 7) rfl)), List.forall_mem_cons.mpr ⟨(gcX10_step__X10_step_r2 _ (List.mem_of_getElem? (i := 8) rfl)), List.forall_mem_cons.mpr ⟨(gcX10_step__X10_step_r2 _ (List.mem_of_getElem? (i := 9) rfl)), List.forall_mem_cons.mpr ⟨(gcX10_step__X10_step_r2 _ (List.mem_of_getElem? (i := 10) rfl)), fun _ h => (List.not_mem_nil h).elim⟩⟩⟩⟩⟩⟩⟩⟩⟩⟩⟩⟩, gcX10_step__X100⟩⟩) gwX10_turned
set_option maxRecDepth 20000 in
theorem gX10_step_X10_turned : GoodIn wsX10_step (wsV RX10 284 RX10 yX10_turned wsX10_turned) := goodIn_app (goodIn_sub (List.forall_mem_cons.mpr ⟨(gcX10_step__X10_step_r2 _ (List.mem_of_getElem? (i := 1) rfl)), List.forall_mem_cons.mpr ⟨(gcX10_step__X10_step_r2 _ (List.mem_of_getElem? (i := 2) rfl)), List.forall_mem_cons.mpr ⟨(gcX10_step__X10_step_r2 _ (List.mem_of_getElem? (i := 3) rfl)), List.forall_mem_cons.mpr ⟨(gcX10_step__X10_step_r1 _ (List.mem_of_getElem? (i := 3) rfl)), fun _ h => (List.not_mem_nil h).elim⟩⟩⟩⟩) (by decide +kernel)) ggX10_step_X10_turned
theorem dX10_step_0 : decode cX10_step 0 = .ok (.iconst 0, 1) := by decide +kernel
theorem dX10_step_1 : decode cX10_step 1 = .ok (.istore 4, 2) := by decide +kernel
theorem dX10_step_3 : decode cX10_step 3 = .ok (.lconst 0, 1) := by decide +kernel
theorem dX10_step_4 : decode cX10_step 4 = .ok (.lstore 5, 2) := by decide +kernel
theorem dX10_step_6 : decode cX10_step 6 = .ok (.iconst 0, 1) := by decide +kernel
theorem dX10_step_7 : decode cX10_step 7 = .ok (.istore 7, 2) := by decide +kernel
theorem dX10_step_9 : decode cX10_step 9 = .ok (.iload 7, 2) := by decide +kernel
theorem dX10_step_11 : decode cX10_step 11 = .ok (.aload_n 0, 1) := by decide +kernel
theorem dX10_step_12 : decode cX10_step 12 = .ok (.invokevirtual 262, 3) := by decide +kernel
theorem dX10_step_15 : decode cX10_step 15 = .ok (.if_icmp .ge 66, 3) := by decide +kernel
theorem dX10_step_18 : decode cX10_step 18 = .ok (.aload_n 0, 1) := by decide +kernel
theorem dX10_step_19 : decode cX10_step 19 = .ok (.iload_n 1, 1) := by decide +kernel
theorem dX10_step_20 : decode cX10_step 20 = .ok (.iload 7, 2) := by decide +kernel
theorem dX10_step_22 : decode cX10_step 22 = .ok (.invokevirtual 290, 3) := by decide +kernel
theorem dX10_step_25 : decode cX10_step 25 = .ok (.istore 8, 2) := by decide +kernel
theorem dX10_step_27 : decode cX10_step 27 = .ok (.aload_n 0, 1) := by decide +kernel
theorem dX10_step_28 : decode cX10_step 28 = .ok (.iload_n 2, 1) := by decide +kernel
theorem dX10_step_29 : decode cX10_step 29 = .ok (.iload 7, 2) := by decide +kernel
theorem dX10_step_31 : decode cX10_step 31 = .ok (.invokevirtual 290, 3) := by decide +kernel
theorem dX10_step_34 : decode cX10_step 34 = .ok (.istore 9, 2) := by decide +kernel
theorem dX10_step_36 : decode cX10_step 36 = .ok (.iload 8, 2) := by decide +kernel
theorem dX10_step_38 : decode cX10_step 38 = .ok (.iconst (-1), 1) := by decide +kernel
theorem dX10_step_39 : decode cX10_step 39 = .ok (.if_icmp .eq 36, 3) := by decide +kernel
theorem dX10_step_42 : decode cX10_step 42 = .ok (.iload 9, 2) := by decide +kernel
theorem dX10_step_44 : decode cX10_step 44 = .ok (.iconst (-1), 1) := by decide +kernel
theorem dX10_step_45 : decode cX10_step 45 = .ok (.if_icmp .ne 6, 3) := by decide +kernel
theorem dX10_step_48 : decode cX10_step 48 = .ok (.goto 27, 3) := by decide +kernel
theorem dX10_step_51 : decode cX10_step 51 = .ok (.lload 5, 2) := by decide +kernel
theorem dX10_step_53 : decode cX10_step 53 = .ok (.aload_n 0, 1) := by decide +kernel
theorem dX10_step_54 : decode cX10_step 54 = .ok (.iload 8, 2) := by decide +kernel
theorem dX10_step_56 : decode cX10_step 56 = .ok (.iload_n 3, 1) := by decide +kernel
theorem dX10_step_57 : decode cX10_step 57 = .ok (.invokevirtual 284, 3) := by decide +kernel
theorem dX10_step_60 : decode cX10_step 60 = .ok (.aload_n 0, 1) := by decide +kernel
theorem dX10_step_61 : decode cX10_step 61 = .ok (.iload 9, 2) := by decide +kernel
theorem dX10_step_63 : decode cX10_step 63 = .ok (.iload_n 3, 1) := by decide +kernel
theorem dX10_step_64 : decode cX10_step 64 = .ok (.invokevirtual 284, 3) := by decide +kernel
theorem dX10_step_67 : decode cX10_step 67 = .ok (.isub, 1) := by decide +kernel
theorem dX10_step_68 : decode cX10_step 68 = .ok (.i2l, 1) := by decide +kernel
theorem dX10_step_69 : decode cX10_step 69 = .ok (.ladd, 1) := by decide +kernel
theorem dX10_step_70 : decode cX10_step 70 = .ok (.lstore 5, 2) := by decide +kernel
theorem dX10_step_72 : decode cX10_step 72 = .ok (.iinc 4 1, 3) := by decide +kernel
theorem dX10_step_75 : decode cX10_step 75 = .ok (.iinc 7 1, 3) := by decide +kernel
theorem dX10_step_78 : decode cX10_step 78 = .ok (.goto (-69), 3) := by decide +kernel
theorem dX10_step_81 : decode cX10_step 81 = .ok (.lload 5, 2) := by decide +kernel
theorem dX10_step_83 : decode cX10_step 83 = .ok (.iload 4, 2) := by decide +kernel
theorem dX10_step_85 : decode cX10_step 85 = .ok (.i2l, 1) := by decide +kernel
theorem dX10_step_86 : decode cX10_step 86 = .ok (.ldiv, 1) := by decide +kernel
theorem dX10_step_87 : decode cX10_step 87 = .ok (.lstore 7, 2) := by decide +kernel
theorem dX10_step_89 : decode cX10_step 89 = .ok (.lload 5, 2) := by decide +kernel
theorem dX10_step_91 : decode cX10_step 91 = .ok (.iload 4, 2) := by decide +kernel
theorem dX10_step_93 : decode cX10_step 93 = .ok (.i2l, 1) := by decide +kernel
theorem dX10_step_94 : decode cX10_step 94 = .ok (.lrem, 1) := by decide +kernel
theorem dX10_step_95 : decode cX10_step 95 = .ok (.lconst 0, 1) := by decide +kernel
theorem dX10_step_96 : decode cX10_step 96 = .ok (.lcmp, 1) := by decide +kernel
theorem dX10_step_97 : decode cX10_step 97 = .ok (.ifCond .ge 10, 3) := by decide +kernel
theorem dX10_step_100 : decode cX10_step 100 = .ok (.lload 7, 2) := by decide +kernel
theorem dX10_step_102 : decode cX10_step 102 = .ok (.lconst 1, 1) := by decide +kernel
theorem dX10_step_103 : decode cX10_step 103 = .ok (.lsub, 1) := by decide +kernel
theorem dX10_step_104 : decode cX10_step 104 = .ok (.goto 5, 3) := by decide +kernel
theorem dX10_step_107 : decode cX10_step 107 = .ok (.lload 7, 2) := by decide +kernel
theorem dX10_step_109 : decode cX10_step 109 = .ok (.l2i, 1) := by decide +kernel
theorem dX10_step_110 : decode cX10_step 110 = .ok (.ireturn, 1) := by decide +kernel
theorem gcX10_areTwo__X100 : ∀ w ∈ wsX100, w ∈ wsX10_areTwo := fun w h => List.mem_cons_of_mem _ (List.mem_append_right _ (h))
set_option maxRecDepth 20000 in
theorem ggX10_areTwo_X10_isPicture : GoodIn wsX10_areTwo wsX10_isPicture := goodIn_sub (List.forall_mem_cons.mpr ⟨(List.mem_of_getElem? (i := 5) rfl), List.forall_mem_append.mpr ⟨List.forall_mem_cons.mpr ⟨(List.mem_of_getElem? (i := 6) rfl), List.forall_mem_cons.mpr ⟨(List.mem_of_getElem? (i := 7) rfl), List.forall_mem_cons.mpr ⟨(List.mem_of_getElem? (i := 8) rfl), List.forall_mem_cons.mpr ⟨(List.mem_of_getElem? (i := 4) rfl), List.forall_mem_cons.mpr ⟨(List.mem_of_getElem? (i := 9) rfl), List.forall_mem_cons.mpr ⟨(List.mem_of_getElem? (i := 10) rfl), List.forall_mem_cons.mpr ⟨(List.mem_of_getElem? (i := 11) rfl), List.forall_mem_cons.mpr ⟨(List.mem_of_getElem? (i := 12) rfl), List.forall_mem_cons.mpr ⟨(List.mem_of_getElem? (i := 13) rfl), fun _ h => (List.not_mem_nil h).elim⟩⟩⟩⟩⟩⟩⟩⟩⟩, gcX10_areTwo__X100⟩⟩) gwX10_isPicture
set_option maxRecDepth 20000 in
theorem gX10_areTwo_X10_isPicture : GoodIn wsX10_areTwo (wsV RX10 427 RX10 yX10_isPicture wsX10_isPicture) := goodIn_app (goodIn_sub (List.forall_mem_cons.mpr ⟨(List.mem_of_getElem? (i := 1) rfl), List.forall_mem_cons.mpr ⟨(List.mem_of_getElem? (i := 2) rfl), List.forall_mem_cons.mpr ⟨(List.mem_of_getElem? (i := 3) rfl), List.forall_mem_cons.mpr ⟨(List.mem_of_getElem? (i := 4) rfl), fun _ h => (List.not_mem_nil h).elim⟩⟩⟩⟩) (by decide +kernel)) ggX10_areTwo_X10_isPicture
theorem dX10_areTwo_0 : decode cX10_areTwo 0 = .ok (.aload_n 0, 1) := by decide +kernel
theorem dX10_areTwo_1 : decode cX10_areTwo 1 = .ok (.iload_n 1, 1) := by decide +kernel
theorem dX10_areTwo_2 : decode cX10_areTwo 2 = .ok (.invokevirtual 427, 3) := by decide +kernel
theorem dX10_areTwo_5 : decode cX10_areTwo 5 = .ok (.ifCond .eq 20, 3) := by decide +kernel
theorem dX10_areTwo_8 : decode cX10_areTwo 8 = .ok (.aload_n 0, 1) := by decide +kernel
theorem dX10_areTwo_9 : decode cX10_areTwo 9 = .ok (.iload_n 2, 1) := by decide +kernel
theorem dX10_areTwo_10 : decode cX10_areTwo 10 = .ok (.invokevirtual 427, 3) := by decide +kernel
theorem dX10_areTwo_13 : decode cX10_areTwo 13 = .ok (.ifCond .eq 12, 3) := by decide +kernel
theorem dX10_areTwo_16 : decode cX10_areTwo 16 = .ok (.iload_n 1, 1) := by decide +kernel
theorem dX10_areTwo_17 : decode cX10_areTwo 17 = .ok (.iload_n 2, 1) := by decide +kernel
theorem dX10_areTwo_18 : decode cX10_areTwo 18 = .ok (.if_icmp .eq 7, 3) := by decide +kernel
theorem dX10_areTwo_21 : decode cX10_areTwo 21 = .ok (.iconst 1, 1) := by decide +kernel
theorem dX10_areTwo_22 : decode cX10_areTwo 22 = .ok (.goto 4, 3) := by decide +kernel
theorem dX10_areTwo_25 : decode cX10_areTwo 25 = .ok (.iconst 0, 1) := by decide +kernel
theorem dX10_areTwo_26 : decode cX10_areTwo 26 = .ok (.ireturn, 1) := by decide +kernel
theorem gcX10_tie__X10_tie_r1 : ∀ w ∈ wsX10_tie_r1, w ∈ wsX10_tie := fun w h => List.mem_cons_of_mem _ (List.mem_append_left _ (List.mem_append_left _ (h)))
theorem gcX10_tie__X100 : ∀ w ∈ wsX100, w ∈ wsX10_tie := fun w h => List.mem_cons_of_mem _ (List.mem_append_right _ (h))
set_option maxRecDepth 20000 in
theorem gwX10_areTwo : wsX10_areTwo.all goodWord = true := by decide +kernel
set_option maxRecDepth 20000 in
theorem ggX10_tie_X10_areTwo : GoodIn wsX10_tie wsX10_areTwo := goodIn_sub (List.forall_mem_cons.mpr ⟨(gcX10_tie__X10_tie_r1 _ (List.mem_of_getElem? (i := 6) rfl)), List.forall_mem_append.mpr ⟨List.forall_mem_cons.mpr ⟨(gcX10_tie__X10_tie_r1 _ (List.mem_of_getElem? (i := 7) rfl)), List.forall_mem_cons.mpr ⟨(gcX10_tie__X10_tie_r1 _ (List.mem_of_getElem? (i := 8) rfl)), List.forall_mem_cons.mpr ⟨(gcX10_tie__X10_tie_r1 _ (List.mem_of_getElem? (i := 9) rfl)), List.forall_mem_cons.mpr ⟨(gcX10_tie__X10_tie_r1 _ (List.mem_of_getElem? (i := 5) rfl)), List.forall_mem_cons.mpr ⟨(gcX10_tie__X10_tie_r1 _ (List.mem_of_getElem? (i := 10) rfl)), List.forall_mem_cons.mpr ⟨(gcX10_tie__X10_tie_r1 _ (List.mem_of_getElem? (i := 11) rfl)), List.forall_mem_cons.mpr ⟨(gcX10_tie__X10_tie_r1 _ (List.mem_of_getElem? (i := 12) rfl)), List.forall_mem_cons.mpr ⟨(gcX10_tie__X10_tie_r1 _ (List.mem_of_getElem? (i := 13) rfl)), List.forall_mem_cons.mpr ⟨(gcX10_tie__X10_tie_r1 _ (List.mem_of_getElem? (i := 14) rfl)), List.forall_mem_cons.mpr ⟨(gcX10_tie__X10_tie_r1 _ (List.mem_of_getElem? (i := 15) rfl)), List.forall_mem_cons.mpr ⟨(gcX10_tie__X10_tie_r1 _ (List.mem_of_getElem? (i := 16) rfl)), List.forall_mem_cons.mpr ⟨(gcX10_tie__X10_tie_r1 _ (List.mem_of_getElem? (i := 17) rfl)), List.forall_mem_cons.mpr ⟨(gcX10_tie__X10_tie_r1 _ (List.mem_of_getElem? (i := 18) rfl)), fun _ h => (List.not_mem_nil h).elim⟩⟩⟩⟩⟩⟩⟩⟩⟩⟩⟩⟩⟩, gcX10_tie__X100⟩⟩) gwX10_areTwo
set_option maxRecDepth 20000 in
theorem gX10_tie_X10_areTwo : GoodIn wsX10_tie (wsV RX10 451 RX10 yX10_areTwo wsX10_areTwo) := goodIn_app (goodIn_sub (List.forall_mem_cons.mpr ⟨(gcX10_tie__X10_tie_r1 _ (List.mem_of_getElem? (i := 2) rfl)), List.forall_mem_cons.mpr ⟨(gcX10_tie__X10_tie_r1 _ (List.mem_of_getElem? (i := 3) rfl)), List.forall_mem_cons.mpr ⟨(gcX10_tie__X10_tie_r1 _ (List.mem_of_getElem? (i := 4) rfl)), List.forall_mem_cons.mpr ⟨(gcX10_tie__X10_tie_r1 _ (List.mem_of_getElem? (i := 5) rfl)), fun _ h => (List.not_mem_nil h).elim⟩⟩⟩⟩) (by decide +kernel)) ggX10_tie_X10_areTwo
set_option maxRecDepth 20000 in
theorem ggX10_tie_X10_isIn : GoodIn wsX10_tie wsX10_isIn := goodIn_sub (List.forall_mem_cons.mpr ⟨(gcX10_tie__X10_tie_r1 _ (List.mem_of_getElem? (i := 18) rfl)), fun _ h => (List.not_mem_nil h).elim⟩) gwX10_isIn
set_option maxRecDepth 20000 in
theorem gX10_tie_X10_isIn : GoodIn wsX10_tie (va_wsS RX10 183 yX10_isIn wsX10_isIn) := goodIn_app (goodIn_sub (List.forall_mem_cons.mpr ⟨(gcX10_tie__X10_tie_r1 _ (List.mem_of_getElem? (i := 16) rfl)), List.forall_mem_cons.mpr ⟨(gcX10_tie__X10_tie_r1 _ (List.mem_of_getElem? (i := 17) rfl)), List.forall_mem_cons.mpr ⟨(gcX10_tie__X10_tie_r1 _ (List.mem_of_getElem? (i := 5) rfl)), fun _ h => (List.not_mem_nil h).elim⟩⟩⟩) (by decide +kernel)) ggX10_tie_X10_isIn
theorem gcX10_tie__X10_tie_r2 : ∀ w ∈ wsX10_tie_r2, w ∈ wsX10_tie := fun w h => List.mem_cons_of_mem _ (List.mem_append_left _ (List.mem_append_right _ (List.mem_append_left _ (h))))
set_option maxRecDepth 20000 in
theorem gmX10_tie__X10_tiePoints_r1 : ∀ w ∈ wsX10_tiePoints_r1, w ∈ wsX10_tie := List.forall_mem_cons.mpr ⟨(gcX10_tie__X10_tie_r1 _ (List.mem_of_getElem? (i := 23) rfl)), List.forall_mem_cons.mpr ⟨(gcX10_tie__X10_tie_r2 _ (List.mem_of_getElem? (i := 0) rfl)), List.forall_mem_cons.mpr ⟨(gcX10_tie__X10_tie_r2 _ (List.mem_of_getElem? (i := 1) rfl)), List.forall_mem_cons.mpr ⟨(gcX10_tie__X10_tie_r1 _ (List.mem_of_getElem? (i := 5) rfl)), List.forall_mem_cons.mpr ⟨(gcX10_tie__X10_tie_r2 _ (List.mem_of_getElem? (i := 2) rfl)), List.forall_mem_cons.mpr ⟨(gcX10_tie__X10_tie_r1 _ (List.mem_of_getElem? (i := 15) rfl)), List.forall_mem_cons.mpr ⟨(gcX10_tie__X10_tie_r2 _ (List.mem_of_getElem? (i := 3) rfl)), List.forall_mem_cons.mpr ⟨(gcX10_tie__X10_tie_r2 _ (List.mem_of_getElem? (i := 4) rfl)), List.forall_mem_cons.mpr ⟨(gcX10_tie__X10_tie_r2 _ (List.mem_of_getElem? (i := 5) rfl)), List.forall_mem_cons.mpr ⟨(gcX10_tie__X10_tie_r2 _ (List.mem_of_getElem? (i := 6) rfl)), List.forall_mem_cons.mpr ⟨(gcX10_tie__X10_tie_r2 _ (List.mem_of_getElem? (i := 7) rfl)), List.forall_mem_cons.mpr ⟨(gcX10_tie__X10_tie_r2 _ (List.mem_of_getElem? (i := 8) rfl)), List.forall_mem_cons.mpr ⟨(gcX10_tie__X10_tie_r2 _ (List.mem_of_getElem? (i := 9) rfl)), List.forall_mem_cons.mpr ⟨(gcX10_tie__X10_tie_r2 _ (List.mem_of_getElem? (i := 10) rfl)), List.forall_mem_cons.mpr ⟨(gcX10_tie__X10_tie_r2 _ (List.mem_of_getElem? (i := 11) rfl)), List.forall_mem_cons.mpr ⟨(gcX10_tie__X10_tie_r2 _ (List.mem_of_getElem? (i := 12) rfl)), List.forall_mem_cons.mpr ⟨(gcX10_tie__X10_tie_r2 _ (List.mem_of_getElem? (i := 13) rfl)), List.forall_mem_cons.mpr ⟨(gcX10_tie__X10_tie_r2 _ (List.mem_of_getElem? (i := 14) rfl)), List.forall_mem_cons.mpr ⟨(gcX10_tie__X10_tie_r2 _ (List.mem_of_getElem? (i := 15) rfl)), List.forall_mem_cons.mpr ⟨(gcX10_tie__X10_tie_r2 _ (List.mem_of_getElem? (i := 16) rfl)), List.forall_mem_cons.mpr ⟨(gcX10_tie__X10_tie_r2 _ (List.mem_of_getElem? (i := 17) rfl)), List.forall_mem_cons.mpr ⟨(gcX10_tie__X10_tie_r2 _ (List.mem_of_getElem? (i := 18) rfl)), List.forall_mem_cons.mpr ⟨(gcX10_tie__X10_tie_r2 _ (List.mem_of_getElem? (i := 19) rfl)), List.forall_mem_cons.mpr ⟨(gcX10_tie__X10_tie_r2 _ (List.mem_of_getElem? (i := 20) rfl)), fun _ h => (List.not_mem_nil h).elim⟩⟩⟩⟩⟩⟩⟩⟩⟩⟩⟩⟩⟩⟩⟩⟩⟩⟩⟩⟩⟩⟩⟩⟩
set_option maxRecDepth 20000 in
theorem gmX10_tie__X10_tiePoints_r2 : ∀ w ∈ wsX10_tiePoints_r2, w ∈ wsX10_tie := List.forall_mem_cons.mpr ⟨(gcX10_tie__X10_tie_r2 _ (List.mem_of_getElem? (i := 21) rfl)), fun _ h => (List.not_mem_nil h).elim⟩
set_option maxRecDepth 20000 in
theorem gwX10_tiePoints : wsX10_tiePoints.all goodWord = true := by decide +kernel
set_option maxRecDepth 20000 in
theorem ggX10_tie_X10_tiePoints : GoodIn wsX10_tie wsX10_tiePoints := goodIn_sub (List.forall_mem_cons.mpr ⟨(gcX10_tie__X10_tie_r1 _ (List.mem_of_getElem? (i := 22) rfl)), List.forall_mem_append.mpr ⟨List.forall_mem_append.mpr ⟨gmX10_tie__X10_tiePoints_r1, gmX10_tie__X10_tiePoints_r2⟩, gcX10_tie__X100⟩⟩) gwX10_tiePoints
set_option maxRecDepth 20000 in
theorem gX10_tie_X10_tiePoints : GoodIn wsX10_tie (wsV RX10 454 RX10 yX10_tiePoints wsX10_tiePoints) := goodIn_app (goodIn_sub (List.forall_mem_cons.mpr ⟨(gcX10_tie__X10_tie_r1 _ (List.mem_of_getElem? (i := 19) rfl)), List.forall_mem_cons.mpr ⟨(gcX10_tie__X10_tie_r1 _ (List.mem_of_getElem? (i := 20) rfl)), List.forall_mem_cons.mpr ⟨(gcX10_tie__X10_tie_r1 _ (List.mem_of_getElem? (i := 21) rfl)), List.forall_mem_cons.mpr ⟨(gcX10_tie__X10_tie_r1 _ (List.mem_of_getElem? (i := 5) rfl)), fun _ h => (List.not_mem_nil h).elim⟩⟩⟩⟩) (by decide +kernel)) ggX10_tie_X10_tiePoints
theorem gcX10_tie__X10_tie_r3 : ∀ w ∈ wsX10_tie_r3, w ∈ wsX10_tie := fun w h => List.mem_cons_of_mem _ (List.mem_append_left _ (List.mem_append_right _ (List.mem_append_right _ (h))))
set_option maxRecDepth 20000 in
theorem gmX10_tie__X10_step_r1 : ∀ w ∈ wsX10_step_r1, w ∈ wsX10_tie := List.forall_mem_cons.mpr ⟨(gcX10_tie__X10_tie_r1 _ (List.mem_of_getElem? (i := 23) rfl)), List.forall_mem_cons.mpr ⟨(gcX10_tie__X10_tie_r2 _ (List.mem_of_getElem? (i := 0) rfl)), List.forall_mem_cons.mpr ⟨(gcX10_tie__X10_tie_r2 _ (List.mem_of_getElem? (i := 1) rfl)), List.forall_mem_cons.mpr ⟨(gcX10_tie__X10_tie_r1 _ (List.mem_of_getElem? (i := 5) rfl)), List.forall_mem_cons.mpr ⟨(gcX10_tie__X10_tie_r2 _ (List.mem_of_getElem? (i := 2) rfl)), List.forall_mem_cons.mpr ⟨(gcX10_tie__X10_tie_r1 _ (List.mem_of_getElem? (i := 15) rfl)), List.forall_mem_cons.mpr ⟨(gcX10_tie__X10_tie_r2 _ (List.mem_of_getElem? (i := 3) rfl)), List.forall_mem_cons.mpr ⟨(gcX10_tie__X10_tie_r2 _ (List.mem_of_getElem? (i := 4) rfl)), List.forall_mem_cons.mpr ⟨(gcX10_tie__X10_tie_r2 _ (List.mem_of_getElem? (i := 5) rfl)), List.forall_mem_cons.mpr ⟨(gcX10_tie__X10_tie_r2 _ (List.mem_of_getElem? (i := 6) rfl)), List.forall_mem_cons.mpr ⟨(gcX10_tie__X10_tie_r2 _ (List.mem_of_getElem? (i := 7) rfl)), List.forall_mem_cons.mpr ⟨(gcX10_tie__X10_tie_r2 _ (List.mem_of_getElem? (i := 8) rfl)), List.forall_mem_cons.mpr ⟨(gcX10_tie__X10_tie_r2 _ (List.mem_of_getElem? (i := 9) rfl)), List.forall_mem_cons.mpr ⟨(gcX10_tie__X10_tie_r2 _ (List.mem_of_getElem? (i := 10) rfl)), List.forall_mem_cons.mpr ⟨(gcX10_tie__X10_tie_r2 _ (List.mem_of_getElem? (i := 11) rfl)), List.forall_mem_cons.mpr ⟨(gcX10_tie__X10_tie_r2 _ (List.mem_of_getElem? (i := 12) rfl)), List.forall_mem_cons.mpr ⟨(gcX10_tie__X10_tie_r2 _ (List.mem_of_getElem? (i := 13) rfl)), List.forall_mem_cons.mpr ⟨(gcX10_tie__X10_tie_r2 _ (List.mem_of_getElem? (i := 14) rfl)), List.forall_mem_cons.mpr ⟨(gcX10_tie__X10_tie_r2 _ (List.mem_of_getElem? (i := 15) rfl)), List.forall_mem_cons.mpr ⟨(gcX10_tie__X10_tie_r2 _ (List.mem_of_getElem? (i := 16) rfl)), List.forall_mem_cons.mpr ⟨(gcX10_tie__X10_tie_r2 _ (List.mem_of_getElem? (i := 17) rfl)), List.forall_mem_cons.mpr ⟨(gcX10_tie__X10_tie_r2 _ (List.mem_of_getElem? (i := 18) rfl)), List.forall_mem_cons.mpr ⟨(gcX10_tie__X10_tie_r2 _ (List.mem_of_getElem? (i := 19) rfl)), List.forall_mem_cons.mpr ⟨(gcX10_tie__X10_tie_r2 _ (List.mem_of_getElem? (i := 20) rfl)), fun _ h => (List.not_mem_nil h).elim⟩⟩⟩⟩⟩⟩⟩⟩⟩⟩⟩⟩⟩⟩⟩⟩⟩⟩⟩⟩⟩⟩⟩⟩
set_option maxRecDepth 20000 in
theorem gmX10_tie__X10_step_r2 : ∀ w ∈ wsX10_step_r2, w ∈ wsX10_tie := List.forall_mem_cons.mpr ⟨(gcX10_tie__X10_tie_r2 _ (List.mem_of_getElem? (i := 21) rfl)), List.forall_mem_cons.mpr ⟨(gcX10_tie__X10_tie_r3 _ (List.mem_of_getElem? (i := 2) rfl)), List.forall_mem_cons.mpr ⟨(gcX10_tie__X10_tie_r3 _ (List.mem_of_getElem? (i := 3) rfl)), List.forall_mem_cons.mpr ⟨(gcX10_tie__X10_tie_r3 _ (List.mem_of_getElem? (i := 4) rfl)), List.forall_mem_cons.mpr ⟨(gcX10_tie__X10_tie_r3 _ (List.mem_of_getElem? (i := 5) rfl)), List.forall_mem_cons.mpr ⟨(gcX10_tie__X10_tie_r3 _ (List.mem_of_getElem? (i := 6) rfl)), List.forall_mem_cons.mpr ⟨(gcX10_tie__X10_tie_r3 _ (List.mem_of_getElem? (i := 7) rfl)), List.forall_mem_cons.mpr ⟨(gcX10_tie__X10_tie_r3 _ (List.mem_of_getElem? (i := 8) rfl)), List.forall_mem_cons.mpr ⟨(gcX10_tie__X10_tie_r3 _ (List.mem_of_getElem? (i := 9) rfl)), List.forall_mem_cons.mpr ⟨(gcX10_tie__X10_tie_r3 _ (List.mem_of_getElem? (i := 10) rfl)), List.forall_mem_cons.mpr ⟨(gcX10_tie__X10_tie_r3 _ (List.mem_of_getElem? (i := 11) rfl)), fun _ h => (List.not_mem_nil h).elim⟩⟩⟩⟩⟩⟩⟩⟩⟩⟩⟩
set_option maxRecDepth 20000 in
theorem gwX10_step : wsX10_step.all goodWord = true := by decide +kernel
set_option maxRecDepth 20000 in
theorem ggX10_tie_X10_step : GoodIn wsX10_tie wsX10_step := goodIn_sub (List.forall_mem_cons.mpr ⟨(gcX10_tie__X10_tie_r3 _ (List.mem_of_getElem? (i := 1) rfl)), List.forall_mem_append.mpr ⟨List.forall_mem_append.mpr ⟨gmX10_tie__X10_step_r1, gmX10_tie__X10_step_r2⟩, gcX10_tie__X100⟩⟩) gwX10_step
set_option maxRecDepth 20000 in
theorem gX10_tie_X10_step : GoodIn wsX10_tie (wsV RX10 457 RX10 yX10_step wsX10_step) := goodIn_app (goodIn_sub (List.forall_mem_cons.mpr ⟨(gcX10_tie__X10_tie_r2 _ (List.mem_of_getElem? (i := 22) rfl)), List.forall_mem_cons.mpr ⟨(gcX10_tie__X10_tie_r2 _ (List.mem_of_getElem? (i := 23) rfl)), List.forall_mem_cons.mpr ⟨(gcX10_tie__X10_tie_r3 _ (List.mem_of_getElem? (i := 0) rfl)), List.forall_mem_cons.mpr ⟨(gcX10_tie__X10_tie_r1 _ (List.mem_of_getElem? (i := 5) rfl)), fun _ h => (List.not_mem_nil h).elim⟩⟩⟩⟩) (by decide +kernel)) ggX10_tie_X10_step
theorem dX10_tie_0 : decode cX10_tie 0 = .ok (.aload_n 0, 1) := by decide +kernel
theorem dX10_tie_1 : decode cX10_tie 1 = .ok (.iload_n 1, 1) := by decide +kernel
theorem dX10_tie_2 : decode cX10_tie 2 = .ok (.iload_n 2, 1) := by decide +kernel
theorem dX10_tie_3 : decode cX10_tie 3 = .ok (.invokevirtual 451, 3) := by decide +kernel
theorem dX10_tie_6 : decode cX10_tie 6 = .ok (.ifCond .eq 15, 3) := by decide +kernel
theorem dX10_tie_9 : decode cX10_tie 9 = .ok (.iload_n 3, 1) := by decide +kernel
theorem dX10_tie_10 : decode cX10_tie 10 = .ok (.i2l, 1) := by decide +kernel
theorem dX10_tie_11 : decode cX10_tie 11 = .ok (.lconst 0, 1) := by decide +kernel
theorem dX10_tie_12 : decode cX10_tie 12 = .ok (.ldc2_w 339, 3) := by decide +kernel
theorem dX10_tie_15 : decode cX10_tie 15 = .ok (.invokestatic 183, 3) := by decide +kernel
theorem dX10_tie_18 : decode cX10_tie 18 = .ok (.ifCond .ne 7, 3) := by decide +kernel
theorem dX10_tie_21 : decode cX10_tie 21 = .ok (.ldc_w 439, 3) := by decide +kernel
theorem dX10_tie_24 : decode cX10_tie 24 = .ok (.ireturn, 1) := by decide +kernel
theorem dX10_tie_25 : decode cX10_tie 25 = .ok (.aload_n 0, 1) := by decide +kernel
theorem dX10_tie_26 : decode cX10_tie 26 = .ok (.iload_n 1, 1) := by decide +kernel
theorem dX10_tie_27 : decode cX10_tie 27 = .ok (.iload_n 2, 1) := by decide +kernel
theorem dX10_tie_28 : decode cX10_tie 28 = .ok (.invokevirtual 454, 3) := by decide +kernel
theorem dX10_tie_31 : decode cX10_tie 31 = .ok (.istore 4, 2) := by decide +kernel
theorem dX10_tie_33 : decode cX10_tie 33 = .ok (.iload_n 3, 1) := by decide +kernel
theorem dX10_tie_34 : decode cX10_tie 34 = .ok (.ifCond .ne 6, 3) := by decide +kernel
theorem dX10_tie_37 : decode cX10_tie 37 = .ok (.iload 4, 2) := by decide +kernel
theorem dX10_tie_39 : decode cX10_tie 39 = .ok (.ireturn, 1) := by decide +kernel
theorem dX10_tie_40 : decode cX10_tie 40 = .ok (.iload 4, 2) := by decide +kernel
theorem dX10_tie_42 : decode cX10_tie 42 = .ok (.ifCond .ne 9, 3) := by decide +kernel
theorem dX10_tie_45 : decode cX10_tie 45 = .ok (.ldc_w 439, 3) := by decide +kernel
theorem dX10_tie_48 : decode cX10_tie 48 = .ok (.goto 12, 3) := by decide +kernel
theorem dX10_tie_51 : decode cX10_tie 51 = .ok (.aload_n 0, 1) := by decide +kernel
theorem dX10_tie_52 : decode cX10_tie 52 = .ok (.iload_n 1, 1) := by decide +kernel
theorem dX10_tie_53 : decode cX10_tie 53 = .ok (.iload_n 2, 1) := by decide +kernel
theorem dX10_tie_54 : decode cX10_tie 54 = .ok (.iload_n 3, 1) := by decide +kernel
theorem dX10_tie_55 : decode cX10_tie 55 = .ok (.iconst 1, 1) := by decide +kernel
theorem dX10_tie_56 : decode cX10_tie 56 = .ok (.isub, 1) := by decide +kernel
theorem dX10_tie_57 : decode cX10_tie 57 = .ok (.invokevirtual 457, 3) := by decide +kernel
theorem dX10_tie_60 : decode cX10_tie 60 = .ok (.ireturn, 1) := by decide +kernel
theorem gcX10_isLoop__X10_isLoop_r1 : ∀ w ∈ wsX10_isLoop_r1, w ∈ wsX10_isLoop := fun w h => List.mem_cons_of_mem _ (List.mem_append_left _ (List.mem_append_left _ (h)))
theorem gcX10_isLoop__X100 : ∀ w ∈ wsX100, w ∈ wsX10_isLoop := fun w h => List.mem_cons_of_mem _ (List.mem_append_right _ (h))
set_option maxRecDepth 20000 in
theorem ggX10_isLoop_X10_areTwo : GoodIn wsX10_isLoop wsX10_areTwo := goodIn_sub (List.forall_mem_cons.mpr ⟨(gcX10_isLoop__X10_isLoop_r1 _ (List.mem_of_getElem? (i := 4) rfl)), List.forall_mem_append.mpr ⟨List.forall_mem_cons.mpr ⟨(gcX10_isLoop__X10_isLoop_r1 _ (List.mem_of_getElem? (i := 5) rfl)), List.forall_mem_cons.mpr ⟨(gcX10_isLoop__X10_isLoop_r1 _ (List.mem_of_getElem? (i := 6) rfl)), List.forall_mem_cons.mpr ⟨(gcX10_isLoop__X10_isLoop_r1 _ (List.mem_of_getElem? (i := 7) rfl)), List.forall_mem_cons.mpr ⟨(gcX10_isLoop__X10_isLoop_r1 _ (List.mem_of_getElem? (i := 3) rfl)), List.forall_mem_cons.mpr ⟨(gcX10_isLoop__X10_isLoop_r1 _ (List.mem_of_getElem? (i := 8) rfl)), List.forall_mem_cons.mpr ⟨(gcX10_isLoop__X10_isLoop_r1 _ (List.mem_of_getElem? (i := 9) rfl)), List.forall_mem_cons.mpr ⟨(gcX10_isLoop__X10_isLoop_r1 _ (List.mem_of_getElem? (i := 10) rfl)), List.forall_mem_cons.mpr ⟨(gcX10_isLoop__X10_isLoop_r1 _ (List.mem_of_getElem? (i := 11) rfl)), List.forall_mem_cons.mpr ⟨(gcX10_isLoop__X10_isLoop_r1 _ (List.mem_of_getElem? (i := 12) rfl)), List.forall_mem_cons.mpr ⟨(gcX10_isLoop__X10_isLoop_r1 _ (List.mem_of_getElem? (i := 13) rfl)), List.forall_mem_cons.mpr ⟨(gcX10_isLoop__X10_isLoop_r1 _ (List.mem_of_getElem? (i := 14) rfl)), List.forall_mem_cons.mpr ⟨(gcX10_isLoop__X10_isLoop_r1 _ (List.mem_of_getElem? (i := 15) rfl)), List.forall_mem_cons.mpr ⟨(gcX10_isLoop__X10_isLoop_r1 _ (List.mem_of_getElem? (i := 16) rfl)), fun _ h => (List.not_mem_nil h).elim⟩⟩⟩⟩⟩⟩⟩⟩⟩⟩⟩⟩⟩, gcX10_isLoop__X100⟩⟩) gwX10_areTwo
set_option maxRecDepth 20000 in
theorem gX10_isLoop_X10_areTwo : GoodIn wsX10_isLoop (wsV RX10 451 RX10 yX10_areTwo wsX10_areTwo) := goodIn_app (goodIn_sub (List.forall_mem_cons.mpr ⟨(gcX10_isLoop__X10_isLoop_r1 _ (List.mem_of_getElem? (i := 0) rfl)), List.forall_mem_cons.mpr ⟨(gcX10_isLoop__X10_isLoop_r1 _ (List.mem_of_getElem? (i := 1) rfl)), List.forall_mem_cons.mpr ⟨(gcX10_isLoop__X10_isLoop_r1 _ (List.mem_of_getElem? (i := 2) rfl)), List.forall_mem_cons.mpr ⟨(gcX10_isLoop__X10_isLoop_r1 _ (List.mem_of_getElem? (i := 3) rfl)), fun _ h => (List.not_mem_nil h).elim⟩⟩⟩⟩) (by decide +kernel)) ggX10_isLoop_X10_areTwo
theorem gcX10_isLoop__X10_isLoop_r2 : ∀ w ∈ wsX10_isLoop_r2, w ∈ wsX10_isLoop := fun w h => List.mem_cons_of_mem _ (List.mem_append_left _ (List.mem_append_right _ (h)))
set_option maxRecDepth 20000 in
theorem gmX10_isLoop__X10_tiePoints_r1 : ∀ w ∈ wsX10_tiePoints_r1, w ∈ wsX10_isLoop := List.forall_mem_cons.mpr ⟨(gcX10_isLoop__X10_isLoop_r1 _ (List.mem_of_getElem? (i := 21) rfl)), List.forall_mem_cons.mpr ⟨(gcX10_isLoop__X10_isLoop_r1 _ (List.mem_of_getElem? (i := 22) rfl)), List.forall_mem_cons.mpr ⟨(gcX10_isLoop__X10_isLoop_r1 _ (List.mem_of_getElem? (i := 23) rfl)), List.forall_mem_cons.mpr ⟨(gcX10_isLoop__X10_isLoop_r1 _ (List.mem_of_getElem? (i := 3) rfl)), List.forall_mem_cons.mpr ⟨(gcX10_isLoop__X10_isLoop_r2 _ (List.mem_of_getElem? (i := 0) rfl)), List.forall_mem_cons.mpr ⟨(gcX10_isLoop__X10_isLoop_r1 _ (List.mem_of_getElem? (i := 13) rfl)), List.forall_mem_cons.mpr ⟨(gcX10_isLoop__X10_isLoop_r2 _ (List.mem_of_getElem? (i := 1) rfl)), List.forall_mem_cons.mpr ⟨(gcX10_isLoop__X10_isLoop_r2 _ (List.mem_of_getElem? (i := 2) rfl)), List.forall_mem_cons.mpr ⟨(gcX10_isLoop__X10_isLoop_r2 _ (List.mem_of_getElem? (i := 3) rfl)), List.forall_mem_cons.mpr ⟨(gcX10_isLoop__X10_isLoop_r2 _ (List.mem_of_getElem? (i := 4) rfl)), List.forall_mem_cons.mpr ⟨(gcX10_isLoop__X10_isLoop_r2 _ (List.mem_of_getElem? (i := 5) rfl)), List.forall_mem_cons.mpr ⟨(gcX10_isLoop__X10_isLoop_r2 _ (List.mem_of_getElem? (i := 6) rfl)), List.forall_mem_cons.mpr ⟨(gcX10_isLoop__X10_isLoop_r2 _ (List.mem_of_getElem? (i := 7) rfl)), List.forall_mem_cons.mpr ⟨(gcX10_isLoop__X10_isLoop_r2 _ (List.mem_of_getElem? (i := 8) rfl)), List.forall_mem_cons.mpr ⟨(gcX10_isLoop__X10_isLoop_r2 _ (List.mem_of_getElem? (i := 9) rfl)), List.forall_mem_cons.mpr ⟨(gcX10_isLoop__X10_isLoop_r2 _ (List.mem_of_getElem? (i := 10) rfl)), List.forall_mem_cons.mpr ⟨(gcX10_isLoop__X10_isLoop_r2 _ (List.mem_of_getElem? (i := 11) rfl)), List.forall_mem_cons.mpr ⟨(gcX10_isLoop__X10_isLoop_r2 _ (List.mem_of_getElem? (i := 12) rfl)), List.forall_mem_cons.mpr ⟨(gcX10_isLoop__X10_isLoop_r2 _ (List.mem_of_getElem? (i := 13) rfl)), List.forall_mem_cons.mpr ⟨(gcX10_isLoop__X10_isLoop_r2 _ (List.mem_of_getElem? (i := 14) rfl)), List.forall_mem_cons.mpr ⟨(gcX10_isLoop__X10_isLoop_r2 _ (List.mem_of_getElem? (i := 15) rfl)), List.forall_mem_cons.mpr ⟨(gcX10_isLoop__X10_isLoop_r2 _ (List.mem_of_getElem? (i := 16) rfl)), List.forall_mem_cons.mpr ⟨(gcX10_isLoop__X10_isLoop_r2 _ (List.mem_of_getElem? (i := 17) rfl)), List.forall_mem_cons.mpr ⟨(gcX10_isLoop__X10_isLoop_r2 _ (List.mem_of_getElem? (i := 18) rfl)), fun _ h => (List.not_mem_nil h).elim⟩⟩⟩⟩⟩⟩⟩⟩⟩⟩⟩⟩⟩⟩⟩⟩⟩⟩⟩⟩⟩⟩⟩⟩
set_option maxRecDepth 20000 in
theorem gmX10_isLoop__X10_tiePoints_r2 : ∀ w ∈ wsX10_tiePoints_r2, w ∈ wsX10_isLoop := List.forall_mem_cons.mpr ⟨(gcX10_isLoop__X10_isLoop_r2 _ (List.mem_of_getElem? (i := 19) rfl)), fun _ h => (List.not_mem_nil h).elim⟩
set_option maxRecDepth 20000 in
theorem ggX10_isLoop_X10_tiePoints : GoodIn wsX10_isLoop wsX10_tiePoints := goodIn_sub (List.forall_mem_cons.mpr ⟨(gcX10_isLoop__X10_isLoop_r1 _ (List.mem_of_getElem? (i := 20) rfl)), List.forall_mem_append.mpr ⟨List.forall_mem_append.mpr ⟨gmX10_isLoop__X10_tiePoints_r1, gmX10_isLoop__X10_tiePoints_r2⟩, gcX10_isLoop__X100⟩⟩) gwX10_tiePoints
set_option maxRecDepth 20000 in
theorem gX10_isLoop_X10_tiePoints : GoodIn wsX10_isLoop (wsV RX10 454 RX10 yX10_tiePoints wsX10_tiePoints) := goodIn_app (goodIn_sub (List.forall_mem_cons.mpr ⟨(gcX10_isLoop__X10_isLoop_r1 _ (List.mem_of_getElem? (i := 17) rfl)), List.forall_mem_cons.mpr ⟨(gcX10_isLoop__X10_isLoop_r1 _ (List.mem_of_getElem? (i := 18) rfl)), List.forall_mem_cons.mpr ⟨(gcX10_isLoop__X10_isLoop_r1 _ (List.mem_of_getElem? (i := 19) rfl)), List.forall_mem_cons.mpr ⟨(gcX10_isLoop__X10_isLoop_r1 _ (List.mem_of_getElem? (i := 3) rfl)), fun _ h => (List.not_mem_nil h).elim⟩⟩⟩⟩) (by decide +kernel)) ggX10_isLoop_X10_tiePoints
theorem dX10_isLoop_0 : decode cX10_isLoop 0 = .ok (.aload_n 0, 1) := by decide +kernel
theorem dX10_isLoop_1 : decode cX10_isLoop 1 = .ok (.iload_n 1, 1) := by decide +kernel
theorem dX10_isLoop_2 : decode cX10_isLoop 2 = .ok (.iload_n 2, 1) := by decide +kernel
theorem dX10_isLoop_3 : decode cX10_isLoop 3 = .ok (.invokevirtual 451, 3) := by decide +kernel
theorem dX10_isLoop_6 : decode cX10_isLoop 6 = .ok (.ifCond .eq 52, 3) := by decide +kernel
theorem dX10_isLoop_9 : decode cX10_isLoop 9 = .ok (.aload_n 0, 1) := by decide +kernel
theorem dX10_isLoop_10 : decode cX10_isLoop 10 = .ok (.iload_n 2, 1) := by decide +kernel
theorem dX10_isLoop_11 : decode cX10_isLoop 11 = .ok (.iload_n 3, 1) := by decide +kernel
theorem dX10_isLoop_12 : decode cX10_isLoop 12 = .ok (.invokevirtual 451, 3) := by decide +kernel
theorem dX10_isLoop_15 : decode cX10_isLoop 15 = .ok (.ifCond .eq 43, 3) := by decide +kernel
theorem dX10_isLoop_18 : decode cX10_isLoop 18 = .ok (.aload_n 0, 1) := by decide +kernel
theorem dX10_isLoop_19 : decode cX10_isLoop 19 = .ok (.iload_n 3, 1) := by decide +kernel
theorem dX10_isLoop_20 : decode cX10_isLoop 20 = .ok (.iload_n 1, 1) := by decide +kernel
theorem dX10_isLoop_21 : decode cX10_isLoop 21 = .ok (.invokevirtual 451, 3) := by decide +kernel
theorem dX10_isLoop_24 : decode cX10_isLoop 24 = .ok (.ifCond .eq 34, 3) := by decide +kernel
theorem dX10_isLoop_27 : decode cX10_isLoop 27 = .ok (.aload_n 0, 1) := by decide +kernel
theorem dX10_isLoop_28 : decode cX10_isLoop 28 = .ok (.iload_n 1, 1) := by decide +kernel
theorem dX10_isLoop_29 : decode cX10_isLoop 29 = .ok (.iload_n 2, 1) := by decide +kernel
theorem dX10_isLoop_30 : decode cX10_isLoop 30 = .ok (.invokevirtual 454, 3) := by decide +kernel
theorem dX10_isLoop_33 : decode cX10_isLoop 33 = .ok (.ifCond .le 25, 3) := by decide +kernel
theorem dX10_isLoop_36 : decode cX10_isLoop 36 = .ok (.aload_n 0, 1) := by decide +kernel
theorem dX10_isLoop_37 : decode cX10_isLoop 37 = .ok (.iload_n 2, 1) := by decide +kernel
theorem dX10_isLoop_38 : decode cX10_isLoop 38 = .ok (.iload_n 3, 1) := by decide +kernel
theorem dX10_isLoop_39 : decode cX10_isLoop 39 = .ok (.invokevirtual 454, 3) := by decide +kernel
theorem dX10_isLoop_42 : decode cX10_isLoop 42 = .ok (.ifCond .le 16, 3) := by decide +kernel
theorem dX10_isLoop_45 : decode cX10_isLoop 45 = .ok (.aload_n 0, 1) := by decide +kernel
theorem dX10_isLoop_46 : decode cX10_isLoop 46 = .ok (.iload_n 3, 1) := by decide +kernel
theorem dX10_isLoop_47 : decode cX10_isLoop 47 = .ok (.iload_n 1, 1) := by decide +kernel
theorem dX10_isLoop_48 : decode cX10_isLoop 48 = .ok (.invokevirtual 454, 3) := by decide +kernel
theorem dX10_isLoop_51 : decode cX10_isLoop 51 = .ok (.ifCond .le 7, 3) := by decide +kernel
theorem dX10_isLoop_54 : decode cX10_isLoop 54 = .ok (.iconst 1, 1) := by decide +kernel
theorem dX10_isLoop_55 : decode cX10_isLoop 55 = .ok (.goto 4, 3) := by decide +kernel
theorem dX10_isLoop_58 : decode cX10_isLoop 58 = .ok (.iconst 0, 1) := by decide +kernel
theorem dX10_isLoop_59 : decode cX10_isLoop 59 = .ok (.ireturn, 1) := by decide +kernel
theorem gcX10_loopOf__X10_loopOf_r1 : ∀ w ∈ wsX10_loopOf_r1, w ∈ wsX10_loopOf := fun w h => List.mem_cons_of_mem _ (List.mem_append_left _ (List.mem_append_left _ (h)))
theorem gcX10_loopOf__X10_loopOf_r2 : ∀ w ∈ wsX10_loopOf_r2, w ∈ wsX10_loopOf := fun w h => List.mem_cons_of_mem _ (List.mem_append_left _ (List.mem_append_right _ (h)))
set_option maxRecDepth 20000 in
theorem gmX10_loopOf__X10_step_r1 : ∀ w ∈ wsX10_step_r1, w ∈ wsX10_loopOf := List.forall_mem_cons.mpr ⟨(gcX10_loopOf__X10_loopOf_r1 _ (List.mem_of_getElem? (i := 5) rfl)), List.forall_mem_cons.mpr ⟨(gcX10_loopOf__X10_loopOf_r1 _ (List.mem_of_getElem? (i := 6) rfl)), List.forall_mem_cons.mpr ⟨(gcX10_loopOf__X10_loopOf_r1 _ (List.mem_of_getElem? (i := 7) rfl)), List.forall_mem_cons.mpr ⟨(gcX10_loopOf__X10_loopOf_r1 _ (List.mem_of_getElem? (i := 3) rfl)), List.forall_mem_cons.mpr ⟨(gcX10_loopOf__X10_loopOf_r1 _ (List.mem_of_getElem? (i := 8) rfl)), List.forall_mem_cons.mpr ⟨(gcX10_loopOf__X10_loopOf_r1 _ (List.mem_of_getElem? (i := 9) rfl)), List.forall_mem_cons.mpr ⟨(gcX10_loopOf__X10_loopOf_r1 _ (List.mem_of_getElem? (i := 10) rfl)), List.forall_mem_cons.mpr ⟨(gcX10_loopOf__X10_loopOf_r1 _ (List.mem_of_getElem? (i := 11) rfl)), List.forall_mem_cons.mpr ⟨(gcX10_loopOf__X10_loopOf_r1 _ (List.mem_of_getElem? (i := 12) rfl)), List.forall_mem_cons.mpr ⟨(gcX10_loopOf__X10_loopOf_r1 _ (List.mem_of_getElem? (i := 13) rfl)), List.forall_mem_cons.mpr ⟨(gcX10_loopOf__X10_loopOf_r1 _ (List.mem_of_getElem? (i := 14) rfl)), List.forall_mem_cons.mpr ⟨(gcX10_loopOf__X10_loopOf_r1 _ (List.mem_of_getElem? (i := 15) rfl)), List.forall_mem_cons.mpr ⟨(gcX10_loopOf__X10_loopOf_r1 _ (List.mem_of_getElem? (i := 16) rfl)), List.forall_mem_cons.mpr ⟨(gcX10_loopOf__X10_loopOf_r1 _ (List.mem_of_getElem? (i := 17) rfl)), List.forall_mem_cons.mpr ⟨(gcX10_loopOf__X10_loopOf_r1 _ (List.mem_of_getElem? (i := 18) rfl)), List.forall_mem_cons.mpr ⟨(gcX10_loopOf__X10_loopOf_r1 _ (List.mem_of_getElem? (i := 19) rfl)), List.forall_mem_cons.mpr ⟨(gcX10_loopOf__X10_loopOf_r1 _ (List.mem_of_getElem? (i := 20) rfl)), List.forall_mem_cons.mpr ⟨(gcX10_loopOf__X10_loopOf_r1 _ (List.mem_of_getElem? (i := 21) rfl)), List.forall_mem_cons.mpr ⟨(gcX10_loopOf__X10_loopOf_r1 _ (List.mem_of_getElem? (i := 22) rfl)), List.forall_mem_cons.mpr ⟨(gcX10_loopOf__X10_loopOf_r1 _ (List.mem_of_getElem? (i := 23) rfl)), List.forall_mem_cons.mpr ⟨(gcX10_loopOf__X10_loopOf_r2 _ (List.mem_of_getElem? (i := 0) rfl)), List.forall_mem_cons.mpr ⟨(gcX10_loopOf__X10_loopOf_r2 _ (List.mem_of_getElem? (i := 1) rfl)), List.forall_mem_cons.mpr ⟨(gcX10_loopOf__X10_loopOf_r2 _ (List.mem_of_getElem? (i := 2) rfl)), List.forall_mem_cons.mpr ⟨(gcX10_loopOf__X10_loopOf_r2 _ (List.mem_of_getElem? (i := 3) rfl)), fun _ h => (List.not_mem_nil h).elim⟩⟩⟩⟩⟩⟩⟩⟩⟩⟩⟩⟩⟩⟩⟩⟩⟩⟩⟩⟩⟩⟩⟩⟩
set_option maxRecDepth 20000 in
theorem gmX10_loopOf__X10_step_r2 : ∀ w ∈ wsX10_step_r2, w ∈ wsX10_loopOf := List.forall_mem_cons.mpr ⟨(gcX10_loopOf__X10_loopOf_r2 _ (List.mem_of_getElem? (i := 4) rfl)), List.forall_mem_cons.mpr ⟨(gcX10_loopOf__X10_loopOf_r2 _ (List.mem_of_getElem? (i := 5) rfl)), List.forall_mem_cons.mpr ⟨(gcX10_loopOf__X10_loopOf_r2 _ (List.mem_of_getElem? (i := 6) rfl)), List.forall_mem_cons.mpr ⟨(gcX10_loopOf__X10_loopOf_r2 _ (List.mem_of_getElem? (i := 7) rfl)), List.forall_mem_cons.mpr ⟨(gcX10_loopOf__X10_loopOf_r2 _ (List.mem_of_getElem? (i := 8) rfl)), List.forall_mem_cons.mpr ⟨(gcX10_loopOf__X10_loopOf_r2 _ (List.mem_of_getElem? (i := 9) rfl)), List.forall_mem_cons.mpr ⟨(gcX10_loopOf__X10_loopOf_r2 _ (List.mem_of_getElem? (i := 10) rfl)), List.forall_mem_cons.mpr ⟨(gcX10_loopOf__X10_loopOf_r2 _ (List.mem_of_getElem? (i := 11) rfl)), List.forall_mem_cons.mpr ⟨(gcX10_loopOf__X10_loopOf_r2 _ (List.mem_of_getElem? (i := 12) rfl)), List.forall_mem_cons.mpr ⟨(gcX10_loopOf__X10_loopOf_r2 _ (List.mem_of_getElem? (i := 13) rfl)), List.forall_mem_cons.mpr ⟨(gcX10_loopOf__X10_loopOf_r2 _ (List.mem_of_getElem? (i := 14) rfl)), fun _ h => (List.not_mem_nil h).elim⟩⟩⟩⟩⟩⟩⟩⟩⟩⟩⟩
theorem gcX10_loopOf__X100 : ∀ w ∈ wsX100, w ∈ wsX10_loopOf := fun w h => List.mem_cons_of_mem _ (List.mem_append_right _ (h))
set_option maxRecDepth 20000 in
theorem ggX10_loopOf_X10_step : GoodIn wsX10_loopOf wsX10_step := goodIn_sub (List.forall_mem_cons.mpr ⟨(gcX10_loopOf__X10_loopOf_r1 _ (List.mem_of_getElem? (i := 4) rfl)), List.forall_mem_append.mpr ⟨List.forall_mem_append.mpr ⟨gmX10_loopOf__X10_step_r1, gmX10_loopOf__X10_step_r2⟩, gcX10_loopOf__X100⟩⟩) gwX10_step
set_option maxRecDepth 20000 in
theorem gX10_loopOf_X10_step : GoodIn wsX10_loopOf (wsV RX10 457 RX10 yX10_step wsX10_step) := goodIn_app (goodIn_sub (List.forall_mem_cons.mpr ⟨(gcX10_loopOf__X10_loopOf_r1 _ (List.mem_of_getElem? (i := 0) rfl)), List.forall_mem_cons.mpr ⟨(gcX10_loopOf__X10_loopOf_r1 _ (List.mem_of_getElem? (i := 1) rfl)), List.forall_mem_cons.mpr ⟨(gcX10_loopOf__X10_loopOf_r1 _ (List.mem_of_getElem? (i := 2) rfl)), List.forall_mem_cons.mpr ⟨(gcX10_loopOf__X10_loopOf_r1 _ (List.mem_of_getElem? (i := 3) rfl)), fun _ h => (List.not_mem_nil h).elim⟩⟩⟩⟩) (by decide +kernel)) ggX10_loopOf_X10_step
theorem dX10_loopOf_0 : decode cX10_loopOf 0 = .ok (.aload_n 0, 1) := by decide +kernel
theorem dX10_loopOf_1 : decode cX10_loopOf 1 = .ok (.iload_n 1, 1) := by decide +kernel
theorem dX10_loopOf_2 : decode cX10_loopOf 2 = .ok (.iload_n 2, 1) := by decide +kernel
theorem dX10_loopOf_3 : decode cX10_loopOf 3 = .ok (.iload 4, 2) := by decide +kernel
theorem dX10_loopOf_5 : decode cX10_loopOf 5 = .ok (.invokevirtual 457, 3) := by decide +kernel
theorem dX10_loopOf_8 : decode cX10_loopOf 8 = .ok (.aload_n 0, 1) := by decide +kernel
theorem dX10_loopOf_9 : decode cX10_loopOf 9 = .ok (.iload_n 2, 1) := by decide +kernel
theorem dX10_loopOf_10 : decode cX10_loopOf 10 = .ok (.iload_n 3, 1) := by decide +kernel
theorem dX10_loopOf_11 : decode cX10_loopOf 11 = .ok (.iload 4, 2) := by decide +kernel
theorem dX10_loopOf_13 : decode cX10_loopOf 13 = .ok (.invokevirtual 457, 3) := by decide +kernel
theorem dX10_loopOf_16 : decode cX10_loopOf 16 = .ok (.iadd, 1) := by decide +kernel
theorem dX10_loopOf_17 : decode cX10_loopOf 17 = .ok (.aload_n 0, 1) := by decide +kernel
theorem dX10_loopOf_18 : decode cX10_loopOf 18 = .ok (.iload_n 3, 1) := by decide +kernel
theorem dX10_loopOf_19 : decode cX10_loopOf 19 = .ok (.iload_n 1, 1) := by decide +kernel
theorem dX10_loopOf_20 : decode cX10_loopOf 20 = .ok (.iload 4, 2) := by decide +kernel
theorem dX10_loopOf_22 : decode cX10_loopOf 22 = .ok (.invokevirtual 457, 3) := by decide +kernel
theorem dX10_loopOf_25 : decode cX10_loopOf 25 = .ok (.iadd, 1) := by decide +kernel
theorem dX10_loopOf_26 : decode cX10_loopOf 26 = .ok (.ireturn, 1) := by decide +kernel
theorem gcX10_loop__X10_loop_r1 : ∀ w ∈ wsX10_loop_r1, w ∈ wsX10_loop := fun w h => List.mem_cons_of_mem _ (List.mem_append_left _ (List.mem_append_left _ (h)))
set_option maxRecDepth 20000 in
theorem ggX10_loop_X10_isIn : GoodIn wsX10_loop wsX10_isIn := goodIn_sub (List.forall_mem_cons.mpr ⟨(gcX10_loop__X10_loop_r1 _ (List.mem_of_getElem? (i := 4) rfl)), fun _ h => (List.not_mem_nil h).elim⟩) gwX10_isIn
set_option maxRecDepth 20000 in
theorem gX10_loop_X10_isIn : GoodIn wsX10_loop (va_wsS RX10 183 yX10_isIn wsX10_isIn) := goodIn_app (goodIn_sub (List.forall_mem_cons.mpr ⟨(gcX10_loop__X10_loop_r1 _ (List.mem_of_getElem? (i := 1) rfl)), List.forall_mem_cons.mpr ⟨(gcX10_loop__X10_loop_r1 _ (List.mem_of_getElem? (i := 2) rfl)), List.forall_mem_cons.mpr ⟨(gcX10_loop__X10_loop_r1 _ (List.mem_of_getElem? (i := 3) rfl)), fun _ h => (List.not_mem_nil h).elim⟩⟩⟩) (by decide +kernel)) ggX10_loop_X10_isIn
theorem gcX10_loop__X10_loop_r2 : ∀ w ∈ wsX10_loop_r2, w ∈ wsX10_loop := fun w h => List.mem_cons_of_mem _ (List.mem_append_left _ (List.mem_append_right _ (List.mem_append_left _ (h))))
set_option maxRecDepth 20000 in
theorem gmX10_loop__X10_isLoop_r1 : ∀ w ∈ wsX10_isLoop_r1, w ∈ wsX10_loop := List.forall_mem_cons.mpr ⟨(gcX10_loop__X10_loop_r1 _ (List.mem_of_getElem? (i := 9) rfl)), List.forall_mem_cons.mpr ⟨(gcX10_loop__X10_loop_r1 _ (List.mem_of_getElem? (i := 10) rfl)), List.forall_mem_cons.mpr ⟨(gcX10_loop__X10_loop_r1 _ (List.mem_of_getElem? (i := 11) rfl)), List.forall_mem_cons.mpr ⟨(gcX10_loop__X10_loop_r1 _ (List.mem_of_getElem? (i := 3) rfl)), List.forall_mem_cons.mpr ⟨(gcX10_loop__X10_loop_r1 _ (List.mem_of_getElem? (i := 12) rfl)), List.forall_mem_cons.mpr ⟨(gcX10_loop__X10_loop_r1 _ (List.mem_of_getElem? (i := 13) rfl)), List.forall_mem_cons.mpr ⟨(gcX10_loop__X10_loop_r1 _ (List.mem_of_getElem? (i := 14) rfl)), List.forall_mem_cons.mpr ⟨(gcX10_loop__X10_loop_r1 _ (List.mem_of_getElem? (i := 15) rfl)), List.forall_mem_cons.mpr ⟨(gcX10_loop__X10_loop_r1 _ (List.mem_of_getElem? (i := 16) rfl)), List.forall_mem_cons.mpr ⟨(gcX10_loop__X10_loop_r1 _ (List.mem_of_getElem? (i := 17) rfl)), List.forall_mem_cons.mpr ⟨(gcX10_loop__X10_loop_r1 _ (List.mem_of_getElem? (i := 18) rfl)), List.forall_mem_cons.mpr ⟨(gcX10_loop__X10_loop_r1 _ (List.mem_of_getElem? (i := 19) rfl)), List.forall_mem_cons.mpr ⟨(gcX10_loop__X10_loop_r1 _ (List.mem_of_getElem? (i := 20) rfl)), List.forall_mem_cons.mpr ⟨(gcX10_loop__X10_loop_r1 _ (List.mem_of_getElem? (i := 21) rfl)), List.forall_mem_cons.mpr ⟨(gcX10_loop__X10_loop_r1 _ (List.mem_of_getElem? (i := 1) rfl)), List.forall_mem_cons.mpr ⟨(gcX10_loop__X10_loop_r1 _ (List.mem_of_getElem? (i := 2) rfl)), List.forall_mem_cons.mpr ⟨(gcX10_loop__X10_loop_r1 _ (List.mem_of_getElem? (i := 4) rfl)), List.forall_mem_cons.mpr ⟨(gcX10_loop__X10_loop_r1 _ (List.mem_of_getElem? (i := 22) rfl)), List.forall_mem_cons.mpr ⟨(gcX10_loop__X10_loop_r1 _ (List.mem_of_getElem? (i := 23) rfl)), List.forall_mem_cons.mpr ⟨(gcX10_loop__X10_loop_r2 _ (List.mem_of_getElem? (i := 0) rfl)), List.forall_mem_cons.mpr ⟨(gcX10_loop__X10_loop_r2 _ (List.mem_of_getElem? (i := 1) rfl)), List.forall_mem_cons.mpr ⟨(gcX10_loop__X10_loop_r2 _ (List.mem_of_getElem? (i := 2) rfl)), List.forall_mem_cons.mpr ⟨(gcX10_loop__X10_loop_r2 _ (List.mem_of_getElem? (i := 3) rfl)), List.forall_mem_cons.mpr ⟨(gcX10_loop__X10_loop_r2 _ (List.mem_of_getElem? (i := 4) rfl)), fun _ h => (List.not_mem_nil h).elim⟩⟩⟩⟩⟩⟩⟩⟩⟩⟩⟩⟩⟩⟩⟩⟩⟩⟩⟩⟩⟩⟩⟩⟩
theorem gcX10_loop__X10_loop_r3 : ∀ w ∈ wsX10_loop_r3, w ∈ wsX10_loop := fun w h => List.mem_cons_of_mem _ (List.mem_append_left _ (List.mem_append_right _ (List.mem_append_right _ (h))))
set_option maxRecDepth 20000 in
theorem gmX10_loop__X10_isLoop_r2 : ∀ w ∈ wsX10_isLoop_r2, w ∈ wsX10_loop := List.forall_mem_cons.mpr ⟨(gcX10_loop__X10_loop_r2 _ (List.mem_of_getElem? (i := 5) rfl)), List.forall_mem_cons.mpr ⟨(gcX10_loop__X10_loop_r2 _ (List.mem_of_getElem? (i := 6) rfl)), List.forall_mem_cons.mpr ⟨(gcX10_loop__X10_loop_r2 _ (List.mem_of_getElem? (i := 7) rfl)), List.forall_mem_cons.mpr ⟨(gcX10_loop__X10_loop_r2 _ (List.mem_of_getElem? (i := 8) rfl)), List.forall_mem_cons.mpr ⟨(gcX10_loop__X10_loop_r2 _ (List.mem_of_getElem? (i := 9) rfl)), List.forall_mem_cons.mpr ⟨(gcX10_loop__X10_loop_r2 _ (List.mem_of_getElem? (i := 10) rfl)), List.forall_mem_cons.mpr ⟨(gcX10_loop__X10_loop_r2 _ (List.mem_of_getElem? (i := 11) rfl)), List.forall_mem_cons.mpr ⟨(gcX10_loop__X10_loop_r2 _ (List.mem_of_getElem? (i := 12) rfl)), List.forall_mem_cons.mpr ⟨(gcX10_loop__X10_loop_r2 _ (List.mem_of_getElem? (i := 13) rfl)), List.forall_mem_cons.mpr ⟨(gcX10_loop__X10_loop_r2 _ (List.mem_of_getElem? (i := 14) rfl)), List.forall_mem_cons.mpr ⟨(gcX10_loop__X10_loop_r2 _ (List.mem_of_getElem? (i := 15) rfl)), List.forall_mem_cons.mpr ⟨(gcX10_loop__X10_loop_r2 _ (List.mem_of_getElem? (i := 16) rfl)), List.forall_mem_cons.mpr ⟨(gcX10_loop__X10_loop_r2 _ (List.mem_of_getElem? (i := 17) rfl)), List.forall_mem_cons.mpr ⟨(gcX10_loop__X10_loop_r2 _ (List.mem_of_getElem? (i := 18) rfl)), List.forall_mem_cons.mpr ⟨(gcX10_loop__X10_loop_r2 _ (List.mem_of_getElem? (i := 19) rfl)), List.forall_mem_cons.mpr ⟨(gcX10_loop__X10_loop_r2 _ (List.mem_of_getElem? (i := 20) rfl)), List.forall_mem_cons.mpr ⟨(gcX10_loop__X10_loop_r2 _ (List.mem_of_getElem? (i := 21) rfl)), List.forall_mem_cons.mpr ⟨(gcX10_loop__X10_loop_r2 _ (List.mem_of_getElem? (i := 22) rfl)), List.forall_mem_cons.mpr ⟨(gcX10_loop__X10_loop_r2 _ (List.mem_of_getElem? (i := 23) rfl)), List.forall_mem_cons.mpr ⟨(gcX10_loop__X10_loop_r3 _ (List.mem_of_getElem? (i := 0) rfl)), fun _ h => (List.not_mem_nil h).elim⟩⟩⟩⟩⟩⟩⟩⟩⟩⟩⟩⟩⟩⟩⟩⟩⟩⟩⟩⟩
theorem gcX10_loop__X100 : ∀ w ∈ wsX100, w ∈ wsX10_loop := fun w h => List.mem_cons_of_mem _ (List.mem_append_right _ (h))
set_option maxRecDepth 20000 in
theorem gwX10_isLoop : wsX10_isLoop.all goodWord = true := by decide +kernel
set_option maxRecDepth 20000 in
theorem ggX10_loop_X10_isLoop : GoodIn wsX10_loop wsX10_isLoop := goodIn_sub (List.forall_mem_cons.mpr ⟨(gcX10_loop__X10_loop_r1 _ (List.mem_of_getElem? (i := 8) rfl)), List.forall_mem_append.mpr ⟨List.forall_mem_append.mpr ⟨gmX10_loop__X10_isLoop_r1, gmX10_loop__X10_isLoop_r2⟩, gcX10_loop__X100⟩⟩) gwX10_isLoop
set_option maxRecDepth 20000 in
theorem gX10_loop_X10_isLoop : GoodIn wsX10_loop (wsV RX10 460 RX10 yX10_isLoop wsX10_isLoop) := goodIn_app (goodIn_sub (List.forall_mem_cons.mpr ⟨(gcX10_loop__X10_loop_r1 _ (List.mem_of_getElem? (i := 5) rfl)), List.forall_mem_cons.mpr ⟨(gcX10_loop__X10_loop_r1 _ (List.mem_of_getElem? (i := 6) rfl)), List.forall_mem_cons.mpr ⟨(gcX10_loop__X10_loop_r1 _ (List.mem_of_getElem? (i := 7) rfl)), List.forall_mem_cons.mpr ⟨(gcX10_loop__X10_loop_r1 _ (List.mem_of_getElem? (i := 3) rfl)), fun _ h => (List.not_mem_nil h).elim⟩⟩⟩⟩) (by decide +kernel)) ggX10_loop_X10_isLoop
set_option maxRecDepth 20000 in
theorem gmX10_loop__X10_loopOf_r1 : ∀ w ∈ wsX10_loopOf_r1, w ∈ wsX10_loop := List.forall_mem_cons.mpr ⟨(gcX10_loop__X10_loop_r3 _ (List.mem_of_getElem? (i := 5) rfl)), List.forall_mem_cons.mpr ⟨(gcX10_loop__X10_loop_r3 _ (List.mem_of_getElem? (i := 6) rfl)), List.forall_mem_cons.mpr ⟨(gcX10_loop__X10_loop_r3 _ (List.mem_of_getElem? (i := 7) rfl)), List.forall_mem_cons.mpr ⟨(gcX10_loop__X10_loop_r1 _ (List.mem_of_getElem? (i := 3) rfl)), List.forall_mem_cons.mpr ⟨(gcX10_loop__X10_loop_r3 _ (List.mem_of_getElem? (i := 8) rfl)), List.forall_mem_cons.mpr ⟨(gcX10_loop__X10_loop_r2 _ (List.mem_of_getElem? (i := 2) rfl)), List.forall_mem_cons.mpr ⟨(gcX10_loop__X10_loop_r2 _ (List.mem_of_getElem? (i := 3) rfl)), List.forall_mem_cons.mpr ⟨(gcX10_loop__X10_loop_r2 _ (List.mem_of_getElem? (i := 4) rfl)), List.forall_mem_cons.mpr ⟨(gcX10_loop__X10_loop_r2 _ (List.mem_of_getElem? (i := 5) rfl)), List.forall_mem_cons.mpr ⟨(gcX10_loop__X10_loop_r1 _ (List.mem_of_getElem? (i := 21) rfl)), List.forall_mem_cons.mpr ⟨(gcX10_loop__X10_loop_r2 _ (List.mem_of_getElem? (i := 6) rfl)), List.forall_mem_cons.mpr ⟨(gcX10_loop__X10_loop_r2 _ (List.mem_of_getElem? (i := 7) rfl)), List.forall_mem_cons.mpr ⟨(gcX10_loop__X10_loop_r2 _ (List.mem_of_getElem? (i := 8) rfl)), List.forall_mem_cons.mpr ⟨(gcX10_loop__X10_loop_r2 _ (List.mem_of_getElem? (i := 9) rfl)), List.forall_mem_cons.mpr ⟨(gcX10_loop__X10_loop_r2 _ (List.mem_of_getElem? (i := 10) rfl)), List.forall_mem_cons.mpr ⟨(gcX10_loop__X10_loop_r2 _ (List.mem_of_getElem? (i := 11) rfl)), List.forall_mem_cons.mpr ⟨(gcX10_loop__X10_loop_r2 _ (List.mem_of_getElem? (i := 12) rfl)), List.forall_mem_cons.mpr ⟨(gcX10_loop__X10_loop_r2 _ (List.mem_of_getElem? (i := 13) rfl)), List.forall_mem_cons.mpr ⟨(gcX10_loop__X10_loop_r2 _ (List.mem_of_getElem? (i := 14) rfl)), List.forall_mem_cons.mpr ⟨(gcX10_loop__X10_loop_r2 _ (List.mem_of_getElem? (i := 15) rfl)), List.forall_mem_cons.mpr ⟨(gcX10_loop__X10_loop_r2 _ (List.mem_of_getElem? (i := 16) rfl)), List.forall_mem_cons.mpr ⟨(gcX10_loop__X10_loop_r2 _ (List.mem_of_getElem? (i := 17) rfl)), List.forall_mem_cons.mpr ⟨(gcX10_loop__X10_loop_r2 _ (List.mem_of_getElem? (i := 18) rfl)), List.forall_mem_cons.mpr ⟨(gcX10_loop__X10_loop_r2 _ (List.mem_of_getElem? (i := 19) rfl)), fun _ h => (List.not_mem_nil h).elim⟩⟩⟩⟩⟩⟩⟩⟩⟩⟩⟩⟩⟩⟩⟩⟩⟩⟩⟩⟩⟩⟩⟩⟩
set_option maxRecDepth 20000 in
theorem gmX10_loop__X10_loopOf_r2 : ∀ w ∈ wsX10_loopOf_r2, w ∈ wsX10_loop := List.forall_mem_cons.mpr ⟨(gcX10_loop__X10_loop_r2 _ (List.mem_of_getElem? (i := 20) rfl)), List.forall_mem_cons.mpr ⟨(gcX10_loop__X10_loop_r2 _ (List.mem_of_getElem? (i := 21) rfl)), List.forall_mem_cons.mpr ⟨(gcX10_loop__X10_loop_r2 _ (List.mem_of_getElem? (i := 22) rfl)), List.forall_mem_cons.mpr ⟨(gcX10_loop__X10_loop_r2 _ (List.mem_of_getElem? (i := 23) rfl)), List.forall_mem_cons.mpr ⟨(gcX10_loop__X10_loop_r3 _ (List.mem_of_getElem? (i := 0) rfl)), List.forall_mem_cons.mpr ⟨(gcX10_loop__X10_loop_r3 _ (List.mem_of_getElem? (i := 9) rfl)), List.forall_mem_cons.mpr ⟨(gcX10_loop__X10_loop_r3 _ (List.mem_of_getElem? (i := 10) rfl)), List.forall_mem_cons.mpr ⟨(gcX10_loop__X10_loop_r3 _ (List.mem_of_getElem? (i := 11) rfl)), List.forall_mem_cons.mpr ⟨(gcX10_loop__X10_loop_r3 _ (List.mem_of_getElem? (i := 12) rfl)), List.forall_mem_cons.mpr ⟨(gcX10_loop__X10_loop_r3 _ (List.mem_of_getElem? (i := 13) rfl)), List.forall_mem_cons.mpr ⟨(gcX10_loop__X10_loop_r3 _ (List.mem_of_getElem? (i := 14) rfl)), List.forall_mem_cons.mpr ⟨(gcX10_loop__X10_loop_r3 _ (List.mem_of_getElem? (i := 15) rfl)), List.forall_mem_cons.mpr ⟨(gcX10_loop__X10_loop_r3 _ (List.mem_of_getElem? (i := 16) rfl)), List.forall_mem_cons.mpr ⟨(gcX10_loop__X10_loop_r3 _ (List.mem_of_getElem? (i := 17) rfl)), List.forall_mem_cons.mpr ⟨(gcX10_loop__X10_loop_r3 _ (List.mem_of_getElem? (i := 18) rfl)), fun _ h => (List.not_mem_nil h).elim⟩⟩⟩⟩⟩⟩⟩⟩⟩⟩⟩⟩⟩⟩⟩
set_option maxRecDepth 20000 in
theorem gwX10_loopOf : wsX10_loopOf.all goodWord = true := by decide +kernel
set_option maxRecDepth 20000 in
theorem ggX10_loop_X10_loopOf : GoodIn wsX10_loop wsX10_loopOf := goodIn_sub (List.forall_mem_cons.mpr ⟨(gcX10_loop__X10_loop_r3 _ (List.mem_of_getElem? (i := 4) rfl)), List.forall_mem_append.mpr ⟨List.forall_mem_append.mpr ⟨gmX10_loop__X10_loopOf_r1, gmX10_loop__X10_loopOf_r2⟩, gcX10_loop__X100⟩⟩) gwX10_loopOf
set_option maxRecDepth 20000 in
theorem gX10_loop_X10_loopOf : GoodIn wsX10_loop (wsV RX10 463 RX10 yX10_loopOf wsX10_loopOf) := goodIn_app (goodIn_sub (List.forall_mem_cons.mpr ⟨(gcX10_loop__X10_loop_r3 _ (List.mem_of_getElem? (i := 1) rfl)), List.forall_mem_cons.mpr ⟨(gcX10_loop__X10_loop_r3 _ (List.mem_of_getElem? (i := 2) rfl)), List.forall_mem_cons.mpr ⟨(gcX10_loop__X10_loop_r3 _ (List.mem_of_getElem? (i := 3) rfl)), List.forall_mem_cons.mpr ⟨(gcX10_loop__X10_loop_r1 _ (List.mem_of_getElem? (i := 3) rfl)), fun _ h => (List.not_mem_nil h).elim⟩⟩⟩⟩) (by decide +kernel)) ggX10_loop_X10_loopOf
theorem dX10_loop_0 : decode cX10_loop 0 = .ok (.iload 4, 2) := by decide +kernel
theorem dX10_loop_2 : decode cX10_loop 2 = .ok (.i2l, 1) := by decide +kernel
theorem dX10_loop_3 : decode cX10_loop 3 = .ok (.lconst 0, 1) := by decide +kernel
theorem dX10_loop_4 : decode cX10_loop 4 = .ok (.lconst 1, 1) := by decide +kernel
theorem dX10_loop_5 : decode cX10_loop 5 = .ok (.invokestatic 183, 3) := by decide +kernel
theorem dX10_loop_8 : decode cX10_loop 8 = .ok (.ifCond .eq 25, 3) := by decide +kernel
theorem dX10_loop_11 : decode cX10_loop 11 = .ok (.aload_n 0, 1) := by decide +kernel
theorem dX10_loop_12 : decode cX10_loop 12 = .ok (.iload_n 1, 1) := by decide +kernel
theorem dX10_loop_13 : decode cX10_loop 13 = .ok (.iload_n 2, 1) := by decide +kernel
theorem dX10_loop_14 : decode cX10_loop 14 = .ok (.iload_n 3, 1) := by decide +kernel
theorem dX10_loop_15 : decode cX10_loop 15 = .ok (.invokevirtual 460, 3) := by decide +kernel
theorem dX10_loop_18 : decode cX10_loop 18 = .ok (.ifCond .eq 15, 3) := by decide +kernel
theorem dX10_loop_21 : decode cX10_loop 21 = .ok (.aload_n 0, 1) := by decide +kernel
theorem dX10_loop_22 : decode cX10_loop 22 = .ok (.iload_n 1, 1) := by decide +kernel
theorem dX10_loop_23 : decode cX10_loop 23 = .ok (.iload_n 2, 1) := by decide +kernel
theorem dX10_loop_24 : decode cX10_loop 24 = .ok (.iload_n 3, 1) := by decide +kernel
theorem dX10_loop_25 : decode cX10_loop 25 = .ok (.iload 4, 2) := by decide +kernel
theorem dX10_loop_27 : decode cX10_loop 27 = .ok (.invokevirtual 463, 3) := by decide +kernel
theorem dX10_loop_30 : decode cX10_loop 30 = .ok (.goto 6, 3) := by decide +kernel
theorem dX10_loop_33 : decode cX10_loop 33 = .ok (.ldc_w 439, 3) := by decide +kernel
theorem dX10_loop_36 : decode cX10_loop 36 = .ok (.ireturn, 1) := by decide +kernel
theorem gcX10_gap__X10_gap_r1 : ∀ w ∈ wsX10_gap_r1, w ∈ wsX10_gap := fun w h => List.mem_cons_of_mem _ (List.mem_append_left _ (List.mem_append_left _ (h)))
set_option maxRecDepth 20000 in
theorem ggX10_gap_X10_isIn : GoodIn wsX10_gap wsX10_isIn := goodIn_sub (List.forall_mem_cons.mpr ⟨(gcX10_gap__X10_gap_r1 _ (List.mem_of_getElem? (i := 4) rfl)), fun _ h => (List.not_mem_nil h).elim⟩) gwX10_isIn
set_option maxRecDepth 20000 in
theorem gX10_gap_X10_isIn : GoodIn wsX10_gap (va_wsS RX10 183 yX10_isIn wsX10_isIn) := goodIn_app (goodIn_sub (List.forall_mem_cons.mpr ⟨(gcX10_gap__X10_gap_r1 _ (List.mem_of_getElem? (i := 1) rfl)), List.forall_mem_cons.mpr ⟨(gcX10_gap__X10_gap_r1 _ (List.mem_of_getElem? (i := 2) rfl)), List.forall_mem_cons.mpr ⟨(gcX10_gap__X10_gap_r1 _ (List.mem_of_getElem? (i := 3) rfl)), fun _ h => (List.not_mem_nil h).elim⟩⟩⟩) (by decide +kernel)) ggX10_gap_X10_isIn
theorem gcX10_gap__X100 : ∀ w ∈ wsX100, w ∈ wsX10_gap := fun w h => List.mem_cons_of_mem _ (List.mem_append_right _ (h))
set_option maxRecDepth 20000 in
theorem ggX10_gap_X10_pictures : GoodIn wsX10_gap wsX10_pictures := goodIn_sub (List.forall_mem_cons.mpr ⟨(gcX10_gap__X10_gap_r1 _ (List.mem_of_getElem? (i := 8) rfl)), List.forall_mem_append.mpr ⟨List.forall_mem_cons.mpr ⟨(gcX10_gap__X10_gap_r1 _ (List.mem_of_getElem? (i := 9) rfl)), fun _ h => (List.not_mem_nil h).elim⟩, gcX10_gap__X100⟩⟩) gwX10_pictures
set_option maxRecDepth 20000 in
theorem gX10_gap_X10_pictures : GoodIn wsX10_gap (wsV RX10 259 RX10 yX10_pictures wsX10_pictures) := goodIn_app (goodIn_sub (List.forall_mem_cons.mpr ⟨(gcX10_gap__X10_gap_r1 _ (List.mem_of_getElem? (i := 5) rfl)), List.forall_mem_cons.mpr ⟨(gcX10_gap__X10_gap_r1 _ (List.mem_of_getElem? (i := 6) rfl)), List.forall_mem_cons.mpr ⟨(gcX10_gap__X10_gap_r1 _ (List.mem_of_getElem? (i := 7) rfl)), List.forall_mem_cons.mpr ⟨(gcX10_gap__X10_gap_r1 _ (List.mem_of_getElem? (i := 3) rfl)), fun _ h => (List.not_mem_nil h).elim⟩⟩⟩⟩) (by decide +kernel)) ggX10_gap_X10_pictures
theorem gcX10_gap__X10_gap_r2 : ∀ w ∈ wsX10_gap_r2, w ∈ wsX10_gap := fun w h => List.mem_cons_of_mem _ (List.mem_append_left _ (List.mem_append_right _ (List.mem_append_left _ (h))))
set_option maxRecDepth 20000 in
theorem gmX10_gap__X10_isLoop_r1 : ∀ w ∈ wsX10_isLoop_r1, w ∈ wsX10_gap := List.forall_mem_cons.mpr ⟨(gcX10_gap__X10_gap_r1 _ (List.mem_of_getElem? (i := 14) rfl)), List.forall_mem_cons.mpr ⟨(gcX10_gap__X10_gap_r1 _ (List.mem_of_getElem? (i := 15) rfl)), List.forall_mem_cons.mpr ⟨(gcX10_gap__X10_gap_r1 _ (List.mem_of_getElem? (i := 16) rfl)), List.forall_mem_cons.mpr ⟨(gcX10_gap__X10_gap_r1 _ (List.mem_of_getElem? (i := 3) rfl)), List.forall_mem_cons.mpr ⟨(gcX10_gap__X10_gap_r1 _ (List.mem_of_getElem? (i := 17) rfl)), List.forall_mem_cons.mpr ⟨(gcX10_gap__X10_gap_r1 _ (List.mem_of_getElem? (i := 18) rfl)), List.forall_mem_cons.mpr ⟨(gcX10_gap__X10_gap_r1 _ (List.mem_of_getElem? (i := 19) rfl)), List.forall_mem_cons.mpr ⟨(gcX10_gap__X10_gap_r1 _ (List.mem_of_getElem? (i := 20) rfl)), List.forall_mem_cons.mpr ⟨(gcX10_gap__X10_gap_r1 _ (List.mem_of_getElem? (i := 21) rfl)), List.forall_mem_cons.mpr ⟨(gcX10_gap__X10_gap_r1 _ (List.mem_of_getElem? (i := 5) rfl)), List.forall_mem_cons.mpr ⟨(gcX10_gap__X10_gap_r1 _ (List.mem_of_getElem? (i := 6) rfl)), List.forall_mem_cons.mpr ⟨(gcX10_gap__X10_gap_r1 _ (List.mem_of_getElem? (i := 7) rfl)), List.forall_mem_cons.mpr ⟨(gcX10_gap__X10_gap_r1 _ (List.mem_of_getElem? (i := 8) rfl)), List.forall_mem_cons.mpr ⟨(gcX10_gap__X10_gap_r1 _ (List.mem_of_getElem? (i := 9) rfl)), List.forall_mem_cons.mpr ⟨(gcX10_gap__X10_gap_r1 _ (List.mem_of_getElem? (i := 1) rfl)), List.forall_mem_cons.mpr ⟨(gcX10_gap__X10_gap_r1 _ (List.mem_of_getElem? (i := 2) rfl)), List.forall_mem_cons.mpr ⟨(gcX10_gap__X10_gap_r1 _ (List.mem_of_getElem? (i := 4) rfl)), List.forall_mem_cons.mpr ⟨(gcX10_gap__X10_gap_r1 _ (List.mem_of_getElem? (i := 22) rfl)), List.forall_mem_cons.mpr ⟨(gcX10_gap__X10_gap_r1 _ (List.mem_of_getElem? (i := 23) rfl)), List.forall_mem_cons.mpr ⟨(gcX10_gap__X10_gap_r2 _ (List.mem_of_getElem? (i := 0) rfl)), List.forall_mem_cons.mpr ⟨(gcX10_gap__X10_gap_r2 _ (List.mem_of_getElem? (i := 1) rfl)), List.forall_mem_cons.mpr ⟨(gcX10_gap__X10_gap_r2 _ (List.mem_of_getElem? (i := 2) rfl)), List.forall_mem_cons.mpr ⟨(gcX10_gap__X10_gap_r2 _ (List.mem_of_getElem? (i := 3) rfl)), List.forall_mem_cons.mpr ⟨(gcX10_gap__X10_gap_r2 _ (List.mem_of_getElem? (i := 4) rfl)), fun _ h => (List.not_mem_nil h).elim⟩⟩⟩⟩⟩⟩⟩⟩⟩⟩⟩⟩⟩⟩⟩⟩⟩⟩⟩⟩⟩⟩⟩⟩
theorem gcX10_gap__X10_gap_r3 : ∀ w ∈ wsX10_gap_r3, w ∈ wsX10_gap := fun w h => List.mem_cons_of_mem _ (List.mem_append_left _ (List.mem_append_right _ (List.mem_append_right _ (h))))
set_option maxRecDepth 20000 in
theorem gmX10_gap__X10_isLoop_r2 : ∀ w ∈ wsX10_isLoop_r2, w ∈ wsX10_gap := List.forall_mem_cons.mpr ⟨(gcX10_gap__X10_gap_r2 _ (List.mem_of_getElem? (i := 5) rfl)), List.forall_mem_cons.mpr ⟨(gcX10_gap__X10_gap_r2 _ (List.mem_of_getElem? (i := 6) rfl)), List.forall_mem_cons.mpr ⟨(gcX10_gap__X10_gap_r2 _ (List.mem_of_getElem? (i := 7) rfl)), List.forall_mem_cons.mpr ⟨(gcX10_gap__X10_gap_r2 _ (List.mem_of_getElem? (i := 8) rfl)), List.forall_mem_cons.mpr ⟨(gcX10_gap__X10_gap_r2 _ (List.mem_of_getElem? (i := 9) rfl)), List.forall_mem_cons.mpr ⟨(gcX10_gap__X10_gap_r2 _ (List.mem_of_getElem? (i := 10) rfl)), List.forall_mem_cons.mpr ⟨(gcX10_gap__X10_gap_r2 _ (List.mem_of_getElem? (i := 11) rfl)), List.forall_mem_cons.mpr ⟨(gcX10_gap__X10_gap_r2 _ (List.mem_of_getElem? (i := 12) rfl)), List.forall_mem_cons.mpr ⟨(gcX10_gap__X10_gap_r2 _ (List.mem_of_getElem? (i := 13) rfl)), List.forall_mem_cons.mpr ⟨(gcX10_gap__X10_gap_r2 _ (List.mem_of_getElem? (i := 14) rfl)), List.forall_mem_cons.mpr ⟨(gcX10_gap__X10_gap_r2 _ (List.mem_of_getElem? (i := 15) rfl)), List.forall_mem_cons.mpr ⟨(gcX10_gap__X10_gap_r2 _ (List.mem_of_getElem? (i := 16) rfl)), List.forall_mem_cons.mpr ⟨(gcX10_gap__X10_gap_r2 _ (List.mem_of_getElem? (i := 17) rfl)), List.forall_mem_cons.mpr ⟨(gcX10_gap__X10_gap_r2 _ (List.mem_of_getElem? (i := 18) rfl)), List.forall_mem_cons.mpr ⟨(gcX10_gap__X10_gap_r2 _ (List.mem_of_getElem? (i := 19) rfl)), List.forall_mem_cons.mpr ⟨(gcX10_gap__X10_gap_r2 _ (List.mem_of_getElem? (i := 20) rfl)), List.forall_mem_cons.mpr ⟨(gcX10_gap__X10_gap_r2 _ (List.mem_of_getElem? (i := 21) rfl)), List.forall_mem_cons.mpr ⟨(gcX10_gap__X10_gap_r2 _ (List.mem_of_getElem? (i := 22) rfl)), List.forall_mem_cons.mpr ⟨(gcX10_gap__X10_gap_r2 _ (List.mem_of_getElem? (i := 23) rfl)), List.forall_mem_cons.mpr ⟨(gcX10_gap__X10_gap_r3 _ (List.mem_of_getElem? (i := 0) rfl)), fun _ h => (List.not_mem_nil h).elim⟩⟩⟩⟩⟩⟩⟩⟩⟩⟩⟩⟩⟩⟩⟩⟩⟩⟩⟩⟩
set_option maxRecDepth 20000 in
theorem ggX10_gap_X10_isLoop : GoodIn wsX10_gap wsX10_isLoop := goodIn_sub (List.forall_mem_cons.mpr ⟨(gcX10_gap__X10_gap_r1 _ (List.mem_of_getElem? (i := 13) rfl)), List.forall_mem_append.mpr ⟨List.forall_mem_append.mpr ⟨gmX10_gap__X10_isLoop_r1, gmX10_gap__X10_isLoop_r2⟩, gcX10_gap__X100⟩⟩) gwX10_isLoop
set_option maxRecDepth 20000 in
theorem gX10_gap_X10_isLoop : GoodIn wsX10_gap (wsV RX10 460 RX10 yX10_isLoop wsX10_isLoop) := goodIn_app (goodIn_sub (List.forall_mem_cons.mpr ⟨(gcX10_gap__X10_gap_r1 _ (List.mem_of_getElem? (i := 10) rfl)), List.forall_mem_cons.mpr ⟨(gcX10_gap__X10_gap_r1 _ (List.mem_of_getElem? (i := 11) rfl)), List.forall_mem_cons.mpr ⟨(gcX10_gap__X10_gap_r1 _ (List.mem_of_getElem? (i := 12) rfl)), List.forall_mem_cons.mpr ⟨(gcX10_gap__X10_gap_r1 _ (List.mem_of_getElem? (i := 3) rfl)), fun _ h => (List.not_mem_nil h).elim⟩⟩⟩⟩) (by decide +kernel)) ggX10_gap_X10_isLoop
set_option maxRecDepth 20000 in
theorem gmX10_gap__X10_loopOf_r1 : ∀ w ∈ wsX10_loopOf_r1, w ∈ wsX10_gap := List.forall_mem_cons.mpr ⟨(gcX10_gap__X10_gap_r3 _ (List.mem_of_getElem? (i := 5) rfl)), List.forall_mem_cons.mpr ⟨(gcX10_gap__X10_gap_r3 _ (List.mem_of_getElem? (i := 6) rfl)), List.forall_mem_cons.mpr ⟨(gcX10_gap__X10_gap_r3 _ (List.mem_of_getElem? (i := 7) rfl)), List.forall_mem_cons.mpr ⟨(gcX10_gap__X10_gap_r1 _ (List.mem_of_getElem? (i := 3) rfl)), List.forall_mem_cons.mpr ⟨(gcX10_gap__X10_gap_r3 _ (List.mem_of_getElem? (i := 8) rfl)), List.forall_mem_cons.mpr ⟨(gcX10_gap__X10_gap_r2 _ (List.mem_of_getElem? (i := 2) rfl)), List.forall_mem_cons.mpr ⟨(gcX10_gap__X10_gap_r2 _ (List.mem_of_getElem? (i := 3) rfl)), List.forall_mem_cons.mpr ⟨(gcX10_gap__X10_gap_r2 _ (List.mem_of_getElem? (i := 4) rfl)), List.forall_mem_cons.mpr ⟨(gcX10_gap__X10_gap_r2 _ (List.mem_of_getElem? (i := 5) rfl)), List.forall_mem_cons.mpr ⟨(gcX10_gap__X10_gap_r1 _ (List.mem_of_getElem? (i := 9) rfl)), List.forall_mem_cons.mpr ⟨(gcX10_gap__X10_gap_r2 _ (List.mem_of_getElem? (i := 6) rfl)), List.forall_mem_cons.mpr ⟨(gcX10_gap__X10_gap_r2 _ (List.mem_of_getElem? (i := 7) rfl)), List.forall_mem_cons.mpr ⟨(gcX10_gap__X10_gap_r2 _ (List.mem_of_getElem? (i := 8) rfl)), List.forall_mem_cons.mpr ⟨(gcX10_gap__X10_gap_r2 _ (List.mem_of_getElem? (i := 9) rfl)), List.forall_mem_cons.mpr ⟨(gcX10_gap__X10_gap_r2 _ (List.mem_of_getElem? (i := 10) rfl)), List.forall_mem_cons.mpr ⟨(gcX10_gap__X10_gap_r2 _ (List.mem_of_getElem? (i := 11) rfl)), List.forall_mem_cons.mpr ⟨(gcX10_gap__X10_gap_r2 _ (List.mem_of_getElem? (i := 12) rfl)), List.forall_mem_cons.mpr ⟨(gcX10_gap__X10_gap_r2 _ (List.mem_of_getElem? (i := 13) rfl)), List.forall_mem_cons.mpr ⟨(gcX10_gap__X10_gap_r2 _ (List.mem_of_getElem? (i := 14) rfl)), List.forall_mem_cons.mpr ⟨(gcX10_gap__X10_gap_r2 _ (List.mem_of_getElem? (i := 15) rfl)), List.forall_mem_cons.mpr ⟨(gcX10_gap__X10_gap_r2 _ (List.mem_of_getElem? (i := 16) rfl)), List.forall_mem_cons.mpr ⟨(gcX10_gap__X10_gap_r2 _ (List.mem_of_getElem? (i := 17) rfl)), List.forall_mem_cons.mpr ⟨(gcX10_gap__X10_gap_r2 _ (List.mem_of_getElem? (i := 18) rfl)), List.forall_mem_cons.mpr ⟨(gcX10_gap__X10_gap_r2 _ (List.mem_of_getElem? (i := 19) rfl)), fun _ h => (List.not_mem_nil h).elim⟩⟩⟩⟩⟩⟩⟩⟩⟩⟩⟩⟩⟩⟩⟩⟩⟩⟩⟩⟩⟩⟩⟩⟩
set_option maxRecDepth 20000 in
theorem gmX10_gap__X10_loopOf_r2 : ∀ w ∈ wsX10_loopOf_r2, w ∈ wsX10_gap := List.forall_mem_cons.mpr ⟨(gcX10_gap__X10_gap_r2 _ (List.mem_of_getElem? (i := 20) rfl)), List.forall_mem_cons.mpr ⟨(gcX10_gap__X10_gap_r2 _ (List.mem_of_getElem? (i := 21) rfl)), List.forall_mem_cons.mpr ⟨(gcX10_gap__X10_gap_r2 _ (List.mem_of_getElem? (i := 22) rfl)), List.forall_mem_cons.mpr ⟨(gcX10_gap__X10_gap_r2 _ (List.mem_of_getElem? (i := 23) rfl)), List.forall_mem_cons.mpr ⟨(gcX10_gap__X10_gap_r3 _ (List.mem_of_getElem? (i := 0) rfl)), List.forall_mem_cons.mpr ⟨(gcX10_gap__X10_gap_r3 _ (List.mem_of_getElem? (i := 9) rfl)), List.forall_mem_cons.mpr ⟨(gcX10_gap__X10_gap_r3 _ (List.mem_of_getElem? (i := 10) rfl)), List.forall_mem_cons.mpr ⟨(gcX10_gap__X10_gap_r3 _ (List.mem_of_getElem? (i := 11) rfl)), List.forall_mem_cons.mpr ⟨(gcX10_gap__X10_gap_r3 _ (List.mem_of_getElem? (i := 12) rfl)), List.forall_mem_cons.mpr ⟨(gcX10_gap__X10_gap_r3 _ (List.mem_of_getElem? (i := 13) rfl)), List.forall_mem_cons.mpr ⟨(gcX10_gap__X10_gap_r3 _ (List.mem_of_getElem? (i := 14) rfl)), List.forall_mem_cons.mpr ⟨(gcX10_gap__X10_gap_r3 _ (List.mem_of_getElem? (i := 15) rfl)), List.forall_mem_cons.mpr ⟨(gcX10_gap__X10_gap_r3 _ (List.mem_of_getElem? (i := 16) rfl)), List.forall_mem_cons.mpr ⟨(gcX10_gap__X10_gap_r3 _ (List.mem_of_getElem? (i := 17) rfl)), List.forall_mem_cons.mpr ⟨(gcX10_gap__X10_gap_r3 _ (List.mem_of_getElem? (i := 18) rfl)), fun _ h => (List.not_mem_nil h).elim⟩⟩⟩⟩⟩⟩⟩⟩⟩⟩⟩⟩⟩⟩⟩
set_option maxRecDepth 20000 in
theorem ggX10_gap_X10_loopOf : GoodIn wsX10_gap wsX10_loopOf := goodIn_sub (List.forall_mem_cons.mpr ⟨(gcX10_gap__X10_gap_r3 _ (List.mem_of_getElem? (i := 4) rfl)), List.forall_mem_append.mpr ⟨List.forall_mem_append.mpr ⟨gmX10_gap__X10_loopOf_r1, gmX10_gap__X10_loopOf_r2⟩, gcX10_gap__X100⟩⟩) gwX10_loopOf
set_option maxRecDepth 20000 in
theorem gX10_gap_X10_loopOf : GoodIn wsX10_gap (wsV RX10 463 RX10 yX10_loopOf wsX10_loopOf) := goodIn_app (goodIn_sub (List.forall_mem_cons.mpr ⟨(gcX10_gap__X10_gap_r3 _ (List.mem_of_getElem? (i := 1) rfl)), List.forall_mem_cons.mpr ⟨(gcX10_gap__X10_gap_r3 _ (List.mem_of_getElem? (i := 2) rfl)), List.forall_mem_cons.mpr ⟨(gcX10_gap__X10_gap_r3 _ (List.mem_of_getElem? (i := 3) rfl)), List.forall_mem_cons.mpr ⟨(gcX10_gap__X10_gap_r1 _ (List.mem_of_getElem? (i := 3) rfl)), fun _ h => (List.not_mem_nil h).elim⟩⟩⟩⟩) (by decide +kernel)) ggX10_gap_X10_loopOf
set_option maxRecDepth 20000 in
theorem ggX10_gap_X10_apart : GoodIn wsX10_gap wsX10_apart := goodIn_sub (List.forall_mem_cons.mpr ⟨(gcX10_gap__X10_gap_r3 _ (List.mem_of_getElem? (i := 21) rfl)), fun _ h => (List.not_mem_nil h).elim⟩) gwX10_apart
set_option maxRecDepth 20000 in
theorem gX10_gap_X10_apart : GoodIn wsX10_gap (va_wsS RX10 299 yX10_apart wsX10_apart) := goodIn_app (goodIn_sub (List.forall_mem_cons.mpr ⟨(gcX10_gap__X10_gap_r3 _ (List.mem_of_getElem? (i := 19) rfl)), List.forall_mem_cons.mpr ⟨(gcX10_gap__X10_gap_r3 _ (List.mem_of_getElem? (i := 20) rfl)), List.forall_mem_cons.mpr ⟨(gcX10_gap__X10_gap_r1 _ (List.mem_of_getElem? (i := 3) rfl)), fun _ h => (List.not_mem_nil h).elim⟩⟩⟩) (by decide +kernel)) ggX10_gap_X10_apart
theorem dX10_gap_0 : decode cX10_gap 0 = .ok (.iload_n 1, 1) := by decide +kernel
theorem dX10_gap_1 : decode cX10_gap 1 = .ok (.i2l, 1) := by decide +kernel
theorem dX10_gap_2 : decode cX10_gap 2 = .ok (.lconst 0, 1) := by decide +kernel
theorem dX10_gap_3 : decode cX10_gap 3 = .ok (.lconst 1, 1) := by decide +kernel
theorem dX10_gap_4 : decode cX10_gap 4 = .ok (.invokestatic 183, 3) := by decide +kernel
theorem dX10_gap_7 : decode cX10_gap 7 = .ok (.ifCond .ne 5, 3) := by decide +kernel
theorem dX10_gap_10 : decode cX10_gap 10 = .ok (.iconst (-1), 1) := by decide +kernel
theorem dX10_gap_11 : decode cX10_gap 11 = .ok (.ireturn, 1) := by decide +kernel
theorem dX10_gap_12 : decode cX10_gap 12 = .ok (.iconst (-1), 1) := by decide +kernel
theorem dX10_gap_13 : decode cX10_gap 13 = .ok (.istore_n 2, 1) := by decide +kernel
theorem dX10_gap_14 : decode cX10_gap 14 = .ok (.ldc2_w 446, 3) := by decide +kernel
theorem dX10_gap_17 : decode cX10_gap 17 = .ok (.lstore_n 3, 1) := by decide +kernel
theorem dX10_gap_18 : decode cX10_gap 18 = .ok (.iconst 0, 1) := by decide +kernel
theorem dX10_gap_19 : decode cX10_gap 19 = .ok (.istore 5, 2) := by decide +kernel
theorem dX10_gap_21 : decode cX10_gap 21 = .ok (.iload 5, 2) := by decide +kernel
theorem dX10_gap_23 : decode cX10_gap 23 = .ok (.aload_n 0, 1) := by decide +kernel
theorem dX10_gap_24 : decode cX10_gap 24 = .ok (.invokevirtual 259, 3) := by decide +kernel
theorem dX10_gap_27 : decode cX10_gap 27 = .ok (.if_icmp .ge 131, 3) := by decide +kernel
theorem dX10_gap_30 : decode cX10_gap 30 = .ok (.iload 5, 2) := by decide +kernel
theorem dX10_gap_32 : decode cX10_gap 32 = .ok (.iconst 1, 1) := by decide +kernel
theorem dX10_gap_33 : decode cX10_gap 33 = .ok (.iadd, 1) := by decide +kernel
theorem dX10_gap_34 : decode cX10_gap 34 = .ok (.istore 6, 2) := by decide +kernel
theorem dX10_gap_36 : decode cX10_gap 36 = .ok (.iload 6, 2) := by decide +kernel
theorem dX10_gap_38 : decode cX10_gap 38 = .ok (.aload_n 0, 1) := by decide +kernel
theorem dX10_gap_39 : decode cX10_gap 39 = .ok (.invokevirtual 259, 3) := by decide +kernel
theorem dX10_gap_42 : decode cX10_gap 42 = .ok (.if_icmp .ge 110, 3) := by decide +kernel
theorem dX10_gap_45 : decode cX10_gap 45 = .ok (.iload 6, 2) := by decide +kernel
theorem dX10_gap_47 : decode cX10_gap 47 = .ok (.iconst 1, 1) := by decide +kernel
theorem dX10_gap_48 : decode cX10_gap 48 = .ok (.iadd, 1) := by decide +kernel
theorem dX10_gap_49 : decode cX10_gap 49 = .ok (.istore 7, 2) := by decide +kernel
theorem dX10_gap_51 : decode cX10_gap 51 = .ok (.iload 7, 2) := by decide +kernel
theorem dX10_gap_53 : decode cX10_gap 53 = .ok (.aload_n 0, 1) := by decide +kernel
theorem dX10_gap_54 : decode cX10_gap 54 = .ok (.invokevirtual 259, 3) := by decide +kernel
theorem dX10_gap_57 : decode cX10_gap 57 = .ok (.if_icmp .ge 89, 3) := by decide +kernel
theorem dX10_gap_60 : decode cX10_gap 60 = .ok (.aload_n 0, 1) := by decide +kernel
theorem dX10_gap_61 : decode cX10_gap 61 = .ok (.iload 5, 2) := by decide +kernel
theorem dX10_gap_63 : decode cX10_gap 63 = .ok (.iload 6, 2) := by decide +kernel
theorem dX10_gap_65 : decode cX10_gap 65 = .ok (.iload 7, 2) := by decide +kernel
theorem dX10_gap_67 : decode cX10_gap 67 = .ok (.invokevirtual 460, 3) := by decide +kernel
theorem dX10_gap_70 : decode cX10_gap 70 = .ok (.ifCond .ne 6, 3) := by decide +kernel
theorem dX10_gap_73 : decode cX10_gap 73 = .ok (.goto 67, 3) := by decide +kernel
theorem dX10_gap_76 : decode cX10_gap 76 = .ok (.aload_n 0, 1) := by decide +kernel
theorem dX10_gap_77 : decode cX10_gap 77 = .ok (.iload 5, 2) := by decide +kernel
theorem dX10_gap_79 : decode cX10_gap 79 = .ok (.iload 6, 2) := by decide +kernel
theorem dX10_gap_81 : decode cX10_gap 81 = .ok (.iload 7, 2) := by decide +kernel
theorem dX10_gap_83 : decode cX10_gap 83 = .ok (.iconst 0, 1) := by decide +kernel
theorem dX10_gap_84 : decode cX10_gap 84 = .ok (.invokevirtual 463, 3) := by decide +kernel
theorem dX10_gap_87 : decode cX10_gap 87 = .ok (.i2l, 1) := by decide +kernel
theorem dX10_gap_88 : decode cX10_gap 88 = .ok (.lconst 0, 1) := by decide +kernel
theorem dX10_gap_89 : decode cX10_gap 89 = .ok (.invokestatic 299, 3) := by decide +kernel
theorem dX10_gap_92 : decode cX10_gap 92 = .ok (.aload_n 0, 1) := by decide +kernel
theorem dX10_gap_93 : decode cX10_gap 93 = .ok (.iload 5, 2) := by decide +kernel
theorem dX10_gap_95 : decode cX10_gap 95 = .ok (.iload 6, 2) := by decide +kernel
theorem dX10_gap_97 : decode cX10_gap 97 = .ok (.iload 7, 2) := by decide +kernel
theorem dX10_gap_99 : decode cX10_gap 99 = .ok (.iconst 1, 1) := by decide +kernel
theorem dX10_gap_100 : decode cX10_gap 100 = .ok (.invokevirtual 463, 3) := by decide +kernel
theorem dX10_gap_103 : decode cX10_gap 103 = .ok (.i2l, 1) := by decide +kernel
theorem dX10_gap_104 : decode cX10_gap 104 = .ok (.lconst 0, 1) := by decide +kernel
theorem dX10_gap_105 : decode cX10_gap 105 = .ok (.invokestatic 299, 3) := by decide +kernel
theorem dX10_gap_108 : decode cX10_gap 108 = .ok (.ladd, 1) := by decide +kernel
theorem dX10_gap_109 : decode cX10_gap 109 = .ok (.lstore 8, 2) := by decide +kernel
theorem dX10_gap_111 : decode cX10_gap 111 = .ok (.lload 8, 2) := by decide +kernel
theorem dX10_gap_113 : decode cX10_gap 113 = .ok (.lload_n 3, 1) := by decide +kernel
theorem dX10_gap_114 : decode cX10_gap 114 = .ok (.lcmp, 1) := by decide +kernel
theorem dX10_gap_115 : decode cX10_gap 115 = .ok (.ifCond .gt 6, 3) := by decide +kernel
theorem dX10_gap_118 : decode cX10_gap 118 = .ok (.goto 22, 3) := by decide +kernel
theorem dX10_gap_121 : decode cX10_gap 121 = .ok (.sipush 10000, 3) := by decide +kernel
theorem dX10_gap_124 : decode cX10_gap 124 = .ok (.iload 5, 2) := by decide +kernel
theorem dX10_gap_126 : decode cX10_gap 126 = .ok (.imul, 1) := by decide +kernel
theorem dX10_gap_127 : decode cX10_gap 127 = .ok (.bipush 100, 2) := by decide +kernel
theorem dX10_gap_129 : decode cX10_gap 129 = .ok (.iload 6, 2) := by decide +kernel
theorem dX10_gap_131 : decode cX10_gap 131 = .ok (.imul, 1) := by decide +kernel
theorem dX10_gap_132 : decode cX10_gap 132 = .ok (.iadd, 1) := by decide +kernel
theorem dX10_gap_133 : decode cX10_gap 133 = .ok (.iload 7, 2) := by decide +kernel
theorem dX10_gap_135 : decode cX10_gap 135 = .ok (.iadd, 1) := by decide +kernel
theorem dX10_gap_136 : decode cX10_gap 136 = .ok (.istore_n 2, 1) := by decide +kernel
theorem dX10_gap_137 : decode cX10_gap 137 = .ok (.lload 8, 2) := by decide +kernel
theorem dX10_gap_139 : decode cX10_gap 139 = .ok (.lstore_n 3, 1) := by decide +kernel
theorem dX10_gap_140 : decode cX10_gap 140 = .ok (.iinc 7 1, 3) := by decide +kernel
theorem dX10_gap_143 : decode cX10_gap 143 = .ok (.goto (-92), 3) := by decide +kernel
theorem dX10_gap_146 : decode cX10_gap 146 = .ok (.iinc 6 1, 3) := by decide +kernel
theorem dX10_gap_149 : decode cX10_gap 149 = .ok (.goto (-113), 3) := by decide +kernel
theorem dX10_gap_152 : decode cX10_gap 152 = .ok (.iinc 5 1, 3) := by decide +kernel
theorem dX10_gap_155 : decode cX10_gap 155 = .ok (.goto (-134), 3) := by decide +kernel
theorem dX10_gap_158 : decode cX10_gap 158 = .ok (.iload_n 1, 1) := by decide +kernel
theorem dX10_gap_159 : decode cX10_gap 159 = .ok (.ifCond .ne 7, 3) := by decide +kernel
theorem dX10_gap_162 : decode cX10_gap 162 = .ok (.iload_n 2, 1) := by decide +kernel
theorem dX10_gap_163 : decode cX10_gap 163 = .ok (.goto 5, 3) := by decide +kernel
theorem dX10_gap_166 : decode cX10_gap 166 = .ok (.lload_n 3, 1) := by decide +kernel
theorem dX10_gap_167 : decode cX10_gap 167 = .ok (.l2i, 1) := by decide +kernel
theorem dX10_gap_168 : decode cX10_gap 168 = .ok (.ireturn, 1) := by decide +kernel
theorem gcX10_treeOf__X10_treeOf_r1 : ∀ w ∈ wsX10_treeOf_r1, w ∈ wsX10_treeOf := fun w h => List.mem_cons_of_mem _ (List.mem_append_left _ (List.mem_append_left _ (h)))
theorem gcX10_treeOf__X100 : ∀ w ∈ wsX100, w ∈ wsX10_treeOf := fun w h => List.mem_cons_of_mem _ (List.mem_append_right _ (h))
set_option maxRecDepth 20000 in
theorem ggX10_treeOf_X10_pictures : GoodIn wsX10_treeOf wsX10_pictures := goodIn_sub (List.forall_mem_cons.mpr ⟨(gcX10_treeOf__X10_treeOf_r1 _ (List.mem_of_getElem? (i := 6) rfl)), List.forall_mem_append.mpr ⟨List.forall_mem_cons.mpr ⟨(gcX10_treeOf__X10_treeOf_r1 _ (List.mem_of_getElem? (i := 7) rfl)), fun _ h => (List.not_mem_nil h).elim⟩, gcX10_treeOf__X100⟩⟩) gwX10_pictures
set_option maxRecDepth 20000 in
theorem gX10_treeOf_X10_pictures : GoodIn wsX10_treeOf (wsV RX10 259 RX10 yX10_pictures wsX10_pictures) := goodIn_app (goodIn_sub (List.forall_mem_cons.mpr ⟨(gcX10_treeOf__X10_treeOf_r1 _ (List.mem_of_getElem? (i := 2) rfl)), List.forall_mem_cons.mpr ⟨(gcX10_treeOf__X10_treeOf_r1 _ (List.mem_of_getElem? (i := 3) rfl)), List.forall_mem_cons.mpr ⟨(gcX10_treeOf__X10_treeOf_r1 _ (List.mem_of_getElem? (i := 4) rfl)), List.forall_mem_cons.mpr ⟨(gcX10_treeOf__X10_treeOf_r1 _ (List.mem_of_getElem? (i := 5) rfl)), fun _ h => (List.not_mem_nil h).elim⟩⟩⟩⟩) (by decide +kernel)) ggX10_treeOf_X10_pictures
theorem gcX10_treeOf__X10_treeOf_r2 : ∀ w ∈ wsX10_treeOf_r2, w ∈ wsX10_treeOf := fun w h => List.mem_cons_of_mem _ (List.mem_append_left _ (List.mem_append_right _ (h)))
set_option maxRecDepth 20000 in
theorem gmX10_treeOf__X10_tiePoints_r1 : ∀ w ∈ wsX10_tiePoints_r1, w ∈ wsX10_treeOf := List.forall_mem_cons.mpr ⟨(gcX10_treeOf__X10_treeOf_r1 _ (List.mem_of_getElem? (i := 12) rfl)), List.forall_mem_cons.mpr ⟨(gcX10_treeOf__X10_treeOf_r1 _ (List.mem_of_getElem? (i := 13) rfl)), List.forall_mem_cons.mpr ⟨(gcX10_treeOf__X10_treeOf_r1 _ (List.mem_of_getElem? (i := 14) rfl)), List.forall_mem_cons.mpr ⟨(gcX10_treeOf__X10_treeOf_r1 _ (List.mem_of_getElem? (i := 5) rfl)), List.forall_mem_cons.mpr ⟨(gcX10_treeOf__X10_treeOf_r1 _ (List.mem_of_getElem? (i := 15) rfl)), List.forall_mem_cons.mpr ⟨(gcX10_treeOf__X10_treeOf_r1 _ (List.mem_of_getElem? (i := 7) rfl)), List.forall_mem_cons.mpr ⟨(gcX10_treeOf__X10_treeOf_r1 _ (List.mem_of_getElem? (i := 16) rfl)), List.forall_mem_cons.mpr ⟨(gcX10_treeOf__X10_treeOf_r1 _ (List.mem_of_getElem? (i := 17) rfl)), List.forall_mem_cons.mpr ⟨(gcX10_treeOf__X10_treeOf_r1 _ (List.mem_of_getElem? (i := 18) rfl)), List.forall_mem_cons.mpr ⟨(gcX10_treeOf__X10_treeOf_r1 _ (List.mem_of_getElem? (i := 19) rfl)), List.forall_mem_cons.mpr ⟨(gcX10_treeOf__X10_treeOf_r1 _ (List.mem_of_getElem? (i := 20) rfl)), List.forall_mem_cons.mpr ⟨(gcX10_treeOf__X10_treeOf_r1 _ (List.mem_of_getElem? (i := 21) rfl)), List.forall_mem_cons.mpr ⟨(gcX10_treeOf__X10_treeOf_r1 _ (List.mem_of_getElem? (i := 22) rfl)), List.forall_mem_cons.mpr ⟨(gcX10_treeOf__X10_treeOf_r1 _ (List.mem_of_getElem? (i := 23) rfl)), List.forall_mem_cons.mpr ⟨(gcX10_treeOf__X10_treeOf_r2 _ (List.mem_of_getElem? (i := 0) rfl)), List.forall_mem_cons.mpr ⟨(gcX10_treeOf__X10_treeOf_r2 _ (List.mem_of_getElem? (i := 1) rfl)), List.forall_mem_cons.mpr ⟨(gcX10_treeOf__X10_treeOf_r2 _ (List.mem_of_getElem? (i := 2) rfl)), List.forall_mem_cons.mpr ⟨(gcX10_treeOf__X10_treeOf_r2 _ (List.mem_of_getElem? (i := 3) rfl)), List.forall_mem_cons.mpr ⟨(gcX10_treeOf__X10_treeOf_r2 _ (List.mem_of_getElem? (i := 4) rfl)), List.forall_mem_cons.mpr ⟨(gcX10_treeOf__X10_treeOf_r2 _ (List.mem_of_getElem? (i := 5) rfl)), List.forall_mem_cons.mpr ⟨(gcX10_treeOf__X10_treeOf_r2 _ (List.mem_of_getElem? (i := 6) rfl)), List.forall_mem_cons.mpr ⟨(gcX10_treeOf__X10_treeOf_r2 _ (List.mem_of_getElem? (i := 7) rfl)), List.forall_mem_cons.mpr ⟨(gcX10_treeOf__X10_treeOf_r2 _ (List.mem_of_getElem? (i := 8) rfl)), List.forall_mem_cons.mpr ⟨(gcX10_treeOf__X10_treeOf_r2 _ (List.mem_of_getElem? (i := 9) rfl)), fun _ h => (List.not_mem_nil h).elim⟩⟩⟩⟩⟩⟩⟩⟩⟩⟩⟩⟩⟩⟩⟩⟩⟩⟩⟩⟩⟩⟩⟩⟩
set_option maxRecDepth 20000 in
theorem gmX10_treeOf__X10_tiePoints_r2 : ∀ w ∈ wsX10_tiePoints_r2, w ∈ wsX10_treeOf := List.forall_mem_cons.mpr ⟨(gcX10_treeOf__X10_treeOf_r2 _ (List.mem_of_getElem? (i := 10) rfl)), fun _ h => (List.not_mem_nil h).elim⟩
set_option maxRecDepth 20000 in
theorem ggX10_treeOf_X10_tiePoints : GoodIn wsX10_treeOf wsX10_tiePoints := goodIn_sub (List.forall_mem_cons.mpr ⟨(gcX10_treeOf__X10_treeOf_r1 _ (List.mem_of_getElem? (i := 11) rfl)), List.forall_mem_append.mpr ⟨List.forall_mem_append.mpr ⟨gmX10_treeOf__X10_tiePoints_r1, gmX10_treeOf__X10_tiePoints_r2⟩, gcX10_treeOf__X100⟩⟩) gwX10_tiePoints
set_option maxRecDepth 20000 in
theorem gX10_treeOf_X10_tiePoints : GoodIn wsX10_treeOf (wsV RX10 454 RX10 yX10_tiePoints wsX10_tiePoints) := goodIn_app (goodIn_sub (List.forall_mem_cons.mpr ⟨(gcX10_treeOf__X10_treeOf_r1 _ (List.mem_of_getElem? (i := 8) rfl)), List.forall_mem_cons.mpr ⟨(gcX10_treeOf__X10_treeOf_r1 _ (List.mem_of_getElem? (i := 9) rfl)), List.forall_mem_cons.mpr ⟨(gcX10_treeOf__X10_treeOf_r1 _ (List.mem_of_getElem? (i := 10) rfl)), List.forall_mem_cons.mpr ⟨(gcX10_treeOf__X10_treeOf_r1 _ (List.mem_of_getElem? (i := 5) rfl)), fun _ h => (List.not_mem_nil h).elim⟩⟩⟩⟩) (by decide +kernel)) ggX10_treeOf_X10_tiePoints
theorem dX10_treeOf_0 : decode cX10_treeOf 0 = .ok (.iconst 0, 1) := by decide +kernel
theorem dX10_treeOf_1 : decode cX10_treeOf 1 = .ok (.istore_n 1, 1) := by decide +kernel
theorem dX10_treeOf_2 : decode cX10_treeOf 2 = .ok (.iload_n 1, 1) := by decide +kernel
theorem dX10_treeOf_3 : decode cX10_treeOf 3 = .ok (.bipush 12, 2) := by decide +kernel
theorem dX10_treeOf_5 : decode cX10_treeOf 5 = .ok (.if_icmp .ge 16, 3) := by decide +kernel
theorem dX10_treeOf_8 : decode cX10_treeOf 8 = .ok (.aload_n 0, 1) := by decide +kernel
theorem dX10_treeOf_9 : decode cX10_treeOf 9 = .ok (.getfield 122, 3) := by decide +kernel
theorem dX10_treeOf_12 : decode cX10_treeOf 12 = .ok (.iload_n 1, 1) := by decide +kernel
theorem dX10_treeOf_13 : decode cX10_treeOf 13 = .ok (.iload_n 1, 1) := by decide +kernel
theorem dX10_treeOf_14 : decode cX10_treeOf 14 = .ok (.iastore, 1) := by decide +kernel
theorem dX10_treeOf_15 : decode cX10_treeOf 15 = .ok (.iinc 1 1, 3) := by decide +kernel
theorem dX10_treeOf_18 : decode cX10_treeOf 18 = .ok (.goto (-16), 3) := by decide +kernel
theorem dX10_treeOf_21 : decode cX10_treeOf 21 = .ok (.iconst 0, 1) := by decide +kernel
theorem dX10_treeOf_22 : decode cX10_treeOf 22 = .ok (.istore_n 1, 1) := by decide +kernel
theorem dX10_treeOf_23 : decode cX10_treeOf 23 = .ok (.iconst 1, 1) := by decide +kernel
theorem dX10_treeOf_24 : decode cX10_treeOf 24 = .ok (.istore_n 2, 1) := by decide +kernel
theorem dX10_treeOf_25 : decode cX10_treeOf 25 = .ok (.iload_n 2, 1) := by decide +kernel
theorem dX10_treeOf_26 : decode cX10_treeOf 26 = .ok (.ifCond .eq 195, 3) := by decide +kernel
theorem dX10_treeOf_29 : decode cX10_treeOf 29 = .ok (.iconst (-1), 1) := by decide +kernel
theorem dX10_treeOf_30 : decode cX10_treeOf 30 = .ok (.istore_n 3, 1) := by decide +kernel
theorem dX10_treeOf_31 : decode cX10_treeOf 31 = .ok (.iconst (-1), 1) := by decide +kernel
theorem dX10_treeOf_32 : decode cX10_treeOf 32 = .ok (.istore 4, 2) := by decide +kernel
theorem dX10_treeOf_34 : decode cX10_treeOf 34 = .ok (.iconst 0, 1) := by decide +kernel
theorem dX10_treeOf_35 : decode cX10_treeOf 35 = .ok (.istore 5, 2) := by decide +kernel
theorem dX10_treeOf_37 : decode cX10_treeOf 37 = .ok (.iload 5, 2) := by decide +kernel
theorem dX10_treeOf_39 : decode cX10_treeOf 39 = .ok (.aload_n 0, 1) := by decide +kernel
theorem dX10_treeOf_40 : decode cX10_treeOf 40 = .ok (.invokevirtual 259, 3) := by decide +kernel
theorem dX10_treeOf_43 : decode cX10_treeOf 43 = .ok (.if_icmp .ge 91, 3) := by decide +kernel
theorem dX10_treeOf_46 : decode cX10_treeOf 46 = .ok (.iload 5, 2) := by decide +kernel
theorem dX10_treeOf_48 : decode cX10_treeOf 48 = .ok (.iconst 1, 1) := by decide +kernel
theorem dX10_treeOf_49 : decode cX10_treeOf 49 = .ok (.iadd, 1) := by decide +kernel
theorem dX10_treeOf_50 : decode cX10_treeOf 50 = .ok (.istore 6, 2) := by decide +kernel
theorem dX10_treeOf_52 : decode cX10_treeOf 52 = .ok (.iload 6, 2) := by decide +kernel
theorem dX10_treeOf_54 : decode cX10_treeOf 54 = .ok (.aload_n 0, 1) := by decide +kernel
theorem dX10_treeOf_55 : decode cX10_treeOf 55 = .ok (.invokevirtual 259, 3) := by decide +kernel
theorem dX10_treeOf_58 : decode cX10_treeOf 58 = .ok (.if_icmp .ge 70, 3) := by decide +kernel
theorem dX10_treeOf_61 : decode cX10_treeOf 61 = .ok (.aload_n 0, 1) := by decide +kernel
theorem dX10_treeOf_62 : decode cX10_treeOf 62 = .ok (.getfield 122, 3) := by decide +kernel
theorem dX10_treeOf_65 : decode cX10_treeOf 65 = .ok (.iload 5, 2) := by decide +kernel
theorem dX10_treeOf_67 : decode cX10_treeOf 67 = .ok (.iaload, 1) := by decide +kernel
theorem dX10_treeOf_68 : decode cX10_treeOf 68 = .ok (.aload_n 0, 1) := by decide +kernel
theorem dX10_treeOf_69 : decode cX10_treeOf 69 = .ok (.getfield 122, 3) := by decide +kernel
theorem dX10_treeOf_72 : decode cX10_treeOf 72 = .ok (.iload 6, 2) := by decide +kernel
theorem dX10_treeOf_74 : decode cX10_treeOf 74 = .ok (.iaload, 1) := by decide +kernel
theorem dX10_treeOf_75 : decode cX10_treeOf 75 = .ok (.if_icmp .eq 47, 3) := by decide +kernel
theorem dX10_treeOf_78 : decode cX10_treeOf 78 = .ok (.aload_n 0, 1) := by decide +kernel
theorem dX10_treeOf_79 : decode cX10_treeOf 79 = .ok (.iload 5, 2) := by decide +kernel
theorem dX10_treeOf_81 : decode cX10_treeOf 81 = .ok (.iload 6, 2) := by decide +kernel
theorem dX10_treeOf_83 : decode cX10_treeOf 83 = .ok (.invokevirtual 454, 3) := by decide +kernel
theorem dX10_treeOf_86 : decode cX10_treeOf 86 = .ok (.ifCond .eq 36, 3) := by decide +kernel
theorem dX10_treeOf_89 : decode cX10_treeOf 89 = .ok (.iload_n 3, 1) := by decide +kernel
theorem dX10_treeOf_90 : decode cX10_treeOf 90 = .ok (.iconst (-1), 1) := by decide +kernel
theorem dX10_treeOf_91 : decode cX10_treeOf 91 = .ok (.if_icmp .eq 24, 3) := by decide +kernel
theorem dX10_treeOf_94 : decode cX10_treeOf 94 = .ok (.aload_n 0, 1) := by decide +kernel
theorem dX10_treeOf_95 : decode cX10_treeOf 95 = .ok (.iload 5, 2) := by decide +kernel
theorem dX10_treeOf_97 : decode cX10_treeOf 97 = .ok (.iload 6, 2) := by decide +kernel
theorem dX10_treeOf_99 : decode cX10_treeOf 99 = .ok (.invokevirtual 454, 3) := by decide +kernel
theorem dX10_treeOf_102 : decode cX10_treeOf 102 = .ok (.aload_n 0, 1) := by decide +kernel
theorem dX10_treeOf_103 : decode cX10_treeOf 103 = .ok (.iload_n 3, 1) := by decide +kernel
theorem dX10_treeOf_104 : decode cX10_treeOf 104 = .ok (.iload 4, 2) := by decide +kernel
theorem dX10_treeOf_106 : decode cX10_treeOf 106 = .ok (.invokevirtual 454, 3) := by decide +kernel
theorem dX10_treeOf_109 : decode cX10_treeOf 109 = .ok (.if_icmp .gt 6, 3) := by decide +kernel
theorem dX10_treeOf_112 : decode cX10_treeOf 112 = .ok (.goto 10, 3) := by decide +kernel
theorem dX10_treeOf_115 : decode cX10_treeOf 115 = .ok (.iload 5, 2) := by decide +kernel
theorem dX10_treeOf_117 : decode cX10_treeOf 117 = .ok (.istore_n 3, 1) := by decide +kernel
theorem dX10_treeOf_118 : decode cX10_treeOf 118 = .ok (.iload 6, 2) := by decide +kernel
theorem dX10_treeOf_120 : decode cX10_treeOf 120 = .ok (.istore 4, 2) := by decide +kernel
theorem dX10_treeOf_122 : decode cX10_treeOf 122 = .ok (.iinc 6 1, 3) := by decide +kernel
theorem dX10_treeOf_125 : decode cX10_treeOf 125 = .ok (.goto (-73), 3) := by decide +kernel
theorem dX10_treeOf_128 : decode cX10_treeOf 128 = .ok (.iinc 5 1, 3) := by decide +kernel
theorem dX10_treeOf_131 : decode cX10_treeOf 131 = .ok (.goto (-94), 3) := by decide +kernel
theorem dX10_treeOf_134 : decode cX10_treeOf 134 = .ok (.iload_n 3, 1) := by decide +kernel
theorem dX10_treeOf_135 : decode cX10_treeOf 135 = .ok (.iconst (-1), 1) := by decide +kernel
theorem dX10_treeOf_136 : decode cX10_treeOf 136 = .ok (.if_icmp .eq 7, 3) := by decide +kernel
theorem dX10_treeOf_139 : decode cX10_treeOf 139 = .ok (.iconst 1, 1) := by decide +kernel
theorem dX10_treeOf_140 : decode cX10_treeOf 140 = .ok (.goto 4, 3) := by decide +kernel
theorem dX10_treeOf_143 : decode cX10_treeOf 143 = .ok (.iconst 0, 1) := by decide +kernel
theorem dX10_treeOf_144 : decode cX10_treeOf 144 = .ok (.istore_n 2, 1) := by decide +kernel
theorem dX10_treeOf_145 : decode cX10_treeOf 145 = .ok (.iload_n 2, 1) := by decide +kernel
theorem dX10_treeOf_146 : decode cX10_treeOf 146 = .ok (.ifCond .ne 6, 3) := by decide +kernel
theorem dX10_treeOf_149 : decode cX10_treeOf 149 = .ok (.goto (-124), 3) := by decide +kernel
theorem dX10_treeOf_152 : decode cX10_treeOf 152 = .ok (.aload_n 0, 1) := by decide +kernel
theorem dX10_treeOf_153 : decode cX10_treeOf 153 = .ok (.getfield 119, 3) := by decide +kernel
theorem dX10_treeOf_156 : decode cX10_treeOf 156 = .ok (.iload_n 1, 1) := by decide +kernel
theorem dX10_treeOf_157 : decode cX10_treeOf 157 = .ok (.bipush 100, 2) := by decide +kernel
theorem dX10_treeOf_159 : decode cX10_treeOf 159 = .ok (.iload_n 3, 1) := by decide +kernel
theorem dX10_treeOf_160 : decode cX10_treeOf 160 = .ok (.imul, 1) := by decide +kernel
theorem dX10_treeOf_161 : decode cX10_treeOf 161 = .ok (.iload 4, 2) := by decide +kernel
theorem dX10_treeOf_163 : decode cX10_treeOf 163 = .ok (.iadd, 1) := by decide +kernel
theorem dX10_treeOf_164 : decode cX10_treeOf 164 = .ok (.iastore, 1) := by decide +kernel
theorem dX10_treeOf_165 : decode cX10_treeOf 165 = .ok (.iinc 1 1, 3) := by decide +kernel
theorem dX10_treeOf_168 : decode cX10_treeOf 168 = .ok (.aload_n 0, 1) := by decide +kernel
theorem dX10_treeOf_169 : decode cX10_treeOf 169 = .ok (.getfield 122, 3) := by decide +kernel
theorem dX10_treeOf_172 : decode cX10_treeOf 172 = .ok (.iload 4, 2) := by decide +kernel
theorem dX10_treeOf_174 : decode cX10_treeOf 174 = .ok (.iaload, 1) := by decide +kernel
theorem dX10_treeOf_175 : decode cX10_treeOf 175 = .ok (.istore 5, 2) := by decide +kernel
theorem dX10_treeOf_177 : decode cX10_treeOf 177 = .ok (.iconst 0, 1) := by decide +kernel
theorem dX10_treeOf_178 : decode cX10_treeOf 178 = .ok (.istore 6, 2) := by decide +kernel
theorem dX10_treeOf_180 : decode cX10_treeOf 180 = .ok (.iload 6, 2) := by decide +kernel
theorem dX10_treeOf_182 : decode cX10_treeOf 182 = .ok (.bipush 12, 2) := by decide +kernel
theorem dX10_treeOf_184 : decode cX10_treeOf 184 = .ok (.if_icmp .ge 34, 3) := by decide +kernel
theorem dX10_treeOf_187 : decode cX10_treeOf 187 = .ok (.aload_n 0, 1) := by decide +kernel
theorem dX10_treeOf_188 : decode cX10_treeOf 188 = .ok (.getfield 122, 3) := by decide +kernel
theorem dX10_treeOf_191 : decode cX10_treeOf 191 = .ok (.iload 6, 2) := by decide +kernel
theorem dX10_treeOf_193 : decode cX10_treeOf 193 = .ok (.iaload, 1) := by decide +kernel
theorem dX10_treeOf_194 : decode cX10_treeOf 194 = .ok (.iload 5, 2) := by decide +kernel
theorem dX10_treeOf_196 : decode cX10_treeOf 196 = .ok (.if_icmp .ne 16, 3) := by decide +kernel
theorem dX10_treeOf_199 : decode cX10_treeOf 199 = .ok (.aload_n 0, 1) := by decide +kernel
theorem dX10_treeOf_200 : decode cX10_treeOf 200 = .ok (.getfield 122, 3) := by decide +kernel
theorem dX10_treeOf_203 : decode cX10_treeOf 203 = .ok (.iload 6, 2) := by decide +kernel
theorem dX10_treeOf_205 : decode cX10_treeOf 205 = .ok (.aload_n 0, 1) := by decide +kernel
theorem dX10_treeOf_206 : decode cX10_treeOf 206 = .ok (.getfield 122, 3) := by decide +kernel
theorem dX10_treeOf_209 : decode cX10_treeOf 209 = .ok (.iload_n 3, 1) := by decide +kernel
theorem dX10_treeOf_210 : decode cX10_treeOf 210 = .ok (.iaload, 1) := by decide +kernel
theorem dX10_treeOf_211 : decode cX10_treeOf 211 = .ok (.iastore, 1) := by decide +kernel
theorem dX10_treeOf_212 : decode cX10_treeOf 212 = .ok (.iinc 6 1, 3) := by decide +kernel
theorem dX10_treeOf_215 : decode cX10_treeOf 215 = .ok (.goto (-35), 3) := by decide +kernel
theorem dX10_treeOf_218 : decode cX10_treeOf 218 = .ok (.goto (-193), 3) := by decide +kernel
theorem dX10_treeOf_221 : decode cX10_treeOf 221 = .ok (.iload_n 1, 1) := by decide +kernel
theorem dX10_treeOf_222 : decode cX10_treeOf 222 = .ok (.ireturn, 1) := by decide +kernel
theorem gcX10_tree__X10_tree_r1 : ∀ w ∈ wsX10_tree_r1, w ∈ wsX10_tree := fun w h => List.mem_cons_of_mem _ (List.mem_append_left _ (List.mem_append_left _ (h)))
theorem gcX10_tree__X10_tree_r2 : ∀ w ∈ wsX10_tree_r2, w ∈ wsX10_tree := fun w h => List.mem_cons_of_mem _ (List.mem_append_left _ (List.mem_append_right _ (h)))
set_option maxRecDepth 20000 in
theorem gmX10_tree__X10_treeOf_r1 : ∀ w ∈ wsX10_treeOf_r1, w ∈ wsX10_tree := List.forall_mem_cons.mpr ⟨(gcX10_tree__X10_tree_r1 _ (List.mem_of_getElem? (i := 6) rfl)), List.forall_mem_cons.mpr ⟨(gcX10_tree__X10_tree_r1 _ (List.mem_of_getElem? (i := 0) rfl)), List.forall_mem_cons.mpr ⟨(gcX10_tree__X10_tree_r1 _ (List.mem_of_getElem? (i := 7) rfl)), List.forall_mem_cons.mpr ⟨(gcX10_tree__X10_tree_r1 _ (List.mem_of_getElem? (i := 8) rfl)), List.forall_mem_cons.mpr ⟨(gcX10_tree__X10_tree_r1 _ (List.mem_of_getElem? (i := 9) rfl)), List.forall_mem_cons.mpr ⟨(gcX10_tree__X10_tree_r1 _ (List.mem_of_getElem? (i := 4) rfl)), List.forall_mem_cons.mpr ⟨(gcX10_tree__X10_tree_r1 _ (List.mem_of_getElem? (i := 10) rfl)), List.forall_mem_cons.mpr ⟨(gcX10_tree__X10_tree_r1 _ (List.mem_of_getElem? (i := 11) rfl)), List.forall_mem_cons.mpr ⟨(gcX10_tree__X10_tree_r1 _ (List.mem_of_getElem? (i := 12) rfl)), List.forall_mem_cons.mpr ⟨(gcX10_tree__X10_tree_r1 _ (List.mem_of_getElem? (i := 13) rfl)), List.forall_mem_cons.mpr ⟨(gcX10_tree__X10_tree_r1 _ (List.mem_of_getElem? (i := 14) rfl)), List.forall_mem_cons.mpr ⟨(gcX10_tree__X10_tree_r1 _ (List.mem_of_getElem? (i := 15) rfl)), List.forall_mem_cons.mpr ⟨(gcX10_tree__X10_tree_r1 _ (List.mem_of_getElem? (i := 16) rfl)), List.forall_mem_cons.mpr ⟨(gcX10_tree__X10_tree_r1 _ (List.mem_of_getElem? (i := 17) rfl)), List.forall_mem_cons.mpr ⟨(gcX10_tree__X10_tree_r1 _ (List.mem_of_getElem? (i := 18) rfl)), List.forall_mem_cons.mpr ⟨(gcX10_tree__X10_tree_r1 _ (List.mem_of_getElem? (i := 19) rfl)), List.forall_mem_cons.mpr ⟨(gcX10_tree__X10_tree_r1 _ (List.mem_of_getElem? (i := 20) rfl)), List.forall_mem_cons.mpr ⟨(gcX10_tree__X10_tree_r1 _ (List.mem_of_getElem? (i := 21) rfl)), List.forall_mem_cons.mpr ⟨(gcX10_tree__X10_tree_r1 _ (List.mem_of_getElem? (i := 22) rfl)), List.forall_mem_cons.mpr ⟨(gcX10_tree__X10_tree_r1 _ (List.mem_of_getElem? (i := 23) rfl)), List.forall_mem_cons.mpr ⟨(gcX10_tree__X10_tree_r2 _ (List.mem_of_getElem? (i := 0) rfl)), List.forall_mem_cons.mpr ⟨(gcX10_tree__X10_tree_r2 _ (List.mem_of_getElem? (i := 1) rfl)), List.forall_mem_cons.mpr ⟨(gcX10_tree__X10_tree_r2 _ (List.mem_of_getElem? (i := 2) rfl)), List.forall_mem_cons.mpr ⟨(gcX10_tree__X10_tree_r2 _ (List.mem_of_getElem? (i := 3) rfl)), fun _ h => (List.not_mem_nil h).elim⟩⟩⟩⟩⟩⟩⟩⟩⟩⟩⟩⟩⟩⟩⟩⟩⟩⟩⟩⟩⟩⟩⟩⟩
set_option maxRecDepth 20000 in
theorem gmX10_tree__X10_treeOf_r2 : ∀ w ∈ wsX10_treeOf_r2, w ∈ wsX10_tree := List.forall_mem_cons.mpr ⟨(gcX10_tree__X10_tree_r2 _ (List.mem_of_getElem? (i := 4) rfl)), List.forall_mem_cons.mpr ⟨(gcX10_tree__X10_tree_r2 _ (List.mem_of_getElem? (i := 5) rfl)), List.forall_mem_cons.mpr ⟨(gcX10_tree__X10_tree_r2 _ (List.mem_of_getElem? (i := 6) rfl)), List.forall_mem_cons.mpr ⟨(gcX10_tree__X10_tree_r2 _ (List.mem_of_getElem? (i := 7) rfl)), List.forall_mem_cons.mpr ⟨(gcX10_tree__X10_tree_r2 _ (List.mem_of_getElem? (i := 8) rfl)), List.forall_mem_cons.mpr ⟨(gcX10_tree__X10_tree_r2 _ (List.mem_of_getElem? (i := 9) rfl)), List.forall_mem_cons.mpr ⟨(gcX10_tree__X10_tree_r2 _ (List.mem_of_getElem? (i := 10) rfl)), List.forall_mem_cons.mpr ⟨(gcX10_tree__X10_tree_r2 _ (List.mem_of_getElem? (i := 11) rfl)), List.forall_mem_cons.mpr ⟨(gcX10_tree__X10_tree_r2 _ (List.mem_of_getElem? (i := 12) rfl)), List.forall_mem_cons.mpr ⟨(gcX10_tree__X10_tree_r2 _ (List.mem_of_getElem? (i := 13) rfl)), List.forall_mem_cons.mpr ⟨(gcX10_tree__X10_tree_r2 _ (List.mem_of_getElem? (i := 14) rfl)), fun _ h => (List.not_mem_nil h).elim⟩⟩⟩⟩⟩⟩⟩⟩⟩⟩⟩
theorem gcX10_tree__X100 : ∀ w ∈ wsX100, w ∈ wsX10_tree := fun w h => List.mem_cons_of_mem _ (List.mem_append_right _ (h))
set_option maxRecDepth 20000 in
theorem gwX10_treeOf : wsX10_treeOf.all goodWord = true := by decide +kernel
set_option maxRecDepth 20000 in
theorem ggX10_tree_X10_treeOf : GoodIn wsX10_tree wsX10_treeOf := goodIn_sub (List.forall_mem_cons.mpr ⟨(gcX10_tree__X10_tree_r1 _ (List.mem_of_getElem? (i := 5) rfl)), List.forall_mem_append.mpr ⟨List.forall_mem_append.mpr ⟨gmX10_tree__X10_treeOf_r1, gmX10_tree__X10_treeOf_r2⟩, gcX10_tree__X100⟩⟩) gwX10_treeOf
set_option maxRecDepth 20000 in
theorem gX10_tree_X10_treeOf : GoodIn wsX10_tree (wsV RX10 467 RX10 yX10_treeOf wsX10_treeOf) := goodIn_app (goodIn_sub (List.forall_mem_cons.mpr ⟨(gcX10_tree__X10_tree_r1 _ (List.mem_of_getElem? (i := 1) rfl)), List.forall_mem_cons.mpr ⟨(gcX10_tree__X10_tree_r1 _ (List.mem_of_getElem? (i := 2) rfl)), List.forall_mem_cons.mpr ⟨(gcX10_tree__X10_tree_r1 _ (List.mem_of_getElem? (i := 3) rfl)), List.forall_mem_cons.mpr ⟨(gcX10_tree__X10_tree_r1 _ (List.mem_of_getElem? (i := 4) rfl)), fun _ h => (List.not_mem_nil h).elim⟩⟩⟩⟩) (by decide +kernel)) ggX10_tree_X10_treeOf
set_option maxRecDepth 20000 in
theorem ggX10_tree_X10_isIn : GoodIn wsX10_tree wsX10_isIn := goodIn_sub (List.forall_mem_cons.mpr ⟨(gcX10_tree__X10_tree_r2 _ (List.mem_of_getElem? (i := 17) rfl)), fun _ h => (List.not_mem_nil h).elim⟩) gwX10_isIn
set_option maxRecDepth 20000 in
theorem gX10_tree_X10_isIn : GoodIn wsX10_tree (va_wsS RX10 183 yX10_isIn wsX10_isIn) := goodIn_app (goodIn_sub (List.forall_mem_cons.mpr ⟨(gcX10_tree__X10_tree_r2 _ (List.mem_of_getElem? (i := 15) rfl)), List.forall_mem_cons.mpr ⟨(gcX10_tree__X10_tree_r2 _ (List.mem_of_getElem? (i := 16) rfl)), List.forall_mem_cons.mpr ⟨(gcX10_tree__X10_tree_r1 _ (List.mem_of_getElem? (i := 4) rfl)), fun _ h => (List.not_mem_nil h).elim⟩⟩⟩) (by decide +kernel)) ggX10_tree_X10_isIn
theorem dX10_tree_0 : decode cX10_tree 0 = .ok (.aload_n 0, 1) := by decide +kernel
theorem dX10_tree_1 : decode cX10_tree 1 = .ok (.invokevirtual 467, 3) := by decide +kernel
theorem dX10_tree_4 : decode cX10_tree 4 = .ok (.istore_n 2, 1) := by decide +kernel
theorem dX10_tree_5 : decode cX10_tree 5 = .ok (.iload_n 1, 1) := by decide +kernel
theorem dX10_tree_6 : decode cX10_tree 6 = .ok (.iconst (-1), 1) := by decide +kernel
theorem dX10_tree_7 : decode cX10_tree 7 = .ok (.if_icmp .ne 7, 3) := by decide +kernel
theorem dX10_tree_10 : decode cX10_tree 10 = .ok (.iload_n 2, 1) := by decide +kernel
theorem dX10_tree_11 : decode cX10_tree 11 = .ok (.goto 26, 3) := by decide +kernel
theorem dX10_tree_14 : decode cX10_tree 14 = .ok (.iload_n 1, 1) := by decide +kernel
theorem dX10_tree_15 : decode cX10_tree 15 = .ok (.i2l, 1) := by decide +kernel
theorem dX10_tree_16 : decode cX10_tree 16 = .ok (.lconst 0, 1) := by decide +kernel
theorem dX10_tree_17 : decode cX10_tree 17 = .ok (.iload_n 2, 1) := by decide +kernel
theorem dX10_tree_18 : decode cX10_tree 18 = .ok (.iconst 1, 1) := by decide +kernel
theorem dX10_tree_19 : decode cX10_tree 19 = .ok (.isub, 1) := by decide +kernel
theorem dX10_tree_20 : decode cX10_tree 20 = .ok (.i2l, 1) := by decide +kernel
theorem dX10_tree_21 : decode cX10_tree 21 = .ok (.invokestatic 183, 3) := by decide +kernel
theorem dX10_tree_24 : decode cX10_tree 24 = .ok (.ifCond .eq 12, 3) := by decide +kernel
theorem dX10_tree_27 : decode cX10_tree 27 = .ok (.aload_n 0, 1) := by decide +kernel
theorem dX10_tree_28 : decode cX10_tree 28 = .ok (.getfield 119, 3) := by decide +kernel
theorem dX10_tree_31 : decode cX10_tree 31 = .ok (.iload_n 1, 1) := by decide +kernel
theorem dX10_tree_32 : decode cX10_tree 32 = .ok (.iaload, 1) := by decide +kernel
theorem dX10_tree_33 : decode cX10_tree 33 = .ok (.goto 4, 3) := by decide +kernel
theorem dX10_tree_36 : decode cX10_tree 36 = .ok (.iconst (-1), 1) := by decide +kernel
theorem dX10_tree_37 : decode cX10_tree 37 = .ok (.ireturn, 1) := by decide +kernel
theorem gcX10_plan__X10_plan_r1 : ∀ w ∈ wsX10_plan_r1, w ∈ wsX10_plan := fun w h => List.mem_cons_of_mem _ (List.mem_append_left _ (List.mem_append_left _ (h)))
set_option maxRecDepth 20000 in
theorem ggX10_plan_X10_isIn : GoodIn wsX10_plan wsX10_isIn := goodIn_sub (List.forall_mem_cons.mpr ⟨(gcX10_plan__X10_plan_r1 _ (List.mem_of_getElem? (i := 6) rfl)), fun _ h => (List.not_mem_nil h).elim⟩) gwX10_isIn
set_option maxRecDepth 20000 in
theorem gX10_plan_X10_isIn : GoodIn wsX10_plan (va_wsS RX10 183 yX10_isIn wsX10_isIn) := goodIn_app (goodIn_sub (List.forall_mem_cons.mpr ⟨(gcX10_plan__X10_plan_r1 _ (List.mem_of_getElem? (i := 3) rfl)), List.forall_mem_cons.mpr ⟨(gcX10_plan__X10_plan_r1 _ (List.mem_of_getElem? (i := 4) rfl)), List.forall_mem_cons.mpr ⟨(gcX10_plan__X10_plan_r1 _ (List.mem_of_getElem? (i := 5) rfl)), fun _ h => (List.not_mem_nil h).elim⟩⟩⟩) (by decide +kernel)) ggX10_plan_X10_isIn
theorem gcX10_plan__X10_plan_r2 : ∀ w ∈ wsX10_plan_r2, w ∈ wsX10_plan := fun w h => List.mem_cons_of_mem _ (List.mem_append_left _ (List.mem_append_right _ (h)))
set_option maxRecDepth 20000 in
theorem gmX10_plan__X10_treeOf_r1 : ∀ w ∈ wsX10_treeOf_r1, w ∈ wsX10_plan := List.forall_mem_cons.mpr ⟨(gcX10_plan__X10_plan_r1 _ (List.mem_of_getElem? (i := 11) rfl)), List.forall_mem_cons.mpr ⟨(gcX10_plan__X10_plan_r1 _ (List.mem_of_getElem? (i := 2) rfl)), List.forall_mem_cons.mpr ⟨(gcX10_plan__X10_plan_r1 _ (List.mem_of_getElem? (i := 12) rfl)), List.forall_mem_cons.mpr ⟨(gcX10_plan__X10_plan_r1 _ (List.mem_of_getElem? (i := 13) rfl)), List.forall_mem_cons.mpr ⟨(gcX10_plan__X10_plan_r1 _ (List.mem_of_getElem? (i := 14) rfl)), List.forall_mem_cons.mpr ⟨(gcX10_plan__X10_plan_r1 _ (List.mem_of_getElem? (i := 5) rfl)), List.forall_mem_cons.mpr ⟨(gcX10_plan__X10_plan_r1 _ (List.mem_of_getElem? (i := 15) rfl)), List.forall_mem_cons.mpr ⟨(gcX10_plan__X10_plan_r1 _ (List.mem_of_getElem? (i := 16) rfl)), List.forall_mem_cons.mpr ⟨(gcX10_plan__X10_plan_r1 _ (List.mem_of_getElem? (i := 17) rfl)), List.forall_mem_cons.mpr ⟨(gcX10_plan__X10_plan_r1 _ (List.mem_of_getElem? (i := 18) rfl)), List.forall_mem_cons.mpr ⟨(gcX10_plan__X10_plan_r1 _ (List.mem_of_getElem? (i := 19) rfl)), List.forall_mem_cons.mpr ⟨(gcX10_plan__X10_plan_r1 _ (List.mem_of_getElem? (i := 20) rfl)), List.forall_mem_cons.mpr ⟨(gcX10_plan__X10_plan_r1 _ (List.mem_of_getElem? (i := 21) rfl)), List.forall_mem_cons.mpr ⟨(gcX10_plan__X10_plan_r1 _ (List.mem_of_getElem? (i := 22) rfl)), List.forall_mem_cons.mpr ⟨(gcX10_plan__X10_plan_r1 _ (List.mem_of_getElem? (i := 23) rfl)), List.forall_mem_cons.mpr ⟨(gcX10_plan__X10_plan_r2 _ (List.mem_of_getElem? (i := 0) rfl)), List.forall_mem_cons.mpr ⟨(gcX10_plan__X10_plan_r2 _ (List.mem_of_getElem? (i := 1) rfl)), List.forall_mem_cons.mpr ⟨(gcX10_plan__X10_plan_r2 _ (List.mem_of_getElem? (i := 2) rfl)), List.forall_mem_cons.mpr ⟨(gcX10_plan__X10_plan_r2 _ (List.mem_of_getElem? (i := 3) rfl)), List.forall_mem_cons.mpr ⟨(gcX10_plan__X10_plan_r2 _ (List.mem_of_getElem? (i := 4) rfl)), List.forall_mem_cons.mpr ⟨(gcX10_plan__X10_plan_r2 _ (List.mem_of_getElem? (i := 5) rfl)), List.forall_mem_cons.mpr ⟨(gcX10_plan__X10_plan_r2 _ (List.mem_of_getElem? (i := 6) rfl)), List.forall_mem_cons.mpr ⟨(gcX10_plan__X10_plan_r2 _ (List.mem_of_getElem? (i := 7) rfl)), List.forall_mem_cons.mpr ⟨(gcX10_plan__X10_plan_r2 _ (List.mem_of_getElem? (i := 8) rfl)), fun _ h => (List.not_mem_nil h).elim⟩⟩⟩⟩⟩⟩⟩⟩⟩⟩⟩⟩⟩⟩⟩⟩⟩⟩⟩⟩⟩⟩⟩⟩
set_option maxRecDepth 20000 in
theorem gmX10_plan__X10_treeOf_r2 : ∀ w ∈ wsX10_treeOf_r2, w ∈ wsX10_plan := List.forall_mem_cons.mpr ⟨(gcX10_plan__X10_plan_r2 _ (List.mem_of_getElem? (i := 9) rfl)), List.forall_mem_cons.mpr ⟨(gcX10_plan__X10_plan_r2 _ (List.mem_of_getElem? (i := 10) rfl)), List.forall_mem_cons.mpr ⟨(gcX10_plan__X10_plan_r2 _ (List.mem_of_getElem? (i := 11) rfl)), List.forall_mem_cons.mpr ⟨(gcX10_plan__X10_plan_r2 _ (List.mem_of_getElem? (i := 12) rfl)), List.forall_mem_cons.mpr ⟨(gcX10_plan__X10_plan_r2 _ (List.mem_of_getElem? (i := 13) rfl)), List.forall_mem_cons.mpr ⟨(gcX10_plan__X10_plan_r2 _ (List.mem_of_getElem? (i := 14) rfl)), List.forall_mem_cons.mpr ⟨(gcX10_plan__X10_plan_r2 _ (List.mem_of_getElem? (i := 15) rfl)), List.forall_mem_cons.mpr ⟨(gcX10_plan__X10_plan_r2 _ (List.mem_of_getElem? (i := 16) rfl)), List.forall_mem_cons.mpr ⟨(gcX10_plan__X10_plan_r2 _ (List.mem_of_getElem? (i := 17) rfl)), List.forall_mem_cons.mpr ⟨(gcX10_plan__X10_plan_r2 _ (List.mem_of_getElem? (i := 18) rfl)), List.forall_mem_cons.mpr ⟨(gcX10_plan__X10_plan_r2 _ (List.mem_of_getElem? (i := 19) rfl)), fun _ h => (List.not_mem_nil h).elim⟩⟩⟩⟩⟩⟩⟩⟩⟩⟩⟩
theorem gcX10_plan__X100 : ∀ w ∈ wsX100, w ∈ wsX10_plan := fun w h => List.mem_cons_of_mem _ (List.mem_append_right _ (h))
set_option maxRecDepth 20000 in
theorem ggX10_plan_X10_treeOf : GoodIn wsX10_plan wsX10_treeOf := goodIn_sub (List.forall_mem_cons.mpr ⟨(gcX10_plan__X10_plan_r1 _ (List.mem_of_getElem? (i := 10) rfl)), List.forall_mem_append.mpr ⟨List.forall_mem_append.mpr ⟨gmX10_plan__X10_treeOf_r1, gmX10_plan__X10_treeOf_r2⟩, gcX10_plan__X100⟩⟩) gwX10_treeOf
set_option maxRecDepth 20000 in
theorem gX10_plan_X10_treeOf : GoodIn wsX10_plan (wsV RX10 467 RX10 yX10_treeOf wsX10_treeOf) := goodIn_app (goodIn_sub (List.forall_mem_cons.mpr ⟨(gcX10_plan__X10_plan_r1 _ (List.mem_of_getElem? (i := 7) rfl)), List.forall_mem_cons.mpr ⟨(gcX10_plan__X10_plan_r1 _ (List.mem_of_getElem? (i := 8) rfl)), List.forall_mem_cons.mpr ⟨(gcX10_plan__X10_plan_r1 _ (List.mem_of_getElem? (i := 9) rfl)), List.forall_mem_cons.mpr ⟨(gcX10_plan__X10_plan_r1 _ (List.mem_of_getElem? (i := 5) rfl)), fun _ h => (List.not_mem_nil h).elim⟩⟩⟩⟩) (by decide +kernel)) ggX10_plan_X10_treeOf
set_option maxRecDepth 20000 in
theorem ggX10_plan_X10_points : GoodIn wsX10_plan wsX10_points := goodIn_sub (List.forall_mem_cons.mpr ⟨(gcX10_plan__X10_plan_r2 _ (List.mem_of_getElem? (i := 0) rfl)), List.forall_mem_append.mpr ⟨List.forall_mem_cons.mpr ⟨(gcX10_plan__X10_plan_r1 _ (List.mem_of_getElem? (i := 16) rfl)), fun _ h => (List.not_mem_nil h).elim⟩, gcX10_plan__X100⟩⟩) gwX10_points
set_option maxRecDepth 20000 in
theorem gX10_plan_X10_points : GoodIn wsX10_plan (wsV RX10 262 RX10 yX10_points wsX10_points) := goodIn_app (goodIn_sub (List.forall_mem_cons.mpr ⟨(gcX10_plan__X10_plan_r1 _ (List.mem_of_getElem? (i := 21) rfl)), List.forall_mem_cons.mpr ⟨(gcX10_plan__X10_plan_r1 _ (List.mem_of_getElem? (i := 22) rfl)), List.forall_mem_cons.mpr ⟨(gcX10_plan__X10_plan_r1 _ (List.mem_of_getElem? (i := 23) rfl)), List.forall_mem_cons.mpr ⟨(gcX10_plan__X10_plan_r1 _ (List.mem_of_getElem? (i := 5) rfl)), fun _ h => (List.not_mem_nil h).elim⟩⟩⟩⟩) (by decide +kernel)) ggX10_plan_X10_points
set_option maxRecDepth 20000 in
theorem ggX10_plan_X10_rowOf : GoodIn wsX10_plan wsX10_rowOf := goodIn_sub (List.forall_mem_cons.mpr ⟨(gcX10_plan__X10_plan_r2 _ (List.mem_of_getElem? (i := 4) rfl)), List.forall_mem_append.mpr ⟨List.forall_mem_cons.mpr ⟨(gcX10_plan__X10_plan_r2 _ (List.mem_of_getElem? (i := 5) rfl)), List.forall_mem_cons.mpr ⟨(gcX10_plan__X10_plan_r2 _ (List.mem_of_getElem? (i := 6) rfl)), List.forall_mem_cons.mpr ⟨(gcX10_plan__X10_plan_r2 _ (List.mem_of_getElem? (i := 7) rfl)), List.forall_mem_cons.mpr ⟨(gcX10_plan__X10_plan_r2 _ (List.mem_of_getElem? (i := 8) rfl)), List.forall_mem_cons.mpr ⟨(gcX10_plan__X10_plan_r1 _ (List.mem_of_getElem? (i := 5) rfl)), List.forall_mem_cons.mpr ⟨(gcX10_plan__X10_plan_r2 _ (List.mem_of_getElem? (i := 9) rfl)), List.forall_mem_cons.mpr ⟨(gcX10_plan__X10_plan_r1 _ (List.mem_of_getElem? (i := 16) rfl)), List.forall_mem_cons.mpr ⟨(gcX10_plan__X10_plan_r2 _ (List.mem_of_getElem? (i := 10) rfl)), List.forall_mem_cons.mpr ⟨(gcX10_plan__X10_plan_r2 _ (List.mem_of_getElem? (i := 11) rfl)), List.forall_mem_cons.mpr ⟨(gcX10_plan__X10_plan_r2 _ (List.mem_of_getElem? (i := 12) rfl)), List.forall_mem_cons.mpr ⟨(gcX10_plan__X10_plan_r2 _ (List.mem_of_getElem? (i := 13) rfl)), List.forall_mem_cons.mpr ⟨(gcX10_plan__X10_plan_r2 _ (List.mem_of_getElem? (i := 14) rfl)), List.forall_mem_cons.mpr ⟨(gcX10_plan__X10_plan_r2 _ (List.mem_of_getElem? (i := 15) rfl)), List.forall_mem_cons.mpr ⟨(gcX10_plan__X10_plan_r2 _ (List.mem_of_getElem? (i := 16) rfl)), List.forall_mem_cons.mpr ⟨(gcX10_plan__X10_plan_r2 _ (List.mem_of_getElem? (i := 17) rfl)), List.forall_mem_cons.mpr ⟨(gcX10_plan__X10_plan_r2 _ (List.mem_of_getElem? (i := 18) rfl)), List.forall_mem_cons.mpr ⟨(gcX10_plan__X10_plan_r2 _ (List.mem_of_getElem? (i := 19) rfl)), fun _ h => (List.not_mem_nil h).elim⟩⟩⟩⟩⟩⟩⟩⟩⟩⟩⟩⟩⟩⟩⟩⟩⟩, gcX10_plan__X100⟩⟩) gwX10_rowOf
set_option maxRecDepth 20000 in
theorem gX10_plan_X10_rowOf : GoodIn wsX10_plan (wsV RX10 290 RX10 yX10_rowOf wsX10_rowOf) := goodIn_app (goodIn_sub (List.forall_mem_cons.mpr ⟨(gcX10_plan__X10_plan_r2 _ (List.mem_of_getElem? (i := 1) rfl)), List.forall_mem_cons.mpr ⟨(gcX10_plan__X10_plan_r2 _ (List.mem_of_getElem? (i := 2) rfl)), List.forall_mem_cons.mpr ⟨(gcX10_plan__X10_plan_r2 _ (List.mem_of_getElem? (i := 3) rfl)), List.forall_mem_cons.mpr ⟨(gcX10_plan__X10_plan_r1 _ (List.mem_of_getElem? (i := 5) rfl)), fun _ h => (List.not_mem_nil h).elim⟩⟩⟩⟩) (by decide +kernel)) ggX10_plan_X10_rowOf
theorem dX10_plan_0 : decode cX10_plan 0 = .ok (.iload_n 1, 1) := by decide +kernel
theorem dX10_plan_1 : decode cX10_plan 1 = .ok (.i2l, 1) := by decide +kernel
theorem dX10_plan_2 : decode cX10_plan 2 = .ok (.lconst 1, 1) := by decide +kernel
theorem dX10_plan_3 : decode cX10_plan 3 = .ok (.ldc2_w 470, 3) := by decide +kernel
theorem dX10_plan_6 : decode cX10_plan 6 = .ok (.invokestatic 183, 3) := by decide +kernel
theorem dX10_plan_9 : decode cX10_plan 9 = .ok (.ifCond .ne 5, 3) := by decide +kernel
theorem dX10_plan_12 : decode cX10_plan 12 = .ok (.iconst (-1), 1) := by decide +kernel
theorem dX10_plan_13 : decode cX10_plan 13 = .ok (.ireturn, 1) := by decide +kernel
theorem dX10_plan_14 : decode cX10_plan 14 = .ok (.iconst 0, 1) := by decide +kernel
theorem dX10_plan_15 : decode cX10_plan 15 = .ok (.istore_n 2, 1) := by decide +kernel
theorem dX10_plan_16 : decode cX10_plan 16 = .ok (.iload_n 2, 1) := by decide +kernel
theorem dX10_plan_17 : decode cX10_plan 17 = .ok (.bipush 60, 2) := by decide +kernel
theorem dX10_plan_19 : decode cX10_plan 19 = .ok (.if_icmp .ge 16, 3) := by decide +kernel
theorem dX10_plan_22 : decode cX10_plan 22 = .ok (.aload_n 0, 1) := by decide +kernel
theorem dX10_plan_23 : decode cX10_plan 23 = .ok (.getfield 125, 3) := by decide +kernel
theorem dX10_plan_26 : decode cX10_plan 26 = .ok (.iload_n 2, 1) := by decide +kernel
theorem dX10_plan_27 : decode cX10_plan 27 = .ok (.iconst 0, 1) := by decide +kernel
theorem dX10_plan_28 : decode cX10_plan 28 = .ok (.bastore, 1) := by decide +kernel
theorem dX10_plan_29 : decode cX10_plan 29 = .ok (.iinc 2 1, 3) := by decide +kernel
theorem dX10_plan_32 : decode cX10_plan 32 = .ok (.goto (-16), 3) := by decide +kernel
theorem dX10_plan_35 : decode cX10_plan 35 = .ok (.aload_n 0, 1) := by decide +kernel
theorem dX10_plan_36 : decode cX10_plan 36 = .ok (.invokevirtual 467, 3) := by decide +kernel
theorem dX10_plan_39 : decode cX10_plan 39 = .ok (.istore_n 2, 1) := by decide +kernel
theorem dX10_plan_40 : decode cX10_plan 40 = .ok (.iconst 0, 1) := by decide +kernel
theorem dX10_plan_41 : decode cX10_plan 41 = .ok (.istore_n 3, 1) := by decide +kernel
theorem dX10_plan_42 : decode cX10_plan 42 = .ok (.iload_n 3, 1) := by decide +kernel
theorem dX10_plan_43 : decode cX10_plan 43 = .ok (.iload_n 2, 1) := by decide +kernel
theorem dX10_plan_44 : decode cX10_plan 44 = .ok (.if_icmp .ge 104, 3) := by decide +kernel
theorem dX10_plan_47 : decode cX10_plan 47 = .ok (.iconst 0, 1) := by decide +kernel
theorem dX10_plan_48 : decode cX10_plan 48 = .ok (.istore 4, 2) := by decide +kernel
theorem dX10_plan_50 : decode cX10_plan 50 = .ok (.iconst 0, 1) := by decide +kernel
theorem dX10_plan_51 : decode cX10_plan 51 = .ok (.istore 5, 2) := by decide +kernel
theorem dX10_plan_53 : decode cX10_plan 53 = .ok (.iload 5, 2) := by decide +kernel
theorem dX10_plan_55 : decode cX10_plan 55 = .ok (.aload_n 0, 1) := by decide +kernel
theorem dX10_plan_56 : decode cX10_plan 56 = .ok (.invokevirtual 262, 3) := by decide +kernel
theorem dX10_plan_59 : decode cX10_plan 59 = .ok (.if_icmp .ge 83, 3) := by decide +kernel
theorem dX10_plan_62 : decode cX10_plan 62 = .ok (.iload 4, 2) := by decide +kernel
theorem dX10_plan_64 : decode cX10_plan 64 = .ok (.iload_n 1, 1) := by decide +kernel
theorem dX10_plan_65 : decode cX10_plan 65 = .ok (.if_icmp .ge 77, 3) := by decide +kernel
theorem dX10_plan_68 : decode cX10_plan 68 = .ok (.aload_n 0, 1) := by decide +kernel
theorem dX10_plan_69 : decode cX10_plan 69 = .ok (.aload_n 0, 1) := by decide +kernel
theorem dX10_plan_70 : decode cX10_plan 70 = .ok (.getfield 119, 3) := by decide +kernel
theorem dX10_plan_73 : decode cX10_plan 73 = .ok (.iload_n 3, 1) := by decide +kernel
theorem dX10_plan_74 : decode cX10_plan 74 = .ok (.iaload, 1) := by decide +kernel
theorem dX10_plan_75 : decode cX10_plan 75 = .ok (.bipush 100, 2) := by decide +kernel
theorem dX10_plan_77 : decode cX10_plan 77 = .ok (.idiv, 1) := by decide +kernel
theorem dX10_plan_78 : decode cX10_plan 78 = .ok (.iload 5, 2) := by decide +kernel
theorem dX10_plan_80 : decode cX10_plan 80 = .ok (.invokevirtual 290, 3) := by decide +kernel
theorem dX10_plan_83 : decode cX10_plan 83 = .ok (.istore 6, 2) := by decide +kernel
theorem dX10_plan_85 : decode cX10_plan 85 = .ok (.aload_n 0, 1) := by decide +kernel
theorem dX10_plan_86 : decode cX10_plan 86 = .ok (.aload_n 0, 1) := by decide +kernel
theorem dX10_plan_87 : decode cX10_plan 87 = .ok (.getfield 119, 3) := by decide +kernel
theorem dX10_plan_90 : decode cX10_plan 90 = .ok (.iload_n 3, 1) := by decide +kernel
theorem dX10_plan_91 : decode cX10_plan 91 = .ok (.iaload, 1) := by decide +kernel
theorem dX10_plan_92 : decode cX10_plan 92 = .ok (.bipush 100, 2) := by decide +kernel
theorem dX10_plan_94 : decode cX10_plan 94 = .ok (.irem, 1) := by decide +kernel
theorem dX10_plan_95 : decode cX10_plan 95 = .ok (.iload 5, 2) := by decide +kernel
theorem dX10_plan_97 : decode cX10_plan 97 = .ok (.invokevirtual 290, 3) := by decide +kernel
theorem dX10_plan_100 : decode cX10_plan 100 = .ok (.istore 7, 2) := by decide +kernel
theorem dX10_plan_102 : decode cX10_plan 102 = .ok (.iload 6, 2) := by decide +kernel
theorem dX10_plan_104 : decode cX10_plan 104 = .ok (.iconst (-1), 1) := by decide +kernel
theorem dX10_plan_105 : decode cX10_plan 105 = .ok (.if_icmp .eq 31, 3) := by decide +kernel
theorem dX10_plan_108 : decode cX10_plan 108 = .ok (.iload 7, 2) := by decide +kernel
theorem dX10_plan_110 : decode cX10_plan 110 = .ok (.iconst (-1), 1) := by decide +kernel
theorem dX10_plan_111 : decode cX10_plan 111 = .ok (.if_icmp .ne 6, 3) := by decide +kernel
theorem dX10_plan_114 : decode cX10_plan 114 = .ok (.goto 22, 3) := by decide +kernel
theorem dX10_plan_117 : decode cX10_plan 117 = .ok (.aload_n 0, 1) := by decide +kernel
theorem dX10_plan_118 : decode cX10_plan 118 = .ok (.getfield 125, 3) := by decide +kernel
theorem dX10_plan_121 : decode cX10_plan 121 = .ok (.iload 6, 2) := by decide +kernel
theorem dX10_plan_123 : decode cX10_plan 123 = .ok (.iconst 1, 1) := by decide +kernel
theorem dX10_plan_124 : decode cX10_plan 124 = .ok (.bastore, 1) := by decide +kernel
theorem dX10_plan_125 : decode cX10_plan 125 = .ok (.aload_n 0, 1) := by decide +kernel
theorem dX10_plan_126 : decode cX10_plan 126 = .ok (.getfield 125, 3) := by decide +kernel
theorem dX10_plan_129 : decode cX10_plan 129 = .ok (.iload 7, 2) := by decide +kernel
theorem dX10_plan_131 : decode cX10_plan 131 = .ok (.iconst 1, 1) := by decide +kernel
theorem dX10_plan_132 : decode cX10_plan 132 = .ok (.bastore, 1) := by decide +kernel
theorem dX10_plan_133 : decode cX10_plan 133 = .ok (.iinc 4 1, 3) := by decide +kernel
theorem dX10_plan_136 : decode cX10_plan 136 = .ok (.iinc 5 1, 3) := by decide +kernel
theorem dX10_plan_139 : decode cX10_plan 139 = .ok (.goto (-86), 3) := by decide +kernel
theorem dX10_plan_142 : decode cX10_plan 142 = .ok (.iinc 3 1, 3) := by decide +kernel
theorem dX10_plan_145 : decode cX10_plan 145 = .ok (.goto (-103), 3) := by decide +kernel
theorem dX10_plan_148 : decode cX10_plan 148 = .ok (.iconst 0, 1) := by decide +kernel
theorem dX10_plan_149 : decode cX10_plan 149 = .ok (.istore_n 3, 1) := by decide +kernel
theorem dX10_plan_150 : decode cX10_plan 150 = .ok (.iconst 0, 1) := by decide +kernel
theorem dX10_plan_151 : decode cX10_plan 151 = .ok (.istore 4, 2) := by decide +kernel
theorem dX10_plan_153 : decode cX10_plan 153 = .ok (.iload 4, 2) := by decide +kernel
theorem dX10_plan_155 : decode cX10_plan 155 = .ok (.bipush 60, 2) := by decide +kernel
theorem dX10_plan_157 : decode cX10_plan 157 = .ok (.if_icmp .ge 22, 3) := by decide +kernel
theorem dX10_plan_160 : decode cX10_plan 160 = .ok (.aload_n 0, 1) := by decide +kernel
theorem dX10_plan_161 : decode cX10_plan 161 = .ok (.getfield 125, 3) := by decide +kernel
theorem dX10_plan_164 : decode cX10_plan 164 = .ok (.iload 4, 2) := by decide +kernel
theorem dX10_plan_166 : decode cX10_plan 166 = .ok (.baload, 1) := by decide +kernel
theorem dX10_plan_167 : decode cX10_plan 167 = .ok (.ifCond .eq 6, 3) := by decide +kernel
theorem dX10_plan_170 : decode cX10_plan 170 = .ok (.iinc 3 1, 3) := by decide +kernel
theorem dX10_plan_173 : decode cX10_plan 173 = .ok (.iinc 4 1, 3) := by decide +kernel
theorem dX10_plan_176 : decode cX10_plan 176 = .ok (.goto (-23), 3) := by decide +kernel
theorem dX10_plan_179 : decode cX10_plan 179 = .ok (.iload_n 3, 1) := by decide +kernel
theorem dX10_plan_180 : decode cX10_plan 180 = .ok (.ireturn, 1) := by decide +kernel
theorem dX10_putsAside_0 : decode cX10_putsAside 0 = .ok (.iconst 0, 1) := by decide +kernel
theorem dX10_putsAside_1 : decode cX10_putsAside 1 = .ok (.istore_n 1, 1) := by decide +kernel
theorem dX10_putsAside_2 : decode cX10_putsAside 2 = .ok (.iload_n 1, 1) := by decide +kernel
theorem dX10_putsAside_3 : decode cX10_putsAside 3 = .ok (.bipush 76, 2) := by decide +kernel
theorem dX10_putsAside_5 : decode cX10_putsAside 5 = .ok (.if_icmp .ge 21, 3) := by decide +kernel
theorem dX10_putsAside_8 : decode cX10_putsAside 8 = .ok (.aload_n 0, 1) := by decide +kernel
theorem dX10_putsAside_9 : decode cX10_putsAside 9 = .ok (.getfield 128, 3) := by decide +kernel
theorem dX10_putsAside_12 : decode cX10_putsAside 12 = .ok (.iload_n 1, 1) := by decide +kernel
theorem dX10_putsAside_13 : decode cX10_putsAside 13 = .ok (.aload_n 0, 1) := by decide +kernel
theorem dX10_putsAside_14 : decode cX10_putsAside 14 = .ok (.getfield 101, 3) := by decide +kernel
theorem dX10_putsAside_17 : decode cX10_putsAside 17 = .ok (.iload_n 1, 1) := by decide +kernel
theorem dX10_putsAside_18 : decode cX10_putsAside 18 = .ok (.iaload, 1) := by decide +kernel
theorem dX10_putsAside_19 : decode cX10_putsAside 19 = .ok (.iastore, 1) := by decide +kernel
theorem dX10_putsAside_20 : decode cX10_putsAside 20 = .ok (.iinc 1 1, 3) := by decide +kernel
theorem dX10_putsAside_23 : decode cX10_putsAside 23 = .ok (.goto (-21), 3) := by decide +kernel
theorem dX10_putsAside_26 : decode cX10_putsAside 26 = .ok (.iconst 0, 1) := by decide +kernel
theorem dX10_putsAside_27 : decode cX10_putsAside 27 = .ok (.istore_n 1, 1) := by decide +kernel
theorem dX10_putsAside_28 : decode cX10_putsAside 28 = .ok (.iload_n 1, 1) := by decide +kernel
theorem dX10_putsAside_29 : decode cX10_putsAside 29 = .ok (.bipush 12, 2) := by decide +kernel
theorem dX10_putsAside_31 : decode cX10_putsAside 31 = .ok (.if_icmp .ge 21, 3) := by decide +kernel
theorem dX10_putsAside_34 : decode cX10_putsAside 34 = .ok (.aload_n 0, 1) := by decide +kernel
theorem dX10_putsAside_35 : decode cX10_putsAside 35 = .ok (.getfield 131, 3) := by decide +kernel
theorem dX10_putsAside_38 : decode cX10_putsAside 38 = .ok (.iload_n 1, 1) := by decide +kernel
theorem dX10_putsAside_39 : decode cX10_putsAside 39 = .ok (.aload_n 0, 1) := by decide +kernel
theorem dX10_putsAside_40 : decode cX10_putsAside 40 = .ok (.getfield 98, 3) := by decide +kernel
theorem dX10_putsAside_43 : decode cX10_putsAside 43 = .ok (.iload_n 1, 1) := by decide +kernel
theorem dX10_putsAside_44 : decode cX10_putsAside 44 = .ok (.iaload, 1) := by decide +kernel
theorem dX10_putsAside_45 : decode cX10_putsAside 45 = .ok (.iastore, 1) := by decide +kernel
theorem dX10_putsAside_46 : decode cX10_putsAside 46 = .ok (.iinc 1 1, 3) := by decide +kernel
theorem dX10_putsAside_49 : decode cX10_putsAside 49 = .ok (.goto (-21), 3) := by decide +kernel
theorem dX10_putsAside_52 : decode cX10_putsAside 52 = .ok (.aload_n 0, 1) := by decide +kernel
theorem dX10_putsAside_53 : decode cX10_putsAside 53 = .ok (.aload_n 0, 1) := by decide +kernel
theorem dX10_putsAside_54 : decode cX10_putsAside 54 = .ok (.getfield 95, 3) := by decide +kernel
theorem dX10_putsAside_57 : decode cX10_putsAside 57 = .ok (.putfield 472, 3) := by decide +kernel
theorem dX10_putsAside_60 : decode cX10_putsAside 60 = .ok (.return_, 1) := by decide +kernel
theorem dX10_takesBack_0 : decode cX10_takesBack 0 = .ok (.iconst 0, 1) := by decide +kernel
theorem dX10_takesBack_1 : decode cX10_takesBack 1 = .ok (.istore_n 1, 1) := by decide +kernel
theorem dX10_takesBack_2 : decode cX10_takesBack 2 = .ok (.iload_n 1, 1) := by decide +kernel
theorem dX10_takesBack_3 : decode cX10_takesBack 3 = .ok (.bipush 76, 2) := by decide +kernel
theorem dX10_takesBack_5 : decode cX10_takesBack 5 = .ok (.if_icmp .ge 21, 3) := by decide +kernel
theorem dX10_takesBack_8 : decode cX10_takesBack 8 = .ok (.aload_n 0, 1) := by decide +kernel
theorem dX10_takesBack_9 : decode cX10_takesBack 9 = .ok (.getfield 101, 3) := by decide +kernel
theorem dX10_takesBack_12 : decode cX10_takesBack 12 = .ok (.iload_n 1, 1) := by decide +kernel
theorem dX10_takesBack_13 : decode cX10_takesBack 13 = .ok (.aload_n 0, 1) := by decide +kernel
theorem dX10_takesBack_14 : decode cX10_takesBack 14 = .ok (.getfield 128, 3) := by decide +kernel
theorem dX10_takesBack_17 : decode cX10_takesBack 17 = .ok (.iload_n 1, 1) := by decide +kernel
theorem dX10_takesBack_18 : decode cX10_takesBack 18 = .ok (.iaload, 1) := by decide +kernel
theorem dX10_takesBack_19 : decode cX10_takesBack 19 = .ok (.iastore, 1) := by decide +kernel
theorem dX10_takesBack_20 : decode cX10_takesBack 20 = .ok (.iinc 1 1, 3) := by decide +kernel
theorem dX10_takesBack_23 : decode cX10_takesBack 23 = .ok (.goto (-21), 3) := by decide +kernel
theorem dX10_takesBack_26 : decode cX10_takesBack 26 = .ok (.iconst 0, 1) := by decide +kernel
theorem dX10_takesBack_27 : decode cX10_takesBack 27 = .ok (.istore_n 1, 1) := by decide +kernel
theorem dX10_takesBack_28 : decode cX10_takesBack 28 = .ok (.iload_n 1, 1) := by decide +kernel
theorem dX10_takesBack_29 : decode cX10_takesBack 29 = .ok (.bipush 12, 2) := by decide +kernel
theorem dX10_takesBack_31 : decode cX10_takesBack 31 = .ok (.if_icmp .ge 21, 3) := by decide +kernel
theorem dX10_takesBack_34 : decode cX10_takesBack 34 = .ok (.aload_n 0, 1) := by decide +kernel
theorem dX10_takesBack_35 : decode cX10_takesBack 35 = .ok (.getfield 98, 3) := by decide +kernel
