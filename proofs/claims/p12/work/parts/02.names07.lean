theorem gcX9_placeBySet__X9_placeBySet_r7 : ∀ w ∈ wsX9_placeBySet_r7, w ∈ wsX9_placeBySet := fun w h => List.mem_cons_of_mem _ (List.mem_append_left _ (List.mem_append_left _ (List.mem_append_left _ (List.mem_append_left _ (List.mem_append_left _ (List.mem_append_right _ (List.mem_append_right _ (List.mem_append_right _ (List.mem_append_right _ (List.mem_append_right _ (List.mem_append_right _ (List.mem_append_left _ (h)))))))))))))
set_option maxRecDepth 20000 in
theorem gmX9_placeBySet__X1_settle_r2 : ∀ w ∈ wsX1_settle_r2, w ∈ wsX9_placeBySet := List.forall_mem_cons.mpr ⟨(gcX9_placeBySet__X9_placeBySet_r6 _ (List.mem_of_getElem? (i := 9) rfl)), List.forall_mem_cons.mpr ⟨(gcX9_placeBySet__X9_placeBySet_r6 _ (List.mem_of_getElem? (i := 10) rfl)), List.forall_mem_cons.mpr ⟨(gcX9_placeBySet__X9_placeBySet_r6 _ (List.mem_of_getElem? (i := 11) rfl)), List.forall_mem_cons.mpr ⟨(gcX9_placeBySet__X9_placeBySet_r6 _ (List.mem_of_getElem? (i := 12) rfl)), List.forall_mem_cons.mpr ⟨(gcX9_placeBySet__X9_placeBySet_r6 _ (List.mem_of_getElem? (i := 13) rfl)), List.forall_mem_cons.mpr ⟨(gcX9_placeBySet__X9_placeBySet_r6 _ (List.mem_of_getElem? (i := 14) rfl)), List.forall_mem_cons.mpr ⟨(gcX9_placeBySet__X9_placeBySet_r6 _ (List.mem_of_getElem? (i := 15) rfl)), List.forall_mem_cons.mpr ⟨(gcX9_placeBySet__X9_placeBySet_r6 _ (List.mem_of_getElem? (i := 16) rfl)), List.forall_mem_cons.mpr ⟨(gcX9_placeBySet__X9_placeBySet_r6 _ (List.mem_of_getElem? (i := 17) rfl)), List.forall_mem_cons.mpr ⟨(gcX9_placeBySet__X9_placeBySet_r6 _ (List.mem_of_getElem? (i := 18) rfl)), List.forall_mem_cons.mpr ⟨(gcX9_placeBySet__X9_placeBySet_r6 _ (List.mem_of_getElem? (i := 19) rfl)), List.forall_mem_cons.mpr ⟨(gcX9_placeBySet__X9_placeBySet_r6 _ (List.mem_of_getElem? (i := 20) rfl)), List.forall_mem_cons.mpr ⟨(gcX9_placeBySet__X9_placeBySet_r6 _ (List.mem_of_getElem? (i := 21) rfl)), List.forall_mem_cons.mpr ⟨(gcX9_placeBySet__X9_placeBySet_r6 _ (List.mem_of_getElem? (i := 22) rfl)), List.forall_mem_cons.mpr ⟨(gcX9_placeBySet__X9_placeBySet_r6 _ (List.mem_of_getElem? (i := 23) rfl)), List.forall_mem_cons.mpr ⟨(gcX9_placeBySet__X9_placeBySet_r7 _ (List.mem_of_getElem? (i := 0) rfl)), List.forall_mem_cons.mpr ⟨(gcX9_placeBySet__X9_placeBySet_r2 _ (List.mem_of_getElem? (i := 1) rfl)), List.forall_mem_cons.mpr ⟨(gcX9_placeBySet__X9_placeBySet_r7 _ (List.mem_of_getElem? (i := 1) rfl)), List.forall_mem_cons.mpr ⟨(gcX9_placeBySet__X9_placeBySet_r7 _ (List.mem_of_getElem? (i := 2) rfl)), List.forall_mem_cons.mpr ⟨(gcX9_placeBySet__X9_placeBySet_r2 _ (List.mem_of_getElem? (i := 16) rfl)), List.forall_mem_cons.mpr ⟨(gcX9_placeBySet__X9_placeBySet_r2 _ (List.mem_of_getElem? (i := 17) rfl)), List.forall_mem_cons.mpr ⟨(gcX9_placeBySet__X9_placeBySet_r2 _ (List.mem_of_getElem? (i := 19) rfl)), List.forall_mem_cons.mpr ⟨(gcX9_placeBySet__X9_placeBySet_r2 _ (List.mem_of_getElem? (i := 20) rfl)), List.forall_mem_cons.mpr ⟨(gcX9_placeBySet__X9_placeBySet_r7 _ (List.mem_of_getElem? (i := 3) rfl)), fun _ h => (List.not_mem_nil h).elim⟩⟩⟩⟩⟩⟩⟩⟩⟩⟩⟩⟩⟩⟩⟩⟩⟩⟩⟩⟩⟩⟩⟩⟩
set_option maxRecDepth 20000 in
theorem gmX9_placeBySet__X1_settle_r3 : ∀ w ∈ wsX1_settle_r3, w ∈ wsX9_placeBySet := List.forall_mem_cons.mpr ⟨(gcX9_placeBySet__X9_placeBySet_r7 _ (List.mem_of_getElem? (i := 4) rfl)), List.forall_mem_cons.mpr ⟨(gcX9_placeBySet__X9_placeBySet_r7 _ (List.mem_of_getElem? (i := 5) rfl)), List.forall_mem_cons.mpr ⟨(gcX9_placeBySet__X9_placeBySet_r7 _ (List.mem_of_getElem? (i := 6) rfl)), List.forall_mem_cons.mpr ⟨(gcX9_placeBySet__X9_placeBySet_r7 _ (List.mem_of_getElem? (i := 7) rfl)), List.forall_mem_cons.mpr ⟨(gcX9_placeBySet__X9_placeBySet_r5 _ (List.mem_of_getElem? (i := 8) rfl)), List.forall_mem_cons.mpr ⟨(gcX9_placeBySet__X9_placeBySet_r5 _ (List.mem_of_getElem? (i := 9) rfl)), List.forall_mem_cons.mpr ⟨(gcX9_placeBySet__X9_placeBySet_r5 _ (List.mem_of_getElem? (i := 10) rfl)), List.forall_mem_cons.mpr ⟨(gcX9_placeBySet__X9_placeBySet_r5 _ (List.mem_of_getElem? (i := 11) rfl)), List.forall_mem_cons.mpr ⟨(gcX9_placeBySet__X9_placeBySet_r5 _ (List.mem_of_getElem? (i := 12) rfl)), List.forall_mem_cons.mpr ⟨(gcX9_placeBySet__X9_placeBySet_r7 _ (List.mem_of_getElem? (i := 8) rfl)), List.forall_mem_cons.mpr ⟨(gcX9_placeBySet__X9_placeBySet_r7 _ (List.mem_of_getElem? (i := 9) rfl)), List.forall_mem_cons.mpr ⟨(gcX9_placeBySet__X9_placeBySet_r7 _ (List.mem_of_getElem? (i := 10) rfl)), List.forall_mem_cons.mpr ⟨(gcX9_placeBySet__X9_placeBySet_r7 _ (List.mem_of_getElem? (i := 11) rfl)), List.forall_mem_cons.mpr ⟨(gcX9_placeBySet__X9_placeBySet_r7 _ (List.mem_of_getElem? (i := 12) rfl)), List.forall_mem_cons.mpr ⟨(gcX9_placeBySet__X9_placeBySet_r7 _ (List.mem_of_getElem? (i := 13) rfl)), List.forall_mem_cons.mpr ⟨(gcX9_placeBySet__X9_placeBySet_r7 _ (List.mem_of_getElem? (i := 14) rfl)), List.forall_mem_cons.mpr ⟨(gcX9_placeBySet__X9_placeBySet_r4 _ (List.mem_of_getElem? (i := 14) rfl)), List.forall_mem_cons.mpr ⟨(gcX9_placeBySet__X9_placeBySet_r7 _ (List.mem_of_getElem? (i := 16) rfl)), List.forall_mem_cons.mpr ⟨(gcX9_placeBySet__X9_placeBySet_r7 _ (List.mem_of_getElem? (i := 17) rfl)), List.forall_mem_cons.mpr ⟨(gcX9_placeBySet__X9_placeBySet_r7 _ (List.mem_of_getElem? (i := 18) rfl)), List.forall_mem_cons.mpr ⟨(gcX9_placeBySet__X9_placeBySet_r7 _ (List.mem_of_getElem? (i := 19) rfl)), List.forall_mem_cons.mpr ⟨(gcX9_placeBySet__X9_placeBySet_r7 _ (List.mem_of_getElem? (i := 20) rfl)), List.forall_mem_cons.mpr ⟨(gcX9_placeBySet__X9_placeBySet_r7 _ (List.mem_of_getElem? (i := 21) rfl)), List.forall_mem_cons.mpr ⟨(gcX9_placeBySet__X9_placeBySet_r7 _ (List.mem_of_getElem? (i := 22) rfl)), fun _ h => (List.not_mem_nil h).elim⟩⟩⟩⟩⟩⟩⟩⟩⟩⟩⟩⟩⟩⟩⟩⟩⟩⟩⟩⟩⟩⟩⟩⟩
theorem gcX9_placeBySet__X9_placeBySet_r8 : ∀ w ∈ wsX9_placeBySet_r8, w ∈ wsX9_placeBySet := fun w h => List.mem_cons_of_mem _ (List.mem_append_left _ (List.mem_append_left _ (List.mem_append_left _ (List.mem_append_left _ (List.mem_append_left _ (List.mem_append_right _ (List.mem_append_right _ (List.mem_append_right _ (List.mem_append_right _ (List.mem_append_right _ (List.mem_append_right _ (List.mem_append_right _ (h)))))))))))))
set_option maxRecDepth 20000 in
theorem gmX9_placeBySet__X1_settle_r4 : ∀ w ∈ wsX1_settle_r4, w ∈ wsX9_placeBySet := List.forall_mem_cons.mpr ⟨(gcX9_placeBySet__X9_placeBySet_r7 _ (List.mem_of_getElem? (i := 23) rfl)), List.forall_mem_cons.mpr ⟨(gcX9_placeBySet__X9_placeBySet_r8 _ (List.mem_of_getElem? (i := 0) rfl)), List.forall_mem_cons.mpr ⟨(gcX9_placeBySet__X9_placeBySet_r8 _ (List.mem_of_getElem? (i := 1) rfl)), List.forall_mem_cons.mpr ⟨(gcX9_placeBySet__X9_placeBySet_r8 _ (List.mem_of_getElem? (i := 2) rfl)), List.forall_mem_cons.mpr ⟨(gcX9_placeBySet__X9_placeBySet_r8 _ (List.mem_of_getElem? (i := 3) rfl)), List.forall_mem_cons.mpr ⟨(gcX9_placeBySet__X9_placeBySet_r8 _ (List.mem_of_getElem? (i := 4) rfl)), List.forall_mem_cons.mpr ⟨(gcX9_placeBySet__X9_placeBySet_r8 _ (List.mem_of_getElem? (i := 5) rfl)), List.forall_mem_cons.mpr ⟨(gcX9_placeBySet__X9_placeBySet_r8 _ (List.mem_of_getElem? (i := 6) rfl)), List.forall_mem_cons.mpr ⟨(gcX9_placeBySet__X9_placeBySet_r8 _ (List.mem_of_getElem? (i := 7) rfl)), List.forall_mem_cons.mpr ⟨(gcX9_placeBySet__X9_placeBySet_r8 _ (List.mem_of_getElem? (i := 8) rfl)), List.forall_mem_cons.mpr ⟨(gcX9_placeBySet__X9_placeBySet_r8 _ (List.mem_of_getElem? (i := 9) rfl)), List.forall_mem_cons.mpr ⟨(gcX9_placeBySet__X9_placeBySet_r8 _ (List.mem_of_getElem? (i := 10) rfl)), List.forall_mem_cons.mpr ⟨(gcX9_placeBySet__X9_placeBySet_r8 _ (List.mem_of_getElem? (i := 11) rfl)), fun _ h => (List.not_mem_nil h).elim⟩⟩⟩⟩⟩⟩⟩⟩⟩⟩⟩⟩⟩
theorem gcX9_placeBySet__X10 : ∀ w ∈ wsX10, w ∈ wsX9_placeBySet := fun w h => List.mem_cons_of_mem _ (List.mem_append_right _ (h))
set_option maxRecDepth 20000 in
theorem ggX9_placeBySet_X1_settle : GoodIn wsX9_placeBySet wsX1_settle := goodIn_sub (List.forall_mem_cons.mpr ⟨(gcX9_placeBySet__X9_placeBySet_r5 _ (List.mem_of_getElem? (i := 22) rfl)), List.forall_mem_append.mpr ⟨List.forall_mem_append.mpr ⟨List.forall_mem_append.mpr ⟨List.forall_mem_append.mpr ⟨gmX9_placeBySet__X1_settle_r1, List.forall_mem_append.mpr ⟨gmX9_placeBySet__X1_settle_r2, List.forall_mem_append.mpr ⟨gmX9_placeBySet__X1_settle_r3, gmX9_placeBySet__X1_settle_r4⟩⟩⟩, gcX9_placeBySet__X10⟩, gcX9_placeBySet__X80⟩, gcX9_placeBySet__X50⟩⟩) gwX1_settle
set_option maxRecDepth 20000 in
theorem gX9_placeBySet_X1_settle : GoodIn wsX9_placeBySet (wsV RX9 219 RX1 yX1_settle wsX1_settle) := goodIn_app (goodIn_sub (List.forall_mem_cons.mpr ⟨(gcX9_placeBySet__X9_placeBySet_r5 _ (List.mem_of_getElem? (i := 18) rfl)), List.forall_mem_cons.mpr ⟨(gcX9_placeBySet__X9_placeBySet_r5 _ (List.mem_of_getElem? (i := 19) rfl)), List.forall_mem_cons.mpr ⟨(gcX9_placeBySet__X9_placeBySet_r5 _ (List.mem_of_getElem? (i := 20) rfl)), List.forall_mem_cons.mpr ⟨(gcX9_placeBySet__X9_placeBySet_r5 _ (List.mem_of_getElem? (i := 21) rfl)), fun _ h => (List.not_mem_nil h).elim⟩⟩⟩⟩) (by decide +kernel)) ggX9_placeBySet_X1_settle
theorem dX9_placeBySet_0 : decode cX9_placeBySet 0 = .ok (.aload_n 0, 1) := by decide +kernel
theorem dX9_placeBySet_1 : decode cX9_placeBySet 1 = .ok (.getfield 41, 3) := by decide +kernel
theorem dX9_placeBySet_4 : decode cX9_placeBySet 4 = .ok (.iload_n 1, 1) := by decide +kernel
theorem dX9_placeBySet_5 : decode cX9_placeBySet 5 = .ok (.putfield 121, 3) := by decide +kernel
theorem dX9_placeBySet_8 : decode cX9_placeBySet 8 = .ok (.aload_n 0, 1) := by decide +kernel
theorem dX9_placeBySet_9 : decode cX9_placeBySet 9 = .ok (.getfield 56, 3) := by decide +kernel
theorem dX9_placeBySet_12 : decode cX9_placeBySet 12 = .ok (.invokevirtual 133, 3) := by decide +kernel
theorem dX9_placeBySet_15 : decode cX9_placeBySet 15 = .ok (.pop, 1) := by decide +kernel
theorem dX9_placeBySet_16 : decode cX9_placeBySet 16 = .ok (.aload_n 0, 1) := by decide +kernel
theorem dX9_placeBySet_17 : decode cX9_placeBySet 17 = .ok (.getfield 63, 3) := by decide +kernel
theorem dX9_placeBySet_20 : decode cX9_placeBySet 20 = .ok (.sipush 200, 3) := by decide +kernel
theorem dX9_placeBySet_23 : decode cX9_placeBySet 23 = .ok (.invokevirtual 219, 3) := by decide +kernel
theorem dX9_placeBySet_26 : decode cX9_placeBySet 26 = .ok (.pop, 1) := by decide +kernel
theorem dX9_placeBySet_27 : decode cX9_placeBySet 27 = .ok (.aload_n 0, 1) := by decide +kernel
theorem dX9_placeBySet_28 : decode cX9_placeBySet 28 = .ok (.getfield 41, 3) := by decide +kernel
theorem dX9_placeBySet_31 : decode cX9_placeBySet 31 = .ok (.getfield 166, 3) := by decide +kernel
theorem dX9_placeBySet_34 : decode cX9_placeBySet 34 = .ok (.iload_n 3, 1) := by decide +kernel
theorem dX9_placeBySet_35 : decode cX9_placeBySet 35 = .ok (.aaload, 1) := by decide +kernel
theorem dX9_placeBySet_36 : decode cX9_placeBySet 36 = .ok (.iload_n 2, 1) := by decide +kernel
theorem dX9_placeBySet_37 : decode cX9_placeBySet 37 = .ok (.iaload, 1) := by decide +kernel
theorem dX9_placeBySet_38 : decode cX9_placeBySet 38 = .ok (.ireturn, 1) := by decide +kernel
theorem gcX9_alters__X9_alters_r1 : ∀ w ∈ wsX9_alters_r1, w ∈ wsX9_alters := fun w h => List.mem_cons_of_mem _ (List.mem_append_left _ (List.mem_append_left _ (List.mem_append_left _ (List.mem_append_left _ (List.mem_append_left _ (h))))))
theorem gcX9_alters__X90 : ∀ w ∈ wsX90, w ∈ wsX9_alters := fun w h => List.mem_cons_of_mem _ (List.mem_append_left _ (List.mem_append_left _ (List.mem_append_left _ (List.mem_append_right _ (h)))))
theorem gcX9_alters__X80 : ∀ w ∈ wsX80, w ∈ wsX9_alters := fun w h => List.mem_cons_of_mem _ (List.mem_append_left _ (List.mem_append_left _ (List.mem_append_right _ (h))))
set_option maxRecDepth 20000 in
theorem gwX9_canMeasure : wsX9_canMeasure.all goodWord = true := by decide +kernel
set_option maxRecDepth 20000 in
theorem ggX9_alters_X9_canMeasure : GoodIn wsX9_alters wsX9_canMeasure := goodIn_sub (List.forall_mem_cons.mpr ⟨(gcX9_alters__X9_alters_r1 _ (List.mem_of_getElem? (i := 10) rfl)), List.forall_mem_append.mpr ⟨List.forall_mem_append.mpr ⟨List.forall_mem_cons.mpr ⟨(gcX9_alters__X9_alters_r1 _ (List.mem_of_getElem? (i := 0) rfl)), List.forall_mem_cons.mpr ⟨(gcX9_alters__X9_alters_r1 _ (List.mem_of_getElem? (i := 11) rfl)), List.forall_mem_cons.mpr ⟨(gcX9_alters__X9_alters_r1 _ (List.mem_of_getElem? (i := 12) rfl)), List.forall_mem_cons.mpr ⟨(gcX9_alters__X9_alters_r1 _ (List.mem_of_getElem? (i := 13) rfl)), List.forall_mem_cons.mpr ⟨(gcX9_alters__X9_alters_r1 _ (List.mem_of_getElem? (i := 14) rfl)), List.forall_mem_cons.mpr ⟨(gcX9_alters__X9_alters_r1 _ (List.mem_of_getElem? (i := 15) rfl)), List.forall_mem_cons.mpr ⟨(gcX9_alters__X9_alters_r1 _ (List.mem_of_getElem? (i := 16) rfl)), fun _ h => (List.not_mem_nil h).elim⟩⟩⟩⟩⟩⟩⟩, gcX9_alters__X90⟩, gcX9_alters__X80⟩⟩) gwX9_canMeasure
set_option maxRecDepth 20000 in
theorem gX9_alters_X9_canMeasure : GoodIn wsX9_alters (wsV RX9 316 RX9 yX9_canMeasure wsX9_canMeasure) := goodIn_app (goodIn_sub (List.forall_mem_cons.mpr ⟨(gcX9_alters__X9_alters_r1 _ (List.mem_of_getElem? (i := 6) rfl)), List.forall_mem_cons.mpr ⟨(gcX9_alters__X9_alters_r1 _ (List.mem_of_getElem? (i := 7) rfl)), List.forall_mem_cons.mpr ⟨(gcX9_alters__X9_alters_r1 _ (List.mem_of_getElem? (i := 8) rfl)), List.forall_mem_cons.mpr ⟨(gcX9_alters__X9_alters_r1 _ (List.mem_of_getElem? (i := 9) rfl)), fun _ h => (List.not_mem_nil h).elim⟩⟩⟩⟩) (by decide +kernel)) ggX9_alters_X9_canMeasure
theorem gcX9_alters__X9_alters_r2 : ∀ w ∈ wsX9_alters_r2, w ∈ wsX9_alters := fun w h => List.mem_cons_of_mem _ (List.mem_append_left _ (List.mem_append_left _ (List.mem_append_left _ (List.mem_append_left _ (List.mem_append_right _ (List.mem_append_left _ (h)))))))
theorem gcX9_alters__X50 : ∀ w ∈ wsX50, w ∈ wsX9_alters := fun w h => List.mem_cons_of_mem _ (List.mem_append_left _ (List.mem_append_right _ (h)))
set_option maxRecDepth 20000 in
theorem ggX9_alters_X5_takeFrom : GoodIn wsX9_alters wsX5_takeFrom := goodIn_sub (List.forall_mem_cons.mpr ⟨(gcX9_alters__X9_alters_r1 _ (List.mem_of_getElem? (i := 21) rfl)), List.forall_mem_append.mpr ⟨List.forall_mem_cons.mpr ⟨(gcX9_alters__X9_alters_r1 _ (List.mem_of_getElem? (i := 22) rfl)), List.forall_mem_cons.mpr ⟨(gcX9_alters__X9_alters_r1 _ (List.mem_of_getElem? (i := 23) rfl)), List.forall_mem_cons.mpr ⟨(gcX9_alters__X9_alters_r2 _ (List.mem_of_getElem? (i := 0) rfl)), List.forall_mem_cons.mpr ⟨(gcX9_alters__X9_alters_r2 _ (List.mem_of_getElem? (i := 1) rfl)), List.forall_mem_cons.mpr ⟨(gcX9_alters__X9_alters_r2 _ (List.mem_of_getElem? (i := 2) rfl)), List.forall_mem_cons.mpr ⟨(gcX9_alters__X9_alters_r2 _ (List.mem_of_getElem? (i := 3) rfl)), List.forall_mem_cons.mpr ⟨(gcX9_alters__X9_alters_r2 _ (List.mem_of_getElem? (i := 4) rfl)), List.forall_mem_cons.mpr ⟨(gcX9_alters__X9_alters_r1 _ (List.mem_of_getElem? (i := 9) rfl)), List.forall_mem_cons.mpr ⟨(gcX9_alters__X9_alters_r2 _ (List.mem_of_getElem? (i := 5) rfl)), List.forall_mem_cons.mpr ⟨(gcX9_alters__X9_alters_r2 _ (List.mem_of_getElem? (i := 6) rfl)), List.forall_mem_cons.mpr ⟨(gcX9_alters__X9_alters_r2 _ (List.mem_of_getElem? (i := 7) rfl)), List.forall_mem_cons.mpr ⟨(gcX9_alters__X9_alters_r2 _ (List.mem_of_getElem? (i := 8) rfl)), List.forall_mem_cons.mpr ⟨(gcX9_alters__X9_alters_r2 _ (List.mem_of_getElem? (i := 9) rfl)), List.forall_mem_cons.mpr ⟨(gcX9_alters__X9_alters_r2 _ (List.mem_of_getElem? (i := 10) rfl)), List.forall_mem_cons.mpr ⟨(gcX9_alters__X9_alters_r2 _ (List.mem_of_getElem? (i := 11) rfl)), List.forall_mem_cons.mpr ⟨(gcX9_alters__X9_alters_r2 _ (List.mem_of_getElem? (i := 12) rfl)), List.forall_mem_cons.mpr ⟨(gcX9_alters__X9_alters_r2 _ (List.mem_of_getElem? (i := 13) rfl)), fun _ h => (List.not_mem_nil h).elim⟩⟩⟩⟩⟩⟩⟩⟩⟩⟩⟩⟩⟩⟩⟩⟩⟩, gcX9_alters__X50⟩⟩) gwX5_takeFrom
set_option maxRecDepth 20000 in
theorem gX9_alters_X5_takeFrom : GoodIn wsX9_alters (wsV RX9 310 RX5 yX5_takeFrom wsX5_takeFrom) := goodIn_app (goodIn_sub (List.forall_mem_cons.mpr ⟨(gcX9_alters__X9_alters_r1 _ (List.mem_of_getElem? (i := 17) rfl)), List.forall_mem_cons.mpr ⟨(gcX9_alters__X9_alters_r1 _ (List.mem_of_getElem? (i := 18) rfl)), List.forall_mem_cons.mpr ⟨(gcX9_alters__X9_alters_r1 _ (List.mem_of_getElem? (i := 19) rfl)), List.forall_mem_cons.mpr ⟨(gcX9_alters__X9_alters_r1 _ (List.mem_of_getElem? (i := 20) rfl)), fun _ h => (List.not_mem_nil h).elim⟩⟩⟩⟩) (by decide +kernel)) ggX9_alters_X5_takeFrom
theorem gcX9_alters__X9_alters_r3 : ∀ w ∈ wsX9_alters_r3, w ∈ wsX9_alters := fun w h => List.mem_cons_of_mem _ (List.mem_append_left _ (List.mem_append_left _ (List.mem_append_left _ (List.mem_append_left _ (List.mem_append_right _ (List.mem_append_right _ (List.mem_append_left _ (h))))))))
set_option maxRecDepth 20000 in
theorem gmX9_alters__X1_settle_r1 : ∀ w ∈ wsX1_settle_r1, w ∈ wsX9_alters := List.forall_mem_cons.mpr ⟨(gcX9_alters__X9_alters_r2 _ (List.mem_of_getElem? (i := 19) rfl)), List.forall_mem_cons.mpr ⟨(gcX9_alters__X9_alters_r2 _ (List.mem_of_getElem? (i := 20) rfl)), List.forall_mem_cons.mpr ⟨(gcX9_alters__X9_alters_r2 _ (List.mem_of_getElem? (i := 21) rfl)), List.forall_mem_cons.mpr ⟨(gcX9_alters__X9_alters_r2 _ (List.mem_of_getElem? (i := 22) rfl)), List.forall_mem_cons.mpr ⟨(gcX9_alters__X9_alters_r2 _ (List.mem_of_getElem? (i := 23) rfl)), List.forall_mem_cons.mpr ⟨(gcX9_alters__X9_alters_r3 _ (List.mem_of_getElem? (i := 0) rfl)), List.forall_mem_cons.mpr ⟨(gcX9_alters__X9_alters_r3 _ (List.mem_of_getElem? (i := 1) rfl)), List.forall_mem_cons.mpr ⟨(gcX9_alters__X9_alters_r1 _ (List.mem_of_getElem? (i := 20) rfl)), List.forall_mem_cons.mpr ⟨(gcX9_alters__X9_alters_r3 _ (List.mem_of_getElem? (i := 2) rfl)), List.forall_mem_cons.mpr ⟨(gcX9_alters__X9_alters_r3 _ (List.mem_of_getElem? (i := 3) rfl)), List.forall_mem_cons.mpr ⟨(gcX9_alters__X9_alters_r1 _ (List.mem_of_getElem? (i := 23) rfl)), List.forall_mem_cons.mpr ⟨(gcX9_alters__X9_alters_r3 _ (List.mem_of_getElem? (i := 4) rfl)), List.forall_mem_cons.mpr ⟨(gcX9_alters__X9_alters_r3 _ (List.mem_of_getElem? (i := 5) rfl)), List.forall_mem_cons.mpr ⟨(gcX9_alters__X9_alters_r3 _ (List.mem_of_getElem? (i := 6) rfl)), List.forall_mem_cons.mpr ⟨(gcX9_alters__X9_alters_r3 _ (List.mem_of_getElem? (i := 7) rfl)), List.forall_mem_cons.mpr ⟨(gcX9_alters__X9_alters_r1 _ (List.mem_of_getElem? (i := 14) rfl)), List.forall_mem_cons.mpr ⟨(gcX9_alters__X9_alters_r3 _ (List.mem_of_getElem? (i := 8) rfl)), List.forall_mem_cons.mpr ⟨(gcX9_alters__X9_alters_r3 _ (List.mem_of_getElem? (i := 9) rfl)), List.forall_mem_cons.mpr ⟨(gcX9_alters__X9_alters_r3 _ (List.mem_of_getElem? (i := 10) rfl)), List.forall_mem_cons.mpr ⟨(gcX9_alters__X9_alters_r3 _ (List.mem_of_getElem? (i := 11) rfl)), List.forall_mem_cons.mpr ⟨(gcX9_alters__X9_alters_r3 _ (List.mem_of_getElem? (i := 12) rfl)), List.forall_mem_cons.mpr ⟨(gcX9_alters__X9_alters_r2 _ (List.mem_of_getElem? (i := 17) rfl)), List.forall_mem_cons.mpr ⟨(gcX9_alters__X9_alters_r3 _ (List.mem_of_getElem? (i := 13) rfl)), List.forall_mem_cons.mpr ⟨(gcX9_alters__X9_alters_r3 _ (List.mem_of_getElem? (i := 14) rfl)), fun _ h => (List.not_mem_nil h).elim⟩⟩⟩⟩⟩⟩⟩⟩⟩⟩⟩⟩⟩⟩⟩⟩⟩⟩⟩⟩⟩⟩⟩⟩
theorem gcX9_alters__X9_alters_r4 : ∀ w ∈ wsX9_alters_r4, w ∈ wsX9_alters := fun w h => List.mem_cons_of_mem _ (List.mem_append_left _ (List.mem_append_left _ (List.mem_append_left _ (List.mem_append_left _ (List.mem_append_right _ (List.mem_append_right _ (List.mem_append_right _ (List.mem_append_left _ (h)))))))))
set_option maxRecDepth 20000 in
theorem gmX9_alters__X1_settle_r2 : ∀ w ∈ wsX1_settle_r2, w ∈ wsX9_alters := List.forall_mem_cons.mpr ⟨(gcX9_alters__X9_alters_r3 _ (List.mem_of_getElem? (i := 15) rfl)), List.forall_mem_cons.mpr ⟨(gcX9_alters__X9_alters_r3 _ (List.mem_of_getElem? (i := 16) rfl)), List.forall_mem_cons.mpr ⟨(gcX9_alters__X9_alters_r3 _ (List.mem_of_getElem? (i := 17) rfl)), List.forall_mem_cons.mpr ⟨(gcX9_alters__X9_alters_r3 _ (List.mem_of_getElem? (i := 18) rfl)), List.forall_mem_cons.mpr ⟨(gcX9_alters__X9_alters_r3 _ (List.mem_of_getElem? (i := 19) rfl)), List.forall_mem_cons.mpr ⟨(gcX9_alters__X9_alters_r3 _ (List.mem_of_getElem? (i := 20) rfl)), List.forall_mem_cons.mpr ⟨(gcX9_alters__X9_alters_r3 _ (List.mem_of_getElem? (i := 21) rfl)), List.forall_mem_cons.mpr ⟨(gcX9_alters__X9_alters_r3 _ (List.mem_of_getElem? (i := 22) rfl)), List.forall_mem_cons.mpr ⟨(gcX9_alters__X9_alters_r3 _ (List.mem_of_getElem? (i := 23) rfl)), List.forall_mem_cons.mpr ⟨(gcX9_alters__X9_alters_r4 _ (List.mem_of_getElem? (i := 0) rfl)), List.forall_mem_cons.mpr ⟨(gcX9_alters__X9_alters_r4 _ (List.mem_of_getElem? (i := 1) rfl)), List.forall_mem_cons.mpr ⟨(gcX9_alters__X9_alters_r4 _ (List.mem_of_getElem? (i := 2) rfl)), List.forall_mem_cons.mpr ⟨(gcX9_alters__X9_alters_r4 _ (List.mem_of_getElem? (i := 3) rfl)), List.forall_mem_cons.mpr ⟨(gcX9_alters__X9_alters_r4 _ (List.mem_of_getElem? (i := 4) rfl)), List.forall_mem_cons.mpr ⟨(gcX9_alters__X9_alters_r4 _ (List.mem_of_getElem? (i := 5) rfl)), List.forall_mem_cons.mpr ⟨(gcX9_alters__X9_alters_r4 _ (List.mem_of_getElem? (i := 6) rfl)), List.forall_mem_cons.mpr ⟨(gcX9_alters__X9_alters_r4 _ (List.mem_of_getElem? (i := 7) rfl)), List.forall_mem_cons.mpr ⟨(gcX9_alters__X9_alters_r4 _ (List.mem_of_getElem? (i := 8) rfl)), List.forall_mem_cons.mpr ⟨(gcX9_alters__X9_alters_r4 _ (List.mem_of_getElem? (i := 9) rfl)), List.forall_mem_cons.mpr ⟨(gcX9_alters__X9_alters_r4 _ (List.mem_of_getElem? (i := 10) rfl)), List.forall_mem_cons.mpr ⟨(gcX9_alters__X9_alters_r4 _ (List.mem_of_getElem? (i := 11) rfl)), List.forall_mem_cons.mpr ⟨(gcX9_alters__X9_alters_r4 _ (List.mem_of_getElem? (i := 12) rfl)), List.forall_mem_cons.mpr ⟨(gcX9_alters__X9_alters_r2 _ (List.mem_of_getElem? (i := 0) rfl)), List.forall_mem_cons.mpr ⟨(gcX9_alters__X9_alters_r4 _ (List.mem_of_getElem? (i := 13) rfl)), fun _ h => (List.not_mem_nil h).elim⟩⟩⟩⟩⟩⟩⟩⟩⟩⟩⟩⟩⟩⟩⟩⟩⟩⟩⟩⟩⟩⟩⟩⟩
theorem gcX9_alters__X9_alters_r5 : ∀ w ∈ wsX9_alters_r5, w ∈ wsX9_alters := fun w h => List.mem_cons_of_mem _ (List.mem_append_left _ (List.mem_append_left _ (List.mem_append_left _ (List.mem_append_left _ (List.mem_append_right _ (List.mem_append_right _ (List.mem_append_right _ (List.mem_append_right _ (List.mem_append_left _ (h))))))))))
set_option maxRecDepth 20000 in
theorem gmX9_alters__X1_settle_r3 : ∀ w ∈ wsX1_settle_r3, w ∈ wsX9_alters := List.forall_mem_cons.mpr ⟨(gcX9_alters__X9_alters_r4 _ (List.mem_of_getElem? (i := 14) rfl)), List.forall_mem_cons.mpr ⟨(gcX9_alters__X9_alters_r4 _ (List.mem_of_getElem? (i := 15) rfl)), List.forall_mem_cons.mpr ⟨(gcX9_alters__X9_alters_r4 _ (List.mem_of_getElem? (i := 16) rfl)), List.forall_mem_cons.mpr ⟨(gcX9_alters__X9_alters_r4 _ (List.mem_of_getElem? (i := 17) rfl)), List.forall_mem_cons.mpr ⟨(gcX9_alters__X9_alters_r4 _ (List.mem_of_getElem? (i := 18) rfl)), List.forall_mem_cons.mpr ⟨(gcX9_alters__X9_alters_r4 _ (List.mem_of_getElem? (i := 19) rfl)), List.forall_mem_cons.mpr ⟨(gcX9_alters__X9_alters_r4 _ (List.mem_of_getElem? (i := 20) rfl)), List.forall_mem_cons.mpr ⟨(gcX9_alters__X9_alters_r4 _ (List.mem_of_getElem? (i := 21) rfl)), List.forall_mem_cons.mpr ⟨(gcX9_alters__X9_alters_r1 _ (List.mem_of_getElem? (i := 22) rfl)), List.forall_mem_cons.mpr ⟨(gcX9_alters__X9_alters_r4 _ (List.mem_of_getElem? (i := 22) rfl)), List.forall_mem_cons.mpr ⟨(gcX9_alters__X9_alters_r4 _ (List.mem_of_getElem? (i := 23) rfl)), List.forall_mem_cons.mpr ⟨(gcX9_alters__X9_alters_r5 _ (List.mem_of_getElem? (i := 0) rfl)), List.forall_mem_cons.mpr ⟨(gcX9_alters__X9_alters_r5 _ (List.mem_of_getElem? (i := 1) rfl)), List.forall_mem_cons.mpr ⟨(gcX9_alters__X9_alters_r5 _ (List.mem_of_getElem? (i := 2) rfl)), List.forall_mem_cons.mpr ⟨(gcX9_alters__X9_alters_r5 _ (List.mem_of_getElem? (i := 3) rfl)), List.forall_mem_cons.mpr ⟨(gcX9_alters__X9_alters_r5 _ (List.mem_of_getElem? (i := 4) rfl)), List.forall_mem_cons.mpr ⟨(gcX9_alters__X9_alters_r2 _ (List.mem_of_getElem? (i := 8) rfl)), List.forall_mem_cons.mpr ⟨(gcX9_alters__X9_alters_r5 _ (List.mem_of_getElem? (i := 6) rfl)), List.forall_mem_cons.mpr ⟨(gcX9_alters__X9_alters_r5 _ (List.mem_of_getElem? (i := 7) rfl)), List.forall_mem_cons.mpr ⟨(gcX9_alters__X9_alters_r5 _ (List.mem_of_getElem? (i := 8) rfl)), List.forall_mem_cons.mpr ⟨(gcX9_alters__X9_alters_r5 _ (List.mem_of_getElem? (i := 9) rfl)), List.forall_mem_cons.mpr ⟨(gcX9_alters__X9_alters_r5 _ (List.mem_of_getElem? (i := 10) rfl)), List.forall_mem_cons.mpr ⟨(gcX9_alters__X9_alters_r5 _ (List.mem_of_getElem? (i := 11) rfl)), List.forall_mem_cons.mpr ⟨(gcX9_alters__X9_alters_r5 _ (List.mem_of_getElem? (i := 12) rfl)), fun _ h => (List.not_mem_nil h).elim⟩⟩⟩⟩⟩⟩⟩⟩⟩⟩⟩⟩⟩⟩⟩⟩⟩⟩⟩⟩⟩⟩⟩⟩
theorem gcX9_alters__X9_alters_r6 : ∀ w ∈ wsX9_alters_r6, w ∈ wsX9_alters := fun w h => List.mem_cons_of_mem _ (List.mem_append_left _ (List.mem_append_left _ (List.mem_append_left _ (List.mem_append_left _ (List.mem_append_right _ (List.mem_append_right _ (List.mem_append_right _ (List.mem_append_right _ (List.mem_append_right _ (h))))))))))
set_option maxRecDepth 20000 in
theorem gmX9_alters__X1_settle_r4 : ∀ w ∈ wsX1_settle_r4, w ∈ wsX9_alters := List.forall_mem_cons.mpr ⟨(gcX9_alters__X9_alters_r5 _ (List.mem_of_getElem? (i := 13) rfl)), List.forall_mem_cons.mpr ⟨(gcX9_alters__X9_alters_r5 _ (List.mem_of_getElem? (i := 14) rfl)), List.forall_mem_cons.mpr ⟨(gcX9_alters__X9_alters_r5 _ (List.mem_of_getElem? (i := 15) rfl)), List.forall_mem_cons.mpr ⟨(gcX9_alters__X9_alters_r2 _ (List.mem_of_getElem? (i := 3) rfl)), List.forall_mem_cons.mpr ⟨(gcX9_alters__X9_alters_r5 _ (List.mem_of_getElem? (i := 16) rfl)), List.forall_mem_cons.mpr ⟨(gcX9_alters__X9_alters_r5 _ (List.mem_of_getElem? (i := 17) rfl)), List.forall_mem_cons.mpr ⟨(gcX9_alters__X9_alters_r5 _ (List.mem_of_getElem? (i := 18) rfl)), List.forall_mem_cons.mpr ⟨(gcX9_alters__X9_alters_r5 _ (List.mem_of_getElem? (i := 19) rfl)), List.forall_mem_cons.mpr ⟨(gcX9_alters__X9_alters_r5 _ (List.mem_of_getElem? (i := 20) rfl)), List.forall_mem_cons.mpr ⟨(gcX9_alters__X9_alters_r5 _ (List.mem_of_getElem? (i := 21) rfl)), List.forall_mem_cons.mpr ⟨(gcX9_alters__X9_alters_r5 _ (List.mem_of_getElem? (i := 22) rfl)), List.forall_mem_cons.mpr ⟨(gcX9_alters__X9_alters_r5 _ (List.mem_of_getElem? (i := 23) rfl)), List.forall_mem_cons.mpr ⟨(gcX9_alters__X9_alters_r6 _ (List.mem_of_getElem? (i := 0) rfl)), fun _ h => (List.not_mem_nil h).elim⟩⟩⟩⟩⟩⟩⟩⟩⟩⟩⟩⟩⟩
theorem gcX9_alters__X10 : ∀ w ∈ wsX10, w ∈ wsX9_alters := fun w h => List.mem_cons_of_mem _ (List.mem_append_right _ (h))
set_option maxRecDepth 20000 in
theorem ggX9_alters_X1_settle : GoodIn wsX9_alters wsX1_settle := goodIn_sub (List.forall_mem_cons.mpr ⟨(gcX9_alters__X9_alters_r2 _ (List.mem_of_getElem? (i := 18) rfl)), List.forall_mem_append.mpr ⟨List.forall_mem_append.mpr ⟨List.forall_mem_append.mpr ⟨List.forall_mem_append.mpr ⟨gmX9_alters__X1_settle_r1, List.forall_mem_append.mpr ⟨gmX9_alters__X1_settle_r2, List.forall_mem_append.mpr ⟨gmX9_alters__X1_settle_r3, gmX9_alters__X1_settle_r4⟩⟩⟩, gcX9_alters__X10⟩, gcX9_alters__X80⟩, gcX9_alters__X50⟩⟩) gwX1_settle
set_option maxRecDepth 20000 in
theorem gX9_alters_X1_settle : GoodIn wsX9_alters (wsV RX9 219 RX1 yX1_settle wsX1_settle) := goodIn_app (goodIn_sub (List.forall_mem_cons.mpr ⟨(gcX9_alters__X9_alters_r2 _ (List.mem_of_getElem? (i := 14) rfl)), List.forall_mem_cons.mpr ⟨(gcX9_alters__X9_alters_r2 _ (List.mem_of_getElem? (i := 15) rfl)), List.forall_mem_cons.mpr ⟨(gcX9_alters__X9_alters_r2 _ (List.mem_of_getElem? (i := 16) rfl)), List.forall_mem_cons.mpr ⟨(gcX9_alters__X9_alters_r2 _ (List.mem_of_getElem? (i := 17) rfl)), fun _ h => (List.not_mem_nil h).elim⟩⟩⟩⟩) (by decide +kernel)) ggX9_alters_X1_settle
set_option maxRecDepth 20000 in
theorem ggX9_alters_X8_setMeasured : GoodIn wsX9_alters wsX8_setMeasured := goodIn_sub (List.forall_mem_cons.mpr ⟨(gcX9_alters__X9_alters_r6 _ (List.mem_of_getElem? (i := 4) rfl)), List.forall_mem_append.mpr ⟨List.forall_mem_cons.mpr ⟨(gcX9_alters__X9_alters_r3 _ (List.mem_of_getElem? (i := 9) rfl)), fun _ h => (List.not_mem_nil h).elim⟩, gcX9_alters__X80⟩⟩) gwX8_setMeasured
set_option maxRecDepth 20000 in
theorem gX9_alters_X8_setMeasured : GoodIn wsX9_alters (wsV RX9 319 RX8 yX8_setMeasured wsX8_setMeasured) := goodIn_app (goodIn_sub (List.forall_mem_cons.mpr ⟨(gcX9_alters__X9_alters_r6 _ (List.mem_of_getElem? (i := 1) rfl)), List.forall_mem_cons.mpr ⟨(gcX9_alters__X9_alters_r6 _ (List.mem_of_getElem? (i := 2) rfl)), List.forall_mem_cons.mpr ⟨(gcX9_alters__X9_alters_r6 _ (List.mem_of_getElem? (i := 3) rfl)), List.forall_mem_cons.mpr ⟨(gcX9_alters__X9_alters_r1 _ (List.mem_of_getElem? (i := 14) rfl)), fun _ h => (List.not_mem_nil h).elim⟩⟩⟩⟩) (by decide +kernel)) ggX9_alters_X8_setMeasured
set_option maxRecDepth 20000 in
theorem gwX9_countMoved : wsX9_countMoved.all goodWord = true := by decide +kernel
set_option maxRecDepth 20000 in
theorem ggX9_alters_X9_countMoved : GoodIn wsX9_alters wsX9_countMoved := goodIn_sub (List.forall_mem_cons.mpr ⟨(gcX9_alters__X9_alters_r6 _ (List.mem_of_getElem? (i := 8) rfl)), List.forall_mem_append.mpr ⟨List.forall_mem_append.mpr ⟨List.forall_mem_append.mpr ⟨List.forall_mem_cons.mpr ⟨(gcX9_alters__X9_alters_r1 _ (List.mem_of_getElem? (i := 0) rfl)), List.forall_mem_cons.mpr ⟨(gcX9_alters__X9_alters_r6 _ (List.mem_of_getElem? (i := 9) rfl)), List.forall_mem_cons.mpr ⟨(gcX9_alters__X9_alters_r1 _ (List.mem_of_getElem? (i := 3) rfl)), List.forall_mem_cons.mpr ⟨(gcX9_alters__X9_alters_r6 _ (List.mem_of_getElem? (i := 10) rfl)), List.forall_mem_cons.mpr ⟨(gcX9_alters__X9_alters_r1 _ (List.mem_of_getElem? (i := 5) rfl)), List.forall_mem_cons.mpr ⟨(gcX9_alters__X9_alters_r6 _ (List.mem_of_getElem? (i := 11) rfl)), List.forall_mem_cons.mpr ⟨(gcX9_alters__X9_alters_r6 _ (List.mem_of_getElem? (i := 12) rfl)), List.forall_mem_cons.mpr ⟨(gcX9_alters__X9_alters_r2 _ (List.mem_of_getElem? (i := 8) rfl)), List.forall_mem_cons.mpr ⟨(gcX9_alters__X9_alters_r6 _ (List.mem_of_getElem? (i := 13) rfl)), fun _ h => (List.not_mem_nil h).elim⟩⟩⟩⟩⟩⟩⟩⟩⟩, gcX9_alters__X90⟩, gcX9_alters__X80⟩, gcX9_alters__X50⟩⟩) gwX9_countMoved
set_option maxRecDepth 20000 in
theorem gX9_alters_X9_countMoved : GoodIn wsX9_alters (wsV RX9 323 RX9 yX9_countMoved wsX9_countMoved) := goodIn_app (goodIn_sub (List.forall_mem_cons.mpr ⟨(gcX9_alters__X9_alters_r6 _ (List.mem_of_getElem? (i := 5) rfl)), List.forall_mem_cons.mpr ⟨(gcX9_alters__X9_alters_r6 _ (List.mem_of_getElem? (i := 6) rfl)), List.forall_mem_cons.mpr ⟨(gcX9_alters__X9_alters_r6 _ (List.mem_of_getElem? (i := 7) rfl)), List.forall_mem_cons.mpr ⟨(gcX9_alters__X9_alters_r1 _ (List.mem_of_getElem? (i := 9) rfl)), fun _ h => (List.not_mem_nil h).elim⟩⟩⟩⟩) (by decide +kernel)) ggX9_alters_X9_countMoved
theorem dX9_alters_0 : decode cX9_alters 0 = .ok (.aload_n 0, 1) := by decide +kernel
theorem dX9_alters_1 : decode cX9_alters 1 = .ok (.iload_n 1, 1) := by decide +kernel
theorem dX9_alters_2 : decode cX9_alters 2 = .ok (.iload_n 2, 1) := by decide +kernel
theorem dX9_alters_3 : decode cX9_alters 3 = .ok (.iload_n 3, 1) := by decide +kernel
theorem dX9_alters_4 : decode cX9_alters 4 = .ok (.invokevirtual 316, 3) := by decide +kernel
theorem dX9_alters_7 : decode cX9_alters 7 = .ok (.ifCond .eq 8, 3) := by decide +kernel
theorem dX9_alters_10 : decode cX9_alters 10 = .ok (.iload 4, 2) := by decide +kernel
theorem dX9_alters_12 : decode cX9_alters 12 = .ok (.ifCond .ge 5, 3) := by decide +kernel
theorem dX9_alters_15 : decode cX9_alters 15 = .ok (.iconst (-1), 1) := by decide +kernel
theorem dX9_alters_16 : decode cX9_alters 16 = .ok (.ireturn, 1) := by decide +kernel
theorem dX9_alters_17 : decode cX9_alters 17 = .ok (.aload_n 0, 1) := by decide +kernel
theorem dX9_alters_18 : decode cX9_alters 18 = .ok (.getfield 20, 3) := by decide +kernel
theorem dX9_alters_21 : decode cX9_alters 21 = .ok (.getfield 197, 3) := by decide +kernel
theorem dX9_alters_24 : decode cX9_alters 24 = .ok (.iconst 0, 1) := by decide +kernel
theorem dX9_alters_25 : decode cX9_alters 25 = .ok (.aaload, 1) := by decide +kernel
theorem dX9_alters_26 : decode cX9_alters 26 = .ok (.iload_n 1, 1) := by decide +kernel
theorem dX9_alters_27 : decode cX9_alters 27 = .ok (.iaload, 1) := by decide +kernel
theorem dX9_alters_28 : decode cX9_alters 28 = .ok (.istore 5, 2) := by decide +kernel
theorem dX9_alters_30 : decode cX9_alters 30 = .ok (.aload_n 0, 1) := by decide +kernel
theorem dX9_alters_31 : decode cX9_alters 31 = .ok (.getfield 20, 3) := by decide +kernel
theorem dX9_alters_34 : decode cX9_alters 34 = .ok (.getfield 197, 3) := by decide +kernel
theorem dX9_alters_37 : decode cX9_alters 37 = .ok (.iconst 1, 1) := by decide +kernel
theorem dX9_alters_38 : decode cX9_alters 38 = .ok (.aaload, 1) := by decide +kernel
theorem dX9_alters_39 : decode cX9_alters 39 = .ok (.iload_n 1, 1) := by decide +kernel
theorem dX9_alters_40 : decode cX9_alters 40 = .ok (.iaload, 1) := by decide +kernel
theorem dX9_alters_41 : decode cX9_alters 41 = .ok (.istore 6, 2) := by decide +kernel
theorem dX9_alters_43 : decode cX9_alters 43 = .ok (.aload_n 0, 1) := by decide +kernel
theorem dX9_alters_44 : decode cX9_alters 44 = .ok (.getfield 45, 3) := by decide +kernel
theorem dX9_alters_47 : decode cX9_alters 47 = .ok (.aload_n 0, 1) := by decide +kernel
theorem dX9_alters_48 : decode cX9_alters 48 = .ok (.getfield 41, 3) := by decide +kernel
theorem dX9_alters_51 : decode cX9_alters 51 = .ok (.invokevirtual 310, 3) := by decide +kernel
theorem dX9_alters_54 : decode cX9_alters 54 = .ok (.aload_n 0, 1) := by decide +kernel
theorem dX9_alters_55 : decode cX9_alters 55 = .ok (.getfield 63, 3) := by decide +kernel
theorem dX9_alters_58 : decode cX9_alters 58 = .ok (.sipush 200, 3) := by decide +kernel
theorem dX9_alters_61 : decode cX9_alters 61 = .ok (.invokevirtual 219, 3) := by decide +kernel
theorem dX9_alters_64 : decode cX9_alters 64 = .ok (.pop, 1) := by decide +kernel
theorem dX9_alters_65 : decode cX9_alters 65 = .ok (.aload_n 0, 1) := by decide +kernel
theorem dX9_alters_66 : decode cX9_alters 66 = .ok (.getfield 48, 3) := by decide +kernel
theorem dX9_alters_69 : decode cX9_alters 69 = .ok (.aload_n 0, 1) := by decide +kernel
theorem dX9_alters_70 : decode cX9_alters 70 = .ok (.getfield 41, 3) := by decide +kernel
theorem dX9_alters_73 : decode cX9_alters 73 = .ok (.invokevirtual 310, 3) := by decide +kernel
theorem dX9_alters_76 : decode cX9_alters 76 = .ok (.aload_n 0, 1) := by decide +kernel
theorem dX9_alters_77 : decode cX9_alters 77 = .ok (.getfield 41, 3) := by decide +kernel
theorem dX9_alters_80 : decode cX9_alters 80 = .ok (.aload_n 0, 1) := by decide +kernel
theorem dX9_alters_81 : decode cX9_alters 81 = .ok (.getfield 45, 3) := by decide +kernel
theorem dX9_alters_84 : decode cX9_alters 84 = .ok (.invokevirtual 310, 3) := by decide +kernel
theorem dX9_alters_87 : decode cX9_alters 87 = .ok (.aload_n 0, 1) := by decide +kernel
theorem dX9_alters_88 : decode cX9_alters 88 = .ok (.getfield 20, 3) := by decide +kernel
theorem dX9_alters_91 : decode cX9_alters 91 = .ok (.iload_n 1, 1) := by decide +kernel
theorem dX9_alters_92 : decode cX9_alters 92 = .ok (.iload_n 2, 1) := by decide +kernel
theorem dX9_alters_93 : decode cX9_alters 93 = .ok (.iload_n 3, 1) := by decide +kernel
theorem dX9_alters_94 : decode cX9_alters 94 = .ok (.invokevirtual 319, 3) := by decide +kernel
theorem dX9_alters_97 : decode cX9_alters 97 = .ok (.aload_n 0, 1) := by decide +kernel
theorem dX9_alters_98 : decode cX9_alters 98 = .ok (.getfield 63, 3) := by decide +kernel
theorem dX9_alters_101 : decode cX9_alters 101 = .ok (.sipush 200, 3) := by decide +kernel
theorem dX9_alters_104 : decode cX9_alters 104 = .ok (.invokevirtual 219, 3) := by decide +kernel
theorem dX9_alters_107 : decode cX9_alters 107 = .ok (.pop, 1) := by decide +kernel
theorem dX9_alters_108 : decode cX9_alters 108 = .ok (.aload_n 0, 1) := by decide +kernel
theorem dX9_alters_109 : decode cX9_alters 109 = .ok (.iload 4, 2) := by decide +kernel
theorem dX9_alters_111 : decode cX9_alters 111 = .ok (.invokevirtual 323, 3) := by decide +kernel
theorem dX9_alters_114 : decode cX9_alters 114 = .ok (.istore 7, 2) := by decide +kernel
theorem dX9_alters_116 : decode cX9_alters 116 = .ok (.aload_n 0, 1) := by decide +kernel
theorem dX9_alters_117 : decode cX9_alters 117 = .ok (.getfield 20, 3) := by decide +kernel
theorem dX9_alters_120 : decode cX9_alters 120 = .ok (.iload_n 1, 1) := by decide +kernel
theorem dX9_alters_121 : decode cX9_alters 121 = .ok (.iload 5, 2) := by decide +kernel
theorem dX9_alters_123 : decode cX9_alters 123 = .ok (.iload 6, 2) := by decide +kernel
theorem dX9_alters_125 : decode cX9_alters 125 = .ok (.invokevirtual 319, 3) := by decide +kernel
theorem dX9_alters_128 : decode cX9_alters 128 = .ok (.aload_n 0, 1) := by decide +kernel
theorem dX9_alters_129 : decode cX9_alters 129 = .ok (.getfield 41, 3) := by decide +kernel
theorem dX9_alters_132 : decode cX9_alters 132 = .ok (.aload_n 0, 1) := by decide +kernel
theorem dX9_alters_133 : decode cX9_alters 133 = .ok (.getfield 45, 3) := by decide +kernel
theorem dX9_alters_136 : decode cX9_alters 136 = .ok (.invokevirtual 310, 3) := by decide +kernel
theorem dX9_alters_139 : decode cX9_alters 139 = .ok (.iload 7, 2) := by decide +kernel
theorem dX9_alters_141 : decode cX9_alters 141 = .ok (.ireturn, 1) := by decide +kernel
theorem dX9_countMoved_0 : decode cX9_countMoved 0 = .ok (.iconst 0, 1) := by decide +kernel
theorem dX9_countMoved_1 : decode cX9_countMoved 1 = .ok (.istore_n 2, 1) := by decide +kernel
theorem dX9_countMoved_2 : decode cX9_countMoved 2 = .ok (.iconst 0, 1) := by decide +kernel
theorem dX9_countMoved_3 : decode cX9_countMoved 3 = .ok (.istore_n 3, 1) := by decide +kernel
theorem dX9_countMoved_4 : decode cX9_countMoved 4 = .ok (.iload_n 3, 1) := by decide +kernel
theorem dX9_countMoved_5 : decode cX9_countMoved 5 = .ok (.aload_n 0, 1) := by decide +kernel
theorem dX9_countMoved_6 : decode cX9_countMoved 6 = .ok (.getfield 20, 3) := by decide +kernel
theorem dX9_countMoved_9 : decode cX9_countMoved 9 = .ok (.getfield 137, 3) := by decide +kernel
theorem dX9_countMoved_12 : decode cX9_countMoved 12 = .ok (.iconst 1, 1) := by decide +kernel
theorem dX9_countMoved_13 : decode cX9_countMoved 13 = .ok (.iaload, 1) := by decide +kernel
theorem dX9_countMoved_14 : decode cX9_countMoved 14 = .ok (.if_icmp .ge 80, 3) := by decide +kernel
theorem dX9_countMoved_17 : decode cX9_countMoved 17 = .ok (.aload_n 0, 1) := by decide +kernel
theorem dX9_countMoved_18 : decode cX9_countMoved 18 = .ok (.getfield 41, 3) := by decide +kernel
theorem dX9_countMoved_21 : decode cX9_countMoved 21 = .ok (.getfield 166, 3) := by decide +kernel
theorem dX9_countMoved_24 : decode cX9_countMoved 24 = .ok (.iconst 0, 1) := by decide +kernel
theorem dX9_countMoved_25 : decode cX9_countMoved 25 = .ok (.aaload, 1) := by decide +kernel
theorem dX9_countMoved_26 : decode cX9_countMoved 26 = .ok (.iload_n 3, 1) := by decide +kernel
theorem dX9_countMoved_27 : decode cX9_countMoved 27 = .ok (.iaload, 1) := by decide +kernel
theorem dX9_countMoved_28 : decode cX9_countMoved 28 = .ok (.aload_n 0, 1) := by decide +kernel
theorem dX9_countMoved_29 : decode cX9_countMoved 29 = .ok (.getfield 48, 3) := by decide +kernel
theorem dX9_countMoved_32 : decode cX9_countMoved 32 = .ok (.getfield 166, 3) := by decide +kernel
theorem dX9_countMoved_35 : decode cX9_countMoved 35 = .ok (.iconst 0, 1) := by decide +kernel
theorem dX9_countMoved_36 : decode cX9_countMoved 36 = .ok (.aaload, 1) := by decide +kernel
theorem dX9_countMoved_37 : decode cX9_countMoved 37 = .ok (.iload_n 3, 1) := by decide +kernel
theorem dX9_countMoved_38 : decode cX9_countMoved 38 = .ok (.iaload, 1) := by decide +kernel
theorem dX9_countMoved_39 : decode cX9_countMoved 39 = .ok (.isub, 1) := by decide +kernel
theorem dX9_countMoved_40 : decode cX9_countMoved 40 = .ok (.invokestatic 326, 3) := by decide +kernel
theorem dX9_countMoved_43 : decode cX9_countMoved 43 = .ok (.istore 4, 2) := by decide +kernel
theorem dX9_countMoved_45 : decode cX9_countMoved 45 = .ok (.aload_n 0, 1) := by decide +kernel
theorem dX9_countMoved_46 : decode cX9_countMoved 46 = .ok (.getfield 41, 3) := by decide +kernel
theorem dX9_countMoved_49 : decode cX9_countMoved 49 = .ok (.getfield 166, 3) := by decide +kernel
theorem dX9_countMoved_52 : decode cX9_countMoved 52 = .ok (.iconst 1, 1) := by decide +kernel
theorem dX9_countMoved_53 : decode cX9_countMoved 53 = .ok (.aaload, 1) := by decide +kernel
theorem dX9_countMoved_54 : decode cX9_countMoved 54 = .ok (.iload_n 3, 1) := by decide +kernel
theorem dX9_countMoved_55 : decode cX9_countMoved 55 = .ok (.iaload, 1) := by decide +kernel
theorem dX9_countMoved_56 : decode cX9_countMoved 56 = .ok (.aload_n 0, 1) := by decide +kernel
theorem dX9_countMoved_57 : decode cX9_countMoved 57 = .ok (.getfield 48, 3) := by decide +kernel
theorem dX9_countMoved_60 : decode cX9_countMoved 60 = .ok (.getfield 166, 3) := by decide +kernel
theorem dX9_countMoved_63 : decode cX9_countMoved 63 = .ok (.iconst 1, 1) := by decide +kernel
theorem dX9_countMoved_64 : decode cX9_countMoved 64 = .ok (.aaload, 1) := by decide +kernel
theorem dX9_countMoved_65 : decode cX9_countMoved 65 = .ok (.iload_n 3, 1) := by decide +kernel
theorem dX9_countMoved_66 : decode cX9_countMoved 66 = .ok (.iaload, 1) := by decide +kernel
theorem dX9_countMoved_67 : decode cX9_countMoved 67 = .ok (.isub, 1) := by decide +kernel
theorem dX9_countMoved_68 : decode cX9_countMoved 68 = .ok (.invokestatic 326, 3) := by decide +kernel
theorem dX9_countMoved_71 : decode cX9_countMoved 71 = .ok (.istore 5, 2) := by decide +kernel
theorem dX9_countMoved_73 : decode cX9_countMoved 73 = .ok (.iload 4, 2) := by decide +kernel
theorem dX9_countMoved_75 : decode cX9_countMoved 75 = .ok (.iload_n 1, 1) := by decide +kernel
theorem dX9_countMoved_76 : decode cX9_countMoved 76 = .ok (.if_icmp .gt 9, 3) := by decide +kernel
theorem dX9_countMoved_79 : decode cX9_countMoved 79 = .ok (.iload 5, 2) := by decide +kernel
theorem dX9_countMoved_81 : decode cX9_countMoved 81 = .ok (.iload_n 1, 1) := by decide +kernel
theorem dX9_countMoved_82 : decode cX9_countMoved 82 = .ok (.if_icmp .le 6, 3) := by decide +kernel
theorem dX9_countMoved_85 : decode cX9_countMoved 85 = .ok (.iinc 2 1, 3) := by decide +kernel
theorem dX9_countMoved_88 : decode cX9_countMoved 88 = .ok (.iinc 3 1, 3) := by decide +kernel
theorem dX9_countMoved_91 : decode cX9_countMoved 91 = .ok (.goto (-87), 3) := by decide +kernel
theorem dX9_countMoved_94 : decode cX9_countMoved 94 = .ok (.iload_n 2, 1) := by decide +kernel
theorem dX9_countMoved_95 : decode cX9_countMoved 95 = .ok (.ireturn, 1) := by decide +kernel
theorem gcX9_measure__X90 : ∀ w ∈ wsX90, w ∈ wsX9_measure := fun w h => List.mem_cons_of_mem _ (List.mem_append_left _ (List.mem_append_right _ (h)))
theorem gcX9_measure__X80 : ∀ w ∈ wsX80, w ∈ wsX9_measure := fun w h => List.mem_cons_of_mem _ (List.mem_append_right _ (h))
set_option maxRecDepth 20000 in
theorem ggX9_measure_X9_canMeasure : GoodIn wsX9_measure wsX9_canMeasure := goodIn_sub (List.forall_mem_cons.mpr ⟨(List.mem_of_getElem? (i := 6) rfl), List.forall_mem_append.mpr ⟨List.forall_mem_append.mpr ⟨List.forall_mem_cons.mpr ⟨(List.mem_of_getElem? (i := 1) rfl), List.forall_mem_cons.mpr ⟨(List.mem_of_getElem? (i := 7) rfl), List.forall_mem_cons.mpr ⟨(List.mem_of_getElem? (i := 8) rfl), List.forall_mem_cons.mpr ⟨(List.mem_of_getElem? (i := 9) rfl), List.forall_mem_cons.mpr ⟨(List.mem_of_getElem? (i := 10) rfl), List.forall_mem_cons.mpr ⟨(List.mem_of_getElem? (i := 11) rfl), List.forall_mem_cons.mpr ⟨(List.mem_of_getElem? (i := 12) rfl), fun _ h => (List.not_mem_nil h).elim⟩⟩⟩⟩⟩⟩⟩, gcX9_measure__X90⟩, gcX9_measure__X80⟩⟩) gwX9_canMeasure
set_option maxRecDepth 20000 in
theorem gX9_measure_X9_canMeasure : GoodIn wsX9_measure (wsV RX9 316 RX9 yX9_canMeasure wsX9_canMeasure) := goodIn_app (goodIn_sub (List.forall_mem_cons.mpr ⟨(List.mem_of_getElem? (i := 2) rfl), List.forall_mem_cons.mpr ⟨(List.mem_of_getElem? (i := 3) rfl), List.forall_mem_cons.mpr ⟨(List.mem_of_getElem? (i := 4) rfl), List.forall_mem_cons.mpr ⟨(List.mem_of_getElem? (i := 5) rfl), fun _ h => (List.not_mem_nil h).elim⟩⟩⟩⟩) (by decide +kernel)) ggX9_measure_X9_canMeasure
set_option maxRecDepth 20000 in
theorem ggX9_measure_X8_setMeasured : GoodIn wsX9_measure wsX8_setMeasured := goodIn_sub (List.forall_mem_cons.mpr ⟨(List.mem_of_getElem? (i := 16) rfl), List.forall_mem_append.mpr ⟨List.forall_mem_cons.mpr ⟨(List.mem_of_getElem? (i := 17) rfl), fun _ h => (List.not_mem_nil h).elim⟩, gcX9_measure__X80⟩⟩) gwX8_setMeasured
set_option maxRecDepth 20000 in
theorem gX9_measure_X8_setMeasured : GoodIn wsX9_measure (wsV RX9 319 RX8 yX8_setMeasured wsX8_setMeasured) := goodIn_app (goodIn_sub (List.forall_mem_cons.mpr ⟨(List.mem_of_getElem? (i := 13) rfl), List.forall_mem_cons.mpr ⟨(List.mem_of_getElem? (i := 14) rfl), List.forall_mem_cons.mpr ⟨(List.mem_of_getElem? (i := 15) rfl), List.forall_mem_cons.mpr ⟨(List.mem_of_getElem? (i := 10) rfl), fun _ h => (List.not_mem_nil h).elim⟩⟩⟩⟩) (by decide +kernel)) ggX9_measure_X8_setMeasured
theorem dX9_measure_0 : decode cX9_measure 0 = .ok (.aload_n 0, 1) := by decide +kernel
theorem dX9_measure_1 : decode cX9_measure 1 = .ok (.iload_n 1, 1) := by decide +kernel
theorem dX9_measure_2 : decode cX9_measure 2 = .ok (.iload_n 2, 1) := by decide +kernel
theorem dX9_measure_3 : decode cX9_measure 3 = .ok (.iload_n 3, 1) := by decide +kernel
theorem dX9_measure_4 : decode cX9_measure 4 = .ok (.invokevirtual 316, 3) := by decide +kernel
theorem dX9_measure_7 : decode cX9_measure 7 = .ok (.ifCond .ne 5, 3) := by decide +kernel
theorem dX9_measure_10 : decode cX9_measure 10 = .ok (.iconst 0, 1) := by decide +kernel
theorem dX9_measure_11 : decode cX9_measure 11 = .ok (.ireturn, 1) := by decide +kernel
theorem dX9_measure_12 : decode cX9_measure 12 = .ok (.aload_n 0, 1) := by decide +kernel
theorem dX9_measure_13 : decode cX9_measure 13 = .ok (.getfield 20, 3) := by decide +kernel
theorem dX9_measure_16 : decode cX9_measure 16 = .ok (.iload_n 1, 1) := by decide +kernel
theorem dX9_measure_17 : decode cX9_measure 17 = .ok (.iload_n 2, 1) := by decide +kernel
theorem dX9_measure_18 : decode cX9_measure 18 = .ok (.iload_n 3, 1) := by decide +kernel
theorem dX9_measure_19 : decode cX9_measure 19 = .ok (.invokevirtual 319, 3) := by decide +kernel
theorem dX9_measure_22 : decode cX9_measure 22 = .ok (.iconst 1, 1) := by decide +kernel
theorem dX9_measure_23 : decode cX9_measure 23 = .ok (.ireturn, 1) := by decide +kernel
theorem gcX9_canMeasure__X80 : ∀ w ∈ wsX80, w ∈ wsX9_canMeasure := fun w h => List.mem_cons_of_mem _ (List.mem_append_right _ (h))
set_option maxRecDepth 20000 in
theorem ggX9_canMeasure_X8_exists : GoodIn wsX9_canMeasure wsX8_exists := goodIn_sub (List.forall_mem_cons.mpr ⟨(List.mem_of_getElem? (i := 6) rfl), List.forall_mem_append.mpr ⟨List.forall_mem_cons.mpr ⟨(List.mem_of_getElem? (i := 7) rfl), fun _ h => (List.not_mem_nil h).elim⟩, gcX9_canMeasure__X80⟩⟩) gwX8_exists
set_option maxRecDepth 20000 in
theorem gX9_canMeasure_X8_exists : GoodIn wsX9_canMeasure (wsV RX9 150 RX8 yX8_exists wsX8_exists) := goodIn_app (goodIn_sub (List.forall_mem_cons.mpr ⟨(List.mem_of_getElem? (i := 2) rfl), List.forall_mem_cons.mpr ⟨(List.mem_of_getElem? (i := 3) rfl), List.forall_mem_cons.mpr ⟨(List.mem_of_getElem? (i := 4) rfl), List.forall_mem_cons.mpr ⟨(List.mem_of_getElem? (i := 5) rfl), fun _ h => (List.not_mem_nil h).elim⟩⟩⟩⟩) (by decide +kernel)) ggX9_canMeasure_X8_exists
theorem dX9_canMeasure_0 : decode cX9_canMeasure 0 = .ok (.aload_n 0, 1) := by decide +kernel
theorem dX9_canMeasure_1 : decode cX9_canMeasure 1 = .ok (.getfield 20, 3) := by decide +kernel
theorem dX9_canMeasure_4 : decode cX9_canMeasure 4 = .ok (.iconst 3, 1) := by decide +kernel
theorem dX9_canMeasure_5 : decode cX9_canMeasure 5 = .ok (.iload_n 1, 1) := by decide +kernel
theorem dX9_canMeasure_6 : decode cX9_canMeasure 6 = .ok (.invokevirtual 150, 3) := by decide +kernel
theorem dX9_canMeasure_9 : decode cX9_canMeasure 9 = .ok (.ifCond .eq 29, 3) := by decide +kernel
theorem dX9_canMeasure_12 : decode cX9_canMeasure 12 = .ok (.iload_n 2, 1) := by decide +kernel
theorem dX9_canMeasure_13 : decode cX9_canMeasure 13 = .ok (.ifCond .lt 25, 3) := by decide +kernel
theorem dX9_canMeasure_16 : decode cX9_canMeasure 16 = .ok (.iload_n 2, 1) := by decide +kernel
theorem dX9_canMeasure_17 : decode cX9_canMeasure 17 = .ok (.sipush 9999, 3) := by decide +kernel
theorem dX9_canMeasure_20 : decode cX9_canMeasure 20 = .ok (.if_icmp .gt 18, 3) := by decide +kernel
theorem dX9_canMeasure_23 : decode cX9_canMeasure 23 = .ok (.iload_n 3, 1) := by decide +kernel
theorem dX9_canMeasure_24 : decode cX9_canMeasure 24 = .ok (.ifCond .lt 14, 3) := by decide +kernel
theorem dX9_canMeasure_27 : decode cX9_canMeasure 27 = .ok (.iload_n 3, 1) := by decide +kernel
theorem dX9_canMeasure_28 : decode cX9_canMeasure 28 = .ok (.sipush 9999, 3) := by decide +kernel
theorem dX9_canMeasure_31 : decode cX9_canMeasure 31 = .ok (.if_icmp .gt 7, 3) := by decide +kernel
theorem dX9_canMeasure_34 : decode cX9_canMeasure 34 = .ok (.iconst 1, 1) := by decide +kernel
theorem dX9_canMeasure_35 : decode cX9_canMeasure 35 = .ok (.goto 4, 3) := by decide +kernel
theorem dX9_canMeasure_38 : decode cX9_canMeasure 38 = .ok (.iconst 0, 1) := by decide +kernel
theorem dX9_canMeasure_39 : decode cX9_canMeasure 39 = .ok (.ireturn, 1) := by decide +kernel
theorem gcX9_slips__X9_slips_r1 : ∀ w ∈ wsX9_slips_r1, w ∈ wsX9_slips := fun w h => List.mem_cons_of_mem _ (List.mem_append_left _ (List.mem_append_left _ (List.mem_append_left _ (h))))
set_option maxRecDepth 20000 in
theorem gwX9_nextDraw : wsX9_nextDraw.all goodWord = true := by decide +kernel
set_option maxRecDepth 20000 in
theorem ggX9_slips_X9_nextDraw : GoodIn wsX9_slips wsX9_nextDraw := goodIn_sub (List.forall_mem_cons.mpr ⟨(gcX9_slips__X9_slips_r1 _ (List.mem_of_getElem? (i := 6) rfl)), List.forall_mem_cons.mpr ⟨(gcX9_slips__X9_slips_r1 _ (List.mem_of_getElem? (i := 7) rfl)), List.forall_mem_cons.mpr ⟨(gcX9_slips__X9_slips_r1 _ (List.mem_of_getElem? (i := 8) rfl)), List.forall_mem_cons.mpr ⟨(gcX9_slips__X9_slips_r1 _ (List.mem_of_getElem? (i := 9) rfl)), fun _ h => (List.not_mem_nil h).elim⟩⟩⟩⟩) gwX9_nextDraw
set_option maxRecDepth 20000 in
theorem gX9_slips_X9_nextDraw : GoodIn wsX9_slips (va_wsS RX9 329 yX9_nextDraw wsX9_nextDraw) := goodIn_app (goodIn_sub (List.forall_mem_cons.mpr ⟨(gcX9_slips__X9_slips_r1 _ (List.mem_of_getElem? (i := 3) rfl)), List.forall_mem_cons.mpr ⟨(gcX9_slips__X9_slips_r1 _ (List.mem_of_getElem? (i := 4) rfl)), List.forall_mem_cons.mpr ⟨(gcX9_slips__X9_slips_r1 _ (List.mem_of_getElem? (i := 5) rfl)), fun _ h => (List.not_mem_nil h).elim⟩⟩⟩) (by decide +kernel)) ggX9_slips_X9_nextDraw
set_option maxRecDepth 20000 in
theorem gwX9_drawn : wsX9_drawn.all goodWord = true := by decide +kernel
set_option maxRecDepth 20000 in
theorem ggX9_slips_X9_drawn : GoodIn wsX9_slips wsX9_drawn := goodIn_sub (List.forall_mem_cons.mpr ⟨(gcX9_slips__X9_slips_r1 _ (List.mem_of_getElem? (i := 12) rfl)), List.forall_mem_cons.mpr ⟨(gcX9_slips__X9_slips_r1 _ (List.mem_of_getElem? (i := 13) rfl)), fun _ h => (List.not_mem_nil h).elim⟩⟩) gwX9_drawn
set_option maxRecDepth 20000 in
theorem gX9_slips_X9_drawn : GoodIn wsX9_slips (va_wsS RX9 333 yX9_drawn wsX9_drawn) := goodIn_app (goodIn_sub (List.forall_mem_cons.mpr ⟨(gcX9_slips__X9_slips_r1 _ (List.mem_of_getElem? (i := 10) rfl)), List.forall_mem_cons.mpr ⟨(gcX9_slips__X9_slips_r1 _ (List.mem_of_getElem? (i := 11) rfl)), List.forall_mem_cons.mpr ⟨(gcX9_slips__X9_slips_r1 _ (List.mem_of_getElem? (i := 5) rfl)), fun _ h => (List.not_mem_nil h).elim⟩⟩⟩) (by decide +kernel)) ggX9_slips_X9_drawn
set_option maxRecDepth 20000 in
theorem gwX9_keptMeasured : wsX9_keptMeasured.all goodWord = true := by decide +kernel
set_option maxRecDepth 20000 in
theorem ggX9_slips_X9_keptMeasured : GoodIn wsX9_slips wsX9_keptMeasured := goodIn_sub (List.forall_mem_cons.mpr ⟨(gcX9_slips__X9_slips_r1 _ (List.mem_of_getElem? (i := 16) rfl)), List.forall_mem_cons.mpr ⟨(gcX9_slips__X9_slips_r1 _ (List.mem_of_getElem? (i := 17) rfl)), List.forall_mem_cons.mpr ⟨(gcX9_slips__X9_slips_r1 _ (List.mem_of_getElem? (i := 18) rfl)), List.forall_mem_cons.mpr ⟨(gcX9_slips__X9_slips_r1 _ (List.mem_of_getElem? (i := 19) rfl)), List.forall_mem_cons.mpr ⟨(gcX9_slips__X9_slips_r1 _ (List.mem_of_getElem? (i := 20) rfl)), List.forall_mem_cons.mpr ⟨(gcX9_slips__X9_slips_r1 _ (List.mem_of_getElem? (i := 21) rfl)), List.forall_mem_cons.mpr ⟨(gcX9_slips__X9_slips_r1 _ (List.mem_of_getElem? (i := 22) rfl)), List.forall_mem_cons.mpr ⟨(gcX9_slips__X9_slips_r1 _ (List.mem_of_getElem? (i := 23) rfl)), fun _ h => (List.not_mem_nil h).elim⟩⟩⟩⟩⟩⟩⟩⟩) gwX9_keptMeasured
set_option maxRecDepth 20000 in
theorem gX9_slips_X9_keptMeasured : GoodIn wsX9_slips (va_wsS RX9 337 yX9_keptMeasured wsX9_keptMeasured) := goodIn_app (goodIn_sub (List.forall_mem_cons.mpr ⟨(gcX9_slips__X9_slips_r1 _ (List.mem_of_getElem? (i := 14) rfl)), List.forall_mem_cons.mpr ⟨(gcX9_slips__X9_slips_r1 _ (List.mem_of_getElem? (i := 15) rfl)), List.forall_mem_cons.mpr ⟨(gcX9_slips__X9_slips_r1 _ (List.mem_of_getElem? (i := 5) rfl)), fun _ h => (List.not_mem_nil h).elim⟩⟩⟩) (by decide +kernel)) ggX9_slips_X9_keptMeasured
theorem gcX9_slips__X9_slips_r2 : ∀ w ∈ wsX9_slips_r2, w ∈ wsX9_slips := fun w h => List.mem_cons_of_mem _ (List.mem_append_left _ (List.mem_append_left _ (List.mem_append_right _ (h))))
theorem gcX9_slips__X80 : ∀ w ∈ wsX80, w ∈ wsX9_slips := fun w h => List.mem_cons_of_mem _ (List.mem_append_right _ (h))
set_option maxRecDepth 20000 in
theorem ggX9_slips_X8_setMeasured : GoodIn wsX9_slips wsX8_setMeasured := goodIn_sub (List.forall_mem_cons.mpr ⟨(gcX9_slips__X9_slips_r2 _ (List.mem_of_getElem? (i := 4) rfl)), List.forall_mem_append.mpr ⟨List.forall_mem_cons.mpr ⟨(gcX9_slips__X9_slips_r2 _ (List.mem_of_getElem? (i := 5) rfl)), fun _ h => (List.not_mem_nil h).elim⟩, gcX9_slips__X80⟩⟩) gwX8_setMeasured
set_option maxRecDepth 20000 in
theorem gX9_slips_X8_setMeasured : GoodIn wsX9_slips (wsV RX9 319 RX8 yX8_setMeasured wsX8_setMeasured) := goodIn_app (goodIn_sub (List.forall_mem_cons.mpr ⟨(gcX9_slips__X9_slips_r2 _ (List.mem_of_getElem? (i := 0) rfl)), List.forall_mem_cons.mpr ⟨(gcX9_slips__X9_slips_r2 _ (List.mem_of_getElem? (i := 1) rfl)), List.forall_mem_cons.mpr ⟨(gcX9_slips__X9_slips_r2 _ (List.mem_of_getElem? (i := 2) rfl)), List.forall_mem_cons.mpr ⟨(gcX9_slips__X9_slips_r2 _ (List.mem_of_getElem? (i := 3) rfl)), fun _ h => (List.not_mem_nil h).elim⟩⟩⟩⟩) (by decide +kernel)) ggX9_slips_X8_setMeasured
theorem dX9_slips_0 : decode cX9_slips 0 = .ok (.aload_n 0, 1) := by decide +kernel
theorem dX9_slips_1 : decode cX9_slips 1 = .ok (.getfield 20, 3) := by decide +kernel
theorem dX9_slips_4 : decode cX9_slips 4 = .ok (.getfield 137, 3) := by decide +kernel
theorem dX9_slips_7 : decode cX9_slips 7 = .ok (.iconst 3, 1) := by decide +kernel
theorem dX9_slips_8 : decode cX9_slips 8 = .ok (.iaload, 1) := by decide +kernel
theorem dX9_slips_9 : decode cX9_slips 9 = .ok (.istore 4, 2) := by decide +kernel
theorem dX9_slips_11 : decode cX9_slips 11 = .ok (.iload 4, 2) := by decide +kernel
theorem dX9_slips_13 : decode cX9_slips 13 = .ok (.ifCond .eq 29, 3) := by decide +kernel
theorem dX9_slips_16 : decode cX9_slips 16 = .ok (.iload_n 1, 1) := by decide +kernel
theorem dX9_slips_17 : decode cX9_slips 17 = .ok (.iconst 1, 1) := by decide +kernel
theorem dX9_slips_18 : decode cX9_slips 18 = .ok (.if_icmp .lt 24, 3) := by decide +kernel
theorem dX9_slips_21 : decode cX9_slips 21 = .ok (.iload_n 1, 1) := by decide +kernel
theorem dX9_slips_22 : decode cX9_slips 22 = .ok (.bipush 60, 2) := by decide +kernel
theorem dX9_slips_24 : decode cX9_slips 24 = .ok (.if_icmp .gt 18, 3) := by decide +kernel
theorem dX9_slips_27 : decode cX9_slips 27 = .ok (.iload_n 2, 1) := by decide +kernel
theorem dX9_slips_28 : decode cX9_slips 28 = .ok (.ifCond .lt 14, 3) := by decide +kernel
theorem dX9_slips_31 : decode cX9_slips 31 = .ok (.iload_n 2, 1) := by decide +kernel
theorem dX9_slips_32 : decode cX9_slips 32 = .ok (.sipush 999, 3) := by decide +kernel
theorem dX9_slips_35 : decode cX9_slips 35 = .ok (.if_icmp .gt 7, 3) := by decide +kernel
theorem dX9_slips_38 : decode cX9_slips 38 = .ok (.iload_n 3, 1) := by decide +kernel
theorem dX9_slips_39 : decode cX9_slips 39 = .ok (.ifCond .ge 5, 3) := by decide +kernel
theorem dX9_slips_42 : decode cX9_slips 42 = .ok (.iconst (-1), 1) := by decide +kernel
theorem dX9_slips_43 : decode cX9_slips 43 = .ok (.ireturn, 1) := by decide +kernel
theorem dX9_slips_44 : decode cX9_slips 44 = .ok (.iload_n 3, 1) := by decide +kernel
theorem dX9_slips_45 : decode cX9_slips 45 = .ok (.i2l, 1) := by decide +kernel
theorem dX9_slips_46 : decode cX9_slips 46 = .ok (.lstore 5, 2) := by decide +kernel
theorem dX9_slips_48 : decode cX9_slips 48 = .ok (.iconst 0, 1) := by decide +kernel
theorem dX9_slips_49 : decode cX9_slips 49 = .ok (.istore 7, 2) := by decide +kernel
theorem dX9_slips_51 : decode cX9_slips 51 = .ok (.iconst 0, 1) := by decide +kernel
theorem dX9_slips_52 : decode cX9_slips 52 = .ok (.istore 8, 2) := by decide +kernel
theorem dX9_slips_54 : decode cX9_slips 54 = .ok (.iload 8, 2) := by decide +kernel
theorem dX9_slips_56 : decode cX9_slips 56 = .ok (.iload_n 1, 1) := by decide +kernel
theorem dX9_slips_57 : decode cX9_slips 57 = .ok (.if_icmp .ge 115, 3) := by decide +kernel
theorem dX9_slips_60 : decode cX9_slips 60 = .ok (.lload 5, 2) := by decide +kernel
theorem dX9_slips_62 : decode cX9_slips 62 = .ok (.invokestatic 329, 3) := by decide +kernel
theorem dX9_slips_65 : decode cX9_slips 65 = .ok (.lstore 5, 2) := by decide +kernel
theorem dX9_slips_67 : decode cX9_slips 67 = .ok (.lload 5, 2) := by decide +kernel
theorem dX9_slips_69 : decode cX9_slips 69 = .ok (.iload 4, 2) := by decide +kernel
theorem dX9_slips_71 : decode cX9_slips 71 = .ok (.invokestatic 333, 3) := by decide +kernel
theorem dX9_slips_74 : decode cX9_slips 74 = .ok (.istore 9, 2) := by decide +kernel
theorem dX9_slips_76 : decode cX9_slips 76 = .ok (.lload 5, 2) := by decide +kernel
theorem dX9_slips_78 : decode cX9_slips 78 = .ok (.invokestatic 329, 3) := by decide +kernel
theorem dX9_slips_81 : decode cX9_slips 81 = .ok (.lstore 5, 2) := by decide +kernel
theorem dX9_slips_83 : decode cX9_slips 83 = .ok (.aload_n 0, 1) := by decide +kernel
theorem dX9_slips_84 : decode cX9_slips 84 = .ok (.getfield 20, 3) := by decide +kernel
theorem dX9_slips_87 : decode cX9_slips 87 = .ok (.getfield 197, 3) := by decide +kernel
theorem dX9_slips_90 : decode cX9_slips 90 = .ok (.iconst 0, 1) := by decide +kernel
theorem dX9_slips_91 : decode cX9_slips 91 = .ok (.aaload, 1) := by decide +kernel
theorem dX9_slips_92 : decode cX9_slips 92 = .ok (.iload 9, 2) := by decide +kernel
theorem dX9_slips_94 : decode cX9_slips 94 = .ok (.iaload, 1) := by decide +kernel
theorem dX9_slips_95 : decode cX9_slips 95 = .ok (.lload 5, 2) := by decide +kernel
theorem dX9_slips_97 : decode cX9_slips 97 = .ok (.iconst 2, 1) := by decide +kernel
theorem dX9_slips_98 : decode cX9_slips 98 = .ok (.iload_n 2, 1) := by decide +kernel
theorem dX9_slips_99 : decode cX9_slips 99 = .ok (.imul, 1) := by decide +kernel
theorem dX9_slips_100 : decode cX9_slips 100 = .ok (.iconst 1, 1) := by decide +kernel
theorem dX9_slips_101 : decode cX9_slips 101 = .ok (.iadd, 1) := by decide +kernel
theorem dX9_slips_102 : decode cX9_slips 102 = .ok (.invokestatic 333, 3) := by decide +kernel
theorem dX9_slips_105 : decode cX9_slips 105 = .ok (.iadd, 1) := by decide +kernel
theorem dX9_slips_106 : decode cX9_slips 106 = .ok (.iload_n 2, 1) := by decide +kernel
theorem dX9_slips_107 : decode cX9_slips 107 = .ok (.isub, 1) := by decide +kernel
theorem dX9_slips_108 : decode cX9_slips 108 = .ok (.istore 10, 2) := by decide +kernel
theorem dX9_slips_110 : decode cX9_slips 110 = .ok (.lload 5, 2) := by decide +kernel
theorem dX9_slips_112 : decode cX9_slips 112 = .ok (.invokestatic 329, 3) := by decide +kernel
theorem dX9_slips_115 : decode cX9_slips 115 = .ok (.lstore 5, 2) := by decide +kernel
theorem dX9_slips_117 : decode cX9_slips 117 = .ok (.aload_n 0, 1) := by decide +kernel
theorem dX9_slips_118 : decode cX9_slips 118 = .ok (.getfield 20, 3) := by decide +kernel
theorem dX9_slips_121 : decode cX9_slips 121 = .ok (.getfield 197, 3) := by decide +kernel
theorem dX9_slips_124 : decode cX9_slips 124 = .ok (.iconst 1, 1) := by decide +kernel
theorem dX9_slips_125 : decode cX9_slips 125 = .ok (.aaload, 1) := by decide +kernel
theorem dX9_slips_126 : decode cX9_slips 126 = .ok (.iload 9, 2) := by decide +kernel
theorem dX9_slips_128 : decode cX9_slips 128 = .ok (.iaload, 1) := by decide +kernel
theorem dX9_slips_129 : decode cX9_slips 129 = .ok (.lload 5, 2) := by decide +kernel
theorem dX9_slips_131 : decode cX9_slips 131 = .ok (.iconst 2, 1) := by decide +kernel
theorem dX9_slips_132 : decode cX9_slips 132 = .ok (.iload_n 2, 1) := by decide +kernel
theorem dX9_slips_133 : decode cX9_slips 133 = .ok (.imul, 1) := by decide +kernel
theorem dX9_slips_134 : decode cX9_slips 134 = .ok (.iconst 1, 1) := by decide +kernel
theorem dX9_slips_135 : decode cX9_slips 135 = .ok (.iadd, 1) := by decide +kernel
theorem dX9_slips_136 : decode cX9_slips 136 = .ok (.invokestatic 333, 3) := by decide +kernel
theorem dX9_slips_139 : decode cX9_slips 139 = .ok (.iadd, 1) := by decide +kernel
theorem dX9_slips_140 : decode cX9_slips 140 = .ok (.iload_n 2, 1) := by decide +kernel
theorem dX9_slips_141 : decode cX9_slips 141 = .ok (.isub, 1) := by decide +kernel
theorem dX9_slips_142 : decode cX9_slips 142 = .ok (.istore 11, 2) := by decide +kernel
theorem dX9_slips_144 : decode cX9_slips 144 = .ok (.aload_n 0, 1) := by decide +kernel
theorem dX9_slips_145 : decode cX9_slips 145 = .ok (.getfield 20, 3) := by decide +kernel
theorem dX9_slips_148 : decode cX9_slips 148 = .ok (.iload 9, 2) := by decide +kernel
theorem dX9_slips_150 : decode cX9_slips 150 = .ok (.iload 10, 2) := by decide +kernel
theorem dX9_slips_152 : decode cX9_slips 152 = .ok (.invokestatic 337, 3) := by decide +kernel
theorem dX9_slips_155 : decode cX9_slips 155 = .ok (.iload 11, 2) := by decide +kernel
theorem dX9_slips_157 : decode cX9_slips 157 = .ok (.invokestatic 337, 3) := by decide +kernel
theorem dX9_slips_160 : decode cX9_slips 160 = .ok (.invokevirtual 319, 3) := by decide +kernel
theorem dX9_slips_163 : decode cX9_slips 163 = .ok (.iinc 7 3, 3) := by decide +kernel
theorem dX9_slips_166 : decode cX9_slips 166 = .ok (.iinc 8 1, 3) := by decide +kernel
theorem dX9_slips_169 : decode cX9_slips 169 = .ok (.goto (-115), 3) := by decide +kernel
theorem dX9_slips_172 : decode cX9_slips 172 = .ok (.iload 7, 2) := by decide +kernel
theorem dX9_slips_174 : decode cX9_slips 174 = .ok (.ireturn, 1) := by decide +kernel
theorem dX9_nextDraw_0 : decode cX9_nextDraw 0 = .ok (.ldc2_w 340, 3) := by decide +kernel
theorem dX9_nextDraw_3 : decode cX9_nextDraw 3 = .ok (.lload_n 0, 1) := by decide +kernel
theorem dX9_nextDraw_4 : decode cX9_nextDraw 4 = .ok (.lmul, 1) := by decide +kernel
theorem dX9_nextDraw_5 : decode cX9_nextDraw 5 = .ok (.ldc2_w 342, 3) := by decide +kernel
theorem dX9_nextDraw_8 : decode cX9_nextDraw 8 = .ok (.ladd, 1) := by decide +kernel
theorem dX9_nextDraw_9 : decode cX9_nextDraw 9 = .ok (.ldc2_w 344, 3) := by decide +kernel
theorem dX9_nextDraw_12 : decode cX9_nextDraw 12 = .ok (.land, 1) := by decide +kernel
theorem dX9_nextDraw_13 : decode cX9_nextDraw 13 = .ok (.lreturn, 1) := by decide +kernel
theorem dX9_drawn_0 : decode cX9_drawn 0 = .ok (.iload_n 2, 1) := by decide +kernel
theorem dX9_drawn_1 : decode cX9_drawn 1 = .ok (.iconst 1, 1) := by decide +kernel
theorem dX9_drawn_2 : decode cX9_drawn 2 = .ok (.if_icmp .ge 7, 3) := by decide +kernel
theorem dX9_drawn_5 : decode cX9_drawn 5 = .ok (.iconst 0, 1) := by decide +kernel
theorem dX9_drawn_6 : decode cX9_drawn 6 = .ok (.goto 12, 3) := by decide +kernel
theorem dX9_drawn_9 : decode cX9_drawn 9 = .ok (.lload_n 0, 1) := by decide +kernel
theorem dX9_drawn_10 : decode cX9_drawn 10 = .ok (.ldc2_w 346, 3) := by decide +kernel
theorem dX9_drawn_13 : decode cX9_drawn 13 = .ok (.ldiv, 1) := by decide +kernel
theorem dX9_drawn_14 : decode cX9_drawn 14 = .ok (.iload_n 2, 1) := by decide +kernel
theorem dX9_drawn_15 : decode cX9_drawn 15 = .ok (.i2l, 1) := by decide +kernel
theorem dX9_drawn_16 : decode cX9_drawn 16 = .ok (.lrem, 1) := by decide +kernel
theorem dX9_drawn_17 : decode cX9_drawn 17 = .ok (.l2i, 1) := by decide +kernel
theorem dX9_drawn_18 : decode cX9_drawn 18 = .ok (.ireturn, 1) := by decide +kernel
theorem dX9_keptMeasured_0 : decode cX9_keptMeasured 0 = .ok (.iconst 0, 1) := by decide +kernel
theorem dX9_keptMeasured_1 : decode cX9_keptMeasured 1 = .ok (.sipush 9999, 3) := by decide +kernel
theorem dX9_keptMeasured_4 : decode cX9_keptMeasured 4 = .ok (.iload_n 0, 1) := by decide +kernel
theorem dX9_keptMeasured_5 : decode cX9_keptMeasured 5 = .ok (.invokestatic 348, 3) := by decide +kernel
theorem dX9_keptMeasured_8 : decode cX9_keptMeasured 8 = .ok (.invokestatic 351, 3) := by decide +kernel
theorem dX9_keptMeasured_11 : decode cX9_keptMeasured 11 = .ok (.ireturn, 1) := by decide +kernel
theorem gcX9_image__X9_image_r1 : ∀ w ∈ wsX9_image_r1, w ∈ wsX9_image := fun w h => List.mem_cons_of_mem _ (List.mem_append_left _ (List.mem_append_left _ (List.mem_append_left _ (List.mem_append_left _ (List.mem_append_left _ (h))))))
theorem gcX9_image__X9_image_r2 : ∀ w ∈ wsX9_image_r2, w ∈ wsX9_image := fun w h => List.mem_cons_of_mem _ (List.mem_append_left _ (List.mem_append_left _ (List.mem_append_left _ (List.mem_append_left _ (List.mem_append_right _ (h))))))
theorem gcX9_image__X00 : ∀ w ∈ wsX00, w ∈ wsX9_image := fun w h => List.mem_cons_of_mem _ (List.mem_append_left _ (List.mem_append_left _ (List.mem_append_right _ (h))))
theorem gcX9_image__X50 : ∀ w ∈ wsX50, w ∈ wsX9_image := fun w h => List.mem_cons_of_mem _ (List.mem_append_left _ (List.mem_append_right _ (h)))
theorem gcX9_image__X80 : ∀ w ∈ wsX80, w ∈ wsX9_image := fun w h => List.mem_cons_of_mem _ (List.mem_append_right _ (h))
set_option maxRecDepth 20000 in
theorem gwX0_write : wsX0_write.all goodWord = true := by decide +kernel
set_option maxRecDepth 20000 in
theorem ggX9_image_X0_write : GoodIn wsX9_image wsX0_write := goodIn_sub (List.forall_mem_cons.mpr ⟨(gcX9_image__X9_image_r1 _ (List.mem_of_getElem? (i := 6) rfl)), List.forall_mem_append.mpr ⟨List.forall_mem_append.mpr ⟨List.forall_mem_append.mpr ⟨List.forall_mem_cons.mpr ⟨(gcX9_image__X9_image_r1 _ (List.mem_of_getElem? (i := 7) rfl)), List.forall_mem_cons.mpr ⟨(gcX9_image__X9_image_r1 _ (List.mem_of_getElem? (i := 8) rfl)), List.forall_mem_cons.mpr ⟨(gcX9_image__X9_image_r1 _ (List.mem_of_getElem? (i := 9) rfl)), List.forall_mem_cons.mpr ⟨(gcX9_image__X9_image_r1 _ (List.mem_of_getElem? (i := 10) rfl)), List.forall_mem_cons.mpr ⟨(gcX9_image__X9_image_r1 _ (List.mem_of_getElem? (i := 11) rfl)), List.forall_mem_cons.mpr ⟨(gcX9_image__X9_image_r1 _ (List.mem_of_getElem? (i := 12) rfl)), List.forall_mem_cons.mpr ⟨(gcX9_image__X9_image_r1 _ (List.mem_of_getElem? (i := 13) rfl)), List.forall_mem_cons.mpr ⟨(gcX9_image__X9_image_r1 _ (List.mem_of_getElem? (i := 14) rfl)), List.forall_mem_cons.mpr ⟨(gcX9_image__X9_image_r1 _ (List.mem_of_getElem? (i := 15) rfl)), List.forall_mem_cons.mpr ⟨(gcX9_image__X9_image_r1 _ (List.mem_of_getElem? (i := 16) rfl)), List.forall_mem_cons.mpr ⟨(gcX9_image__X9_image_r1 _ (List.mem_of_getElem? (i := 17) rfl)), List.forall_mem_cons.mpr ⟨(gcX9_image__X9_image_r1 _ (List.mem_of_getElem? (i := 18) rfl)), List.forall_mem_cons.mpr ⟨(gcX9_image__X9_image_r1 _ (List.mem_of_getElem? (i := 19) rfl)), List.forall_mem_cons.mpr ⟨(gcX9_image__X9_image_r1 _ (List.mem_of_getElem? (i := 5) rfl)), List.forall_mem_cons.mpr ⟨(gcX9_image__X9_image_r1 _ (List.mem_of_getElem? (i := 20) rfl)), List.forall_mem_cons.mpr ⟨(gcX9_image__X9_image_r1 _ (List.mem_of_getElem? (i := 21) rfl)), List.forall_mem_cons.mpr ⟨(gcX9_image__X9_image_r1 _ (List.mem_of_getElem? (i := 22) rfl)), List.forall_mem_cons.mpr ⟨(gcX9_image__X9_image_r1 _ (List.mem_of_getElem? (i := 23) rfl)), List.forall_mem_cons.mpr ⟨(gcX9_image__X9_image_r2 _ (List.mem_of_getElem? (i := 0) rfl)), List.forall_mem_cons.mpr ⟨(gcX9_image__X9_image_r2 _ (List.mem_of_getElem? (i := 1) rfl)), List.forall_mem_cons.mpr ⟨(gcX9_image__X9_image_r2 _ (List.mem_of_getElem? (i := 2) rfl)), List.forall_mem_cons.mpr ⟨(gcX9_image__X9_image_r2 _ (List.mem_of_getElem? (i := 3) rfl)), fun _ h => (List.not_mem_nil h).elim⟩⟩⟩⟩⟩⟩⟩⟩⟩⟩⟩⟩⟩⟩⟩⟩⟩⟩⟩⟩⟩⟩, gcX9_image__X00⟩, gcX9_image__X50⟩, gcX9_image__X80⟩⟩) gwX0_write
set_option maxRecDepth 20000 in
theorem gX9_image_X0_write : GoodIn wsX9_image (wsV RX9 354 RX0 yX0_write wsX0_write) := goodIn_app (goodIn_sub (List.forall_mem_cons.mpr ⟨(gcX9_image__X9_image_r1 _ (List.mem_of_getElem? (i := 2) rfl)), List.forall_mem_cons.mpr ⟨(gcX9_image__X9_image_r1 _ (List.mem_of_getElem? (i := 3) rfl)), List.forall_mem_cons.mpr ⟨(gcX9_image__X9_image_r1 _ (List.mem_of_getElem? (i := 4) rfl)), List.forall_mem_cons.mpr ⟨(gcX9_image__X9_image_r1 _ (List.mem_of_getElem? (i := 5) rfl)), fun _ h => (List.not_mem_nil h).elim⟩⟩⟩⟩) (by decide +kernel)) ggX9_image_X0_write
theorem dX9_image_0 : decode cX9_image 0 = .ok (.aload_n 0, 1) := by decide +kernel
theorem dX9_image_1 : decode cX9_image 1 = .ok (.getfield 91, 3) := by decide +kernel
theorem dX9_image_4 : decode cX9_image 4 = .ok (.aload_n 0, 1) := by decide +kernel
theorem dX9_image_5 : decode cX9_image 5 = .ok (.getfield 41, 3) := by decide +kernel
theorem dX9_image_8 : decode cX9_image 8 = .ok (.invokevirtual 354, 3) := by decide +kernel
theorem dX9_image_11 : decode cX9_image 11 = .ok (.ireturn, 1) := by decide +kernel
theorem dX9_octet_0 : decode cX9_octet 0 = .ok (.iload_n 1, 1) := by decide +kernel
theorem dX9_octet_1 : decode cX9_octet 1 = .ok (.ifCond .lt 14, 3) := by decide +kernel
theorem dX9_octet_4 : decode cX9_octet 4 = .ok (.iload_n 1, 1) := by decide +kernel
theorem dX9_octet_5 : decode cX9_octet 5 = .ok (.aload_n 0, 1) := by decide +kernel
theorem dX9_octet_6 : decode cX9_octet 6 = .ok (.getfield 91, 3) := by decide +kernel
theorem dX9_octet_9 : decode cX9_octet 9 = .ok (.getfield 358, 3) := by decide +kernel
theorem dX9_octet_12 : decode cX9_octet 12 = .ok (.if_icmp .lt 5, 3) := by decide +kernel
theorem dX9_octet_15 : decode cX9_octet 15 = .ok (.iconst (-1), 1) := by decide +kernel
theorem dX9_octet_16 : decode cX9_octet 16 = .ok (.ireturn, 1) := by decide +kernel
theorem dX9_octet_17 : decode cX9_octet 17 = .ok (.aload_n 0, 1) := by decide +kernel
theorem dX9_octet_18 : decode cX9_octet 18 = .ok (.getfield 91, 3) := by decide +kernel
theorem dX9_octet_21 : decode cX9_octet 21 = .ok (.getfield 361, 3) := by decide +kernel
theorem dX9_octet_24 : decode cX9_octet 24 = .ok (.iload_n 1, 1) := by decide +kernel
theorem dX9_octet_25 : decode cX9_octet 25 = .ok (.iaload, 1) := by decide +kernel
theorem dX9_octet_26 : decode cX9_octet 26 = .ok (.ireturn, 1) := by decide +kernel
theorem gcX9_on__X9_on_r1 : ∀ w ∈ wsX9_on_r1, w ∈ wsX9_on := fun w h => List.mem_cons_of_mem _ (List.mem_append_left _ (List.mem_append_left _ (List.mem_append_left _ (List.mem_append_left _ (List.mem_append_left _ (h))))))
theorem gcX9_on__X9_on_r2 : ∀ w ∈ wsX9_on_r2, w ∈ wsX9_on := fun w h => List.mem_cons_of_mem _ (List.mem_append_left _ (List.mem_append_left _ (List.mem_append_left _ (List.mem_append_left _ (List.mem_append_right _ (List.mem_append_left _ (h)))))))
set_option maxRecDepth 20000 in
theorem gmX9_on__X0_read_r1 : ∀ w ∈ wsX0_read_r1, w ∈ wsX9_on := List.forall_mem_cons.mpr ⟨(gcX9_on__X9_on_r1 _ (List.mem_of_getElem? (i := 10) rfl)), List.forall_mem_cons.mpr ⟨(gcX9_on__X9_on_r1 _ (List.mem_of_getElem? (i := 11) rfl)), List.forall_mem_cons.mpr ⟨(gcX9_on__X9_on_r1 _ (List.mem_of_getElem? (i := 12) rfl)), List.forall_mem_cons.mpr ⟨(gcX9_on__X9_on_r1 _ (List.mem_of_getElem? (i := 13) rfl)), List.forall_mem_cons.mpr ⟨(gcX9_on__X9_on_r1 _ (List.mem_of_getElem? (i := 8) rfl)), List.forall_mem_cons.mpr ⟨(gcX9_on__X9_on_r1 _ (List.mem_of_getElem? (i := 14) rfl)), List.forall_mem_cons.mpr ⟨(gcX9_on__X9_on_r1 _ (List.mem_of_getElem? (i := 15) rfl)), List.forall_mem_cons.mpr ⟨(gcX9_on__X9_on_r1 _ (List.mem_of_getElem? (i := 16) rfl)), List.forall_mem_cons.mpr ⟨(gcX9_on__X9_on_r1 _ (List.mem_of_getElem? (i := 17) rfl)), List.forall_mem_cons.mpr ⟨(gcX9_on__X9_on_r1 _ (List.mem_of_getElem? (i := 18) rfl)), List.forall_mem_cons.mpr ⟨(gcX9_on__X9_on_r1 _ (List.mem_of_getElem? (i := 19) rfl)), List.forall_mem_cons.mpr ⟨(gcX9_on__X9_on_r1 _ (List.mem_of_getElem? (i := 20) rfl)), List.forall_mem_cons.mpr ⟨(gcX9_on__X9_on_r1 _ (List.mem_of_getElem? (i := 21) rfl)), List.forall_mem_cons.mpr ⟨(gcX9_on__X9_on_r1 _ (List.mem_of_getElem? (i := 22) rfl)), List.forall_mem_cons.mpr ⟨(gcX9_on__X9_on_r1 _ (List.mem_of_getElem? (i := 23) rfl)), List.forall_mem_cons.mpr ⟨(gcX9_on__X9_on_r2 _ (List.mem_of_getElem? (i := 0) rfl)), List.forall_mem_cons.mpr ⟨(gcX9_on__X9_on_r2 _ (List.mem_of_getElem? (i := 1) rfl)), List.forall_mem_cons.mpr ⟨(gcX9_on__X9_on_r2 _ (List.mem_of_getElem? (i := 2) rfl)), List.forall_mem_cons.mpr ⟨(gcX9_on__X9_on_r2 _ (List.mem_of_getElem? (i := 3) rfl)), List.forall_mem_cons.mpr ⟨(gcX9_on__X9_on_r2 _ (List.mem_of_getElem? (i := 4) rfl)), List.forall_mem_cons.mpr ⟨(gcX9_on__X9_on_r2 _ (List.mem_of_getElem? (i := 5) rfl)), List.forall_mem_cons.mpr ⟨(gcX9_on__X9_on_r2 _ (List.mem_of_getElem? (i := 6) rfl)), List.forall_mem_cons.mpr ⟨(gcX9_on__X9_on_r2 _ (List.mem_of_getElem? (i := 7) rfl)), List.forall_mem_cons.mpr ⟨(gcX9_on__X9_on_r2 _ (List.mem_of_getElem? (i := 8) rfl)), fun _ h => (List.not_mem_nil h).elim⟩⟩⟩⟩⟩⟩⟩⟩⟩⟩⟩⟩⟩⟩⟩⟩⟩⟩⟩⟩⟩⟩⟩⟩
theorem gcX9_on__X9_on_r3 : ∀ w ∈ wsX9_on_r3, w ∈ wsX9_on := fun w h => List.mem_cons_of_mem _ (List.mem_append_left _ (List.mem_append_left _ (List.mem_append_left _ (List.mem_append_left _ (List.mem_append_right _ (List.mem_append_right _ (List.mem_append_left _ (h))))))))
set_option maxRecDepth 20000 in
theorem gmX9_on__X0_read_r2 : ∀ w ∈ wsX0_read_r2, w ∈ wsX9_on := List.forall_mem_cons.mpr ⟨(gcX9_on__X9_on_r2 _ (List.mem_of_getElem? (i := 9) rfl)), List.forall_mem_cons.mpr ⟨(gcX9_on__X9_on_r2 _ (List.mem_of_getElem? (i := 10) rfl)), List.forall_mem_cons.mpr ⟨(gcX9_on__X9_on_r2 _ (List.mem_of_getElem? (i := 11) rfl)), List.forall_mem_cons.mpr ⟨(gcX9_on__X9_on_r2 _ (List.mem_of_getElem? (i := 12) rfl)), List.forall_mem_cons.mpr ⟨(gcX9_on__X9_on_r2 _ (List.mem_of_getElem? (i := 13) rfl)), List.forall_mem_cons.mpr ⟨(gcX9_on__X9_on_r2 _ (List.mem_of_getElem? (i := 14) rfl)), List.forall_mem_cons.mpr ⟨(gcX9_on__X9_on_r2 _ (List.mem_of_getElem? (i := 15) rfl)), List.forall_mem_cons.mpr ⟨(gcX9_on__X9_on_r2 _ (List.mem_of_getElem? (i := 16) rfl)), List.forall_mem_cons.mpr ⟨(gcX9_on__X9_on_r2 _ (List.mem_of_getElem? (i := 17) rfl)), List.forall_mem_cons.mpr ⟨(gcX9_on__X9_on_r2 _ (List.mem_of_getElem? (i := 18) rfl)), List.forall_mem_cons.mpr ⟨(gcX9_on__X9_on_r2 _ (List.mem_of_getElem? (i := 19) rfl)), List.forall_mem_cons.mpr ⟨(gcX9_on__X9_on_r2 _ (List.mem_of_getElem? (i := 20) rfl)), List.forall_mem_cons.mpr ⟨(gcX9_on__X9_on_r2 _ (List.mem_of_getElem? (i := 21) rfl)), List.forall_mem_cons.mpr ⟨(gcX9_on__X9_on_r2 _ (List.mem_of_getElem? (i := 22) rfl)), List.forall_mem_cons.mpr ⟨(gcX9_on__X9_on_r2 _ (List.mem_of_getElem? (i := 23) rfl)), List.forall_mem_cons.mpr ⟨(gcX9_on__X9_on_r3 _ (List.mem_of_getElem? (i := 0) rfl)), List.forall_mem_cons.mpr ⟨(gcX9_on__X9_on_r3 _ (List.mem_of_getElem? (i := 1) rfl)), List.forall_mem_cons.mpr ⟨(gcX9_on__X9_on_r3 _ (List.mem_of_getElem? (i := 2) rfl)), List.forall_mem_cons.mpr ⟨(gcX9_on__X9_on_r3 _ (List.mem_of_getElem? (i := 3) rfl)), List.forall_mem_cons.mpr ⟨(gcX9_on__X9_on_r3 _ (List.mem_of_getElem? (i := 4) rfl)), List.forall_mem_cons.mpr ⟨(gcX9_on__X9_on_r3 _ (List.mem_of_getElem? (i := 5) rfl)), List.forall_mem_cons.mpr ⟨(gcX9_on__X9_on_r3 _ (List.mem_of_getElem? (i := 6) rfl)), List.forall_mem_cons.mpr ⟨(gcX9_on__X9_on_r3 _ (List.mem_of_getElem? (i := 7) rfl)), List.forall_mem_cons.mpr ⟨(gcX9_on__X9_on_r3 _ (List.mem_of_getElem? (i := 8) rfl)), fun _ h => (List.not_mem_nil h).elim⟩⟩⟩⟩⟩⟩⟩⟩⟩⟩⟩⟩⟩⟩⟩⟩⟩⟩⟩⟩⟩⟩⟩⟩
theorem gcX9_on__X9_on_r4 : ∀ w ∈ wsX9_on_r4, w ∈ wsX9_on := fun w h => List.mem_cons_of_mem _ (List.mem_append_left _ (List.mem_append_left _ (List.mem_append_left _ (List.mem_append_left _ (List.mem_append_right _ (List.mem_append_right _ (List.mem_append_right _ (List.mem_append_left _ (h)))))))))
set_option maxRecDepth 20000 in
theorem gmX9_on__X0_read_r3 : ∀ w ∈ wsX0_read_r3, w ∈ wsX9_on := List.forall_mem_cons.mpr ⟨(gcX9_on__X9_on_r3 _ (List.mem_of_getElem? (i := 9) rfl)), List.forall_mem_cons.mpr ⟨(gcX9_on__X9_on_r3 _ (List.mem_of_getElem? (i := 10) rfl)), List.forall_mem_cons.mpr ⟨(gcX9_on__X9_on_r3 _ (List.mem_of_getElem? (i := 11) rfl)), List.forall_mem_cons.mpr ⟨(gcX9_on__X9_on_r3 _ (List.mem_of_getElem? (i := 12) rfl)), List.forall_mem_cons.mpr ⟨(gcX9_on__X9_on_r3 _ (List.mem_of_getElem? (i := 13) rfl)), List.forall_mem_cons.mpr ⟨(gcX9_on__X9_on_r3 _ (List.mem_of_getElem? (i := 14) rfl)), List.forall_mem_cons.mpr ⟨(gcX9_on__X9_on_r3 _ (List.mem_of_getElem? (i := 15) rfl)), List.forall_mem_cons.mpr ⟨(gcX9_on__X9_on_r3 _ (List.mem_of_getElem? (i := 16) rfl)), List.forall_mem_cons.mpr ⟨(gcX9_on__X9_on_r3 _ (List.mem_of_getElem? (i := 17) rfl)), List.forall_mem_cons.mpr ⟨(gcX9_on__X9_on_r3 _ (List.mem_of_getElem? (i := 18) rfl)), List.forall_mem_cons.mpr ⟨(gcX9_on__X9_on_r3 _ (List.mem_of_getElem? (i := 19) rfl)), List.forall_mem_cons.mpr ⟨(gcX9_on__X9_on_r3 _ (List.mem_of_getElem? (i := 20) rfl)), List.forall_mem_cons.mpr ⟨(gcX9_on__X9_on_r3 _ (List.mem_of_getElem? (i := 21) rfl)), List.forall_mem_cons.mpr ⟨(gcX9_on__X9_on_r3 _ (List.mem_of_getElem? (i := 22) rfl)), List.forall_mem_cons.mpr ⟨(gcX9_on__X9_on_r3 _ (List.mem_of_getElem? (i := 23) rfl)), List.forall_mem_cons.mpr ⟨(gcX9_on__X9_on_r4 _ (List.mem_of_getElem? (i := 0) rfl)), List.forall_mem_cons.mpr ⟨(gcX9_on__X9_on_r4 _ (List.mem_of_getElem? (i := 1) rfl)), List.forall_mem_cons.mpr ⟨(gcX9_on__X9_on_r4 _ (List.mem_of_getElem? (i := 2) rfl)), List.forall_mem_cons.mpr ⟨(gcX9_on__X9_on_r4 _ (List.mem_of_getElem? (i := 3) rfl)), List.forall_mem_cons.mpr ⟨(gcX9_on__X9_on_r4 _ (List.mem_of_getElem? (i := 4) rfl)), List.forall_mem_cons.mpr ⟨(gcX9_on__X9_on_r4 _ (List.mem_of_getElem? (i := 5) rfl)), List.forall_mem_cons.mpr ⟨(gcX9_on__X9_on_r4 _ (List.mem_of_getElem? (i := 6) rfl)), List.forall_mem_cons.mpr ⟨(gcX9_on__X9_on_r4 _ (List.mem_of_getElem? (i := 7) rfl)), fun _ h => (List.not_mem_nil h).elim⟩⟩⟩⟩⟩⟩⟩⟩⟩⟩⟩⟩⟩⟩⟩⟩⟩⟩⟩⟩⟩⟩⟩
theorem gcX9_on__X50 : ∀ w ∈ wsX50, w ∈ wsX9_on := fun w h => List.mem_cons_of_mem _ (List.mem_append_left _ (List.mem_append_left _ (List.mem_append_right _ (h))))
theorem gcX9_on__X00 : ∀ w ∈ wsX00, w ∈ wsX9_on := fun w h => List.mem_cons_of_mem _ (List.mem_append_left _ (List.mem_append_right _ (h)))
theorem gcX9_on__X80 : ∀ w ∈ wsX80, w ∈ wsX9_on := fun w h => List.mem_cons_of_mem _ (List.mem_append_right _ (h))
set_option maxRecDepth 20000 in
theorem gwX0_read : wsX0_read.all goodWord = true := by decide +kernel
set_option maxRecDepth 20000 in
theorem ggX9_on_X0_read : GoodIn wsX9_on wsX0_read := goodIn_sub (List.forall_mem_cons.mpr ⟨(gcX9_on__X9_on_r1 _ (List.mem_of_getElem? (i := 9) rfl)), List.forall_mem_append.mpr ⟨List.forall_mem_append.mpr ⟨List.forall_mem_append.mpr ⟨List.forall_mem_append.mpr ⟨gmX9_on__X0_read_r1, List.forall_mem_append.mpr ⟨gmX9_on__X0_read_r2, gmX9_on__X0_read_r3⟩⟩, gcX9_on__X50⟩, gcX9_on__X00⟩, gcX9_on__X80⟩⟩) gwX0_read
set_option maxRecDepth 20000 in
theorem gX9_on_X0_read : GoodIn wsX9_on (wsV RX9 364 RX0 yX0_read wsX0_read) := goodIn_app (goodIn_sub (List.forall_mem_cons.mpr ⟨(gcX9_on__X9_on_r1 _ (List.mem_of_getElem? (i := 5) rfl)), List.forall_mem_cons.mpr ⟨(gcX9_on__X9_on_r1 _ (List.mem_of_getElem? (i := 6) rfl)), List.forall_mem_cons.mpr ⟨(gcX9_on__X9_on_r1 _ (List.mem_of_getElem? (i := 7) rfl)), List.forall_mem_cons.mpr ⟨(gcX9_on__X9_on_r1 _ (List.mem_of_getElem? (i := 8) rfl)), fun _ h => (List.not_mem_nil h).elim⟩⟩⟩⟩) (by decide +kernel)) ggX9_on_X0_read
theorem gcX9_on__X9_on_r5 : ∀ w ∈ wsX9_on_r5, w ∈ wsX9_on := fun w h => List.mem_cons_of_mem _ (List.mem_append_left _ (List.mem_append_left _ (List.mem_append_left _ (List.mem_append_left _ (List.mem_append_right _ (List.mem_append_right _ (List.mem_append_right _ (List.mem_append_right _ (h)))))))))
set_option maxRecDepth 20000 in
theorem ggX9_on_X5_takeFrom : GoodIn wsX9_on wsX5_takeFrom := goodIn_sub (List.forall_mem_cons.mpr ⟨(gcX9_on__X9_on_r4 _ (List.mem_of_getElem? (i := 11) rfl)), List.forall_mem_append.mpr ⟨List.forall_mem_cons.mpr ⟨(gcX9_on__X9_on_r3 _ (List.mem_of_getElem? (i := 7) rfl)), List.forall_mem_cons.mpr ⟨(gcX9_on__X9_on_r4 _ (List.mem_of_getElem? (i := 12) rfl)), List.forall_mem_cons.mpr ⟨(gcX9_on__X9_on_r4 _ (List.mem_of_getElem? (i := 13) rfl)), List.forall_mem_cons.mpr ⟨(gcX9_on__X9_on_r4 _ (List.mem_of_getElem? (i := 14) rfl)), List.forall_mem_cons.mpr ⟨(gcX9_on__X9_on_r4 _ (List.mem_of_getElem? (i := 15) rfl)), List.forall_mem_cons.mpr ⟨(gcX9_on__X9_on_r4 _ (List.mem_of_getElem? (i := 16) rfl)), List.forall_mem_cons.mpr ⟨(gcX9_on__X9_on_r4 _ (List.mem_of_getElem? (i := 17) rfl)), List.forall_mem_cons.mpr ⟨(gcX9_on__X9_on_r4 _ (List.mem_of_getElem? (i := 18) rfl)), List.forall_mem_cons.mpr ⟨(gcX9_on__X9_on_r4 _ (List.mem_of_getElem? (i := 19) rfl)), List.forall_mem_cons.mpr ⟨(gcX9_on__X9_on_r4 _ (List.mem_of_getElem? (i := 20) rfl)), List.forall_mem_cons.mpr ⟨(gcX9_on__X9_on_r4 _ (List.mem_of_getElem? (i := 21) rfl)), List.forall_mem_cons.mpr ⟨(gcX9_on__X9_on_r4 _ (List.mem_of_getElem? (i := 22) rfl)), List.forall_mem_cons.mpr ⟨(gcX9_on__X9_on_r4 _ (List.mem_of_getElem? (i := 23) rfl)), List.forall_mem_cons.mpr ⟨(gcX9_on__X9_on_r5 _ (List.mem_of_getElem? (i := 0) rfl)), List.forall_mem_cons.mpr ⟨(gcX9_on__X9_on_r5 _ (List.mem_of_getElem? (i := 1) rfl)), List.forall_mem_cons.mpr ⟨(gcX9_on__X9_on_r5 _ (List.mem_of_getElem? (i := 2) rfl)), List.forall_mem_cons.mpr ⟨(gcX9_on__X9_on_r5 _ (List.mem_of_getElem? (i := 3) rfl)), fun _ h => (List.not_mem_nil h).elim⟩⟩⟩⟩⟩⟩⟩⟩⟩⟩⟩⟩⟩⟩⟩⟩⟩, gcX9_on__X50⟩⟩) gwX5_takeFrom
set_option maxRecDepth 20000 in
theorem gX9_on_X5_takeFrom : GoodIn wsX9_on (wsV RX9 310 RX5 yX5_takeFrom wsX5_takeFrom) := goodIn_app (goodIn_sub (List.forall_mem_cons.mpr ⟨(gcX9_on__X9_on_r4 _ (List.mem_of_getElem? (i := 8) rfl)), List.forall_mem_cons.mpr ⟨(gcX9_on__X9_on_r4 _ (List.mem_of_getElem? (i := 9) rfl)), List.forall_mem_cons.mpr ⟨(gcX9_on__X9_on_r4 _ (List.mem_of_getElem? (i := 10) rfl)), List.forall_mem_cons.mpr ⟨(gcX9_on__X9_on_r3 _ (List.mem_of_getElem? (i := 3) rfl)), fun _ h => (List.not_mem_nil h).elim⟩⟩⟩⟩) (by decide +kernel)) ggX9_on_X5_takeFrom
theorem dX9_on_0 : decode cX9_on 0 = .ok (.aload_n 0, 1) := by decide +kernel
theorem dX9_on_1 : decode cX9_on 1 = .ok (.getfield 13, 3) := by decide +kernel
theorem dX9_on_4 : decode cX9_on 4 = .ok (.istore_n 1, 1) := by decide +kernel
theorem dX9_on_5 : decode cX9_on 5 = .ok (.aload_n 0, 1) := by decide +kernel
theorem dX9_on_6 : decode cX9_on 6 = .ok (.iconst 0, 1) := by decide +kernel
theorem dX9_on_7 : decode cX9_on 7 = .ok (.putfield 13, 3) := by decide +kernel
theorem dX9_on_10 : decode cX9_on 10 = .ok (.aload_n 0, 1) := by decide +kernel
theorem dX9_on_11 : decode cX9_on 11 = .ok (.getfield 91, 3) := by decide +kernel
theorem dX9_on_14 : decode cX9_on 14 = .ok (.aload_n 0, 1) := by decide +kernel
theorem dX9_on_15 : decode cX9_on 15 = .ok (.getfield 9, 3) := by decide +kernel
theorem dX9_on_18 : decode cX9_on 18 = .ok (.iload_n 1, 1) := by decide +kernel
theorem dX9_on_19 : decode cX9_on 19 = .ok (.aload_n 0, 1) := by decide +kernel
theorem dX9_on_20 : decode cX9_on 20 = .ok (.getfield 48, 3) := by decide +kernel
theorem dX9_on_23 : decode cX9_on 23 = .ok (.invokevirtual 364, 3) := by decide +kernel
theorem dX9_on_26 : decode cX9_on 26 = .ok (.ifCond .ne 5, 3) := by decide +kernel
theorem dX9_on_29 : decode cX9_on 29 = .ok (.iconst 0, 1) := by decide +kernel
theorem dX9_on_30 : decode cX9_on 30 = .ok (.ireturn, 1) := by decide +kernel
theorem dX9_on_31 : decode cX9_on 31 = .ok (.aload_n 0, 1) := by decide +kernel
theorem dX9_on_32 : decode cX9_on 32 = .ok (.getfield 41, 3) := by decide +kernel
theorem dX9_on_35 : decode cX9_on 35 = .ok (.aload_n 0, 1) := by decide +kernel
theorem dX9_on_36 : decode cX9_on 36 = .ok (.getfield 48, 3) := by decide +kernel
theorem dX9_on_39 : decode cX9_on 39 = .ok (.invokevirtual 310, 3) := by decide +kernel
theorem dX9_on_42 : decode cX9_on 42 = .ok (.iconst 1, 1) := by decide +kernel
theorem dX9_on_43 : decode cX9_on 43 = .ok (.ireturn, 1) := by decide +kernel
theorem dX9_copyAll_0 : decode cX9_copyAll 0 = .ok (.aload_n 0, 1) := by decide +kernel
theorem dX9_copyAll_1 : decode cX9_copyAll 1 = .ok (.iconst 0, 1) := by decide +kernel
theorem dX9_copyAll_2 : decode cX9_copyAll 2 = .ok (.aload_n 1, 1) := by decide +kernel
theorem dX9_copyAll_3 : decode cX9_copyAll 3 = .ok (.iconst 0, 1) := by decide +kernel
theorem dX9_copyAll_4 : decode cX9_copyAll 4 = .ok (.aload_n 0, 1) := by decide +kernel
theorem dX9_copyAll_5 : decode cX9_copyAll 5 = .ok (.arraylength, 1) := by decide +kernel
theorem dX9_copyAll_6 : decode cX9_copyAll 6 = .ok (.aload_n 1, 1) := by decide +kernel
theorem dX9_copyAll_7 : decode cX9_copyAll 7 = .ok (.arraylength, 1) := by decide +kernel
theorem dX9_copyAll_8 : decode cX9_copyAll 8 = .ok (.invokestatic 348, 3) := by decide +kernel
theorem dX9_copyAll_11 : decode cX9_copyAll 11 = .ok (.invokestatic 367, 3) := by decide +kernel
theorem dX9_copyAll_14 : decode cX9_copyAll 14 = .ok (.return_, 1) := by decide +kernel
theorem dX10_init_0 : decode cX10_init 0 = .ok (.aload_n 0, 1) := by decide +kernel
theorem dX10_init_1 : decode cX10_init 1 = .ok (.invokespecial 1, 3) := by decide +kernel
theorem dX10_init_4 : decode cX10_init 4 = .ok (.aload_n 0, 1) := by decide +kernel
theorem dX10_init_5 : decode cX10_init 5 = .ok (.sipush 1600, 3) := by decide +kernel
theorem dX10_init_8 : decode cX10_init 8 = .ok (.newarray .int, 2) := by decide +kernel
theorem dX10_init_10 : decode cX10_init 10 = .ok (.putfield 7, 3) := by decide +kernel
theorem dX10_init_13 : decode cX10_init 13 = .ok (.aload_n 0, 1) := by decide +kernel
theorem dX10_init_14 : decode cX10_init 14 = .ok (.iconst (-1), 1) := by decide +kernel
theorem dX10_init_15 : decode cX10_init 15 = .ok (.putfield 13, 3) := by decide +kernel
theorem dX10_init_18 : decode cX10_init 18 = .ok (.aload_n 0, 1) := by decide +kernel
theorem dX10_init_19 : decode cX10_init 19 = .ok (.iconst 5, 1) := by decide +kernel
theorem dX10_init_20 : decode cX10_init 20 = .ok (.newarray .char, 2) := by decide +kernel
theorem dX10_init_22 : decode cX10_init 22 = .ok (.dup, 1) := by decide +kernel
theorem dX10_init_23 : decode cX10_init 23 = .ok (.iconst 0, 1) := by decide +kernel
theorem dX10_init_24 : decode cX10_init 24 = .ok (.bipush 115, 2) := by decide +kernel
theorem dX10_init_26 : decode cX10_init 26 = .ok (.castore, 1) := by decide +kernel
theorem dX10_init_27 : decode cX10_init 27 = .ok (.dup, 1) := by decide +kernel
theorem dX10_init_28 : decode cX10_init 28 = .ok (.iconst 1, 1) := by decide +kernel
theorem dX10_init_29 : decode cX10_init 29 = .ok (.bipush 116, 2) := by decide +kernel
theorem dX10_init_31 : decode cX10_init 31 = .ok (.castore, 1) := by decide +kernel
theorem dX10_init_32 : decode cX10_init 32 = .ok (.dup, 1) := by decide +kernel
theorem dX10_init_33 : decode cX10_init 33 = .ok (.iconst 2, 1) := by decide +kernel
theorem dX10_init_34 : decode cX10_init 34 = .ok (.bipush 114, 2) := by decide +kernel
theorem dX10_init_36 : decode cX10_init 36 = .ok (.castore, 1) := by decide +kernel
theorem dX10_init_37 : decode cX10_init 37 = .ok (.dup, 1) := by decide +kernel
theorem dX10_init_38 : decode cX10_init 38 = .ok (.iconst 3, 1) := by decide +kernel
theorem dX10_init_39 : decode cX10_init 39 = .ok (.bipush 105, 2) := by decide +kernel
theorem dX10_init_41 : decode cX10_init 41 = .ok (.castore, 1) := by decide +kernel
theorem dX10_init_42 : decode cX10_init 42 = .ok (.dup, 1) := by decide +kernel
theorem dX10_init_43 : decode cX10_init 43 = .ok (.iconst 4, 1) := by decide +kernel
theorem dX10_init_44 : decode cX10_init 44 = .ok (.bipush 112, 2) := by decide +kernel
theorem dX10_init_46 : decode cX10_init 46 = .ok (.castore, 1) := by decide +kernel
theorem dX10_init_47 : decode cX10_init 47 = .ok (.putfield 17, 3) := by decide +kernel
theorem dX10_init_50 : decode cX10_init 50 = .ok (.aload_n 0, 1) := by decide +kernel
theorem dX10_init_51 : decode cX10_init 51 = .ok (.bipush 7, 2) := by decide +kernel
theorem dX10_init_53 : decode cX10_init 53 = .ok (.newarray .char, 2) := by decide +kernel
theorem dX10_init_55 : decode cX10_init 55 = .ok (.dup, 1) := by decide +kernel
theorem dX10_init_56 : decode cX10_init 56 = .ok (.iconst 0, 1) := by decide +kernel
theorem dX10_init_57 : decode cX10_init 57 = .ok (.bipush 112, 2) := by decide +kernel
theorem dX10_init_59 : decode cX10_init 59 = .ok (.castore, 1) := by decide +kernel
theorem dX10_init_60 : decode cX10_init 60 = .ok (.dup, 1) := by decide +kernel
theorem dX10_init_61 : decode cX10_init 61 = .ok (.iconst 1, 1) := by decide +kernel
theorem dX10_init_62 : decode cX10_init 62 = .ok (.bipush 105, 2) := by decide +kernel
theorem dX10_init_64 : decode cX10_init 64 = .ok (.castore, 1) := by decide +kernel
theorem dX10_init_65 : decode cX10_init 65 = .ok (.dup, 1) := by decide +kernel
theorem dX10_init_66 : decode cX10_init 66 = .ok (.iconst 2, 1) := by decide +kernel
theorem dX10_init_67 : decode cX10_init 67 = .ok (.bipush 99, 2) := by decide +kernel
theorem dX10_init_69 : decode cX10_init 69 = .ok (.castore, 1) := by decide +kernel
theorem dX10_init_70 : decode cX10_init 70 = .ok (.dup, 1) := by decide +kernel
theorem dX10_init_71 : decode cX10_init 71 = .ok (.iconst 3, 1) := by decide +kernel
theorem dX10_init_72 : decode cX10_init 72 = .ok (.bipush 116, 2) := by decide +kernel
theorem dX10_init_74 : decode cX10_init 74 = .ok (.castore, 1) := by decide +kernel
theorem dX10_init_75 : decode cX10_init 75 = .ok (.dup, 1) := by decide +kernel
theorem dX10_init_76 : decode cX10_init 76 = .ok (.iconst 4, 1) := by decide +kernel
theorem dX10_init_77 : decode cX10_init 77 = .ok (.bipush 117, 2) := by decide +kernel
theorem dX10_init_79 : decode cX10_init 79 = .ok (.castore, 1) := by decide +kernel
theorem dX10_init_80 : decode cX10_init 80 = .ok (.dup, 1) := by decide +kernel
theorem dX10_init_81 : decode cX10_init 81 = .ok (.iconst 5, 1) := by decide +kernel
theorem dX10_init_82 : decode cX10_init 82 = .ok (.bipush 114, 2) := by decide +kernel
theorem dX10_init_84 : decode cX10_init 84 = .ok (.castore, 1) := by decide +kernel
theorem dX10_init_85 : decode cX10_init 85 = .ok (.dup, 1) := by decide +kernel
theorem dX10_init_86 : decode cX10_init 86 = .ok (.bipush 6, 2) := by decide +kernel
theorem dX10_init_88 : decode cX10_init 88 = .ok (.bipush 101, 2) := by decide +kernel
theorem dX10_init_90 : decode cX10_init 90 = .ok (.castore, 1) := by decide +kernel
theorem dX10_init_91 : decode cX10_init 91 = .ok (.putfield 21, 3) := by decide +kernel
theorem dX10_init_94 : decode cX10_init 94 = .ok (.aload_n 0, 1) := by decide +kernel
theorem dX10_init_95 : decode cX10_init 95 = .ok (.iconst 2, 1) := by decide +kernel
theorem dX10_init_96 : decode cX10_init 96 = .ok (.newarray .char, 2) := by decide +kernel
theorem dX10_init_98 : decode cX10_init 98 = .ok (.dup, 1) := by decide +kernel
theorem dX10_init_99 : decode cX10_init 99 = .ok (.iconst 0, 1) := by decide +kernel
theorem dX10_init_100 : decode cX10_init 100 = .ok (.bipush 105, 2) := by decide +kernel
theorem dX10_init_102 : decode cX10_init 102 = .ok (.castore, 1) := by decide +kernel
theorem dX10_init_103 : decode cX10_init 103 = .ok (.dup, 1) := by decide +kernel
theorem dX10_init_104 : decode cX10_init 104 = .ok (.iconst 1, 1) := by decide +kernel
theorem dX10_init_105 : decode cX10_init 105 = .ok (.bipush 110, 2) := by decide +kernel
theorem dX10_init_107 : decode cX10_init 107 = .ok (.castore, 1) := by decide +kernel
theorem dX10_init_108 : decode cX10_init 108 = .ok (.putfield 24, 3) := by decide +kernel
theorem dX10_init_111 : decode cX10_init 111 = .ok (.aload_n 0, 1) := by decide +kernel
theorem dX10_init_112 : decode cX10_init 112 = .ok (.iconst 4, 1) := by decide +kernel
theorem dX10_init_113 : decode cX10_init 113 = .ok (.newarray .char, 2) := by decide +kernel
theorem dX10_init_115 : decode cX10_init 115 = .ok (.dup, 1) := by decide +kernel
theorem dX10_init_116 : decode cX10_init 116 = .ok (.iconst 0, 1) := by decide +kernel
theorem dX10_init_117 : decode cX10_init 117 = .ok (.bipush 116, 2) := by decide +kernel
theorem dX10_init_119 : decode cX10_init 119 = .ok (.castore, 1) := by decide +kernel
theorem dX10_init_120 : decode cX10_init 120 = .ok (.dup, 1) := by decide +kernel
theorem dX10_init_121 : decode cX10_init 121 = .ok (.iconst 1, 1) := by decide +kernel
theorem dX10_init_122 : decode cX10_init 122 = .ok (.bipush 117, 2) := by decide +kernel
theorem dX10_init_124 : decode cX10_init 124 = .ok (.castore, 1) := by decide +kernel
theorem dX10_init_125 : decode cX10_init 125 = .ok (.dup, 1) := by decide +kernel
theorem dX10_init_126 : decode cX10_init 126 = .ok (.iconst 2, 1) := by decide +kernel
theorem dX10_init_127 : decode cX10_init 127 = .ok (.bipush 114, 2) := by decide +kernel
theorem dX10_init_129 : decode cX10_init 129 = .ok (.castore, 1) := by decide +kernel
theorem dX10_init_130 : decode cX10_init 130 = .ok (.dup, 1) := by decide +kernel
theorem dX10_init_131 : decode cX10_init 131 = .ok (.iconst 3, 1) := by decide +kernel
theorem dX10_init_132 : decode cX10_init 132 = .ok (.bipush 110, 2) := by decide +kernel
theorem dX10_init_134 : decode cX10_init 134 = .ok (.castore, 1) := by decide +kernel
theorem dX10_init_135 : decode cX10_init 135 = .ok (.putfield 27, 3) := by decide +kernel
theorem dX10_init_138 : decode cX10_init 138 = .ok (.aload_n 0, 1) := by decide +kernel
theorem dX10_init_139 : decode cX10_init 139 = .ok (.iconst 3, 1) := by decide +kernel
theorem dX10_init_140 : decode cX10_init 140 = .ok (.newarray .char, 2) := by decide +kernel
theorem dX10_init_142 : decode cX10_init 142 = .ok (.dup, 1) := by decide +kernel
theorem dX10_init_143 : decode cX10_init 143 = .ok (.iconst 0, 1) := by decide +kernel
theorem dX10_init_144 : decode cX10_init 144 = .ok (.bipush 97, 2) := by decide +kernel
theorem dX10_init_146 : decode cX10_init 146 = .ok (.castore, 1) := by decide +kernel
theorem dX10_init_147 : decode cX10_init 147 = .ok (.dup, 1) := by decide +kernel
theorem dX10_init_148 : decode cX10_init 148 = .ok (.iconst 1, 1) := by decide +kernel
theorem dX10_init_149 : decode cX10_init 149 = .ok (.bipush 110, 2) := by decide +kernel
theorem dX10_init_151 : decode cX10_init 151 = .ok (.castore, 1) := by decide +kernel
theorem dX10_init_152 : decode cX10_init 152 = .ok (.dup, 1) := by decide +kernel
theorem dX10_init_153 : decode cX10_init 153 = .ok (.iconst 2, 1) := by decide +kernel
theorem dX10_init_154 : decode cX10_init 154 = .ok (.bipush 121, 2) := by decide +kernel
theorem dX10_init_156 : decode cX10_init 156 = .ok (.castore, 1) := by decide +kernel
theorem dX10_init_157 : decode cX10_init 157 = .ok (.putfield 30, 3) := by decide +kernel
theorem dX10_init_160 : decode cX10_init 160 = .ok (.aload_n 0, 1) := by decide +kernel
theorem dX10_init_161 : decode cX10_init 161 = .ok (.iconst 5, 1) := by decide +kernel
theorem dX10_init_162 : decode cX10_init 162 = .ok (.newarray .char, 2) := by decide +kernel
theorem dX10_init_164 : decode cX10_init 164 = .ok (.dup, 1) := by decide +kernel
theorem dX10_init_165 : decode cX10_init 165 = .ok (.iconst 0, 1) := by decide +kernel
theorem dX10_init_166 : decode cX10_init 166 = .ok (.bipush 112, 2) := by decide +kernel
theorem dX10_init_168 : decode cX10_init 168 = .ok (.castore, 1) := by decide +kernel
theorem dX10_init_169 : decode cX10_init 169 = .ok (.dup, 1) := by decide +kernel
theorem dX10_init_170 : decode cX10_init 170 = .ok (.iconst 1, 1) := by decide +kernel
theorem dX10_init_171 : decode cX10_init 171 = .ok (.bipush 111, 2) := by decide +kernel
theorem dX10_init_173 : decode cX10_init 173 = .ok (.castore, 1) := by decide +kernel
theorem dX10_init_174 : decode cX10_init 174 = .ok (.dup, 1) := by decide +kernel
theorem dX10_init_175 : decode cX10_init 175 = .ok (.iconst 2, 1) := by decide +kernel
theorem dX10_init_176 : decode cX10_init 176 = .ok (.bipush 105, 2) := by decide +kernel
theorem dX10_init_178 : decode cX10_init 178 = .ok (.castore, 1) := by decide +kernel
theorem dX10_init_179 : decode cX10_init 179 = .ok (.dup, 1) := by decide +kernel
theorem dX10_init_180 : decode cX10_init 180 = .ok (.iconst 3, 1) := by decide +kernel
theorem dX10_init_181 : decode cX10_init 181 = .ok (.bipush 110, 2) := by decide +kernel
theorem dX10_init_183 : decode cX10_init 183 = .ok (.castore, 1) := by decide +kernel
theorem dX10_init_184 : decode cX10_init 184 = .ok (.dup, 1) := by decide +kernel
theorem dX10_init_185 : decode cX10_init 185 = .ok (.iconst 4, 1) := by decide +kernel
theorem dX10_init_186 : decode cX10_init 186 = .ok (.bipush 116, 2) := by decide +kernel
theorem dX10_init_188 : decode cX10_init 188 = .ok (.castore, 1) := by decide +kernel
theorem dX10_init_189 : decode cX10_init 189 = .ok (.putfield 33, 3) := by decide +kernel
theorem dX10_init_192 : decode cX10_init 192 = .ok (.aload_n 0, 1) := by decide +kernel
theorem dX10_init_193 : decode cX10_init 193 = .ok (.iconst 3, 1) := by decide +kernel
theorem dX10_init_194 : decode cX10_init 194 = .ok (.newarray .char, 2) := by decide +kernel
theorem dX10_init_196 : decode cX10_init 196 = .ok (.dup, 1) := by decide +kernel
theorem dX10_init_197 : decode cX10_init 197 = .ok (.iconst 0, 1) := by decide +kernel
theorem dX10_init_198 : decode cX10_init 198 = .ok (.bipush 114, 2) := by decide +kernel
theorem dX10_init_200 : decode cX10_init 200 = .ok (.castore, 1) := by decide +kernel
theorem dX10_init_201 : decode cX10_init 201 = .ok (.dup, 1) := by decide +kernel
theorem dX10_init_202 : decode cX10_init 202 = .ok (.iconst 1, 1) := by decide +kernel
theorem dX10_init_203 : decode cX10_init 203 = .ok (.bipush 111, 2) := by decide +kernel
theorem dX10_init_205 : decode cX10_init 205 = .ok (.castore, 1) := by decide +kernel
theorem dX10_init_206 : decode cX10_init 206 = .ok (.dup, 1) := by decide +kernel
theorem dX10_init_207 : decode cX10_init 207 = .ok (.iconst 2, 1) := by decide +kernel
theorem dX10_init_208 : decode cX10_init 208 = .ok (.bipush 119, 2) := by decide +kernel
theorem dX10_init_210 : decode cX10_init 210 = .ok (.castore, 1) := by decide +kernel
theorem dX10_init_211 : decode cX10_init 211 = .ok (.putfield 36, 3) := by decide +kernel
theorem dX10_init_214 : decode cX10_init 214 = .ok (.aload_n 0, 1) := by decide +kernel
theorem dX10_init_215 : decode cX10_init 215 = .ok (.iconst 2, 1) := by decide +kernel
theorem dX10_init_216 : decode cX10_init 216 = .ok (.newarray .char, 2) := by decide +kernel
theorem dX10_init_218 : decode cX10_init 218 = .ok (.dup, 1) := by decide +kernel
theorem dX10_init_219 : decode cX10_init 219 = .ok (.iconst 0, 1) := by decide +kernel
theorem dX10_init_220 : decode cX10_init 220 = .ok (.bipush 97, 2) := by decide +kernel
theorem dX10_init_222 : decode cX10_init 222 = .ok (.castore, 1) := by decide +kernel
theorem dX10_init_223 : decode cX10_init 223 = .ok (.dup, 1) := by decide +kernel
theorem dX10_init_224 : decode cX10_init 224 = .ok (.iconst 1, 1) := by decide +kernel
theorem dX10_init_225 : decode cX10_init 225 = .ok (.bipush 116, 2) := by decide +kernel
theorem dX10_init_227 : decode cX10_init 227 = .ok (.castore, 1) := by decide +kernel
theorem dX10_init_228 : decode cX10_init 228 = .ok (.putfield 39, 3) := by decide +kernel
theorem dX10_init_231 : decode cX10_init 231 = .ok (.aload_n 0, 1) := by decide +kernel
theorem dX10_init_232 : decode cX10_init 232 = .ok (.bipush 6, 2) := by decide +kernel
theorem dX10_init_234 : decode cX10_init 234 = .ok (.newarray .char, 2) := by decide +kernel
theorem dX10_init_236 : decode cX10_init 236 = .ok (.dup, 1) := by decide +kernel
theorem dX10_init_237 : decode cX10_init 237 = .ok (.iconst 0, 1) := by decide +kernel
theorem dX10_init_238 : decode cX10_init 238 = .ok (.bipush 119, 2) := by decide +kernel
theorem dX10_init_240 : decode cX10_init 240 = .ok (.castore, 1) := by decide +kernel
theorem dX10_init_241 : decode cX10_init 241 = .ok (.dup, 1) := by decide +kernel
theorem dX10_init_242 : decode cX10_init 242 = .ok (.iconst 1, 1) := by decide +kernel
theorem dX10_init_243 : decode cX10_init 243 = .ok (.bipush 101, 2) := by decide +kernel
theorem dX10_init_245 : decode cX10_init 245 = .ok (.castore, 1) := by decide +kernel
theorem dX10_init_246 : decode cX10_init 246 = .ok (.dup, 1) := by decide +kernel
theorem dX10_init_247 : decode cX10_init 247 = .ok (.iconst 2, 1) := by decide +kernel
theorem dX10_init_248 : decode cX10_init 248 = .ok (.bipush 105, 2) := by decide +kernel
theorem dX10_init_250 : decode cX10_init 250 = .ok (.castore, 1) := by decide +kernel
theorem dX10_init_251 : decode cX10_init 251 = .ok (.dup, 1) := by decide +kernel
theorem dX10_init_252 : decode cX10_init 252 = .ok (.iconst 3, 1) := by decide +kernel
theorem dX10_init_253 : decode cX10_init 253 = .ok (.bipush 103, 2) := by decide +kernel
theorem dX10_init_255 : decode cX10_init 255 = .ok (.castore, 1) := by decide +kernel
theorem dX10_init_256 : decode cX10_init 256 = .ok (.dup, 1) := by decide +kernel
theorem dX10_init_257 : decode cX10_init 257 = .ok (.iconst 4, 1) := by decide +kernel
theorem dX10_init_258 : decode cX10_init 258 = .ok (.bipush 104, 2) := by decide +kernel
theorem dX10_init_260 : decode cX10_init 260 = .ok (.castore, 1) := by decide +kernel
theorem dX10_init_261 : decode cX10_init 261 = .ok (.dup, 1) := by decide +kernel
theorem dX10_init_262 : decode cX10_init 262 = .ok (.iconst 5, 1) := by decide +kernel
theorem dX10_init_263 : decode cX10_init 263 = .ok (.bipush 116, 2) := by decide +kernel
theorem dX10_init_265 : decode cX10_init 265 = .ok (.castore, 1) := by decide +kernel
theorem dX10_init_266 : decode cX10_init 266 = .ok (.putfield 42, 3) := by decide +kernel
theorem dX10_init_269 : decode cX10_init 269 = .ok (.aload_n 0, 1) := by decide +kernel
theorem dX10_init_270 : decode cX10_init 270 = .ok (.bipush 7, 2) := by decide +kernel
theorem dX10_init_272 : decode cX10_init 272 = .ok (.newarray .char, 2) := by decide +kernel
theorem dX10_init_274 : decode cX10_init 274 = .ok (.dup, 1) := by decide +kernel
theorem dX10_init_275 : decode cX10_init 275 = .ok (.iconst 0, 1) := by decide +kernel
theorem dX10_init_276 : decode cX10_init 276 = .ok (.bipush 99, 2) := by decide +kernel
theorem dX10_init_278 : decode cX10_init 278 = .ok (.castore, 1) := by decide +kernel
theorem dX10_init_279 : decode cX10_init 279 = .ok (.dup, 1) := by decide +kernel
theorem dX10_init_280 : decode cX10_init 280 = .ok (.iconst 1, 1) := by decide +kernel
theorem dX10_init_281 : decode cX10_init 281 = .ok (.bipush 111, 2) := by decide +kernel
theorem dX10_init_283 : decode cX10_init 283 = .ok (.castore, 1) := by decide +kernel
theorem dX10_init_284 : decode cX10_init 284 = .ok (.dup, 1) := by decide +kernel
theorem dX10_init_285 : decode cX10_init 285 = .ok (.iconst 2, 1) := by decide +kernel
theorem dX10_init_286 : decode cX10_init 286 = .ok (.bipush 110, 2) := by decide +kernel
theorem dX10_init_288 : decode cX10_init 288 = .ok (.castore, 1) := by decide +kernel
theorem dX10_init_289 : decode cX10_init 289 = .ok (.dup, 1) := by decide +kernel
theorem dX10_init_290 : decode cX10_init 290 = .ok (.iconst 3, 1) := by decide +kernel
theorem dX10_init_291 : decode cX10_init 291 = .ok (.bipush 116, 2) := by decide +kernel
theorem dX10_init_293 : decode cX10_init 293 = .ok (.castore, 1) := by decide +kernel
theorem dX10_init_294 : decode cX10_init 294 = .ok (.dup, 1) := by decide +kernel
theorem dX10_init_295 : decode cX10_init 295 = .ok (.iconst 4, 1) := by decide +kernel
theorem dX10_init_296 : decode cX10_init 296 = .ok (.bipush 114, 2) := by decide +kernel
theorem dX10_init_298 : decode cX10_init 298 = .ok (.castore, 1) := by decide +kernel
theorem dX10_init_299 : decode cX10_init 299 = .ok (.dup, 1) := by decide +kernel
theorem dX10_init_300 : decode cX10_init 300 = .ok (.iconst 5, 1) := by decide +kernel
theorem dX10_init_301 : decode cX10_init 301 = .ok (.bipush 111, 2) := by decide +kernel
theorem dX10_init_303 : decode cX10_init 303 = .ok (.castore, 1) := by decide +kernel
theorem dX10_init_304 : decode cX10_init 304 = .ok (.dup, 1) := by decide +kernel
theorem dX10_init_305 : decode cX10_init 305 = .ok (.bipush 6, 2) := by decide +kernel
theorem dX10_init_307 : decode cX10_init 307 = .ok (.bipush 108, 2) := by decide +kernel
theorem dX10_init_309 : decode cX10_init 309 = .ok (.castore, 1) := by decide +kernel
theorem dX10_init_310 : decode cX10_init 310 = .ok (.putfield 45, 3) := by decide +kernel
theorem dX10_init_313 : decode cX10_init 313 = .ok (.aload_n 0, 1) := by decide +kernel
theorem dX10_init_314 : decode cX10_init 314 = .ok (.iconst 3, 1) := by decide +kernel
theorem dX10_init_315 : decode cX10_init 315 = .ok (.newarray .char, 2) := by decide +kernel
theorem dX10_init_317 : decode cX10_init 317 = .ok (.dup, 1) := by decide +kernel
theorem dX10_init_318 : decode cX10_init 318 = .ok (.iconst 0, 1) := by decide +kernel
theorem dX10_init_319 : decode cX10_init 319 = .ok (.bipush 115, 2) := by decide +kernel
theorem dX10_init_321 : decode cX10_init 321 = .ok (.castore, 1) := by decide +kernel
theorem dX10_init_322 : decode cX10_init 322 = .ok (.dup, 1) := by decide +kernel
theorem dX10_init_323 : decode cX10_init 323 = .ok (.iconst 1, 1) := by decide +kernel
theorem dX10_init_324 : decode cX10_init 324 = .ok (.bipush 101, 2) := by decide +kernel
theorem dX10_init_326 : decode cX10_init 326 = .ok (.castore, 1) := by decide +kernel
theorem dX10_init_327 : decode cX10_init 327 = .ok (.dup, 1) := by decide +kernel
theorem dX10_init_328 : decode cX10_init 328 = .ok (.iconst 2, 1) := by decide +kernel
theorem dX10_init_329 : decode cX10_init 329 = .ok (.bipush 116, 2) := by decide +kernel
theorem dX10_init_331 : decode cX10_init 331 = .ok (.castore, 1) := by decide +kernel
theorem dX10_init_332 : decode cX10_init 332 = .ok (.putfield 48, 3) := by decide +kernel
theorem dX10_init_335 : decode cX10_init 335 = .ok (.aload_n 0, 1) := by decide +kernel
theorem dX10_init_336 : decode cX10_init 336 = .ok (.bipush 6, 2) := by decide +kernel
theorem dX10_init_338 : decode cX10_init 338 = .ok (.newarray .char, 2) := by decide +kernel
theorem dX10_init_340 : decode cX10_init 340 = .ok (.dup, 1) := by decide +kernel
theorem dX10_init_341 : decode cX10_init 341 = .ok (.iconst 0, 1) := by decide +kernel
theorem dX10_init_342 : decode cX10_init 342 = .ok (.bipush 99, 2) := by decide +kernel
theorem dX10_init_344 : decode cX10_init 344 = .ok (.castore, 1) := by decide +kernel
theorem dX10_init_345 : decode cX10_init 345 = .ok (.dup, 1) := by decide +kernel
theorem dX10_init_346 : decode cX10_init 346 = .ok (.iconst 1, 1) := by decide +kernel
theorem dX10_init_347 : decode cX10_init 347 = .ok (.bipush 101, 2) := by decide +kernel
theorem dX10_init_349 : decode cX10_init 349 = .ok (.castore, 1) := by decide +kernel
theorem dX10_init_350 : decode cX10_init 350 = .ok (.dup, 1) := by decide +kernel
theorem dX10_init_351 : decode cX10_init 351 = .ok (.iconst 2, 1) := by decide +kernel
theorem dX10_init_352 : decode cX10_init 352 = .ok (.bipush 110, 2) := by decide +kernel
theorem dX10_init_354 : decode cX10_init 354 = .ok (.castore, 1) := by decide +kernel
theorem dX10_init_355 : decode cX10_init 355 = .ok (.dup, 1) := by decide +kernel
theorem dX10_init_356 : decode cX10_init 356 = .ok (.iconst 3, 1) := by decide +kernel
theorem dX10_init_357 : decode cX10_init 357 = .ok (.bipush 116, 2) := by decide +kernel
theorem dX10_init_359 : decode cX10_init 359 = .ok (.castore, 1) := by decide +kernel
theorem dX10_init_360 : decode cX10_init 360 = .ok (.dup, 1) := by decide +kernel
theorem dX10_init_361 : decode cX10_init 361 = .ok (.iconst 4, 1) := by decide +kernel
theorem dX10_init_362 : decode cX10_init 362 = .ok (.bipush 114, 2) := by decide +kernel
theorem dX10_init_364 : decode cX10_init 364 = .ok (.castore, 1) := by decide +kernel
theorem dX10_init_365 : decode cX10_init 365 = .ok (.dup, 1) := by decide +kernel
theorem dX10_init_366 : decode cX10_init 366 = .ok (.iconst 5, 1) := by decide +kernel
theorem dX10_init_367 : decode cX10_init 367 = .ok (.bipush 101, 2) := by decide +kernel
theorem dX10_init_369 : decode cX10_init 369 = .ok (.castore, 1) := by decide +kernel
theorem dX10_init_370 : decode cX10_init 370 = .ok (.putfield 51, 3) := by decide +kernel
theorem dX10_init_373 : decode cX10_init 373 = .ok (.aload_n 0, 1) := by decide +kernel
theorem dX10_init_374 : decode cX10_init 374 = .ok (.bipush 120, 2) := by decide +kernel
theorem dX10_init_376 : decode cX10_init 376 = .ok (.newarray .long, 2) := by decide +kernel
theorem dX10_init_378 : decode cX10_init 378 = .ok (.putfield 54, 3) := by decide +kernel
theorem dX10_init_381 : decode cX10_init 381 = .ok (.aload_n 0, 1) := by decide +kernel
theorem dX10_init_382 : decode cX10_init 382 = .ok (.bipush 12, 2) := by decide +kernel
theorem dX10_init_384 : decode cX10_init 384 = .ok (.newarray .int, 2) := by decide +kernel
theorem dX10_init_386 : decode cX10_init 386 = .ok (.putfield 58, 3) := by decide +kernel
theorem dX10_init_389 : decode cX10_init 389 = .ok (.aload_n 0, 1) := by decide +kernel
theorem dX10_init_390 : decode cX10_init 390 = .ok (.bipush 24, 2) := by decide +kernel
theorem dX10_init_392 : decode cX10_init 392 = .ok (.newarray .int, 2) := by decide +kernel
theorem dX10_init_394 : decode cX10_init 394 = .ok (.putfield 61, 3) := by decide +kernel
theorem dX10_init_397 : decode cX10_init 397 = .ok (.aload_n 0, 1) := by decide +kernel
theorem dX10_init_398 : decode cX10_init 398 = .ok (.bipush 24, 2) := by decide +kernel
theorem dX10_init_400 : decode cX10_init 400 = .ok (.newarray .int, 2) := by decide +kernel
theorem dX10_init_402 : decode cX10_init 402 = .ok (.putfield 64, 3) := by decide +kernel
theorem dX10_init_405 : decode cX10_init 405 = .ok (.aload_n 0, 1) := by decide +kernel
theorem dX10_init_406 : decode cX10_init 406 = .ok (.bipush 24, 2) := by decide +kernel
theorem dX10_init_408 : decode cX10_init 408 = .ok (.newarray .int, 2) := by decide +kernel
theorem dX10_init_410 : decode cX10_init 410 = .ok (.putfield 67, 3) := by decide +kernel
theorem dX10_init_413 : decode cX10_init 413 = .ok (.aload_n 0, 1) := by decide +kernel
theorem dX10_init_414 : decode cX10_init 414 = .ok (.bipush 48, 2) := by decide +kernel
theorem dX10_init_416 : decode cX10_init 416 = .ok (.newarray .int, 2) := by decide +kernel
theorem dX10_init_418 : decode cX10_init 418 = .ok (.putfield 70, 3) := by decide +kernel
theorem dX10_init_421 : decode cX10_init 421 = .ok (.aload_n 0, 1) := by decide +kernel
theorem dX10_init_422 : decode cX10_init 422 = .ok (.bipush 40, 2) := by decide +kernel
theorem dX10_init_424 : decode cX10_init 424 = .ok (.newarray .int, 2) := by decide +kernel
theorem dX10_init_426 : decode cX10_init 426 = .ok (.putfield 73, 3) := by decide +kernel
theorem dX10_init_429 : decode cX10_init 429 = .ok (.aload_n 0, 1) := by decide +kernel
theorem dX10_init_430 : decode cX10_init 430 = .ok (.bipush 80, 2) := by decide +kernel
theorem dX10_init_432 : decode cX10_init 432 = .ok (.newarray .int, 2) := by decide +kernel
theorem dX10_init_434 : decode cX10_init 434 = .ok (.putfield 76, 3) := by decide +kernel
theorem dX10_init_437 : decode cX10_init 437 = .ok (.aload_n 0, 1) := by decide +kernel
theorem dX10_init_438 : decode cX10_init 438 = .ok (.bipush 120, 2) := by decide +kernel
theorem dX10_init_440 : decode cX10_init 440 = .ok (.newarray .int, 2) := by decide +kernel
theorem dX10_init_442 : decode cX10_init 442 = .ok (.putfield 79, 3) := by decide +kernel
theorem dX10_init_445 : decode cX10_init 445 = .ok (.aload_n 0, 1) := by decide +kernel
theorem dX10_init_446 : decode cX10_init 446 = .ok (.bipush 120, 2) := by decide +kernel
theorem dX10_init_448 : decode cX10_init 448 = .ok (.newarray .int, 2) := by decide +kernel
theorem dX10_init_450 : decode cX10_init 450 = .ok (.putfield 82, 3) := by decide +kernel
theorem dX10_init_453 : decode cX10_init 453 = .ok (.aload_n 0, 1) := by decide +kernel
theorem dX10_init_454 : decode cX10_init 454 = .ok (.sipush 240, 3) := by decide +kernel
theorem dX10_init_457 : decode cX10_init 457 = .ok (.newarray .int, 2) := by decide +kernel
theorem dX10_init_459 : decode cX10_init 459 = .ok (.putfield 85, 3) := by decide +kernel
theorem dX10_init_462 : decode cX10_init 462 = .ok (.aload_n 0, 1) := by decide +kernel
theorem dX10_init_463 : decode cX10_init 463 = .ok (.bipush 120, 2) := by decide +kernel
theorem dX10_init_465 : decode cX10_init 465 = .ok (.newarray .int, 2) := by decide +kernel
theorem dX10_init_467 : decode cX10_init 467 = .ok (.putfield 88, 3) := by decide +kernel
theorem dX10_init_470 : decode cX10_init 470 = .ok (.aload_n 0, 1) := by decide +kernel
theorem dX10_init_471 : decode cX10_init 471 = .ok (.bipush 60, 2) := by decide +kernel
theorem dX10_init_473 : decode cX10_init 473 = .ok (.newarray .boolean, 2) := by decide +kernel
theorem dX10_init_475 : decode cX10_init 475 = .ok (.putfield 91, 3) := by decide +kernel
theorem dX10_init_478 : decode cX10_init 478 = .ok (.aload_n 0, 1) := by decide +kernel
theorem dX10_init_479 : decode cX10_init 479 = .ok (.iconst 3, 1) := by decide +kernel
theorem dX10_init_480 : decode cX10_init 480 = .ok (.putfield 95, 3) := by decide +kernel
theorem dX10_init_483 : decode cX10_init 483 = .ok (.aload_n 0, 1) := by decide +kernel
theorem dX10_init_484 : decode cX10_init 484 = .ok (.bipush 12, 2) := by decide +kernel
theorem dX10_init_486 : decode cX10_init 486 = .ok (.newarray .int, 2) := by decide +kernel
theorem dX10_init_488 : decode cX10_init 488 = .ok (.putfield 98, 3) := by decide +kernel
theorem dX10_init_491 : decode cX10_init 491 = .ok (.aload_n 0, 1) := by decide +kernel
theorem dX10_init_492 : decode cX10_init 492 = .ok (.bipush 76, 2) := by decide +kernel
theorem dX10_init_494 : decode cX10_init 494 = .ok (.newarray .int, 2) := by decide +kernel
theorem dX10_init_496 : decode cX10_init 496 = .ok (.putfield 101, 3) := by decide +kernel
theorem dX10_init_499 : decode cX10_init 499 = .ok (.aload_n 0, 1) := by decide +kernel
theorem dX10_init_500 : decode cX10_init 500 = .ok (.bipush 12, 2) := by decide +kernel
theorem dX10_init_502 : decode cX10_init 502 = .ok (.newarray .boolean, 2) := by decide +kernel
theorem dX10_init_504 : decode cX10_init 504 = .ok (.putfield 104, 3) := by decide +kernel
theorem dX10_init_507 : decode cX10_init 507 = .ok (.aload_n 0, 1) := by decide +kernel
theorem dX10_init_508 : decode cX10_init 508 = .ok (.bipush 38, 2) := by decide +kernel
theorem dX10_init_510 : decode cX10_init 510 = .ok (.newarray .int, 2) := by decide +kernel
theorem dX10_init_512 : decode cX10_init 512 = .ok (.putfield 107, 3) := by decide +kernel
theorem dX10_init_515 : decode cX10_init 515 = .ok (.aload_n 0, 1) := by decide +kernel
theorem dX10_init_516 : decode cX10_init 516 = .ok (.sipush 1520, 3) := by decide +kernel
theorem dX10_init_519 : decode cX10_init 519 = .ok (.newarray .long, 2) := by decide +kernel
theorem dX10_init_521 : decode cX10_init 521 = .ok (.putfield 110, 3) := by decide +kernel
theorem dX10_init_524 : decode cX10_init 524 = .ok (.aload_n 0, 1) := by decide +kernel
theorem dX10_init_525 : decode cX10_init 525 = .ok (.bipush 32, 2) := by decide +kernel
theorem dX10_init_527 : decode cX10_init 527 = .ok (.newarray .int, 2) := by decide +kernel
theorem dX10_init_529 : decode cX10_init 529 = .ok (.putfield 113, 3) := by decide +kernel
theorem dX10_init_532 : decode cX10_init 532 = .ok (.aload_n 0, 1) := by decide +kernel
theorem dX10_init_533 : decode cX10_init 533 = .ok (.bipush 60, 2) := by decide +kernel
theorem dX10_init_535 : decode cX10_init 535 = .ok (.newarray .boolean, 2) := by decide +kernel
theorem dX10_init_537 : decode cX10_init 537 = .ok (.putfield 116, 3) := by decide +kernel
theorem dX10_init_540 : decode cX10_init 540 = .ok (.aload_n 0, 1) := by decide +kernel
theorem dX10_init_541 : decode cX10_init 541 = .ok (.bipush 12, 2) := by decide +kernel
theorem dX10_init_543 : decode cX10_init 543 = .ok (.newarray .int, 2) := by decide +kernel
theorem dX10_init_545 : decode cX10_init 545 = .ok (.putfield 119, 3) := by decide +kernel
theorem dX10_init_548 : decode cX10_init 548 = .ok (.aload_n 0, 1) := by decide +kernel
theorem dX10_init_549 : decode cX10_init 549 = .ok (.bipush 12, 2) := by decide +kernel
theorem dX10_init_551 : decode cX10_init 551 = .ok (.newarray .int, 2) := by decide +kernel
theorem dX10_init_553 : decode cX10_init 553 = .ok (.putfield 122, 3) := by decide +kernel
theorem dX10_init_556 : decode cX10_init 556 = .ok (.aload_n 0, 1) := by decide +kernel
theorem dX10_init_557 : decode cX10_init 557 = .ok (.bipush 60, 2) := by decide +kernel
theorem dX10_init_559 : decode cX10_init 559 = .ok (.newarray .boolean, 2) := by decide +kernel
theorem dX10_init_561 : decode cX10_init 561 = .ok (.putfield 125, 3) := by decide +kernel
theorem dX10_init_564 : decode cX10_init 564 = .ok (.aload_n 0, 1) := by decide +kernel
theorem dX10_init_565 : decode cX10_init 565 = .ok (.bipush 76, 2) := by decide +kernel
theorem dX10_init_567 : decode cX10_init 567 = .ok (.newarray .int, 2) := by decide +kernel
theorem dX10_init_569 : decode cX10_init 569 = .ok (.putfield 128, 3) := by decide +kernel
theorem dX10_init_572 : decode cX10_init 572 = .ok (.aload_n 0, 1) := by decide +kernel
theorem dX10_init_573 : decode cX10_init 573 = .ok (.bipush 12, 2) := by decide +kernel
theorem dX10_init_575 : decode cX10_init 575 = .ok (.newarray .int, 2) := by decide +kernel
theorem dX10_init_577 : decode cX10_init 577 = .ok (.putfield 131, 3) := by decide +kernel
theorem dX10_init_580 : decode cX10_init 580 = .ok (.aload_n 0, 1) := by decide +kernel
theorem dX10_init_581 : decode cX10_init 581 = .ok (.bipush 24, 2) := by decide +kernel
theorem dX10_init_583 : decode cX10_init 583 = .ok (.newarray .int, 2) := by decide +kernel
theorem dX10_init_585 : decode cX10_init 585 = .ok (.putfield 134, 3) := by decide +kernel
theorem dX10_init_588 : decode cX10_init 588 = .ok (.aload_n 0, 1) := by decide +kernel
theorem dX10_init_589 : decode cX10_init 589 = .ok (.sipush 400, 3) := by decide +kernel
theorem dX10_init_592 : decode cX10_init 592 = .ok (.newarray .int, 2) := by decide +kernel
theorem dX10_init_594 : decode cX10_init 594 = .ok (.putfield 137, 3) := by decide +kernel
theorem dX10_init_597 : decode cX10_init 597 = .ok (.return_, 1) := by decide +kernel
theorem dX10_isIn_0 : decode cX10_isIn 0 = .ok (.lload_n 0, 1) := by decide +kernel
theorem dX10_isIn_1 : decode cX10_isIn 1 = .ok (.lload_n 2, 1) := by decide +kernel
theorem dX10_isIn_2 : decode cX10_isIn 2 = .ok (.lcmp, 1) := by decide +kernel
theorem dX10_isIn_3 : decode cX10_isIn 3 = .ok (.ifCond .lt 14, 3) := by decide +kernel
theorem dX10_isIn_6 : decode cX10_isIn 6 = .ok (.lload_n 0, 1) := by decide +kernel
theorem dX10_isIn_7 : decode cX10_isIn 7 = .ok (.lload 4, 2) := by decide +kernel
theorem dX10_isIn_9 : decode cX10_isIn 9 = .ok (.lcmp, 1) := by decide +kernel
theorem dX10_isIn_10 : decode cX10_isIn 10 = .ok (.ifCond .gt 7, 3) := by decide +kernel
theorem dX10_isIn_13 : decode cX10_isIn 13 = .ok (.iconst 1, 1) := by decide +kernel
theorem dX10_isIn_14 : decode cX10_isIn 14 = .ok (.goto 4, 3) := by decide +kernel
theorem dX10_isIn_17 : decode cX10_isIn 17 = .ok (.iconst 0, 1) := by decide +kernel
theorem dX10_isIn_18 : decode cX10_isIn 18 = .ok (.ireturn, 1) := by decide +kernel
theorem dX10_feed_0 : decode cX10_feed 0 = .ok (.aload_n 0, 1) := by decide +kernel
theorem dX10_feed_1 : decode cX10_feed 1 = .ok (.getfield 140, 3) := by decide +kernel
theorem dX10_feed_4 : decode cX10_feed 4 = .ok (.bipush 20, 2) := by decide +kernel
theorem dX10_feed_6 : decode cX10_feed 6 = .ok (.iadd, 1) := by decide +kernel
theorem dX10_feed_7 : decode cX10_feed 7 = .ok (.sipush 1600, 3) := by decide +kernel
theorem dX10_feed_10 : decode cX10_feed 10 = .ok (.if_icmp .le 5, 3) := by decide +kernel
theorem dX10_feed_13 : decode cX10_feed 13 = .ok (.iconst (-1), 1) := by decide +kernel
theorem dX10_feed_14 : decode cX10_feed 14 = .ok (.ireturn, 1) := by decide +kernel
theorem dX10_feed_15 : decode cX10_feed 15 = .ok (.iconst 0, 1) := by decide +kernel
theorem dX10_feed_16 : decode cX10_feed 16 = .ok (.istore 6, 2) := by decide +kernel
theorem dX10_feed_18 : decode cX10_feed 18 = .ok (.iload 6, 2) := by decide +kernel
theorem dX10_feed_20 : decode cX10_feed 20 = .ok (.bipush 20, 2) := by decide +kernel
theorem dX10_feed_22 : decode cX10_feed 22 = .ok (.if_icmp .ge 92, 3) := by decide +kernel
theorem dX10_feed_25 : decode cX10_feed 25 = .ok (.iload 6, 2) := by decide +kernel
theorem dX10_feed_27 : decode cX10_feed 27 = .ok (.iconst 4, 1) := by decide +kernel
theorem dX10_feed_28 : decode cX10_feed 28 = .ok (.if_icmp .ge 7, 3) := by decide +kernel
theorem dX10_feed_31 : decode cX10_feed 31 = .ok (.iload_n 1, 1) := by decide +kernel
theorem dX10_feed_32 : decode cX10_feed 32 = .ok (.goto 39, 3) := by decide +kernel
theorem dX10_feed_35 : decode cX10_feed 35 = .ok (.iload 6, 2) := by decide +kernel
theorem dX10_feed_37 : decode cX10_feed 37 = .ok (.bipush 8, 2) := by decide +kernel
theorem dX10_feed_39 : decode cX10_feed 39 = .ok (.if_icmp .ge 7, 3) := by decide +kernel
theorem dX10_feed_42 : decode cX10_feed 42 = .ok (.iload_n 2, 1) := by decide +kernel
theorem dX10_feed_43 : decode cX10_feed 43 = .ok (.goto 28, 3) := by decide +kernel
theorem dX10_feed_46 : decode cX10_feed 46 = .ok (.iload 6, 2) := by decide +kernel
theorem dX10_feed_48 : decode cX10_feed 48 = .ok (.bipush 12, 2) := by decide +kernel
theorem dX10_feed_50 : decode cX10_feed 50 = .ok (.if_icmp .ge 7, 3) := by decide +kernel
theorem dX10_feed_53 : decode cX10_feed 53 = .ok (.iload_n 3, 1) := by decide +kernel
theorem dX10_feed_54 : decode cX10_feed 54 = .ok (.goto 17, 3) := by decide +kernel
theorem dX10_feed_57 : decode cX10_feed 57 = .ok (.iload 6, 2) := by decide +kernel
theorem dX10_feed_59 : decode cX10_feed 59 = .ok (.bipush 16, 2) := by decide +kernel
theorem dX10_feed_61 : decode cX10_feed 61 = .ok (.if_icmp .ge 8, 3) := by decide +kernel
theorem dX10_feed_64 : decode cX10_feed 64 = .ok (.iload 4, 2) := by decide +kernel
theorem dX10_feed_66 : decode cX10_feed 66 = .ok (.goto 5, 3) := by decide +kernel
theorem dX10_feed_69 : decode cX10_feed 69 = .ok (.iload 5, 2) := by decide +kernel
theorem dX10_feed_71 : decode cX10_feed 71 = .ok (.istore 7, 2) := by decide +kernel
theorem dX10_feed_73 : decode cX10_feed 73 = .ok (.aload_n 0, 1) := by decide +kernel
theorem dX10_feed_74 : decode cX10_feed 74 = .ok (.getfield 7, 3) := by decide +kernel
theorem dX10_feed_77 : decode cX10_feed 77 = .ok (.aload_n 0, 1) := by decide +kernel
theorem dX10_feed_78 : decode cX10_feed 78 = .ok (.getfield 140, 3) := by decide +kernel
theorem dX10_feed_81 : decode cX10_feed 81 = .ok (.iload 7, 2) := by decide +kernel
theorem dX10_feed_83 : decode cX10_feed 83 = .ok (.bipush 8, 2) := by decide +kernel
theorem dX10_feed_85 : decode cX10_feed 85 = .ok (.iconst 3, 1) := by decide +kernel
theorem dX10_feed_86 : decode cX10_feed 86 = .ok (.iload 6, 2) := by decide +kernel
theorem dX10_feed_88 : decode cX10_feed 88 = .ok (.iconst 4, 1) := by decide +kernel
theorem dX10_feed_89 : decode cX10_feed 89 = .ok (.irem, 1) := by decide +kernel
theorem dX10_feed_90 : decode cX10_feed 90 = .ok (.isub, 1) := by decide +kernel
theorem dX10_feed_91 : decode cX10_feed 91 = .ok (.imul, 1) := by decide +kernel
theorem dX10_feed_92 : decode cX10_feed 92 = .ok (.ishr, 1) := by decide +kernel
theorem dX10_feed_93 : decode cX10_feed 93 = .ok (.sipush 255, 3) := by decide +kernel
theorem dX10_feed_96 : decode cX10_feed 96 = .ok (.iand, 1) := by decide +kernel
theorem dX10_feed_97 : decode cX10_feed 97 = .ok (.iastore, 1) := by decide +kernel
theorem dX10_feed_98 : decode cX10_feed 98 = .ok (.aload_n 0, 1) := by decide +kernel
theorem dX10_feed_99 : decode cX10_feed 99 = .ok (.dup, 1) := by decide +kernel
theorem dX10_feed_100 : decode cX10_feed 100 = .ok (.getfield 140, 3) := by decide +kernel
theorem dX10_feed_103 : decode cX10_feed 103 = .ok (.iconst 1, 1) := by decide +kernel
theorem dX10_feed_104 : decode cX10_feed 104 = .ok (.iadd, 1) := by decide +kernel
theorem dX10_feed_105 : decode cX10_feed 105 = .ok (.putfield 140, 3) := by decide +kernel
theorem dX10_feed_108 : decode cX10_feed 108 = .ok (.iinc 6 1, 3) := by decide +kernel
theorem dX10_feed_111 : decode cX10_feed 111 = .ok (.goto (-93), 3) := by decide +kernel
theorem dX10_feed_114 : decode cX10_feed 114 = .ok (.aload_n 0, 1) := by decide +kernel
theorem dX10_feed_115 : decode cX10_feed 115 = .ok (.getfield 140, 3) := by decide +kernel
theorem dX10_feed_118 : decode cX10_feed 118 = .ok (.ireturn, 1) := by decide +kernel
theorem dX10_end_0 : decode cX10_end 0 = .ok (.iload_n 1, 1) := by decide +kernel
theorem dX10_end_1 : decode cX10_end 1 = .ok (.ifCond .lt 11, 3) := by decide +kernel
theorem dX10_end_4 : decode cX10_end 4 = .ok (.iload_n 1, 1) := by decide +kernel
theorem dX10_end_5 : decode cX10_end 5 = .ok (.aload_n 0, 1) := by decide +kernel
theorem dX10_end_6 : decode cX10_end 6 = .ok (.getfield 140, 3) := by decide +kernel
theorem dX10_end_9 : decode cX10_end 9 = .ok (.if_icmp .le 5, 3) := by decide +kernel
theorem dX10_end_12 : decode cX10_end 12 = .ok (.iconst 0, 1) := by decide +kernel
theorem dX10_end_13 : decode cX10_end 13 = .ok (.ireturn, 1) := by decide +kernel
theorem dX10_end_14 : decode cX10_end 14 = .ok (.aload_n 0, 1) := by decide +kernel
theorem dX10_end_15 : decode cX10_end 15 = .ok (.iload_n 1, 1) := by decide +kernel
theorem dX10_end_16 : decode cX10_end 16 = .ok (.putfield 140, 3) := by decide +kernel
theorem dX10_end_19 : decode cX10_end 19 = .ok (.iconst 1, 1) := by decide +kernel
theorem dX10_end_20 : decode cX10_end 20 = .ok (.ireturn, 1) := by decide +kernel
theorem dX10_fail_0 : decode cX10_fail 0 = .ok (.aload_n 0, 1) := by decide +kernel
theorem dX10_fail_1 : decode cX10_fail 1 = .ok (.getfield 143, 3) := by decide +kernel
theorem dX10_fail_4 : decode cX10_fail 4 = .ok (.ifCond .eq 4, 3) := by decide +kernel
theorem dX10_fail_7 : decode cX10_fail 7 = .ok (.return_, 1) := by decide +kernel
theorem dX10_fail_8 : decode cX10_fail 8 = .ok (.aload_n 0, 1) := by decide +kernel
theorem dX10_fail_9 : decode cX10_fail 9 = .ok (.iload_n 1, 1) := by decide +kernel
theorem dX10_fail_10 : decode cX10_fail 10 = .ok (.putfield 143, 3) := by decide +kernel
theorem dX10_fail_13 : decode cX10_fail 13 = .ok (.aload_n 0, 1) := by decide +kernel
theorem dX10_fail_14 : decode cX10_fail 14 = .ok (.iload_n 2, 1) := by decide +kernel
theorem dX10_fail_15 : decode cX10_fail 15 = .ok (.putfield 146, 3) := by decide +kernel
theorem dX10_fail_18 : decode cX10_fail 18 = .ok (.return_, 1) := by decide +kernel
theorem dX10_isLetter_0 : decode cX10_isLetter 0 = .ok (.iload_n 0, 1) := by decide +kernel
theorem dX10_isLetter_1 : decode cX10_isLetter 1 = .ok (.bipush 97, 2) := by decide +kernel
theorem dX10_isLetter_3 : decode cX10_isLetter 3 = .ok (.if_icmp .lt 13, 3) := by decide +kernel
theorem dX10_isLetter_6 : decode cX10_isLetter 6 = .ok (.iload_n 0, 1) := by decide +kernel
theorem dX10_isLetter_7 : decode cX10_isLetter 7 = .ok (.bipush 122, 2) := by decide +kernel
theorem dX10_isLetter_9 : decode cX10_isLetter 9 = .ok (.if_icmp .gt 7, 3) := by decide +kernel
theorem dX10_isLetter_12 : decode cX10_isLetter 12 = .ok (.iconst 1, 1) := by decide +kernel
theorem dX10_isLetter_13 : decode cX10_isLetter 13 = .ok (.goto 4, 3) := by decide +kernel
theorem dX10_isLetter_16 : decode cX10_isLetter 16 = .ok (.iconst 0, 1) := by decide +kernel
theorem dX10_isLetter_17 : decode cX10_isLetter 17 = .ok (.ireturn, 1) := by decide +kernel
theorem dX10_isDigit_0 : decode cX10_isDigit 0 = .ok (.iload_n 0, 1) := by decide +kernel
theorem dX10_isDigit_1 : decode cX10_isDigit 1 = .ok (.bipush 48, 2) := by decide +kernel
theorem dX10_isDigit_3 : decode cX10_isDigit 3 = .ok (.if_icmp .lt 13, 3) := by decide +kernel
theorem dX10_isDigit_6 : decode cX10_isDigit 6 = .ok (.iload_n 0, 1) := by decide +kernel
theorem dX10_isDigit_7 : decode cX10_isDigit 7 = .ok (.bipush 57, 2) := by decide +kernel
theorem dX10_isDigit_9 : decode cX10_isDigit 9 = .ok (.if_icmp .gt 7, 3) := by decide +kernel
theorem dX10_isDigit_12 : decode cX10_isDigit 12 = .ok (.iconst 1, 1) := by decide +kernel
theorem dX10_isDigit_13 : decode cX10_isDigit 13 = .ok (.goto 4, 3) := by decide +kernel
theorem dX10_isDigit_16 : decode cX10_isDigit 16 = .ok (.iconst 0, 1) := by decide +kernel
theorem dX10_isDigit_17 : decode cX10_isDigit 17 = .ok (.ireturn, 1) := by decide +kernel
theorem dX10_look_0 : decode cX10_look 0 = .ok (.aload_n 0, 1) := by decide +kernel
theorem dX10_look_1 : decode cX10_look 1 = .ok (.getfield 149, 3) := by decide +kernel
theorem dX10_look_4 : decode cX10_look 4 = .ok (.aload_n 0, 1) := by decide +kernel
theorem dX10_look_5 : decode cX10_look 5 = .ok (.getfield 152, 3) := by decide +kernel
theorem dX10_look_8 : decode cX10_look 8 = .ok (.if_icmp .ge 44, 3) := by decide +kernel
theorem dX10_look_11 : decode cX10_look 11 = .ok (.aload_n 0, 1) := by decide +kernel
theorem dX10_look_12 : decode cX10_look 12 = .ok (.getfield 7, 3) := by decide +kernel
theorem dX10_look_15 : decode cX10_look 15 = .ok (.aload_n 0, 1) := by decide +kernel
theorem dX10_look_16 : decode cX10_look 16 = .ok (.getfield 149, 3) := by decide +kernel
theorem dX10_look_19 : decode cX10_look 19 = .ok (.iaload, 1) := by decide +kernel
theorem dX10_look_20 : decode cX10_look 20 = .ok (.bipush 10, 2) := by decide +kernel
theorem dX10_look_22 : decode cX10_look 22 = .ok (.if_icmp .eq 17, 3) := by decide +kernel
theorem dX10_look_25 : decode cX10_look 25 = .ok (.aload_n 0, 1) := by decide +kernel
theorem dX10_look_26 : decode cX10_look 26 = .ok (.getfield 7, 3) := by decide +kernel
theorem dX10_look_29 : decode cX10_look 29 = .ok (.aload_n 0, 1) := by decide +kernel
theorem dX10_look_30 : decode cX10_look 30 = .ok (.getfield 149, 3) := by decide +kernel
theorem dX10_look_33 : decode cX10_look 33 = .ok (.iaload, 1) := by decide +kernel
theorem dX10_look_34 : decode cX10_look 34 = .ok (.bipush 32, 2) := by decide +kernel
theorem dX10_look_36 : decode cX10_look 36 = .ok (.if_icmp .ne 16, 3) := by decide +kernel
theorem dX10_look_39 : decode cX10_look 39 = .ok (.aload_n 0, 1) := by decide +kernel
theorem dX10_look_40 : decode cX10_look 40 = .ok (.dup, 1) := by decide +kernel
theorem dX10_look_41 : decode cX10_look 41 = .ok (.getfield 149, 3) := by decide +kernel
theorem dX10_look_44 : decode cX10_look 44 = .ok (.iconst 1, 1) := by decide +kernel
theorem dX10_look_45 : decode cX10_look 45 = .ok (.iadd, 1) := by decide +kernel
theorem dX10_look_46 : decode cX10_look 46 = .ok (.putfield 149, 3) := by decide +kernel
theorem dX10_look_49 : decode cX10_look 49 = .ok (.goto (-49), 3) := by decide +kernel
theorem dX10_look_52 : decode cX10_look 52 = .ok (.aload_n 0, 1) := by decide +kernel
theorem dX10_look_53 : decode cX10_look 53 = .ok (.getfield 149, 3) := by decide +kernel
theorem dX10_look_56 : decode cX10_look 56 = .ok (.aload_n 0, 1) := by decide +kernel
theorem dX10_look_57 : decode cX10_look 57 = .ok (.getfield 152, 3) := by decide +kernel
theorem dX10_look_60 : decode cX10_look 60 = .ok (.if_icmp .ge 15, 3) := by decide +kernel
theorem dX10_look_63 : decode cX10_look 63 = .ok (.aload_n 0, 1) := by decide +kernel
theorem dX10_look_64 : decode cX10_look 64 = .ok (.getfield 7, 3) := by decide +kernel
theorem dX10_look_67 : decode cX10_look 67 = .ok (.aload_n 0, 1) := by decide +kernel
theorem dX10_look_68 : decode cX10_look 68 = .ok (.getfield 149, 3) := by decide +kernel
theorem dX10_look_71 : decode cX10_look 71 = .ok (.iaload, 1) := by decide +kernel
theorem dX10_look_72 : decode cX10_look 72 = .ok (.goto 4, 3) := by decide +kernel
theorem dX10_look_75 : decode cX10_look 75 = .ok (.iconst (-1), 1) := by decide +kernel
theorem dX10_look_76 : decode cX10_look 76 = .ok (.ireturn, 1) := by decide +kernel
theorem gcX10_isHere__X100 : ∀ w ∈ wsX100, w ∈ wsX10_isHere := fun w h => List.mem_cons_of_mem _ (List.mem_append_right _ (h))
set_option maxRecDepth 20000 in
theorem gwX10_look : wsX10_look.all goodWord = true := by decide +kernel
set_option maxRecDepth 20000 in
theorem ggX10_isHere_X10_look : GoodIn wsX10_isHere wsX10_look := goodIn_sub (List.forall_mem_cons.mpr ⟨(List.mem_of_getElem? (i := 10) rfl), List.forall_mem_append.mpr ⟨List.forall_mem_cons.mpr ⟨(List.mem_of_getElem? (i := 2) rfl), List.forall_mem_cons.mpr ⟨(List.mem_of_getElem? (i := 4) rfl), List.forall_mem_cons.mpr ⟨(List.mem_of_getElem? (i := 5) rfl), fun _ h => (List.not_mem_nil h).elim⟩⟩⟩, gcX10_isHere__X100⟩⟩) gwX10_look
set_option maxRecDepth 20000 in
theorem gX10_isHere_X10_look : GoodIn wsX10_isHere (wsV RX10 155 RX10 yX10_look wsX10_look) := goodIn_app (goodIn_sub (List.forall_mem_cons.mpr ⟨(List.mem_of_getElem? (i := 6) rfl), List.forall_mem_cons.mpr ⟨(List.mem_of_getElem? (i := 7) rfl), List.forall_mem_cons.mpr ⟨(List.mem_of_getElem? (i := 8) rfl), List.forall_mem_cons.mpr ⟨(List.mem_of_getElem? (i := 9) rfl), fun _ h => (List.not_mem_nil h).elim⟩⟩⟩⟩) (by decide +kernel)) ggX10_isHere_X10_look
set_option maxRecDepth 20000 in
theorem gwX10_isLetter : wsX10_isLetter.all goodWord = true := by decide +kernel
set_option maxRecDepth 20000 in
theorem ggX10_isHere_X10_isLetter : GoodIn wsX10_isHere wsX10_isLetter := goodIn_sub (List.forall_mem_cons.mpr ⟨(List.mem_of_getElem? (i := 13) rfl), fun _ h => (List.not_mem_nil h).elim⟩) gwX10_isLetter
set_option maxRecDepth 20000 in
theorem gX10_isHere_X10_isLetter : GoodIn wsX10_isHere (va_wsS RX10 159 yX10_isLetter wsX10_isLetter) := goodIn_app (goodIn_sub (List.forall_mem_cons.mpr ⟨(List.mem_of_getElem? (i := 11) rfl), List.forall_mem_cons.mpr ⟨(List.mem_of_getElem? (i := 12) rfl), List.forall_mem_cons.mpr ⟨(List.mem_of_getElem? (i := 9) rfl), fun _ h => (List.not_mem_nil h).elim⟩⟩⟩) (by decide +kernel)) ggX10_isHere_X10_isLetter
theorem dX10_isHere_0 : decode cX10_isHere 0 = .ok (.aload_n 0, 1) := by decide +kernel
theorem dX10_isHere_1 : decode cX10_isHere 1 = .ok (.getfield 143, 3) := by decide +kernel
theorem dX10_isHere_4 : decode cX10_isHere 4 = .ok (.ifCond .ne 24, 3) := by decide +kernel
theorem dX10_isHere_7 : decode cX10_isHere 7 = .ok (.aload_n 0, 1) := by decide +kernel
theorem dX10_isHere_8 : decode cX10_isHere 8 = .ok (.invokevirtual 155, 3) := by decide +kernel
theorem dX10_isHere_11 : decode cX10_isHere 11 = .ok (.invokestatic 159, 3) := by decide +kernel
theorem dX10_isHere_14 : decode cX10_isHere 14 = .ok (.ifCond .eq 14, 3) := by decide +kernel
theorem dX10_isHere_17 : decode cX10_isHere 17 = .ok (.aload_n 0, 1) := by decide +kernel
theorem dX10_isHere_18 : decode cX10_isHere 18 = .ok (.getfield 149, 3) := by decide +kernel
theorem dX10_isHere_21 : decode cX10_isHere 21 = .ok (.aload_n 0, 1) := by decide +kernel
theorem dX10_isHere_22 : decode cX10_isHere 22 = .ok (.getfield 163, 3) := by decide +kernel
theorem dX10_isHere_25 : decode cX10_isHere 25 = .ok (.if_icmp .ne 5, 3) := by decide +kernel
theorem dX10_isHere_28 : decode cX10_isHere 28 = .ok (.iconst 0, 1) := by decide +kernel
theorem dX10_isHere_29 : decode cX10_isHere 29 = .ok (.ireturn, 1) := by decide +kernel
theorem dX10_isHere_30 : decode cX10_isHere 30 = .ok (.aload_n 0, 1) := by decide +kernel
theorem dX10_isHere_31 : decode cX10_isHere 31 = .ok (.getfield 149, 3) := by decide +kernel
theorem dX10_isHere_34 : decode cX10_isHere 34 = .ok (.istore_n 2, 1) := by decide +kernel
theorem dX10_isHere_35 : decode cX10_isHere 35 = .ok (.iload_n 2, 1) := by decide +kernel
theorem dX10_isHere_36 : decode cX10_isHere 36 = .ok (.aload_n 0, 1) := by decide +kernel
theorem dX10_isHere_37 : decode cX10_isHere 37 = .ok (.getfield 152, 3) := by decide +kernel
theorem dX10_isHere_40 : decode cX10_isHere 40 = .ok (.if_icmp .ge 21, 3) := by decide +kernel
theorem dX10_isHere_43 : decode cX10_isHere 43 = .ok (.aload_n 0, 1) := by decide +kernel
theorem dX10_isHere_44 : decode cX10_isHere 44 = .ok (.getfield 7, 3) := by decide +kernel
theorem dX10_isHere_47 : decode cX10_isHere 47 = .ok (.iload_n 2, 1) := by decide +kernel
theorem dX10_isHere_48 : decode cX10_isHere 48 = .ok (.iaload, 1) := by decide +kernel
theorem dX10_isHere_49 : decode cX10_isHere 49 = .ok (.invokestatic 159, 3) := by decide +kernel
theorem dX10_isHere_52 : decode cX10_isHere 52 = .ok (.ifCond .eq 9, 3) := by decide +kernel
theorem dX10_isHere_55 : decode cX10_isHere 55 = .ok (.iinc 2 1, 3) := by decide +kernel
theorem dX10_isHere_58 : decode cX10_isHere 58 = .ok (.goto (-23), 3) := by decide +kernel
theorem dX10_isHere_61 : decode cX10_isHere 61 = .ok (.iload_n 2, 1) := by decide +kernel
theorem dX10_isHere_62 : decode cX10_isHere 62 = .ok (.aload_n 0, 1) := by decide +kernel
theorem dX10_isHere_63 : decode cX10_isHere 63 = .ok (.getfield 149, 3) := by decide +kernel
theorem dX10_isHere_66 : decode cX10_isHere 66 = .ok (.isub, 1) := by decide +kernel
theorem dX10_isHere_67 : decode cX10_isHere 67 = .ok (.aload_n 1, 1) := by decide +kernel
theorem dX10_isHere_68 : decode cX10_isHere 68 = .ok (.arraylength, 1) := by decide +kernel
theorem dX10_isHere_69 : decode cX10_isHere 69 = .ok (.if_icmp .eq 5, 3) := by decide +kernel
theorem dX10_isHere_72 : decode cX10_isHere 72 = .ok (.iconst 0, 1) := by decide +kernel
theorem dX10_isHere_73 : decode cX10_isHere 73 = .ok (.ireturn, 1) := by decide +kernel
theorem dX10_isHere_74 : decode cX10_isHere 74 = .ok (.iconst 0, 1) := by decide +kernel
theorem dX10_isHere_75 : decode cX10_isHere 75 = .ok (.istore_n 3, 1) := by decide +kernel
theorem dX10_isHere_76 : decode cX10_isHere 76 = .ok (.iload_n 3, 1) := by decide +kernel
theorem dX10_isHere_77 : decode cX10_isHere 77 = .ok (.aload_n 1, 1) := by decide +kernel
theorem dX10_isHere_78 : decode cX10_isHere 78 = .ok (.arraylength, 1) := by decide +kernel
theorem dX10_isHere_79 : decode cX10_isHere 79 = .ok (.if_icmp .ge 28, 3) := by decide +kernel
theorem dX10_isHere_82 : decode cX10_isHere 82 = .ok (.aload_n 0, 1) := by decide +kernel
theorem dX10_isHere_83 : decode cX10_isHere 83 = .ok (.getfield 7, 3) := by decide +kernel
theorem dX10_isHere_86 : decode cX10_isHere 86 = .ok (.aload_n 0, 1) := by decide +kernel
theorem dX10_isHere_87 : decode cX10_isHere 87 = .ok (.getfield 149, 3) := by decide +kernel
theorem dX10_isHere_90 : decode cX10_isHere 90 = .ok (.iload_n 3, 1) := by decide +kernel
theorem dX10_isHere_91 : decode cX10_isHere 91 = .ok (.iadd, 1) := by decide +kernel
theorem dX10_isHere_92 : decode cX10_isHere 92 = .ok (.iaload, 1) := by decide +kernel
theorem dX10_isHere_93 : decode cX10_isHere 93 = .ok (.aload_n 1, 1) := by decide +kernel
theorem dX10_isHere_94 : decode cX10_isHere 94 = .ok (.iload_n 3, 1) := by decide +kernel
theorem dX10_isHere_95 : decode cX10_isHere 95 = .ok (.caload, 1) := by decide +kernel
theorem dX10_isHere_96 : decode cX10_isHere 96 = .ok (.if_icmp .eq 5, 3) := by decide +kernel
theorem dX10_isHere_99 : decode cX10_isHere 99 = .ok (.iconst 0, 1) := by decide +kernel
theorem dX10_isHere_100 : decode cX10_isHere 100 = .ok (.ireturn, 1) := by decide +kernel
theorem dX10_isHere_101 : decode cX10_isHere 101 = .ok (.iinc 3 1, 3) := by decide +kernel
theorem dX10_isHere_104 : decode cX10_isHere 104 = .ok (.goto (-28), 3) := by decide +kernel
theorem dX10_isHere_107 : decode cX10_isHere 107 = .ok (.iconst 1, 1) := by decide +kernel
theorem dX10_isHere_108 : decode cX10_isHere 108 = .ok (.ireturn, 1) := by decide +kernel
theorem gcX10_takes__X100 : ∀ w ∈ wsX100, w ∈ wsX10_takes := fun w h => List.mem_cons_of_mem _ (List.mem_append_right _ (h))
set_option maxRecDepth 20000 in
theorem gwX10_isHere : wsX10_isHere.all goodWord = true := by decide +kernel
set_option maxRecDepth 20000 in
theorem ggX10_takes_X10_isHere : GoodIn wsX10_takes wsX10_isHere := goodIn_sub (List.forall_mem_cons.mpr ⟨(List.mem_of_getElem? (i := 7) rfl), List.forall_mem_append.mpr ⟨List.forall_mem_cons.mpr ⟨(List.mem_of_getElem? (i := 8) rfl), List.forall_mem_cons.mpr ⟨(List.mem_of_getElem? (i := 1) rfl), List.forall_mem_cons.mpr ⟨(List.mem_of_getElem? (i := 2) rfl), List.forall_mem_cons.mpr ⟨(List.mem_of_getElem? (i := 9) rfl), List.forall_mem_cons.mpr ⟨(List.mem_of_getElem? (i := 10) rfl), List.forall_mem_cons.mpr ⟨(List.mem_of_getElem? (i := 11) rfl), List.forall_mem_cons.mpr ⟨(List.mem_of_getElem? (i := 12) rfl), List.forall_mem_cons.mpr ⟨(List.mem_of_getElem? (i := 13) rfl), List.forall_mem_cons.mpr ⟨(List.mem_of_getElem? (i := 6) rfl), List.forall_mem_cons.mpr ⟨(List.mem_of_getElem? (i := 14) rfl), List.forall_mem_cons.mpr ⟨(List.mem_of_getElem? (i := 15) rfl), List.forall_mem_cons.mpr ⟨(List.mem_of_getElem? (i := 16) rfl), List.forall_mem_cons.mpr ⟨(List.mem_of_getElem? (i := 17) rfl), fun _ h => (List.not_mem_nil h).elim⟩⟩⟩⟩⟩⟩⟩⟩⟩⟩⟩⟩⟩, gcX10_takes__X100⟩⟩) gwX10_isHere
set_option maxRecDepth 20000 in
theorem gX10_takes_X10_isHere : GoodIn wsX10_takes (wsV RX10 166 RX10 yX10_isHere wsX10_isHere) := goodIn_app (goodIn_sub (List.forall_mem_cons.mpr ⟨(List.mem_of_getElem? (i := 3) rfl), List.forall_mem_cons.mpr ⟨(List.mem_of_getElem? (i := 4) rfl), List.forall_mem_cons.mpr ⟨(List.mem_of_getElem? (i := 5) rfl), List.forall_mem_cons.mpr ⟨(List.mem_of_getElem? (i := 6) rfl), fun _ h => (List.not_mem_nil h).elim⟩⟩⟩⟩) (by decide +kernel)) ggX10_takes_X10_isHere
theorem dX10_takes_0 : decode cX10_takes 0 = .ok (.aload_n 0, 1) := by decide +kernel
theorem dX10_takes_1 : decode cX10_takes 1 = .ok (.aload_n 1, 1) := by decide +kernel
theorem dX10_takes_2 : decode cX10_takes 2 = .ok (.invokevirtual 166, 3) := by decide +kernel
theorem dX10_takes_5 : decode cX10_takes 5 = .ok (.ifCond .ne 5, 3) := by decide +kernel
theorem dX10_takes_8 : decode cX10_takes 8 = .ok (.iconst 0, 1) := by decide +kernel
theorem dX10_takes_9 : decode cX10_takes 9 = .ok (.ireturn, 1) := by decide +kernel
theorem dX10_takes_10 : decode cX10_takes 10 = .ok (.aload_n 0, 1) := by decide +kernel
theorem dX10_takes_11 : decode cX10_takes 11 = .ok (.dup, 1) := by decide +kernel
theorem dX10_takes_12 : decode cX10_takes 12 = .ok (.getfield 149, 3) := by decide +kernel
theorem dX10_takes_15 : decode cX10_takes 15 = .ok (.aload_n 1, 1) := by decide +kernel
theorem dX10_takes_16 : decode cX10_takes 16 = .ok (.arraylength, 1) := by decide +kernel
theorem dX10_takes_17 : decode cX10_takes 17 = .ok (.iadd, 1) := by decide +kernel
theorem dX10_takes_18 : decode cX10_takes 18 = .ok (.putfield 149, 3) := by decide +kernel
theorem dX10_takes_21 : decode cX10_takes 21 = .ok (.aload_n 0, 1) := by decide +kernel
theorem dX10_takes_22 : decode cX10_takes 22 = .ok (.aload_n 0, 1) := by decide +kernel
theorem dX10_takes_23 : decode cX10_takes 23 = .ok (.getfield 149, 3) := by decide +kernel
theorem dX10_takes_26 : decode cX10_takes 26 = .ok (.putfield 163, 3) := by decide +kernel
theorem dX10_takes_29 : decode cX10_takes 29 = .ok (.iconst 1, 1) := by decide +kernel
theorem dX10_takes_30 : decode cX10_takes 30 = .ok (.ireturn, 1) := by decide +kernel
theorem gcX10_asks__X10_asks_r1 : ∀ w ∈ wsX10_asks_r1, w ∈ wsX10_asks := fun w h => List.mem_cons_of_mem _ (List.mem_append_left _ (List.mem_append_left _ (h)))
theorem gcX10_asks__X100 : ∀ w ∈ wsX100, w ∈ wsX10_asks := fun w h => List.mem_cons_of_mem _ (List.mem_append_right _ (h))
set_option maxRecDepth 20000 in
theorem gwX10_takes : wsX10_takes.all goodWord = true := by decide +kernel
set_option maxRecDepth 20000 in
theorem ggX10_asks_X10_takes : GoodIn wsX10_asks wsX10_takes := goodIn_sub (List.forall_mem_cons.mpr ⟨(gcX10_asks__X10_asks_r1 _ (List.mem_of_getElem? (i := 6) rfl)), List.forall_mem_append.mpr ⟨List.forall_mem_cons.mpr ⟨(gcX10_asks__X10_asks_r1 _ (List.mem_of_getElem? (i := 1) rfl)), List.forall_mem_cons.mpr ⟨(gcX10_asks__X10_asks_r1 _ (List.mem_of_getElem? (i := 7) rfl)), List.forall_mem_cons.mpr ⟨(gcX10_asks__X10_asks_r1 _ (List.mem_of_getElem? (i := 8) rfl)), List.forall_mem_cons.mpr ⟨(gcX10_asks__X10_asks_r1 _ (List.mem_of_getElem? (i := 9) rfl)), List.forall_mem_cons.mpr ⟨(gcX10_asks__X10_asks_r1 _ (List.mem_of_getElem? (i := 10) rfl)), List.forall_mem_cons.mpr ⟨(gcX10_asks__X10_asks_r1 _ (List.mem_of_getElem? (i := 5) rfl)), List.forall_mem_cons.mpr ⟨(gcX10_asks__X10_asks_r1 _ (List.mem_of_getElem? (i := 11) rfl)), List.forall_mem_cons.mpr ⟨(gcX10_asks__X10_asks_r1 _ (List.mem_of_getElem? (i := 0) rfl)), List.forall_mem_cons.mpr ⟨(gcX10_asks__X10_asks_r1 _ (List.mem_of_getElem? (i := 12) rfl)), List.forall_mem_cons.mpr ⟨(gcX10_asks__X10_asks_r1 _ (List.mem_of_getElem? (i := 13) rfl)), List.forall_mem_cons.mpr ⟨(gcX10_asks__X10_asks_r1 _ (List.mem_of_getElem? (i := 14) rfl)), List.forall_mem_cons.mpr ⟨(gcX10_asks__X10_asks_r1 _ (List.mem_of_getElem? (i := 15) rfl)), List.forall_mem_cons.mpr ⟨(gcX10_asks__X10_asks_r1 _ (List.mem_of_getElem? (i := 16) rfl)), List.forall_mem_cons.mpr ⟨(gcX10_asks__X10_asks_r1 _ (List.mem_of_getElem? (i := 17) rfl)), List.forall_mem_cons.mpr ⟨(gcX10_asks__X10_asks_r1 _ (List.mem_of_getElem? (i := 18) rfl)), List.forall_mem_cons.mpr ⟨(gcX10_asks__X10_asks_r1 _ (List.mem_of_getElem? (i := 19) rfl)), List.forall_mem_cons.mpr ⟨(gcX10_asks__X10_asks_r1 _ (List.mem_of_getElem? (i := 20) rfl)), fun _ h => (List.not_mem_nil h).elim⟩⟩⟩⟩⟩⟩⟩⟩⟩⟩⟩⟩⟩⟩⟩⟩⟩, gcX10_asks__X100⟩⟩) gwX10_takes
set_option maxRecDepth 20000 in
theorem gX10_asks_X10_takes : GoodIn wsX10_asks (wsV RX10 170 RX10 yX10_takes wsX10_takes) := goodIn_app (goodIn_sub (List.forall_mem_cons.mpr ⟨(gcX10_asks__X10_asks_r1 _ (List.mem_of_getElem? (i := 2) rfl)), List.forall_mem_cons.mpr ⟨(gcX10_asks__X10_asks_r1 _ (List.mem_of_getElem? (i := 3) rfl)), List.forall_mem_cons.mpr ⟨(gcX10_asks__X10_asks_r1 _ (List.mem_of_getElem? (i := 4) rfl)), List.forall_mem_cons.mpr ⟨(gcX10_asks__X10_asks_r1 _ (List.mem_of_getElem? (i := 5) rfl)), fun _ h => (List.not_mem_nil h).elim⟩⟩⟩⟩) (by decide +kernel)) ggX10_asks_X10_takes
theorem gcX10_asks__X10_asks_r2 : ∀ w ∈ wsX10_asks_r2, w ∈ wsX10_asks := fun w h => List.mem_cons_of_mem _ (List.mem_append_left _ (List.mem_append_right _ (h)))
set_option maxRecDepth 20000 in
theorem gwX10_fail : wsX10_fail.all goodWord = true := by decide +kernel
set_option maxRecDepth 20000 in
theorem ggX10_asks_X10_fail : GoodIn wsX10_asks wsX10_fail := goodIn_sub (List.forall_mem_cons.mpr ⟨(gcX10_asks__X10_asks_r2 _ (List.mem_of_getElem? (i := 0) rfl)), List.forall_mem_append.mpr ⟨List.forall_mem_cons.mpr ⟨(gcX10_asks__X10_asks_r1 _ (List.mem_of_getElem? (i := 0) rfl)), List.forall_mem_cons.mpr ⟨(gcX10_asks__X10_asks_r2 _ (List.mem_of_getElem? (i := 1) rfl)), fun _ h => (List.not_mem_nil h).elim⟩⟩, gcX10_asks__X100⟩⟩) gwX10_fail
set_option maxRecDepth 20000 in
theorem gX10_asks_X10_fail : GoodIn wsX10_asks (wsV RX10 173 RX10 yX10_fail wsX10_fail) := goodIn_app (goodIn_sub (List.forall_mem_cons.mpr ⟨(gcX10_asks__X10_asks_r1 _ (List.mem_of_getElem? (i := 21) rfl)), List.forall_mem_cons.mpr ⟨(gcX10_asks__X10_asks_r1 _ (List.mem_of_getElem? (i := 22) rfl)), List.forall_mem_cons.mpr ⟨(gcX10_asks__X10_asks_r1 _ (List.mem_of_getElem? (i := 23) rfl)), List.forall_mem_cons.mpr ⟨(gcX10_asks__X10_asks_r1 _ (List.mem_of_getElem? (i := 5) rfl)), fun _ h => (List.not_mem_nil h).elim⟩⟩⟩⟩) (by decide +kernel)) ggX10_asks_X10_fail
theorem dX10_asks_0 : decode cX10_asks 0 = .ok (.aload_n 0, 1) := by decide +kernel
theorem dX10_asks_1 : decode cX10_asks 1 = .ok (.getfield 143, 3) := by decide +kernel
theorem dX10_asks_4 : decode cX10_asks 4 = .ok (.ifCond .ne 20, 3) := by decide +kernel
theorem dX10_asks_7 : decode cX10_asks 7 = .ok (.aload_n 0, 1) := by decide +kernel
theorem dX10_asks_8 : decode cX10_asks 8 = .ok (.aload_n 1, 1) := by decide +kernel
theorem dX10_asks_9 : decode cX10_asks 9 = .ok (.invokevirtual 170, 3) := by decide +kernel
theorem dX10_asks_12 : decode cX10_asks 12 = .ok (.ifCond .ne 12, 3) := by decide +kernel
theorem dX10_asks_15 : decode cX10_asks 15 = .ok (.aload_n 0, 1) := by decide +kernel
theorem dX10_asks_16 : decode cX10_asks 16 = .ok (.iconst 1, 1) := by decide +kernel
theorem dX10_asks_17 : decode cX10_asks 17 = .ok (.aload_n 0, 1) := by decide +kernel
theorem dX10_asks_18 : decode cX10_asks 18 = .ok (.getfield 149, 3) := by decide +kernel
theorem dX10_asks_21 : decode cX10_asks 21 = .ok (.invokevirtual 173, 3) := by decide +kernel
theorem dX10_asks_24 : decode cX10_asks 24 = .ok (.return_, 1) := by decide +kernel
theorem gcX10_takesSign__X100 : ∀ w ∈ wsX100, w ∈ wsX10_takesSign := fun w h => List.mem_cons_of_mem _ (List.mem_append_right _ (h))
set_option maxRecDepth 20000 in
theorem ggX10_takesSign_X10_look : GoodIn wsX10_takesSign wsX10_look := goodIn_sub (List.forall_mem_cons.mpr ⟨(List.mem_of_getElem? (i := 7) rfl), List.forall_mem_append.mpr ⟨List.forall_mem_cons.mpr ⟨(List.mem_of_getElem? (i := 2) rfl), List.forall_mem_cons.mpr ⟨(List.mem_of_getElem? (i := 8) rfl), List.forall_mem_cons.mpr ⟨(List.mem_of_getElem? (i := 9) rfl), fun _ h => (List.not_mem_nil h).elim⟩⟩⟩, gcX10_takesSign__X100⟩⟩) gwX10_look
set_option maxRecDepth 20000 in
theorem gX10_takesSign_X10_look : GoodIn wsX10_takesSign (wsV RX10 155 RX10 yX10_look wsX10_look) := goodIn_app (goodIn_sub (List.forall_mem_cons.mpr ⟨(List.mem_of_getElem? (i := 3) rfl), List.forall_mem_cons.mpr ⟨(List.mem_of_getElem? (i := 4) rfl), List.forall_mem_cons.mpr ⟨(List.mem_of_getElem? (i := 5) rfl), List.forall_mem_cons.mpr ⟨(List.mem_of_getElem? (i := 6) rfl), fun _ h => (List.not_mem_nil h).elim⟩⟩⟩⟩) (by decide +kernel)) ggX10_takesSign_X10_look
theorem dX10_takesSign_0 : decode cX10_takesSign 0 = .ok (.aload_n 0, 1) := by decide +kernel
theorem dX10_takesSign_1 : decode cX10_takesSign 1 = .ok (.getfield 143, 3) := by decide +kernel
theorem dX10_takesSign_4 : decode cX10_takesSign 4 = .ok (.ifCond .ne 11, 3) := by decide +kernel
theorem dX10_takesSign_7 : decode cX10_takesSign 7 = .ok (.aload_n 0, 1) := by decide +kernel
theorem dX10_takesSign_8 : decode cX10_takesSign 8 = .ok (.invokevirtual 155, 3) := by decide +kernel
theorem dX10_takesSign_11 : decode cX10_takesSign 11 = .ok (.iload_n 1, 1) := by decide +kernel
theorem dX10_takesSign_12 : decode cX10_takesSign 12 = .ok (.if_icmp .eq 5, 3) := by decide +kernel
theorem dX10_takesSign_15 : decode cX10_takesSign 15 = .ok (.iconst 0, 1) := by decide +kernel
theorem dX10_takesSign_16 : decode cX10_takesSign 16 = .ok (.ireturn, 1) := by decide +kernel
theorem dX10_takesSign_17 : decode cX10_takesSign 17 = .ok (.aload_n 0, 1) := by decide +kernel
theorem dX10_takesSign_18 : decode cX10_takesSign 18 = .ok (.dup, 1) := by decide +kernel
theorem dX10_takesSign_19 : decode cX10_takesSign 19 = .ok (.getfield 149, 3) := by decide +kernel
theorem dX10_takesSign_22 : decode cX10_takesSign 22 = .ok (.iconst 1, 1) := by decide +kernel
theorem dX10_takesSign_23 : decode cX10_takesSign 23 = .ok (.iadd, 1) := by decide +kernel
theorem dX10_takesSign_24 : decode cX10_takesSign 24 = .ok (.putfield 149, 3) := by decide +kernel
theorem dX10_takesSign_27 : decode cX10_takesSign 27 = .ok (.iconst 1, 1) := by decide +kernel
theorem dX10_takesSign_28 : decode cX10_takesSign 28 = .ok (.ireturn, 1) := by decide +kernel
theorem gcX10_asksSign__X100 : ∀ w ∈ wsX100, w ∈ wsX10_asksSign := fun w h => List.mem_cons_of_mem _ (List.mem_append_right _ (h))
set_option maxRecDepth 20000 in
theorem gwX10_takesSign : wsX10_takesSign.all goodWord = true := by decide +kernel
set_option maxRecDepth 20000 in
theorem ggX10_asksSign_X10_takesSign : GoodIn wsX10_asksSign wsX10_takesSign := goodIn_sub (List.forall_mem_cons.mpr ⟨(List.mem_of_getElem? (i := 7) rfl), List.forall_mem_append.mpr ⟨List.forall_mem_cons.mpr ⟨(List.mem_of_getElem? (i := 1) rfl), List.forall_mem_cons.mpr ⟨(List.mem_of_getElem? (i := 2) rfl), List.forall_mem_cons.mpr ⟨(List.mem_of_getElem? (i := 8) rfl), List.forall_mem_cons.mpr ⟨(List.mem_of_getElem? (i := 9) rfl), List.forall_mem_cons.mpr ⟨(List.mem_of_getElem? (i := 10) rfl), List.forall_mem_cons.mpr ⟨(List.mem_of_getElem? (i := 6) rfl), List.forall_mem_cons.mpr ⟨(List.mem_of_getElem? (i := 11) rfl), List.forall_mem_cons.mpr ⟨(List.mem_of_getElem? (i := 12) rfl), List.forall_mem_cons.mpr ⟨(List.mem_of_getElem? (i := 13) rfl), fun _ h => (List.not_mem_nil h).elim⟩⟩⟩⟩⟩⟩⟩⟩⟩, gcX10_asksSign__X100⟩⟩) gwX10_takesSign
set_option maxRecDepth 20000 in
theorem gX10_asksSign_X10_takesSign : GoodIn wsX10_asksSign (wsV RX10 177 RX10 yX10_takesSign wsX10_takesSign) := goodIn_app (goodIn_sub (List.forall_mem_cons.mpr ⟨(List.mem_of_getElem? (i := 3) rfl), List.forall_mem_cons.mpr ⟨(List.mem_of_getElem? (i := 4) rfl), List.forall_mem_cons.mpr ⟨(List.mem_of_getElem? (i := 5) rfl), List.forall_mem_cons.mpr ⟨(List.mem_of_getElem? (i := 6) rfl), fun _ h => (List.not_mem_nil h).elim⟩⟩⟩⟩) (by decide +kernel)) ggX10_asksSign_X10_takesSign
set_option maxRecDepth 20000 in
theorem ggX10_asksSign_X10_fail : GoodIn wsX10_asksSign wsX10_fail := goodIn_sub (List.forall_mem_cons.mpr ⟨(List.mem_of_getElem? (i := 17) rfl), List.forall_mem_append.mpr ⟨List.forall_mem_cons.mpr ⟨(List.mem_of_getElem? (i := 1) rfl), List.forall_mem_cons.mpr ⟨(List.mem_of_getElem? (i := 18) rfl), fun _ h => (List.not_mem_nil h).elim⟩⟩, gcX10_asksSign__X100⟩⟩) gwX10_fail
set_option maxRecDepth 20000 in
theorem gX10_asksSign_X10_fail : GoodIn wsX10_asksSign (wsV RX10 173 RX10 yX10_fail wsX10_fail) := goodIn_app (goodIn_sub (List.forall_mem_cons.mpr ⟨(List.mem_of_getElem? (i := 14) rfl), List.forall_mem_cons.mpr ⟨(List.mem_of_getElem? (i := 15) rfl), List.forall_mem_cons.mpr ⟨(List.mem_of_getElem? (i := 16) rfl), List.forall_mem_cons.mpr ⟨(List.mem_of_getElem? (i := 6) rfl), fun _ h => (List.not_mem_nil h).elim⟩⟩⟩⟩) (by decide +kernel)) ggX10_asksSign_X10_fail
theorem dX10_asksSign_0 : decode cX10_asksSign 0 = .ok (.aload_n 0, 1) := by decide +kernel
theorem dX10_asksSign_1 : decode cX10_asksSign 1 = .ok (.getfield 143, 3) := by decide +kernel
theorem dX10_asksSign_4 : decode cX10_asksSign 4 = .ok (.ifCond .ne 20, 3) := by decide +kernel
theorem dX10_asksSign_7 : decode cX10_asksSign 7 = .ok (.aload_n 0, 1) := by decide +kernel
theorem dX10_asksSign_8 : decode cX10_asksSign 8 = .ok (.iload_n 1, 1) := by decide +kernel
theorem dX10_asksSign_9 : decode cX10_asksSign 9 = .ok (.invokevirtual 177, 3) := by decide +kernel
theorem dX10_asksSign_12 : decode cX10_asksSign 12 = .ok (.ifCond .ne 12, 3) := by decide +kernel
theorem dX10_asksSign_15 : decode cX10_asksSign 15 = .ok (.aload_n 0, 1) := by decide +kernel
theorem dX10_asksSign_16 : decode cX10_asksSign 16 = .ok (.iconst 1, 1) := by decide +kernel
theorem dX10_asksSign_17 : decode cX10_asksSign 17 = .ok (.aload_n 0, 1) := by decide +kernel
theorem dX10_asksSign_18 : decode cX10_asksSign 18 = .ok (.getfield 149, 3) := by decide +kernel
theorem dX10_asksSign_21 : decode cX10_asksSign 21 = .ok (.invokevirtual 173, 3) := by decide +kernel
theorem dX10_asksSign_24 : decode cX10_asksSign 24 = .ok (.return_, 1) := by decide +kernel
theorem gcX10_number__X100 : ∀ w ∈ wsX100, w ∈ wsX10_number := fun w h => List.mem_cons_of_mem _ (List.mem_append_right _ (h))
set_option maxRecDepth 20000 in
theorem ggX10_number_X10_look : GoodIn wsX10_number wsX10_look := goodIn_sub (List.forall_mem_cons.mpr ⟨(List.mem_of_getElem? (i := 10) rfl), List.forall_mem_append.mpr ⟨List.forall_mem_cons.mpr ⟨(List.mem_of_getElem? (i := 2) rfl), List.forall_mem_cons.mpr ⟨(List.mem_of_getElem? (i := 4) rfl), List.forall_mem_cons.mpr ⟨(List.mem_of_getElem? (i := 5) rfl), fun _ h => (List.not_mem_nil h).elim⟩⟩⟩, gcX10_number__X100⟩⟩) gwX10_look
set_option maxRecDepth 20000 in
theorem gX10_number_X10_look : GoodIn wsX10_number (wsV RX10 155 RX10 yX10_look wsX10_look) := goodIn_app (goodIn_sub (List.forall_mem_cons.mpr ⟨(List.mem_of_getElem? (i := 6) rfl), List.forall_mem_cons.mpr ⟨(List.mem_of_getElem? (i := 7) rfl), List.forall_mem_cons.mpr ⟨(List.mem_of_getElem? (i := 8) rfl), List.forall_mem_cons.mpr ⟨(List.mem_of_getElem? (i := 9) rfl), fun _ h => (List.not_mem_nil h).elim⟩⟩⟩⟩) (by decide +kernel)) ggX10_number_X10_look
set_option maxRecDepth 20000 in
theorem gwX10_isDigit : wsX10_isDigit.all goodWord = true := by decide +kernel
set_option maxRecDepth 20000 in
theorem ggX10_number_X10_isDigit : GoodIn wsX10_number wsX10_isDigit := goodIn_sub (List.forall_mem_cons.mpr ⟨(List.mem_of_getElem? (i := 13) rfl), fun _ h => (List.not_mem_nil h).elim⟩) gwX10_isDigit
set_option maxRecDepth 20000 in
theorem gX10_number_X10_isDigit : GoodIn wsX10_number (va_wsS RX10 180 yX10_isDigit wsX10_isDigit) := goodIn_app (goodIn_sub (List.forall_mem_cons.mpr ⟨(List.mem_of_getElem? (i := 11) rfl), List.forall_mem_cons.mpr ⟨(List.mem_of_getElem? (i := 12) rfl), List.forall_mem_cons.mpr ⟨(List.mem_of_getElem? (i := 9) rfl), fun _ h => (List.not_mem_nil h).elim⟩⟩⟩) (by decide +kernel)) ggX10_number_X10_isDigit
set_option maxRecDepth 20000 in
theorem ggX10_number_X10_fail : GoodIn wsX10_number wsX10_fail := goodIn_sub (List.forall_mem_cons.mpr ⟨(List.mem_of_getElem? (i := 17) rfl), List.forall_mem_append.mpr ⟨List.forall_mem_cons.mpr ⟨(List.mem_of_getElem? (i := 1) rfl), List.forall_mem_cons.mpr ⟨(List.mem_of_getElem? (i := 18) rfl), fun _ h => (List.not_mem_nil h).elim⟩⟩, gcX10_number__X100⟩⟩) gwX10_fail
set_option maxRecDepth 20000 in
theorem gX10_number_X10_fail : GoodIn wsX10_number (wsV RX10 173 RX10 yX10_fail wsX10_fail) := goodIn_app (goodIn_sub (List.forall_mem_cons.mpr ⟨(List.mem_of_getElem? (i := 14) rfl), List.forall_mem_cons.mpr ⟨(List.mem_of_getElem? (i := 15) rfl), List.forall_mem_cons.mpr ⟨(List.mem_of_getElem? (i := 16) rfl), List.forall_mem_cons.mpr ⟨(List.mem_of_getElem? (i := 9) rfl), fun _ h => (List.not_mem_nil h).elim⟩⟩⟩⟩) (by decide +kernel)) ggX10_number_X10_fail
set_option maxRecDepth 20000 in
theorem gwX10_isIn : wsX10_isIn.all goodWord = true := by decide +kernel
set_option maxRecDepth 20000 in
theorem ggX10_number_X10_isIn : GoodIn wsX10_number wsX10_isIn := goodIn_sub (List.forall_mem_cons.mpr ⟨(List.mem_of_getElem? (i := 21) rfl), fun _ h => (List.not_mem_nil h).elim⟩) gwX10_isIn
set_option maxRecDepth 20000 in
theorem gX10_number_X10_isIn : GoodIn wsX10_number (va_wsS RX10 183 yX10_isIn wsX10_isIn) := goodIn_app (goodIn_sub (List.forall_mem_cons.mpr ⟨(List.mem_of_getElem? (i := 19) rfl), List.forall_mem_cons.mpr ⟨(List.mem_of_getElem? (i := 20) rfl), List.forall_mem_cons.mpr ⟨(List.mem_of_getElem? (i := 9) rfl), fun _ h => (List.not_mem_nil h).elim⟩⟩⟩) (by decide +kernel)) ggX10_number_X10_isIn
theorem dX10_number_0 : decode cX10_number 0 = .ok (.aload_n 0, 1) := by decide +kernel
theorem dX10_number_1 : decode cX10_number 1 = .ok (.getfield 143, 3) := by decide +kernel
theorem dX10_number_4 : decode cX10_number 4 = .ok (.ifCond .eq 5, 3) := by decide +kernel
theorem dX10_number_7 : decode cX10_number 7 = .ok (.iconst 0, 1) := by decide +kernel
theorem dX10_number_8 : decode cX10_number 8 = .ok (.ireturn, 1) := by decide +kernel
theorem dX10_number_9 : decode cX10_number 9 = .ok (.aload_n 0, 1) := by decide +kernel
theorem dX10_number_10 : decode cX10_number 10 = .ok (.invokevirtual 155, 3) := by decide +kernel
theorem dX10_number_13 : decode cX10_number 13 = .ok (.invokestatic 180, 3) := by decide +kernel
theorem dX10_number_16 : decode cX10_number 16 = .ok (.ifCond .eq 14, 3) := by decide +kernel
theorem dX10_number_19 : decode cX10_number 19 = .ok (.aload_n 0, 1) := by decide +kernel
theorem dX10_number_20 : decode cX10_number 20 = .ok (.getfield 149, 3) := by decide +kernel
theorem dX10_number_23 : decode cX10_number 23 = .ok (.aload_n 0, 1) := by decide +kernel
theorem dX10_number_24 : decode cX10_number 24 = .ok (.getfield 163, 3) := by decide +kernel
theorem dX10_number_27 : decode cX10_number 27 = .ok (.if_icmp .ne 14, 3) := by decide +kernel
theorem dX10_number_30 : decode cX10_number 30 = .ok (.aload_n 0, 1) := by decide +kernel
theorem dX10_number_31 : decode cX10_number 31 = .ok (.iconst 1, 1) := by decide +kernel
theorem dX10_number_32 : decode cX10_number 32 = .ok (.aload_n 0, 1) := by decide +kernel
theorem dX10_number_33 : decode cX10_number 33 = .ok (.getfield 149, 3) := by decide +kernel
theorem dX10_number_36 : decode cX10_number 36 = .ok (.invokevirtual 173, 3) := by decide +kernel
theorem dX10_number_39 : decode cX10_number 39 = .ok (.iconst 0, 1) := by decide +kernel
theorem dX10_number_40 : decode cX10_number 40 = .ok (.ireturn, 1) := by decide +kernel
theorem dX10_number_41 : decode cX10_number 41 = .ok (.aload_n 0, 1) := by decide +kernel
theorem dX10_number_42 : decode cX10_number 42 = .ok (.getfield 149, 3) := by decide +kernel
theorem dX10_number_45 : decode cX10_number 45 = .ok (.istore_n 3, 1) := by decide +kernel
theorem dX10_number_46 : decode cX10_number 46 = .ok (.iconst 0, 1) := by decide +kernel
theorem dX10_number_47 : decode cX10_number 47 = .ok (.istore 4, 2) := by decide +kernel
theorem dX10_number_49 : decode cX10_number 49 = .ok (.aload_n 0, 1) := by decide +kernel
theorem dX10_number_50 : decode cX10_number 50 = .ok (.getfield 149, 3) := by decide +kernel
theorem dX10_number_53 : decode cX10_number 53 = .ok (.aload_n 0, 1) := by decide +kernel
theorem dX10_number_54 : decode cX10_number 54 = .ok (.getfield 152, 3) := by decide +kernel
theorem dX10_number_57 : decode cX10_number 57 = .ok (.if_icmp .ge 72, 3) := by decide +kernel
theorem dX10_number_60 : decode cX10_number 60 = .ok (.aload_n 0, 1) := by decide +kernel
theorem dX10_number_61 : decode cX10_number 61 = .ok (.getfield 7, 3) := by decide +kernel
theorem dX10_number_64 : decode cX10_number 64 = .ok (.aload_n 0, 1) := by decide +kernel
theorem dX10_number_65 : decode cX10_number 65 = .ok (.getfield 149, 3) := by decide +kernel
theorem dX10_number_68 : decode cX10_number 68 = .ok (.iaload, 1) := by decide +kernel
theorem dX10_number_69 : decode cX10_number 69 = .ok (.invokestatic 180, 3) := by decide +kernel
theorem dX10_number_72 : decode cX10_number 72 = .ok (.ifCond .eq 57, 3) := by decide +kernel
theorem dX10_number_75 : decode cX10_number 75 = .ok (.aload_n 0, 1) := by decide +kernel
theorem dX10_number_76 : decode cX10_number 76 = .ok (.getfield 149, 3) := by decide +kernel
theorem dX10_number_79 : decode cX10_number 79 = .ok (.iload_n 3, 1) := by decide +kernel
theorem dX10_number_80 : decode cX10_number 80 = .ok (.isub, 1) := by decide +kernel
theorem dX10_number_81 : decode cX10_number 81 = .ok (.iconst 4, 1) := by decide +kernel
theorem dX10_number_82 : decode cX10_number 82 = .ok (.if_icmp .ne 14, 3) := by decide +kernel
theorem dX10_number_85 : decode cX10_number 85 = .ok (.aload_n 0, 1) := by decide +kernel
theorem dX10_number_86 : decode cX10_number 86 = .ok (.iconst 1, 1) := by decide +kernel
theorem dX10_number_87 : decode cX10_number 87 = .ok (.aload_n 0, 1) := by decide +kernel
theorem dX10_number_88 : decode cX10_number 88 = .ok (.getfield 149, 3) := by decide +kernel
theorem dX10_number_91 : decode cX10_number 91 = .ok (.invokevirtual 173, 3) := by decide +kernel
theorem dX10_number_94 : decode cX10_number 94 = .ok (.iconst 0, 1) := by decide +kernel
theorem dX10_number_95 : decode cX10_number 95 = .ok (.ireturn, 1) := by decide +kernel
theorem dX10_number_96 : decode cX10_number 96 = .ok (.bipush 10, 2) := by decide +kernel
theorem dX10_number_98 : decode cX10_number 98 = .ok (.iload 4, 2) := by decide +kernel
theorem dX10_number_100 : decode cX10_number 100 = .ok (.imul, 1) := by decide +kernel
theorem dX10_number_101 : decode cX10_number 101 = .ok (.aload_n 0, 1) := by decide +kernel
theorem dX10_number_102 : decode cX10_number 102 = .ok (.getfield 7, 3) := by decide +kernel
theorem dX10_number_105 : decode cX10_number 105 = .ok (.aload_n 0, 1) := by decide +kernel
theorem dX10_number_106 : decode cX10_number 106 = .ok (.getfield 149, 3) := by decide +kernel
theorem dX10_number_109 : decode cX10_number 109 = .ok (.iaload, 1) := by decide +kernel
theorem dX10_number_110 : decode cX10_number 110 = .ok (.iadd, 1) := by decide +kernel
theorem dX10_number_111 : decode cX10_number 111 = .ok (.bipush 48, 2) := by decide +kernel
theorem dX10_number_113 : decode cX10_number 113 = .ok (.isub, 1) := by decide +kernel
theorem dX10_number_114 : decode cX10_number 114 = .ok (.istore 4, 2) := by decide +kernel
theorem dX10_number_116 : decode cX10_number 116 = .ok (.aload_n 0, 1) := by decide +kernel
theorem dX10_number_117 : decode cX10_number 117 = .ok (.dup, 1) := by decide +kernel
theorem dX10_number_118 : decode cX10_number 118 = .ok (.getfield 149, 3) := by decide +kernel
theorem dX10_number_121 : decode cX10_number 121 = .ok (.iconst 1, 1) := by decide +kernel
theorem dX10_number_122 : decode cX10_number 122 = .ok (.iadd, 1) := by decide +kernel
theorem dX10_number_123 : decode cX10_number 123 = .ok (.putfield 149, 3) := by decide +kernel
theorem dX10_number_126 : decode cX10_number 126 = .ok (.goto (-77), 3) := by decide +kernel
theorem dX10_number_129 : decode cX10_number 129 = .ok (.aload_n 0, 1) := by decide +kernel
theorem dX10_number_130 : decode cX10_number 130 = .ok (.aload_n 0, 1) := by decide +kernel
theorem dX10_number_131 : decode cX10_number 131 = .ok (.getfield 149, 3) := by decide +kernel
theorem dX10_number_134 : decode cX10_number 134 = .ok (.putfield 163, 3) := by decide +kernel
theorem dX10_number_137 : decode cX10_number 137 = .ok (.iload 4, 2) := by decide +kernel
theorem dX10_number_139 : decode cX10_number 139 = .ok (.i2l, 1) := by decide +kernel
theorem dX10_number_140 : decode cX10_number 140 = .ok (.iload_n 1, 1) := by decide +kernel
theorem dX10_number_141 : decode cX10_number 141 = .ok (.i2l, 1) := by decide +kernel
theorem dX10_number_142 : decode cX10_number 142 = .ok (.iload_n 2, 1) := by decide +kernel
theorem dX10_number_143 : decode cX10_number 143 = .ok (.i2l, 1) := by decide +kernel
theorem dX10_number_144 : decode cX10_number 144 = .ok (.invokestatic 183, 3) := by decide +kernel
theorem dX10_number_147 : decode cX10_number 147 = .ok (.ifCond .ne 9, 3) := by decide +kernel
theorem dX10_number_150 : decode cX10_number 150 = .ok (.aload_n 0, 1) := by decide +kernel
theorem dX10_number_151 : decode cX10_number 151 = .ok (.iconst 2, 1) := by decide +kernel
theorem dX10_number_152 : decode cX10_number 152 = .ok (.iload_n 3, 1) := by decide +kernel
theorem dX10_number_153 : decode cX10_number 153 = .ok (.invokevirtual 173, 3) := by decide +kernel
theorem dX10_number_156 : decode cX10_number 156 = .ok (.iload 4, 2) := by decide +kernel
theorem dX10_number_158 : decode cX10_number 158 = .ok (.ireturn, 1) := by decide +kernel
theorem gcX10_isOwnHere__X10_isOwnHere_r1 : ∀ w ∈ wsX10_isOwnHere_r1, w ∈ wsX10_isOwnHere := fun w h => List.mem_cons_of_mem _ (List.mem_append_left _ (List.mem_append_left _ (h)))
theorem gcX10_isOwnHere__X10_isOwnHere_r2 : ∀ w ∈ wsX10_isOwnHere_r2, w ∈ wsX10_isOwnHere := fun w h => List.mem_cons_of_mem _ (List.mem_append_left _ (List.mem_append_right _ (h)))
theorem gcX10_isOwnHere__X100 : ∀ w ∈ wsX100, w ∈ wsX10_isOwnHere := fun w h => List.mem_cons_of_mem _ (List.mem_append_right _ (h))
set_option maxRecDepth 20000 in
theorem ggX10_isOwnHere_X10_isHere : GoodIn wsX10_isOwnHere wsX10_isHere := goodIn_sub (List.forall_mem_cons.mpr ⟨(gcX10_isOwnHere__X10_isOwnHere_r1 _ (List.mem_of_getElem? (i := 16) rfl)), List.forall_mem_append.mpr ⟨List.forall_mem_cons.mpr ⟨(gcX10_isOwnHere__X10_isOwnHere_r1 _ (List.mem_of_getElem? (i := 17) rfl)), List.forall_mem_cons.mpr ⟨(gcX10_isOwnHere__X10_isOwnHere_r1 _ (List.mem_of_getElem? (i := 18) rfl)), List.forall_mem_cons.mpr ⟨(gcX10_isOwnHere__X10_isOwnHere_r1 _ (List.mem_of_getElem? (i := 19) rfl)), List.forall_mem_cons.mpr ⟨(gcX10_isOwnHere__X10_isOwnHere_r1 _ (List.mem_of_getElem? (i := 20) rfl)), List.forall_mem_cons.mpr ⟨(gcX10_isOwnHere__X10_isOwnHere_r1 _ (List.mem_of_getElem? (i := 21) rfl)), List.forall_mem_cons.mpr ⟨(gcX10_isOwnHere__X10_isOwnHere_r1 _ (List.mem_of_getElem? (i := 22) rfl)), List.forall_mem_cons.mpr ⟨(gcX10_isOwnHere__X10_isOwnHere_r1 _ (List.mem_of_getElem? (i := 23) rfl)), List.forall_mem_cons.mpr ⟨(gcX10_isOwnHere__X10_isOwnHere_r2 _ (List.mem_of_getElem? (i := 0) rfl)), List.forall_mem_cons.mpr ⟨(gcX10_isOwnHere__X10_isOwnHere_r1 _ (List.mem_of_getElem? (i := 15) rfl)), List.forall_mem_cons.mpr ⟨(gcX10_isOwnHere__X10_isOwnHere_r2 _ (List.mem_of_getElem? (i := 1) rfl)), List.forall_mem_cons.mpr ⟨(gcX10_isOwnHere__X10_isOwnHere_r2 _ (List.mem_of_getElem? (i := 2) rfl)), List.forall_mem_cons.mpr ⟨(gcX10_isOwnHere__X10_isOwnHere_r2 _ (List.mem_of_getElem? (i := 3) rfl)), List.forall_mem_cons.mpr ⟨(gcX10_isOwnHere__X10_isOwnHere_r2 _ (List.mem_of_getElem? (i := 4) rfl)), fun _ h => (List.not_mem_nil h).elim⟩⟩⟩⟩⟩⟩⟩⟩⟩⟩⟩⟩⟩, gcX10_isOwnHere__X100⟩⟩) gwX10_isHere
set_option maxRecDepth 20000 in
theorem gX10_isOwnHere_X10_isHere : GoodIn wsX10_isOwnHere (wsV RX10 166 RX10 yX10_isHere wsX10_isHere) := goodIn_app (goodIn_sub (List.forall_mem_cons.mpr ⟨(gcX10_isOwnHere__X10_isOwnHere_r1 _ (List.mem_of_getElem? (i := 12) rfl)), List.forall_mem_cons.mpr ⟨(gcX10_isOwnHere__X10_isOwnHere_r1 _ (List.mem_of_getElem? (i := 13) rfl)), List.forall_mem_cons.mpr ⟨(gcX10_isOwnHere__X10_isOwnHere_r1 _ (List.mem_of_getElem? (i := 14) rfl)), List.forall_mem_cons.mpr ⟨(gcX10_isOwnHere__X10_isOwnHere_r1 _ (List.mem_of_getElem? (i := 15) rfl)), fun _ h => (List.not_mem_nil h).elim⟩⟩⟩⟩) (by decide +kernel)) ggX10_isOwnHere_X10_isHere
theorem dX10_isOwnHere_0 : decode cX10_isOwnHere 0 = .ok (.aload_n 0, 1) := by decide +kernel
theorem dX10_isOwnHere_1 : decode cX10_isOwnHere 1 = .ok (.aload_n 0, 1) := by decide +kernel
theorem dX10_isOwnHere_2 : decode cX10_isOwnHere 2 = .ok (.getfield 17, 3) := by decide +kernel
theorem dX10_isOwnHere_5 : decode cX10_isOwnHere 5 = .ok (.invokevirtual 166, 3) := by decide +kernel
theorem dX10_isOwnHere_8 : decode cX10_isOwnHere 8 = .ok (.ifCond .ne 58, 3) := by decide +kernel
theorem dX10_isOwnHere_11 : decode cX10_isOwnHere 11 = .ok (.aload_n 0, 1) := by decide +kernel
theorem dX10_isOwnHere_12 : decode cX10_isOwnHere 12 = .ok (.aload_n 0, 1) := by decide +kernel
theorem dX10_isOwnHere_13 : decode cX10_isOwnHere 13 = .ok (.getfield 21, 3) := by decide +kernel
theorem dX10_isOwnHere_16 : decode cX10_isOwnHere 16 = .ok (.invokevirtual 166, 3) := by decide +kernel
theorem dX10_isOwnHere_19 : decode cX10_isOwnHere 19 = .ok (.ifCond .ne 47, 3) := by decide +kernel
theorem dX10_isOwnHere_22 : decode cX10_isOwnHere 22 = .ok (.aload_n 0, 1) := by decide +kernel
theorem dX10_isOwnHere_23 : decode cX10_isOwnHere 23 = .ok (.aload_n 0, 1) := by decide +kernel
theorem dX10_isOwnHere_24 : decode cX10_isOwnHere 24 = .ok (.getfield 24, 3) := by decide +kernel
theorem dX10_isOwnHere_27 : decode cX10_isOwnHere 27 = .ok (.invokevirtual 166, 3) := by decide +kernel
theorem dX10_isOwnHere_30 : decode cX10_isOwnHere 30 = .ok (.ifCond .ne 36, 3) := by decide +kernel
theorem dX10_isOwnHere_33 : decode cX10_isOwnHere 33 = .ok (.aload_n 0, 1) := by decide +kernel
theorem dX10_isOwnHere_34 : decode cX10_isOwnHere 34 = .ok (.aload_n 0, 1) := by decide +kernel
theorem dX10_isOwnHere_35 : decode cX10_isOwnHere 35 = .ok (.getfield 27, 3) := by decide +kernel
theorem dX10_isOwnHere_38 : decode cX10_isOwnHere 38 = .ok (.invokevirtual 166, 3) := by decide +kernel
theorem dX10_isOwnHere_41 : decode cX10_isOwnHere 41 = .ok (.ifCond .ne 25, 3) := by decide +kernel
theorem dX10_isOwnHere_44 : decode cX10_isOwnHere 44 = .ok (.aload_n 0, 1) := by decide +kernel
theorem dX10_isOwnHere_45 : decode cX10_isOwnHere 45 = .ok (.aload_n 0, 1) := by decide +kernel
theorem dX10_isOwnHere_46 : decode cX10_isOwnHere 46 = .ok (.getfield 30, 3) := by decide +kernel
theorem dX10_isOwnHere_49 : decode cX10_isOwnHere 49 = .ok (.invokevirtual 166, 3) := by decide +kernel
theorem dX10_isOwnHere_52 : decode cX10_isOwnHere 52 = .ok (.ifCond .ne 14, 3) := by decide +kernel
theorem dX10_isOwnHere_55 : decode cX10_isOwnHere 55 = .ok (.aload_n 0, 1) := by decide +kernel
theorem dX10_isOwnHere_56 : decode cX10_isOwnHere 56 = .ok (.aload_n 0, 1) := by decide +kernel
theorem dX10_isOwnHere_57 : decode cX10_isOwnHere 57 = .ok (.getfield 33, 3) := by decide +kernel
theorem dX10_isOwnHere_60 : decode cX10_isOwnHere 60 = .ok (.invokevirtual 166, 3) := by decide +kernel
theorem dX10_isOwnHere_63 : decode cX10_isOwnHere 63 = .ok (.ifCond .eq 7, 3) := by decide +kernel
theorem dX10_isOwnHere_66 : decode cX10_isOwnHere 66 = .ok (.iconst 1, 1) := by decide +kernel
theorem dX10_isOwnHere_67 : decode cX10_isOwnHere 67 = .ok (.goto 4, 3) := by decide +kernel
theorem dX10_isOwnHere_70 : decode cX10_isOwnHere 70 = .ok (.iconst 0, 1) := by decide +kernel
theorem dX10_isOwnHere_71 : decode cX10_isOwnHere 71 = .ok (.istore_n 1, 1) := by decide +kernel
theorem dX10_isOwnHere_72 : decode cX10_isOwnHere 72 = .ok (.iload_n 1, 1) := by decide +kernel
theorem dX10_isOwnHere_73 : decode cX10_isOwnHere 73 = .ok (.ifCond .ne 69, 3) := by decide +kernel
theorem dX10_isOwnHere_76 : decode cX10_isOwnHere 76 = .ok (.aload_n 0, 1) := by decide +kernel
theorem dX10_isOwnHere_77 : decode cX10_isOwnHere 77 = .ok (.aload_n 0, 1) := by decide +kernel
theorem dX10_isOwnHere_78 : decode cX10_isOwnHere 78 = .ok (.getfield 36, 3) := by decide +kernel
theorem dX10_isOwnHere_81 : decode cX10_isOwnHere 81 = .ok (.invokevirtual 166, 3) := by decide +kernel
theorem dX10_isOwnHere_84 : decode cX10_isOwnHere 84 = .ok (.ifCond .ne 58, 3) := by decide +kernel
theorem dX10_isOwnHere_87 : decode cX10_isOwnHere 87 = .ok (.aload_n 0, 1) := by decide +kernel
theorem dX10_isOwnHere_88 : decode cX10_isOwnHere 88 = .ok (.aload_n 0, 1) := by decide +kernel
theorem dX10_isOwnHere_89 : decode cX10_isOwnHere 89 = .ok (.getfield 39, 3) := by decide +kernel
theorem dX10_isOwnHere_92 : decode cX10_isOwnHere 92 = .ok (.invokevirtual 166, 3) := by decide +kernel
theorem dX10_isOwnHere_95 : decode cX10_isOwnHere 95 = .ok (.ifCond .ne 47, 3) := by decide +kernel
theorem dX10_isOwnHere_98 : decode cX10_isOwnHere 98 = .ok (.aload_n 0, 1) := by decide +kernel
theorem dX10_isOwnHere_99 : decode cX10_isOwnHere 99 = .ok (.aload_n 0, 1) := by decide +kernel
theorem dX10_isOwnHere_100 : decode cX10_isOwnHere 100 = .ok (.getfield 42, 3) := by decide +kernel
theorem dX10_isOwnHere_103 : decode cX10_isOwnHere 103 = .ok (.invokevirtual 166, 3) := by decide +kernel
theorem dX10_isOwnHere_106 : decode cX10_isOwnHere 106 = .ok (.ifCond .ne 36, 3) := by decide +kernel
theorem dX10_isOwnHere_109 : decode cX10_isOwnHere 109 = .ok (.aload_n 0, 1) := by decide +kernel
theorem dX10_isOwnHere_110 : decode cX10_isOwnHere 110 = .ok (.aload_n 0, 1) := by decide +kernel
theorem dX10_isOwnHere_111 : decode cX10_isOwnHere 111 = .ok (.getfield 45, 3) := by decide +kernel
theorem dX10_isOwnHere_114 : decode cX10_isOwnHere 114 = .ok (.invokevirtual 166, 3) := by decide +kernel
theorem dX10_isOwnHere_117 : decode cX10_isOwnHere 117 = .ok (.ifCond .ne 25, 3) := by decide +kernel
theorem dX10_isOwnHere_120 : decode cX10_isOwnHere 120 = .ok (.aload_n 0, 1) := by decide +kernel
theorem dX10_isOwnHere_121 : decode cX10_isOwnHere 121 = .ok (.aload_n 0, 1) := by decide +kernel
theorem dX10_isOwnHere_122 : decode cX10_isOwnHere 122 = .ok (.getfield 48, 3) := by decide +kernel
theorem dX10_isOwnHere_125 : decode cX10_isOwnHere 125 = .ok (.invokevirtual 166, 3) := by decide +kernel
theorem dX10_isOwnHere_128 : decode cX10_isOwnHere 128 = .ok (.ifCond .ne 14, 3) := by decide +kernel
theorem dX10_isOwnHere_131 : decode cX10_isOwnHere 131 = .ok (.aload_n 0, 1) := by decide +kernel
theorem dX10_isOwnHere_132 : decode cX10_isOwnHere 132 = .ok (.aload_n 0, 1) := by decide +kernel
theorem dX10_isOwnHere_133 : decode cX10_isOwnHere 133 = .ok (.getfield 51, 3) := by decide +kernel
theorem dX10_isOwnHere_136 : decode cX10_isOwnHere 136 = .ok (.invokevirtual 166, 3) := by decide +kernel
theorem dX10_isOwnHere_139 : decode cX10_isOwnHere 139 = .ok (.ifCond .eq 7, 3) := by decide +kernel
theorem dX10_isOwnHere_142 : decode cX10_isOwnHere 142 = .ok (.iconst 1, 1) := by decide +kernel
theorem dX10_isOwnHere_143 : decode cX10_isOwnHere 143 = .ok (.goto 4, 3) := by decide +kernel
theorem dX10_isOwnHere_146 : decode cX10_isOwnHere 146 = .ok (.iconst 0, 1) := by decide +kernel
theorem dX10_isOwnHere_147 : decode cX10_isOwnHere 147 = .ok (.istore_n 1, 1) := by decide +kernel
theorem dX10_isOwnHere_148 : decode cX10_isOwnHere 148 = .ok (.iload_n 1, 1) := by decide +kernel
theorem dX10_isOwnHere_149 : decode cX10_isOwnHere 149 = .ok (.ireturn, 1) := by decide +kernel
theorem gcX10_name__X10_name_r1 : ∀ w ∈ wsX10_name_r1, w ∈ wsX10_name := fun w h => List.mem_cons_of_mem _ (List.mem_append_left _ (List.mem_append_left _ (h)))
theorem gcX10_name__X100 : ∀ w ∈ wsX100, w ∈ wsX10_name := fun w h => List.mem_cons_of_mem _ (List.mem_append_right _ (h))
set_option maxRecDepth 20000 in
theorem ggX10_name_X10_look : GoodIn wsX10_name wsX10_look := goodIn_sub (List.forall_mem_cons.mpr ⟨(gcX10_name__X10_name_r1 _ (List.mem_of_getElem? (i := 12) rfl)), List.forall_mem_append.mpr ⟨List.forall_mem_cons.mpr ⟨(gcX10_name__X10_name_r1 _ (List.mem_of_getElem? (i := 1) rfl)), List.forall_mem_cons.mpr ⟨(gcX10_name__X10_name_r1 _ (List.mem_of_getElem? (i := 4) rfl)), List.forall_mem_cons.mpr ⟨(gcX10_name__X10_name_r1 _ (List.mem_of_getElem? (i := 5) rfl)), fun _ h => (List.not_mem_nil h).elim⟩⟩⟩, gcX10_name__X100⟩⟩) gwX10_look
set_option maxRecDepth 20000 in
theorem gX10_name_X10_look : GoodIn wsX10_name (wsV RX10 155 RX10 yX10_look wsX10_look) := goodIn_app (goodIn_sub (List.forall_mem_cons.mpr ⟨(gcX10_name__X10_name_r1 _ (List.mem_of_getElem? (i := 8) rfl)), List.forall_mem_cons.mpr ⟨(gcX10_name__X10_name_r1 _ (List.mem_of_getElem? (i := 9) rfl)), List.forall_mem_cons.mpr ⟨(gcX10_name__X10_name_r1 _ (List.mem_of_getElem? (i := 10) rfl)), List.forall_mem_cons.mpr ⟨(gcX10_name__X10_name_r1 _ (List.mem_of_getElem? (i := 11) rfl)), fun _ h => (List.not_mem_nil h).elim⟩⟩⟩⟩) (by decide +kernel)) ggX10_name_X10_look
set_option maxRecDepth 20000 in
theorem ggX10_name_X10_isLetter : GoodIn wsX10_name wsX10_isLetter := goodIn_sub (List.forall_mem_cons.mpr ⟨(gcX10_name__X10_name_r1 _ (List.mem_of_getElem? (i := 15) rfl)), fun _ h => (List.not_mem_nil h).elim⟩) gwX10_isLetter
set_option maxRecDepth 20000 in
theorem gX10_name_X10_isLetter : GoodIn wsX10_name (va_wsS RX10 159 yX10_isLetter wsX10_isLetter) := goodIn_app (goodIn_sub (List.forall_mem_cons.mpr ⟨(gcX10_name__X10_name_r1 _ (List.mem_of_getElem? (i := 13) rfl)), List.forall_mem_cons.mpr ⟨(gcX10_name__X10_name_r1 _ (List.mem_of_getElem? (i := 14) rfl)), List.forall_mem_cons.mpr ⟨(gcX10_name__X10_name_r1 _ (List.mem_of_getElem? (i := 11) rfl)), fun _ h => (List.not_mem_nil h).elim⟩⟩⟩) (by decide +kernel)) ggX10_name_X10_isLetter
theorem gcX10_name__X10_name_r2 : ∀ w ∈ wsX10_name_r2, w ∈ wsX10_name := fun w h => List.mem_cons_of_mem _ (List.mem_append_left _ (List.mem_append_right _ (h)))
set_option maxRecDepth 20000 in
theorem gmX10_name__X10_isOwnHere_r1 : ∀ w ∈ wsX10_isOwnHere_r1, w ∈ wsX10_name := List.forall_mem_cons.mpr ⟨(gcX10_name__X10_name_r1 _ (List.mem_of_getElem? (i := 20) rfl)), List.forall_mem_cons.mpr ⟨(gcX10_name__X10_name_r1 _ (List.mem_of_getElem? (i := 21) rfl)), List.forall_mem_cons.mpr ⟨(gcX10_name__X10_name_r1 _ (List.mem_of_getElem? (i := 22) rfl)), List.forall_mem_cons.mpr ⟨(gcX10_name__X10_name_r1 _ (List.mem_of_getElem? (i := 23) rfl)), List.forall_mem_cons.mpr ⟨(gcX10_name__X10_name_r2 _ (List.mem_of_getElem? (i := 0) rfl)), List.forall_mem_cons.mpr ⟨(gcX10_name__X10_name_r2 _ (List.mem_of_getElem? (i := 1) rfl)), List.forall_mem_cons.mpr ⟨(gcX10_name__X10_name_r2 _ (List.mem_of_getElem? (i := 2) rfl)), List.forall_mem_cons.mpr ⟨(gcX10_name__X10_name_r2 _ (List.mem_of_getElem? (i := 3) rfl)), List.forall_mem_cons.mpr ⟨(gcX10_name__X10_name_r2 _ (List.mem_of_getElem? (i := 4) rfl)), List.forall_mem_cons.mpr ⟨(gcX10_name__X10_name_r2 _ (List.mem_of_getElem? (i := 5) rfl)), List.forall_mem_cons.mpr ⟨(gcX10_name__X10_name_r2 _ (List.mem_of_getElem? (i := 6) rfl)), List.forall_mem_cons.mpr ⟨(gcX10_name__X10_name_r2 _ (List.mem_of_getElem? (i := 7) rfl)), List.forall_mem_cons.mpr ⟨(gcX10_name__X10_name_r2 _ (List.mem_of_getElem? (i := 8) rfl)), List.forall_mem_cons.mpr ⟨(gcX10_name__X10_name_r2 _ (List.mem_of_getElem? (i := 9) rfl)), List.forall_mem_cons.mpr ⟨(gcX10_name__X10_name_r2 _ (List.mem_of_getElem? (i := 10) rfl)), List.forall_mem_cons.mpr ⟨(gcX10_name__X10_name_r1 _ (List.mem_of_getElem? (i := 11) rfl)), List.forall_mem_cons.mpr ⟨(gcX10_name__X10_name_r2 _ (List.mem_of_getElem? (i := 11) rfl)), List.forall_mem_cons.mpr ⟨(gcX10_name__X10_name_r1 _ (List.mem_of_getElem? (i := 0) rfl)), List.forall_mem_cons.mpr ⟨(gcX10_name__X10_name_r1 _ (List.mem_of_getElem? (i := 1) rfl)), List.forall_mem_cons.mpr ⟨(gcX10_name__X10_name_r1 _ (List.mem_of_getElem? (i := 2) rfl)), List.forall_mem_cons.mpr ⟨(gcX10_name__X10_name_r1 _ (List.mem_of_getElem? (i := 4) rfl)), List.forall_mem_cons.mpr ⟨(gcX10_name__X10_name_r1 _ (List.mem_of_getElem? (i := 5) rfl)), List.forall_mem_cons.mpr ⟨(gcX10_name__X10_name_r1 _ (List.mem_of_getElem? (i := 8) rfl)), List.forall_mem_cons.mpr ⟨(gcX10_name__X10_name_r1 _ (List.mem_of_getElem? (i := 9) rfl)), fun _ h => (List.not_mem_nil h).elim⟩⟩⟩⟩⟩⟩⟩⟩⟩⟩⟩⟩⟩⟩⟩⟩⟩⟩⟩⟩⟩⟩⟩⟩
set_option maxRecDepth 20000 in
theorem gmX10_name__X10_isOwnHere_r2 : ∀ w ∈ wsX10_isOwnHere_r2, w ∈ wsX10_name := List.forall_mem_cons.mpr ⟨(gcX10_name__X10_name_r1 _ (List.mem_of_getElem? (i := 10) rfl)), List.forall_mem_cons.mpr ⟨(gcX10_name__X10_name_r1 _ (List.mem_of_getElem? (i := 12) rfl)), List.forall_mem_cons.mpr ⟨(gcX10_name__X10_name_r1 _ (List.mem_of_getElem? (i := 13) rfl)), List.forall_mem_cons.mpr ⟨(gcX10_name__X10_name_r1 _ (List.mem_of_getElem? (i := 14) rfl)), List.forall_mem_cons.mpr ⟨(gcX10_name__X10_name_r1 _ (List.mem_of_getElem? (i := 15) rfl)), fun _ h => (List.not_mem_nil h).elim⟩⟩⟩⟩⟩
set_option maxRecDepth 20000 in
theorem gwX10_isOwnHere : wsX10_isOwnHere.all goodWord = true := by decide +kernel
set_option maxRecDepth 20000 in
theorem ggX10_name_X10_isOwnHere : GoodIn wsX10_name wsX10_isOwnHere := goodIn_sub (List.forall_mem_cons.mpr ⟨(gcX10_name__X10_name_r1 _ (List.mem_of_getElem? (i := 19) rfl)), List.forall_mem_append.mpr ⟨List.forall_mem_append.mpr ⟨gmX10_name__X10_isOwnHere_r1, gmX10_name__X10_isOwnHere_r2⟩, gcX10_name__X100⟩⟩) gwX10_isOwnHere
set_option maxRecDepth 20000 in
theorem gX10_name_X10_isOwnHere : GoodIn wsX10_name (wsV RX10 187 RX10 yX10_isOwnHere wsX10_isOwnHere) := goodIn_app (goodIn_sub (List.forall_mem_cons.mpr ⟨(gcX10_name__X10_name_r1 _ (List.mem_of_getElem? (i := 16) rfl)), List.forall_mem_cons.mpr ⟨(gcX10_name__X10_name_r1 _ (List.mem_of_getElem? (i := 17) rfl)), List.forall_mem_cons.mpr ⟨(gcX10_name__X10_name_r1 _ (List.mem_of_getElem? (i := 18) rfl)), List.forall_mem_cons.mpr ⟨(gcX10_name__X10_name_r1 _ (List.mem_of_getElem? (i := 11) rfl)), fun _ h => (List.not_mem_nil h).elim⟩⟩⟩⟩) (by decide +kernel)) ggX10_name_X10_isOwnHere
set_option maxRecDepth 20000 in
theorem ggX10_name_X10_fail : GoodIn wsX10_name wsX10_fail := goodIn_sub (List.forall_mem_cons.mpr ⟨(gcX10_name__X10_name_r2 _ (List.mem_of_getElem? (i := 15) rfl)), List.forall_mem_append.mpr ⟨List.forall_mem_cons.mpr ⟨(gcX10_name__X10_name_r1 _ (List.mem_of_getElem? (i := 0) rfl)), List.forall_mem_cons.mpr ⟨(gcX10_name__X10_name_r2 _ (List.mem_of_getElem? (i := 16) rfl)), fun _ h => (List.not_mem_nil h).elim⟩⟩, gcX10_name__X100⟩⟩) gwX10_fail
set_option maxRecDepth 20000 in
theorem gX10_name_X10_fail : GoodIn wsX10_name (wsV RX10 173 RX10 yX10_fail wsX10_fail) := goodIn_app (goodIn_sub (List.forall_mem_cons.mpr ⟨(gcX10_name__X10_name_r2 _ (List.mem_of_getElem? (i := 12) rfl)), List.forall_mem_cons.mpr ⟨(gcX10_name__X10_name_r2 _ (List.mem_of_getElem? (i := 13) rfl)), List.forall_mem_cons.mpr ⟨(gcX10_name__X10_name_r2 _ (List.mem_of_getElem? (i := 14) rfl)), List.forall_mem_cons.mpr ⟨(gcX10_name__X10_name_r1 _ (List.mem_of_getElem? (i := 11) rfl)), fun _ h => (List.not_mem_nil h).elim⟩⟩⟩⟩) (by decide +kernel)) ggX10_name_X10_fail
theorem dX10_name_0 : decode cX10_name 0 = .ok (.aload_n 0, 1) := by decide +kernel
theorem dX10_name_1 : decode cX10_name 1 = .ok (.getfield 143, 3) := by decide +kernel
theorem dX10_name_4 : decode cX10_name 4 = .ok (.ifCond .eq 5, 3) := by decide +kernel
theorem dX10_name_7 : decode cX10_name 7 = .ok (.lconst 0, 1) := by decide +kernel
theorem dX10_name_8 : decode cX10_name 8 = .ok (.lreturn, 1) := by decide +kernel
theorem dX10_name_9 : decode cX10_name 9 = .ok (.aload_n 0, 1) := by decide +kernel
theorem dX10_name_10 : decode cX10_name 10 = .ok (.invokevirtual 155, 3) := by decide +kernel
theorem dX10_name_13 : decode cX10_name 13 = .ok (.invokestatic 159, 3) := by decide +kernel
theorem dX10_name_16 : decode cX10_name 16 = .ok (.ifCond .eq 21, 3) := by decide +kernel
theorem dX10_name_19 : decode cX10_name 19 = .ok (.aload_n 0, 1) := by decide +kernel
theorem dX10_name_20 : decode cX10_name 20 = .ok (.getfield 149, 3) := by decide +kernel
theorem dX10_name_23 : decode cX10_name 23 = .ok (.aload_n 0, 1) := by decide +kernel
theorem dX10_name_24 : decode cX10_name 24 = .ok (.getfield 163, 3) := by decide +kernel
theorem dX10_name_27 : decode cX10_name 27 = .ok (.if_icmp .eq 10, 3) := by decide +kernel
theorem dX10_name_30 : decode cX10_name 30 = .ok (.aload_n 0, 1) := by decide +kernel
theorem dX10_name_31 : decode cX10_name 31 = .ok (.invokevirtual 187, 3) := by decide +kernel
theorem dX10_name_34 : decode cX10_name 34 = .ok (.ifCond .eq 14, 3) := by decide +kernel
theorem dX10_name_37 : decode cX10_name 37 = .ok (.aload_n 0, 1) := by decide +kernel
theorem dX10_name_38 : decode cX10_name 38 = .ok (.iconst 1, 1) := by decide +kernel
theorem dX10_name_39 : decode cX10_name 39 = .ok (.aload_n 0, 1) := by decide +kernel
theorem dX10_name_40 : decode cX10_name 40 = .ok (.getfield 149, 3) := by decide +kernel
theorem dX10_name_43 : decode cX10_name 43 = .ok (.invokevirtual 173, 3) := by decide +kernel
theorem dX10_name_46 : decode cX10_name 46 = .ok (.lconst 0, 1) := by decide +kernel
theorem dX10_name_47 : decode cX10_name 47 = .ok (.lreturn, 1) := by decide +kernel
theorem dX10_name_48 : decode cX10_name 48 = .ok (.aload_n 0, 1) := by decide +kernel
theorem dX10_name_49 : decode cX10_name 49 = .ok (.aload_n 0, 1) := by decide +kernel
theorem dX10_name_50 : decode cX10_name 50 = .ok (.getfield 149, 3) := by decide +kernel
theorem dX10_name_53 : decode cX10_name 53 = .ok (.putfield 191, 3) := by decide +kernel
theorem dX10_name_56 : decode cX10_name 56 = .ok (.lconst 0, 1) := by decide +kernel
theorem dX10_name_57 : decode cX10_name 57 = .ok (.lstore_n 1, 1) := by decide +kernel
theorem dX10_name_58 : decode cX10_name 58 = .ok (.aload_n 0, 1) := by decide +kernel
theorem dX10_name_59 : decode cX10_name 59 = .ok (.getfield 149, 3) := by decide +kernel
theorem dX10_name_62 : decode cX10_name 62 = .ok (.aload_n 0, 1) := by decide +kernel
theorem dX10_name_63 : decode cX10_name 63 = .ok (.getfield 152, 3) := by decide +kernel
theorem dX10_name_66 : decode cX10_name 66 = .ok (.if_icmp .ge 79, 3) := by decide +kernel
theorem dX10_name_69 : decode cX10_name 69 = .ok (.aload_n 0, 1) := by decide +kernel
theorem dX10_name_70 : decode cX10_name 70 = .ok (.getfield 7, 3) := by decide +kernel
theorem dX10_name_73 : decode cX10_name 73 = .ok (.aload_n 0, 1) := by decide +kernel
theorem dX10_name_74 : decode cX10_name 74 = .ok (.getfield 149, 3) := by decide +kernel
theorem dX10_name_77 : decode cX10_name 77 = .ok (.iaload, 1) := by decide +kernel
theorem dX10_name_78 : decode cX10_name 78 = .ok (.invokestatic 159, 3) := by decide +kernel
theorem dX10_name_81 : decode cX10_name 81 = .ok (.ifCond .eq 64, 3) := by decide +kernel
theorem dX10_name_84 : decode cX10_name 84 = .ok (.aload_n 0, 1) := by decide +kernel
theorem dX10_name_85 : decode cX10_name 85 = .ok (.getfield 149, 3) := by decide +kernel
theorem dX10_name_88 : decode cX10_name 88 = .ok (.aload_n 0, 1) := by decide +kernel
theorem dX10_name_89 : decode cX10_name 89 = .ok (.getfield 191, 3) := by decide +kernel
theorem dX10_name_92 : decode cX10_name 92 = .ok (.isub, 1) := by decide +kernel
theorem dX10_name_93 : decode cX10_name 93 = .ok (.bipush 6, 2) := by decide +kernel
theorem dX10_name_95 : decode cX10_name 95 = .ok (.if_icmp .ne 14, 3) := by decide +kernel
theorem dX10_name_98 : decode cX10_name 98 = .ok (.aload_n 0, 1) := by decide +kernel
theorem dX10_name_99 : decode cX10_name 99 = .ok (.iconst 1, 1) := by decide +kernel
theorem dX10_name_100 : decode cX10_name 100 = .ok (.aload_n 0, 1) := by decide +kernel
theorem dX10_name_101 : decode cX10_name 101 = .ok (.getfield 149, 3) := by decide +kernel
theorem dX10_name_104 : decode cX10_name 104 = .ok (.invokevirtual 173, 3) := by decide +kernel
theorem dX10_name_107 : decode cX10_name 107 = .ok (.lconst 0, 1) := by decide +kernel
theorem dX10_name_108 : decode cX10_name 108 = .ok (.lreturn, 1) := by decide +kernel
theorem dX10_name_109 : decode cX10_name 109 = .ok (.ldc2_w 194, 3) := by decide +kernel
theorem dX10_name_112 : decode cX10_name 112 = .ok (.lload_n 1, 1) := by decide +kernel
theorem dX10_name_113 : decode cX10_name 113 = .ok (.lmul, 1) := by decide +kernel
theorem dX10_name_114 : decode cX10_name 114 = .ok (.aload_n 0, 1) := by decide +kernel
theorem dX10_name_115 : decode cX10_name 115 = .ok (.getfield 7, 3) := by decide +kernel
theorem dX10_name_118 : decode cX10_name 118 = .ok (.aload_n 0, 1) := by decide +kernel
theorem dX10_name_119 : decode cX10_name 119 = .ok (.getfield 149, 3) := by decide +kernel
theorem dX10_name_122 : decode cX10_name 122 = .ok (.iaload, 1) := by decide +kernel
theorem dX10_name_123 : decode cX10_name 123 = .ok (.i2l, 1) := by decide +kernel
theorem dX10_name_124 : decode cX10_name 124 = .ok (.ladd, 1) := by decide +kernel
theorem dX10_name_125 : decode cX10_name 125 = .ok (.ldc2_w 196, 3) := by decide +kernel
theorem dX10_name_128 : decode cX10_name 128 = .ok (.lsub, 1) := by decide +kernel
theorem dX10_name_129 : decode cX10_name 129 = .ok (.lconst 1, 1) := by decide +kernel
theorem dX10_name_130 : decode cX10_name 130 = .ok (.ladd, 1) := by decide +kernel
theorem dX10_name_131 : decode cX10_name 131 = .ok (.lstore_n 1, 1) := by decide +kernel
theorem dX10_name_132 : decode cX10_name 132 = .ok (.aload_n 0, 1) := by decide +kernel
theorem dX10_name_133 : decode cX10_name 133 = .ok (.dup, 1) := by decide +kernel
theorem dX10_name_134 : decode cX10_name 134 = .ok (.getfield 149, 3) := by decide +kernel
theorem dX10_name_137 : decode cX10_name 137 = .ok (.iconst 1, 1) := by decide +kernel
theorem dX10_name_138 : decode cX10_name 138 = .ok (.iadd, 1) := by decide +kernel
theorem dX10_name_139 : decode cX10_name 139 = .ok (.putfield 149, 3) := by decide +kernel
theorem dX10_name_142 : decode cX10_name 142 = .ok (.goto (-84), 3) := by decide +kernel
theorem dX10_name_145 : decode cX10_name 145 = .ok (.aload_n 0, 1) := by decide +kernel
theorem dX10_name_146 : decode cX10_name 146 = .ok (.aload_n 0, 1) := by decide +kernel
theorem dX10_name_147 : decode cX10_name 147 = .ok (.getfield 149, 3) := by decide +kernel
theorem dX10_name_150 : decode cX10_name 150 = .ok (.putfield 163, 3) := by decide +kernel
theorem dX10_name_153 : decode cX10_name 153 = .ok (.lload_n 1, 1) := by decide +kernel
theorem dX10_name_154 : decode cX10_name 154 = .ok (.lreturn, 1) := by decide +kernel
theorem gcX10_isFull__X100 : ∀ w ∈ wsX100, w ∈ wsX10_isFull := fun w h => List.mem_cons_of_mem _ (List.mem_append_right _ (h))
set_option maxRecDepth 20000 in
theorem ggX10_isFull_X10_fail : GoodIn wsX10_isFull wsX10_fail := goodIn_sub (List.forall_mem_cons.mpr ⟨(List.mem_of_getElem? (i := 7) rfl), List.forall_mem_append.mpr ⟨List.forall_mem_cons.mpr ⟨(List.mem_of_getElem? (i := 1) rfl), List.forall_mem_cons.mpr ⟨(List.mem_of_getElem? (i := 8) rfl), fun _ h => (List.not_mem_nil h).elim⟩⟩, gcX10_isFull__X100⟩⟩) gwX10_fail
set_option maxRecDepth 20000 in
theorem gX10_isFull_X10_fail : GoodIn wsX10_isFull (wsV RX10 173 RX10 yX10_fail wsX10_fail) := goodIn_app (goodIn_sub (List.forall_mem_cons.mpr ⟨(List.mem_of_getElem? (i := 3) rfl), List.forall_mem_cons.mpr ⟨(List.mem_of_getElem? (i := 4) rfl), List.forall_mem_cons.mpr ⟨(List.mem_of_getElem? (i := 5) rfl), List.forall_mem_cons.mpr ⟨(List.mem_of_getElem? (i := 6) rfl), fun _ h => (List.not_mem_nil h).elim⟩⟩⟩⟩) (by decide +kernel)) ggX10_isFull_X10_fail
theorem dX10_isFull_0 : decode cX10_isFull 0 = .ok (.aload_n 0, 1) := by decide +kernel
theorem dX10_isFull_1 : decode cX10_isFull 1 = .ok (.getfield 143, 3) := by decide +kernel
theorem dX10_isFull_4 : decode cX10_isFull 4 = .ok (.ifCond .ne 19, 3) := by decide +kernel
theorem dX10_isFull_7 : decode cX10_isFull 7 = .ok (.aload_n 0, 1) := by decide +kernel
theorem dX10_isFull_8 : decode cX10_isFull 8 = .ok (.getfield 58, 3) := by decide +kernel
theorem dX10_isFull_11 : decode cX10_isFull 11 = .ok (.iload_n 1, 1) := by decide +kernel
theorem dX10_isFull_12 : decode cX10_isFull 12 = .ok (.iaload, 1) := by decide +kernel
theorem dX10_isFull_13 : decode cX10_isFull 13 = .ok (.iload_n 2, 1) := by decide +kernel
theorem dX10_isFull_14 : decode cX10_isFull 14 = .ok (.if_icmp .ne 9, 3) := by decide +kernel
theorem dX10_isFull_17 : decode cX10_isFull 17 = .ok (.aload_n 0, 1) := by decide +kernel
theorem dX10_isFull_18 : decode cX10_isFull 18 = .ok (.iconst 4, 1) := by decide +kernel
theorem dX10_isFull_19 : decode cX10_isFull 19 = .ok (.iload_n 3, 1) := by decide +kernel
theorem dX10_isFull_20 : decode cX10_isFull 20 = .ok (.invokevirtual 173, 3) := by decide +kernel
theorem dX10_isFull_23 : decode cX10_isFull 23 = .ok (.aload_n 0, 1) := by decide +kernel
theorem dX10_isFull_24 : decode cX10_isFull 24 = .ok (.getfield 143, 3) := by decide +kernel
theorem dX10_isFull_27 : decode cX10_isFull 27 = .ok (.ifCond .eq 7, 3) := by decide +kernel
theorem dX10_isFull_30 : decode cX10_isFull 30 = .ok (.iconst 1, 1) := by decide +kernel
theorem dX10_isFull_31 : decode cX10_isFull 31 = .ok (.goto 4, 3) := by decide +kernel
theorem dX10_isFull_34 : decode cX10_isFull 34 = .ok (.iconst 0, 1) := by decide +kernel
theorem dX10_isFull_35 : decode cX10_isFull 35 = .ok (.ireturn, 1) := by decide +kernel
theorem dX10_nameOf_0 : decode cX10_nameOf 0 = .ok (.iconst 0, 1) := by decide +kernel
theorem dX10_nameOf_1 : decode cX10_nameOf 1 = .ok (.istore 4, 2) := by decide +kernel
theorem dX10_nameOf_3 : decode cX10_nameOf 3 = .ok (.iload 4, 2) := by decide +kernel
theorem dX10_nameOf_5 : decode cX10_nameOf 5 = .ok (.aload_n 0, 1) := by decide +kernel
theorem dX10_nameOf_6 : decode cX10_nameOf 6 = .ok (.getfield 58, 3) := by decide +kernel
theorem dX10_nameOf_9 : decode cX10_nameOf 9 = .ok (.iload_n 1, 1) := by decide +kernel
theorem dX10_nameOf_10 : decode cX10_nameOf 10 = .ok (.iaload, 1) := by decide +kernel
theorem dX10_nameOf_11 : decode cX10_nameOf 11 = .ok (.if_icmp .ge 29, 3) := by decide +kernel
theorem dX10_nameOf_14 : decode cX10_nameOf 14 = .ok (.aload_n 0, 1) := by decide +kernel
theorem dX10_nameOf_15 : decode cX10_nameOf 15 = .ok (.getfield 54, 3) := by decide +kernel
theorem dX10_nameOf_18 : decode cX10_nameOf 18 = .ok (.bipush 20, 2) := by decide +kernel
theorem dX10_nameOf_20 : decode cX10_nameOf 20 = .ok (.iload_n 1, 1) := by decide +kernel
theorem dX10_nameOf_21 : decode cX10_nameOf 21 = .ok (.imul, 1) := by decide +kernel
theorem dX10_nameOf_22 : decode cX10_nameOf 22 = .ok (.iload 4, 2) := by decide +kernel
theorem dX10_nameOf_24 : decode cX10_nameOf 24 = .ok (.iadd, 1) := by decide +kernel
theorem dX10_nameOf_25 : decode cX10_nameOf 25 = .ok (.laload, 1) := by decide +kernel
theorem dX10_nameOf_26 : decode cX10_nameOf 26 = .ok (.lload_n 2, 1) := by decide +kernel
theorem dX10_nameOf_27 : decode cX10_nameOf 27 = .ok (.lcmp, 1) := by decide +kernel
theorem dX10_nameOf_28 : decode cX10_nameOf 28 = .ok (.ifCond .ne 6, 3) := by decide +kernel
theorem dX10_nameOf_31 : decode cX10_nameOf 31 = .ok (.iload 4, 2) := by decide +kernel
theorem dX10_nameOf_33 : decode cX10_nameOf 33 = .ok (.ireturn, 1) := by decide +kernel
theorem dX10_nameOf_34 : decode cX10_nameOf 34 = .ok (.iinc 4 1, 3) := by decide +kernel
theorem dX10_nameOf_37 : decode cX10_nameOf 37 = .ok (.goto (-34), 3) := by decide +kernel
theorem dX10_nameOf_40 : decode cX10_nameOf 40 = .ok (.iconst (-1), 1) := by decide +kernel
theorem dX10_nameOf_41 : decode cX10_nameOf 41 = .ok (.ireturn, 1) := by decide +kernel
theorem gcX10_newName__X10_newName_r1 : ∀ w ∈ wsX10_newName_r1, w ∈ wsX10_newName := fun w h => List.mem_cons_of_mem _ (List.mem_append_left _ (List.mem_append_left _ (h)))
theorem gcX10_newName__X10_newName_r2 : ∀ w ∈ wsX10_newName_r2, w ∈ wsX10_newName := fun w h => List.mem_cons_of_mem _ (List.mem_append_left _ (List.mem_append_right _ (List.mem_append_left _ (h))))
set_option maxRecDepth 20000 in
theorem gmX10_newName__X10_name_r1 : ∀ w ∈ wsX10_name_r1, w ∈ wsX10_newName := List.forall_mem_cons.mpr ⟨(gcX10_newName__X10_newName_r1 _ (List.mem_of_getElem? (i := 0) rfl)), List.forall_mem_cons.mpr ⟨(gcX10_newName__X10_newName_r1 _ (List.mem_of_getElem? (i := 9) rfl)), List.forall_mem_cons.mpr ⟨(gcX10_newName__X10_newName_r1 _ (List.mem_of_getElem? (i := 10) rfl)), List.forall_mem_cons.mpr ⟨(gcX10_newName__X10_newName_r1 _ (List.mem_of_getElem? (i := 1) rfl)), List.forall_mem_cons.mpr ⟨(gcX10_newName__X10_newName_r1 _ (List.mem_of_getElem? (i := 11) rfl)), List.forall_mem_cons.mpr ⟨(gcX10_newName__X10_newName_r1 _ (List.mem_of_getElem? (i := 12) rfl)), List.forall_mem_cons.mpr ⟨(gcX10_newName__X10_newName_r1 _ (List.mem_of_getElem? (i := 13) rfl)), List.forall_mem_cons.mpr ⟨(gcX10_newName__X10_newName_r1 _ (List.mem_of_getElem? (i := 14) rfl)), List.forall_mem_cons.mpr ⟨(gcX10_newName__X10_newName_r1 _ (List.mem_of_getElem? (i := 15) rfl)), List.forall_mem_cons.mpr ⟨(gcX10_newName__X10_newName_r1 _ (List.mem_of_getElem? (i := 16) rfl)), List.forall_mem_cons.mpr ⟨(gcX10_newName__X10_newName_r1 _ (List.mem_of_getElem? (i := 17) rfl)), List.forall_mem_cons.mpr ⟨(gcX10_newName__X10_newName_r1 _ (List.mem_of_getElem? (i := 7) rfl)), List.forall_mem_cons.mpr ⟨(gcX10_newName__X10_newName_r1 _ (List.mem_of_getElem? (i := 18) rfl)), List.forall_mem_cons.mpr ⟨(gcX10_newName__X10_newName_r1 _ (List.mem_of_getElem? (i := 19) rfl)), List.forall_mem_cons.mpr ⟨(gcX10_newName__X10_newName_r1 _ (List.mem_of_getElem? (i := 20) rfl)), List.forall_mem_cons.mpr ⟨(gcX10_newName__X10_newName_r1 _ (List.mem_of_getElem? (i := 21) rfl)), List.forall_mem_cons.mpr ⟨(gcX10_newName__X10_newName_r1 _ (List.mem_of_getElem? (i := 22) rfl)), List.forall_mem_cons.mpr ⟨(gcX10_newName__X10_newName_r1 _ (List.mem_of_getElem? (i := 23) rfl)), List.forall_mem_cons.mpr ⟨(gcX10_newName__X10_newName_r2 _ (List.mem_of_getElem? (i := 0) rfl)), List.forall_mem_cons.mpr ⟨(gcX10_newName__X10_newName_r2 _ (List.mem_of_getElem? (i := 1) rfl)), List.forall_mem_cons.mpr ⟨(gcX10_newName__X10_newName_r2 _ (List.mem_of_getElem? (i := 2) rfl)), List.forall_mem_cons.mpr ⟨(gcX10_newName__X10_newName_r2 _ (List.mem_of_getElem? (i := 3) rfl)), List.forall_mem_cons.mpr ⟨(gcX10_newName__X10_newName_r2 _ (List.mem_of_getElem? (i := 4) rfl)), List.forall_mem_cons.mpr ⟨(gcX10_newName__X10_newName_r2 _ (List.mem_of_getElem? (i := 5) rfl)), fun _ h => (List.not_mem_nil h).elim⟩⟩⟩⟩⟩⟩⟩⟩⟩⟩⟩⟩⟩⟩⟩⟩⟩⟩⟩⟩⟩⟩⟩⟩
set_option maxRecDepth 20000 in
theorem gmX10_newName__X10_name_r2 : ∀ w ∈ wsX10_name_r2, w ∈ wsX10_newName := List.forall_mem_cons.mpr ⟨(gcX10_newName__X10_newName_r2 _ (List.mem_of_getElem? (i := 6) rfl)), List.forall_mem_cons.mpr ⟨(gcX10_newName__X10_newName_r2 _ (List.mem_of_getElem? (i := 7) rfl)), List.forall_mem_cons.mpr ⟨(gcX10_newName__X10_newName_r2 _ (List.mem_of_getElem? (i := 8) rfl)), List.forall_mem_cons.mpr ⟨(gcX10_newName__X10_newName_r2 _ (List.mem_of_getElem? (i := 9) rfl)), List.forall_mem_cons.mpr ⟨(gcX10_newName__X10_newName_r2 _ (List.mem_of_getElem? (i := 10) rfl)), List.forall_mem_cons.mpr ⟨(gcX10_newName__X10_newName_r2 _ (List.mem_of_getElem? (i := 11) rfl)), List.forall_mem_cons.mpr ⟨(gcX10_newName__X10_newName_r2 _ (List.mem_of_getElem? (i := 12) rfl)), List.forall_mem_cons.mpr ⟨(gcX10_newName__X10_newName_r2 _ (List.mem_of_getElem? (i := 13) rfl)), List.forall_mem_cons.mpr ⟨(gcX10_newName__X10_newName_r2 _ (List.mem_of_getElem? (i := 14) rfl)), List.forall_mem_cons.mpr ⟨(gcX10_newName__X10_newName_r2 _ (List.mem_of_getElem? (i := 15) rfl)), List.forall_mem_cons.mpr ⟨(gcX10_newName__X10_newName_r2 _ (List.mem_of_getElem? (i := 16) rfl)), List.forall_mem_cons.mpr ⟨(gcX10_newName__X10_newName_r2 _ (List.mem_of_getElem? (i := 17) rfl)), List.forall_mem_cons.mpr ⟨(gcX10_newName__X10_newName_r2 _ (List.mem_of_getElem? (i := 18) rfl)), List.forall_mem_cons.mpr ⟨(gcX10_newName__X10_newName_r2 _ (List.mem_of_getElem? (i := 19) rfl)), List.forall_mem_cons.mpr ⟨(gcX10_newName__X10_newName_r2 _ (List.mem_of_getElem? (i := 20) rfl)), List.forall_mem_cons.mpr ⟨(gcX10_newName__X10_newName_r2 _ (List.mem_of_getElem? (i := 21) rfl)), List.forall_mem_cons.mpr ⟨(gcX10_newName__X10_newName_r2 _ (List.mem_of_getElem? (i := 22) rfl)), fun _ h => (List.not_mem_nil h).elim⟩⟩⟩⟩⟩⟩⟩⟩⟩⟩⟩⟩⟩⟩⟩⟩⟩
theorem gcX10_newName__X100 : ∀ w ∈ wsX100, w ∈ wsX10_newName := fun w h => List.mem_cons_of_mem _ (List.mem_append_right _ (h))
set_option maxRecDepth 20000 in
theorem gwX10_name : wsX10_name.all goodWord = true := by decide +kernel
set_option maxRecDepth 20000 in
theorem ggX10_newName_X10_name : GoodIn wsX10_newName wsX10_name := goodIn_sub (List.forall_mem_cons.mpr ⟨(gcX10_newName__X10_newName_r1 _ (List.mem_of_getElem? (i := 8) rfl)), List.forall_mem_append.mpr ⟨List.forall_mem_append.mpr ⟨gmX10_newName__X10_name_r1, gmX10_newName__X10_name_r2⟩, gcX10_newName__X100⟩⟩) gwX10_name
set_option maxRecDepth 20000 in
theorem gX10_newName_X10_name : GoodIn wsX10_newName (wsV RX10 198 RX10 yX10_name wsX10_name) := goodIn_app (goodIn_sub (List.forall_mem_cons.mpr ⟨(gcX10_newName__X10_newName_r1 _ (List.mem_of_getElem? (i := 4) rfl)), List.forall_mem_cons.mpr ⟨(gcX10_newName__X10_newName_r1 _ (List.mem_of_getElem? (i := 5) rfl)), List.forall_mem_cons.mpr ⟨(gcX10_newName__X10_newName_r1 _ (List.mem_of_getElem? (i := 6) rfl)), List.forall_mem_cons.mpr ⟨(gcX10_newName__X10_newName_r1 _ (List.mem_of_getElem? (i := 7) rfl)), fun _ h => (List.not_mem_nil h).elim⟩⟩⟩⟩) (by decide +kernel)) ggX10_newName_X10_name
theorem gcX10_newName__X10_newName_r3 : ∀ w ∈ wsX10_newName_r3, w ∈ wsX10_newName := fun w h => List.mem_cons_of_mem _ (List.mem_append_left _ (List.mem_append_right _ (List.mem_append_right _ (h))))
set_option maxRecDepth 20000 in
theorem gwX10_nameOf : wsX10_nameOf.all goodWord = true := by decide +kernel
set_option maxRecDepth 20000 in
theorem ggX10_newName_X10_nameOf : GoodIn wsX10_newName wsX10_nameOf := goodIn_sub (List.forall_mem_cons.mpr ⟨(gcX10_newName__X10_newName_r3 _ (List.mem_of_getElem? (i := 2) rfl)), List.forall_mem_append.mpr ⟨List.forall_mem_cons.mpr ⟨(gcX10_newName__X10_newName_r1 _ (List.mem_of_getElem? (i := 2) rfl)), List.forall_mem_cons.mpr ⟨(gcX10_newName__X10_newName_r1 _ (List.mem_of_getElem? (i := 3) rfl)), fun _ h => (List.not_mem_nil h).elim⟩⟩, gcX10_newName__X100⟩⟩) gwX10_nameOf
set_option maxRecDepth 20000 in
theorem gX10_newName_X10_nameOf : GoodIn wsX10_newName (wsV RX10 202 RX10 yX10_nameOf wsX10_nameOf) := goodIn_app (goodIn_sub (List.forall_mem_cons.mpr ⟨(gcX10_newName__X10_newName_r2 _ (List.mem_of_getElem? (i := 23) rfl)), List.forall_mem_cons.mpr ⟨(gcX10_newName__X10_newName_r3 _ (List.mem_of_getElem? (i := 0) rfl)), List.forall_mem_cons.mpr ⟨(gcX10_newName__X10_newName_r3 _ (List.mem_of_getElem? (i := 1) rfl)), List.forall_mem_cons.mpr ⟨(gcX10_newName__X10_newName_r1 _ (List.mem_of_getElem? (i := 7) rfl)), fun _ h => (List.not_mem_nil h).elim⟩⟩⟩⟩) (by decide +kernel)) ggX10_newName_X10_nameOf
set_option maxRecDepth 20000 in
theorem ggX10_newName_X10_fail : GoodIn wsX10_newName wsX10_fail := goodIn_sub (List.forall_mem_cons.mpr ⟨(gcX10_newName__X10_newName_r2 _ (List.mem_of_getElem? (i := 21) rfl)), List.forall_mem_append.mpr ⟨List.forall_mem_cons.mpr ⟨(gcX10_newName__X10_newName_r1 _ (List.mem_of_getElem? (i := 0) rfl)), List.forall_mem_cons.mpr ⟨(gcX10_newName__X10_newName_r2 _ (List.mem_of_getElem? (i := 22) rfl)), fun _ h => (List.not_mem_nil h).elim⟩⟩, gcX10_newName__X100⟩⟩) gwX10_fail
set_option maxRecDepth 20000 in
theorem gX10_newName_X10_fail : GoodIn wsX10_newName (wsV RX10 173 RX10 yX10_fail wsX10_fail) := goodIn_app (goodIn_sub (List.forall_mem_cons.mpr ⟨(gcX10_newName__X10_newName_r2 _ (List.mem_of_getElem? (i := 18) rfl)), List.forall_mem_cons.mpr ⟨(gcX10_newName__X10_newName_r2 _ (List.mem_of_getElem? (i := 19) rfl)), List.forall_mem_cons.mpr ⟨(gcX10_newName__X10_newName_r2 _ (List.mem_of_getElem? (i := 20) rfl)), List.forall_mem_cons.mpr ⟨(gcX10_newName__X10_newName_r1 _ (List.mem_of_getElem? (i := 7) rfl)), fun _ h => (List.not_mem_nil h).elim⟩⟩⟩⟩) (by decide +kernel)) ggX10_newName_X10_fail
theorem dX10_newName_0 : decode cX10_newName 0 = .ok (.aload_n 0, 1) := by decide +kernel
theorem dX10_newName_1 : decode cX10_newName 1 = .ok (.invokevirtual 198, 3) := by decide +kernel
theorem dX10_newName_4 : decode cX10_newName 4 = .ok (.lstore_n 2, 1) := by decide +kernel
theorem dX10_newName_5 : decode cX10_newName 5 = .ok (.iconst 0, 1) := by decide +kernel
theorem dX10_newName_6 : decode cX10_newName 6 = .ok (.istore 4, 2) := by decide +kernel
theorem dX10_newName_8 : decode cX10_newName 8 = .ok (.iload 4, 2) := by decide +kernel
theorem dX10_newName_10 : decode cX10_newName 10 = .ok (.iconst 3, 1) := by decide +kernel
theorem dX10_newName_11 : decode cX10_newName 11 = .ok (.if_icmp .ge 36, 3) := by decide +kernel
theorem dX10_newName_14 : decode cX10_newName 14 = .ok (.aload_n 0, 1) := by decide +kernel
theorem dX10_newName_15 : decode cX10_newName 15 = .ok (.getfield 143, 3) := by decide +kernel
theorem dX10_newName_18 : decode cX10_newName 18 = .ok (.ifCond .ne 29, 3) := by decide +kernel
theorem dX10_newName_21 : decode cX10_newName 21 = .ok (.aload_n 0, 1) := by decide +kernel
theorem dX10_newName_22 : decode cX10_newName 22 = .ok (.iload 4, 2) := by decide +kernel
theorem dX10_newName_24 : decode cX10_newName 24 = .ok (.lload_n 2, 1) := by decide +kernel
theorem dX10_newName_25 : decode cX10_newName 25 = .ok (.invokevirtual 202, 3) := by decide +kernel
theorem dX10_newName_28 : decode cX10_newName 28 = .ok (.iconst (-1), 1) := by decide +kernel
theorem dX10_newName_29 : decode cX10_newName 29 = .ok (.if_icmp .eq 12, 3) := by decide +kernel
theorem dX10_newName_32 : decode cX10_newName 32 = .ok (.aload_n 0, 1) := by decide +kernel
theorem dX10_newName_33 : decode cX10_newName 33 = .ok (.iconst 3, 1) := by decide +kernel
theorem dX10_newName_34 : decode cX10_newName 34 = .ok (.aload_n 0, 1) := by decide +kernel
theorem dX10_newName_35 : decode cX10_newName 35 = .ok (.getfield 191, 3) := by decide +kernel
theorem dX10_newName_38 : decode cX10_newName 38 = .ok (.invokevirtual 173, 3) := by decide +kernel
theorem dX10_newName_41 : decode cX10_newName 41 = .ok (.iinc 4 1, 3) := by decide +kernel
theorem dX10_newName_44 : decode cX10_newName 44 = .ok (.goto (-36), 3) := by decide +kernel
theorem dX10_newName_47 : decode cX10_newName 47 = .ok (.aload_n 0, 1) := by decide +kernel
theorem dX10_newName_48 : decode cX10_newName 48 = .ok (.getfield 58, 3) := by decide +kernel
theorem dX10_newName_51 : decode cX10_newName 51 = .ok (.iload_n 1, 1) := by decide +kernel
theorem dX10_newName_52 : decode cX10_newName 52 = .ok (.iaload, 1) := by decide +kernel
theorem dX10_newName_53 : decode cX10_newName 53 = .ok (.istore 4, 2) := by decide +kernel
theorem dX10_newName_55 : decode cX10_newName 55 = .ok (.aload_n 0, 1) := by decide +kernel
theorem dX10_newName_56 : decode cX10_newName 56 = .ok (.getfield 143, 3) := by decide +kernel
theorem dX10_newName_59 : decode cX10_newName 59 = .ok (.ifCond .eq 6, 3) := by decide +kernel
theorem dX10_newName_62 : decode cX10_newName 62 = .ok (.iload 4, 2) := by decide +kernel
theorem dX10_newName_64 : decode cX10_newName 64 = .ok (.ireturn, 1) := by decide +kernel
theorem dX10_newName_65 : decode cX10_newName 65 = .ok (.aload_n 0, 1) := by decide +kernel
theorem dX10_newName_66 : decode cX10_newName 66 = .ok (.getfield 54, 3) := by decide +kernel
theorem dX10_newName_69 : decode cX10_newName 69 = .ok (.bipush 20, 2) := by decide +kernel
theorem dX10_newName_71 : decode cX10_newName 71 = .ok (.iload_n 1, 1) := by decide +kernel
theorem dX10_newName_72 : decode cX10_newName 72 = .ok (.imul, 1) := by decide +kernel
theorem dX10_newName_73 : decode cX10_newName 73 = .ok (.iload 4, 2) := by decide +kernel
theorem dX10_newName_75 : decode cX10_newName 75 = .ok (.iadd, 1) := by decide +kernel
theorem dX10_newName_76 : decode cX10_newName 76 = .ok (.lload_n 2, 1) := by decide +kernel
theorem dX10_newName_77 : decode cX10_newName 77 = .ok (.lastore, 1) := by decide +kernel
theorem dX10_newName_78 : decode cX10_newName 78 = .ok (.aload_n 0, 1) := by decide +kernel
theorem dX10_newName_79 : decode cX10_newName 79 = .ok (.getfield 58, 3) := by decide +kernel
theorem dX10_newName_82 : decode cX10_newName 82 = .ok (.iload_n 1, 1) := by decide +kernel
theorem dX10_newName_83 : decode cX10_newName 83 = .ok (.dup2, 1) := by decide +kernel
theorem dX10_newName_84 : decode cX10_newName 84 = .ok (.iaload, 1) := by decide +kernel
theorem dX10_newName_85 : decode cX10_newName 85 = .ok (.iconst 1, 1) := by decide +kernel
theorem dX10_newName_86 : decode cX10_newName 86 = .ok (.iadd, 1) := by decide +kernel
theorem dX10_newName_87 : decode cX10_newName 87 = .ok (.iastore, 1) := by decide +kernel
theorem dX10_newName_88 : decode cX10_newName 88 = .ok (.iload 4, 2) := by decide +kernel
theorem dX10_newName_90 : decode cX10_newName 90 = .ok (.ireturn, 1) := by decide +kernel
theorem gcX10_oneOf__X10_oneOf_r1 : ∀ w ∈ wsX10_oneOf_r1, w ∈ wsX10_oneOf := fun w h => List.mem_cons_of_mem _ (List.mem_append_left _ (List.mem_append_left _ (h)))
theorem gcX10_oneOf__X10_oneOf_r2 : ∀ w ∈ wsX10_oneOf_r2, w ∈ wsX10_oneOf := fun w h => List.mem_cons_of_mem _ (List.mem_append_left _ (List.mem_append_right _ (List.mem_append_left _ (h))))
set_option maxRecDepth 20000 in
theorem gmX10_oneOf__X10_name_r1 : ∀ w ∈ wsX10_name_r1, w ∈ wsX10_oneOf := List.forall_mem_cons.mpr ⟨(gcX10_oneOf__X10_oneOf_r1 _ (List.mem_of_getElem? (i := 0) rfl)), List.forall_mem_cons.mpr ⟨(gcX10_oneOf__X10_oneOf_r1 _ (List.mem_of_getElem? (i := 7) rfl)), List.forall_mem_cons.mpr ⟨(gcX10_oneOf__X10_oneOf_r1 _ (List.mem_of_getElem? (i := 8) rfl)), List.forall_mem_cons.mpr ⟨(gcX10_oneOf__X10_oneOf_r1 _ (List.mem_of_getElem? (i := 1) rfl)), List.forall_mem_cons.mpr ⟨(gcX10_oneOf__X10_oneOf_r1 _ (List.mem_of_getElem? (i := 9) rfl)), List.forall_mem_cons.mpr ⟨(gcX10_oneOf__X10_oneOf_r1 _ (List.mem_of_getElem? (i := 10) rfl)), List.forall_mem_cons.mpr ⟨(gcX10_oneOf__X10_oneOf_r1 _ (List.mem_of_getElem? (i := 11) rfl)), List.forall_mem_cons.mpr ⟨(gcX10_oneOf__X10_oneOf_r1 _ (List.mem_of_getElem? (i := 12) rfl)), List.forall_mem_cons.mpr ⟨(gcX10_oneOf__X10_oneOf_r1 _ (List.mem_of_getElem? (i := 13) rfl)), List.forall_mem_cons.mpr ⟨(gcX10_oneOf__X10_oneOf_r1 _ (List.mem_of_getElem? (i := 14) rfl)), List.forall_mem_cons.mpr ⟨(gcX10_oneOf__X10_oneOf_r1 _ (List.mem_of_getElem? (i := 15) rfl)), List.forall_mem_cons.mpr ⟨(gcX10_oneOf__X10_oneOf_r1 _ (List.mem_of_getElem? (i := 5) rfl)), List.forall_mem_cons.mpr ⟨(gcX10_oneOf__X10_oneOf_r1 _ (List.mem_of_getElem? (i := 16) rfl)), List.forall_mem_cons.mpr ⟨(gcX10_oneOf__X10_oneOf_r1 _ (List.mem_of_getElem? (i := 17) rfl)), List.forall_mem_cons.mpr ⟨(gcX10_oneOf__X10_oneOf_r1 _ (List.mem_of_getElem? (i := 18) rfl)), List.forall_mem_cons.mpr ⟨(gcX10_oneOf__X10_oneOf_r1 _ (List.mem_of_getElem? (i := 19) rfl)), List.forall_mem_cons.mpr ⟨(gcX10_oneOf__X10_oneOf_r1 _ (List.mem_of_getElem? (i := 20) rfl)), List.forall_mem_cons.mpr ⟨(gcX10_oneOf__X10_oneOf_r1 _ (List.mem_of_getElem? (i := 21) rfl)), List.forall_mem_cons.mpr ⟨(gcX10_oneOf__X10_oneOf_r1 _ (List.mem_of_getElem? (i := 22) rfl)), List.forall_mem_cons.mpr ⟨(gcX10_oneOf__X10_oneOf_r1 _ (List.mem_of_getElem? (i := 23) rfl)), List.forall_mem_cons.mpr ⟨(gcX10_oneOf__X10_oneOf_r2 _ (List.mem_of_getElem? (i := 0) rfl)), List.forall_mem_cons.mpr ⟨(gcX10_oneOf__X10_oneOf_r2 _ (List.mem_of_getElem? (i := 1) rfl)), List.forall_mem_cons.mpr ⟨(gcX10_oneOf__X10_oneOf_r2 _ (List.mem_of_getElem? (i := 2) rfl)), List.forall_mem_cons.mpr ⟨(gcX10_oneOf__X10_oneOf_r2 _ (List.mem_of_getElem? (i := 3) rfl)), fun _ h => (List.not_mem_nil h).elim⟩⟩⟩⟩⟩⟩⟩⟩⟩⟩⟩⟩⟩⟩⟩⟩⟩⟩⟩⟩⟩⟩⟩⟩
set_option maxRecDepth 20000 in
theorem gmX10_oneOf__X10_name_r2 : ∀ w ∈ wsX10_name_r2, w ∈ wsX10_oneOf := List.forall_mem_cons.mpr ⟨(gcX10_oneOf__X10_oneOf_r2 _ (List.mem_of_getElem? (i := 4) rfl)), List.forall_mem_cons.mpr ⟨(gcX10_oneOf__X10_oneOf_r2 _ (List.mem_of_getElem? (i := 5) rfl)), List.forall_mem_cons.mpr ⟨(gcX10_oneOf__X10_oneOf_r2 _ (List.mem_of_getElem? (i := 6) rfl)), List.forall_mem_cons.mpr ⟨(gcX10_oneOf__X10_oneOf_r2 _ (List.mem_of_getElem? (i := 7) rfl)), List.forall_mem_cons.mpr ⟨(gcX10_oneOf__X10_oneOf_r2 _ (List.mem_of_getElem? (i := 8) rfl)), List.forall_mem_cons.mpr ⟨(gcX10_oneOf__X10_oneOf_r2 _ (List.mem_of_getElem? (i := 9) rfl)), List.forall_mem_cons.mpr ⟨(gcX10_oneOf__X10_oneOf_r2 _ (List.mem_of_getElem? (i := 10) rfl)), List.forall_mem_cons.mpr ⟨(gcX10_oneOf__X10_oneOf_r2 _ (List.mem_of_getElem? (i := 11) rfl)), List.forall_mem_cons.mpr ⟨(gcX10_oneOf__X10_oneOf_r2 _ (List.mem_of_getElem? (i := 12) rfl)), List.forall_mem_cons.mpr ⟨(gcX10_oneOf__X10_oneOf_r2 _ (List.mem_of_getElem? (i := 13) rfl)), List.forall_mem_cons.mpr ⟨(gcX10_oneOf__X10_oneOf_r2 _ (List.mem_of_getElem? (i := 14) rfl)), List.forall_mem_cons.mpr ⟨(gcX10_oneOf__X10_oneOf_r2 _ (List.mem_of_getElem? (i := 15) rfl)), List.forall_mem_cons.mpr ⟨(gcX10_oneOf__X10_oneOf_r2 _ (List.mem_of_getElem? (i := 16) rfl)), List.forall_mem_cons.mpr ⟨(gcX10_oneOf__X10_oneOf_r2 _ (List.mem_of_getElem? (i := 17) rfl)), List.forall_mem_cons.mpr ⟨(gcX10_oneOf__X10_oneOf_r2 _ (List.mem_of_getElem? (i := 18) rfl)), List.forall_mem_cons.mpr ⟨(gcX10_oneOf__X10_oneOf_r2 _ (List.mem_of_getElem? (i := 19) rfl)), List.forall_mem_cons.mpr ⟨(gcX10_oneOf__X10_oneOf_r2 _ (List.mem_of_getElem? (i := 20) rfl)), fun _ h => (List.not_mem_nil h).elim⟩⟩⟩⟩⟩⟩⟩⟩⟩⟩⟩⟩⟩⟩⟩⟩⟩
theorem gcX10_oneOf__X100 : ∀ w ∈ wsX100, w ∈ wsX10_oneOf := fun w h => List.mem_cons_of_mem _ (List.mem_append_right _ (h))
set_option maxRecDepth 20000 in
theorem ggX10_oneOf_X10_name : GoodIn wsX10_oneOf wsX10_name := goodIn_sub (List.forall_mem_cons.mpr ⟨(gcX10_oneOf__X10_oneOf_r1 _ (List.mem_of_getElem? (i := 6) rfl)), List.forall_mem_append.mpr ⟨List.forall_mem_append.mpr ⟨gmX10_oneOf__X10_name_r1, gmX10_oneOf__X10_name_r2⟩, gcX10_oneOf__X100⟩⟩) gwX10_name
set_option maxRecDepth 20000 in
theorem gX10_oneOf_X10_name : GoodIn wsX10_oneOf (wsV RX10 198 RX10 yX10_name wsX10_name) := goodIn_app (goodIn_sub (List.forall_mem_cons.mpr ⟨(gcX10_oneOf__X10_oneOf_r1 _ (List.mem_of_getElem? (i := 2) rfl)), List.forall_mem_cons.mpr ⟨(gcX10_oneOf__X10_oneOf_r1 _ (List.mem_of_getElem? (i := 3) rfl)), List.forall_mem_cons.mpr ⟨(gcX10_oneOf__X10_oneOf_r1 _ (List.mem_of_getElem? (i := 4) rfl)), List.forall_mem_cons.mpr ⟨(gcX10_oneOf__X10_oneOf_r1 _ (List.mem_of_getElem? (i := 5) rfl)), fun _ h => (List.not_mem_nil h).elim⟩⟩⟩⟩) (by decide +kernel)) ggX10_oneOf_X10_name
theorem gcX10_oneOf__X10_oneOf_r3 : ∀ w ∈ wsX10_oneOf_r3, w ∈ wsX10_oneOf := fun w h => List.mem_cons_of_mem _ (List.mem_append_left _ (List.mem_append_right _ (List.mem_append_right _ (h))))
set_option maxRecDepth 20000 in
theorem ggX10_oneOf_X10_nameOf : GoodIn wsX10_oneOf wsX10_nameOf := goodIn_sub (List.forall_mem_cons.mpr ⟨(gcX10_oneOf__X10_oneOf_r3 _ (List.mem_of_getElem? (i := 0) rfl)), List.forall_mem_append.mpr ⟨List.forall_mem_cons.mpr ⟨(gcX10_oneOf__X10_oneOf_r3 _ (List.mem_of_getElem? (i := 1) rfl)), List.forall_mem_cons.mpr ⟨(gcX10_oneOf__X10_oneOf_r3 _ (List.mem_of_getElem? (i := 2) rfl)), fun _ h => (List.not_mem_nil h).elim⟩⟩, gcX10_oneOf__X100⟩⟩) gwX10_nameOf
set_option maxRecDepth 20000 in
theorem gX10_oneOf_X10_nameOf : GoodIn wsX10_oneOf (wsV RX10 202 RX10 yX10_nameOf wsX10_nameOf) := goodIn_app (goodIn_sub (List.forall_mem_cons.mpr ⟨(gcX10_oneOf__X10_oneOf_r2 _ (List.mem_of_getElem? (i := 21) rfl)), List.forall_mem_cons.mpr ⟨(gcX10_oneOf__X10_oneOf_r2 _ (List.mem_of_getElem? (i := 22) rfl)), List.forall_mem_cons.mpr ⟨(gcX10_oneOf__X10_oneOf_r2 _ (List.mem_of_getElem? (i := 23) rfl)), List.forall_mem_cons.mpr ⟨(gcX10_oneOf__X10_oneOf_r1 _ (List.mem_of_getElem? (i := 5) rfl)), fun _ h => (List.not_mem_nil h).elim⟩⟩⟩⟩) (by decide +kernel)) ggX10_oneOf_X10_nameOf
set_option maxRecDepth 20000 in
theorem ggX10_oneOf_X10_fail : GoodIn wsX10_oneOf wsX10_fail := goodIn_sub (List.forall_mem_cons.mpr ⟨(gcX10_oneOf__X10_oneOf_r2 _ (List.mem_of_getElem? (i := 19) rfl)), List.forall_mem_append.mpr ⟨List.forall_mem_cons.mpr ⟨(gcX10_oneOf__X10_oneOf_r1 _ (List.mem_of_getElem? (i := 0) rfl)), List.forall_mem_cons.mpr ⟨(gcX10_oneOf__X10_oneOf_r2 _ (List.mem_of_getElem? (i := 20) rfl)), fun _ h => (List.not_mem_nil h).elim⟩⟩, gcX10_oneOf__X100⟩⟩) gwX10_fail
set_option maxRecDepth 20000 in
theorem gX10_oneOf_X10_fail : GoodIn wsX10_oneOf (wsV RX10 173 RX10 yX10_fail wsX10_fail) := goodIn_app (goodIn_sub (List.forall_mem_cons.mpr ⟨(gcX10_oneOf__X10_oneOf_r2 _ (List.mem_of_getElem? (i := 16) rfl)), List.forall_mem_cons.mpr ⟨(gcX10_oneOf__X10_oneOf_r2 _ (List.mem_of_getElem? (i := 17) rfl)), List.forall_mem_cons.mpr ⟨(gcX10_oneOf__X10_oneOf_r2 _ (List.mem_of_getElem? (i := 18) rfl)), List.forall_mem_cons.mpr ⟨(gcX10_oneOf__X10_oneOf_r1 _ (List.mem_of_getElem? (i := 5) rfl)), fun _ h => (List.not_mem_nil h).elim⟩⟩⟩⟩) (by decide +kernel)) ggX10_oneOf_X10_fail
theorem dX10_oneOf_0 : decode cX10_oneOf 0 = .ok (.aload_n 0, 1) := by decide +kernel
theorem dX10_oneOf_1 : decode cX10_oneOf 1 = .ok (.invokevirtual 198, 3) := by decide +kernel
theorem dX10_oneOf_4 : decode cX10_oneOf 4 = .ok (.lstore_n 2, 1) := by decide +kernel
theorem dX10_oneOf_5 : decode cX10_oneOf 5 = .ok (.aload_n 0, 1) := by decide +kernel
theorem dX10_oneOf_6 : decode cX10_oneOf 6 = .ok (.iload_n 1, 1) := by decide +kernel
theorem dX10_oneOf_7 : decode cX10_oneOf 7 = .ok (.lload_n 2, 1) := by decide +kernel
theorem dX10_oneOf_8 : decode cX10_oneOf 8 = .ok (.invokevirtual 202, 3) := by decide +kernel
theorem dX10_oneOf_11 : decode cX10_oneOf 11 = .ok (.istore 4, 2) := by decide +kernel
theorem dX10_oneOf_13 : decode cX10_oneOf 13 = .ok (.aload_n 0, 1) := by decide +kernel
theorem dX10_oneOf_14 : decode cX10_oneOf 14 = .ok (.getfield 143, 3) := by decide +kernel
theorem dX10_oneOf_17 : decode cX10_oneOf 17 = .ok (.ifCond .ne 18, 3) := by decide +kernel
theorem dX10_oneOf_20 : decode cX10_oneOf 20 = .ok (.iload 4, 2) := by decide +kernel
theorem dX10_oneOf_22 : decode cX10_oneOf 22 = .ok (.iconst (-1), 1) := by decide +kernel
theorem dX10_oneOf_23 : decode cX10_oneOf 23 = .ok (.if_icmp .ne 12, 3) := by decide +kernel
theorem dX10_oneOf_26 : decode cX10_oneOf 26 = .ok (.aload_n 0, 1) := by decide +kernel
theorem dX10_oneOf_27 : decode cX10_oneOf 27 = .ok (.iconst 3, 1) := by decide +kernel
theorem dX10_oneOf_28 : decode cX10_oneOf 28 = .ok (.aload_n 0, 1) := by decide +kernel
theorem dX10_oneOf_29 : decode cX10_oneOf 29 = .ok (.getfield 191, 3) := by decide +kernel
theorem dX10_oneOf_32 : decode cX10_oneOf 32 = .ok (.invokevirtual 173, 3) := by decide +kernel
theorem dX10_oneOf_35 : decode cX10_oneOf 35 = .ok (.iload 4, 2) := by decide +kernel
theorem dX10_oneOf_37 : decode cX10_oneOf 37 = .ok (.iconst (-1), 1) := by decide +kernel
theorem dX10_oneOf_38 : decode cX10_oneOf 38 = .ok (.if_icmp .ne 7, 3) := by decide +kernel
theorem dX10_oneOf_41 : decode cX10_oneOf 41 = .ok (.iconst 0, 1) := by decide +kernel
theorem dX10_oneOf_42 : decode cX10_oneOf 42 = .ok (.goto 5, 3) := by decide +kernel
theorem dX10_oneOf_45 : decode cX10_oneOf 45 = .ok (.iload 4, 2) := by decide +kernel
theorem dX10_oneOf_47 : decode cX10_oneOf 47 = .ok (.ireturn, 1) := by decide +kernel
theorem gcX10_pictureTold__X10_pictureTold_r1 : ∀ w ∈ wsX10_pictureTold_r1, w ∈ wsX10_pictureTold := fun w h => List.mem_cons_of_mem _ (List.mem_append_left _ (List.mem_append_left _ (h)))
theorem gcX10_pictureTold__X100 : ∀ w ∈ wsX100, w ∈ wsX10_pictureTold := fun w h => List.mem_cons_of_mem _ (List.mem_append_right _ (h))
set_option maxRecDepth 20000 in
theorem gwX10_isFull : wsX10_isFull.all goodWord = true := by decide +kernel
set_option maxRecDepth 20000 in
theorem ggX10_pictureTold_X10_isFull : GoodIn wsX10_pictureTold wsX10_isFull := goodIn_sub (List.forall_mem_cons.mpr ⟨(gcX10_pictureTold__X10_pictureTold_r1 _ (List.mem_of_getElem? (i := 11) rfl)), List.forall_mem_append.mpr ⟨List.forall_mem_cons.mpr ⟨(gcX10_pictureTold__X10_pictureTold_r1 _ (List.mem_of_getElem? (i := 3) rfl)), List.forall_mem_cons.mpr ⟨(gcX10_pictureTold__X10_pictureTold_r1 _ (List.mem_of_getElem? (i := 12) rfl)), List.forall_mem_cons.mpr ⟨(gcX10_pictureTold__X10_pictureTold_r1 _ (List.mem_of_getElem? (i := 13) rfl)), List.forall_mem_cons.mpr ⟨(gcX10_pictureTold__X10_pictureTold_r1 _ (List.mem_of_getElem? (i := 14) rfl)), List.forall_mem_cons.mpr ⟨(gcX10_pictureTold__X10_pictureTold_r1 _ (List.mem_of_getElem? (i := 15) rfl)), List.forall_mem_cons.mpr ⟨(gcX10_pictureTold__X10_pictureTold_r1 _ (List.mem_of_getElem? (i := 10) rfl)), List.forall_mem_cons.mpr ⟨(gcX10_pictureTold__X10_pictureTold_r1 _ (List.mem_of_getElem? (i := 16) rfl)), List.forall_mem_cons.mpr ⟨(gcX10_pictureTold__X10_pictureTold_r1 _ (List.mem_of_getElem? (i := 17) rfl)), fun _ h => (List.not_mem_nil h).elim⟩⟩⟩⟩⟩⟩⟩⟩, gcX10_pictureTold__X100⟩⟩) gwX10_isFull
set_option maxRecDepth 20000 in
theorem gX10_pictureTold_X10_isFull : GoodIn wsX10_pictureTold (wsV RX10 206 RX10 yX10_isFull wsX10_isFull) := goodIn_app (goodIn_sub (List.forall_mem_cons.mpr ⟨(gcX10_pictureTold__X10_pictureTold_r1 _ (List.mem_of_getElem? (i := 7) rfl)), List.forall_mem_cons.mpr ⟨(gcX10_pictureTold__X10_pictureTold_r1 _ (List.mem_of_getElem? (i := 8) rfl)), List.forall_mem_cons.mpr ⟨(gcX10_pictureTold__X10_pictureTold_r1 _ (List.mem_of_getElem? (i := 9) rfl)), List.forall_mem_cons.mpr ⟨(gcX10_pictureTold__X10_pictureTold_r1 _ (List.mem_of_getElem? (i := 10) rfl)), fun _ h => (List.not_mem_nil h).elim⟩⟩⟩⟩) (by decide +kernel)) ggX10_pictureTold_X10_isFull
theorem gcX10_pictureTold__X10_pictureTold_r2 : ∀ w ∈ wsX10_pictureTold_r2, w ∈ wsX10_pictureTold := fun w h => List.mem_cons_of_mem _ (List.mem_append_left _ (List.mem_append_right _ (List.mem_append_left _ (h))))
set_option maxRecDepth 20000 in
theorem gmX10_pictureTold__X10_newName_r1 : ∀ w ∈ wsX10_newName_r1, w ∈ wsX10_pictureTold := List.forall_mem_cons.mpr ⟨(gcX10_pictureTold__X10_pictureTold_r1 _ (List.mem_of_getElem? (i := 3) rfl)), List.forall_mem_cons.mpr ⟨(gcX10_pictureTold__X10_pictureTold_r1 _ (List.mem_of_getElem? (i := 22) rfl)), List.forall_mem_cons.mpr ⟨(gcX10_pictureTold__X10_pictureTold_r1 _ (List.mem_of_getElem? (i := 12) rfl)), List.forall_mem_cons.mpr ⟨(gcX10_pictureTold__X10_pictureTold_r1 _ (List.mem_of_getElem? (i := 23) rfl)), List.forall_mem_cons.mpr ⟨(gcX10_pictureTold__X10_pictureTold_r2 _ (List.mem_of_getElem? (i := 0) rfl)), List.forall_mem_cons.mpr ⟨(gcX10_pictureTold__X10_pictureTold_r2 _ (List.mem_of_getElem? (i := 1) rfl)), List.forall_mem_cons.mpr ⟨(gcX10_pictureTold__X10_pictureTold_r2 _ (List.mem_of_getElem? (i := 2) rfl)), List.forall_mem_cons.mpr ⟨(gcX10_pictureTold__X10_pictureTold_r1 _ (List.mem_of_getElem? (i := 10) rfl)), List.forall_mem_cons.mpr ⟨(gcX10_pictureTold__X10_pictureTold_r2 _ (List.mem_of_getElem? (i := 3) rfl)), List.forall_mem_cons.mpr ⟨(gcX10_pictureTold__X10_pictureTold_r2 _ (List.mem_of_getElem? (i := 4) rfl)), List.forall_mem_cons.mpr ⟨(gcX10_pictureTold__X10_pictureTold_r2 _ (List.mem_of_getElem? (i := 5) rfl)), List.forall_mem_cons.mpr ⟨(gcX10_pictureTold__X10_pictureTold_r2 _ (List.mem_of_getElem? (i := 6) rfl)), List.forall_mem_cons.mpr ⟨(gcX10_pictureTold__X10_pictureTold_r2 _ (List.mem_of_getElem? (i := 7) rfl)), List.forall_mem_cons.mpr ⟨(gcX10_pictureTold__X10_pictureTold_r2 _ (List.mem_of_getElem? (i := 8) rfl)), List.forall_mem_cons.mpr ⟨(gcX10_pictureTold__X10_pictureTold_r2 _ (List.mem_of_getElem? (i := 9) rfl)), List.forall_mem_cons.mpr ⟨(gcX10_pictureTold__X10_pictureTold_r2 _ (List.mem_of_getElem? (i := 10) rfl)), List.forall_mem_cons.mpr ⟨(gcX10_pictureTold__X10_pictureTold_r2 _ (List.mem_of_getElem? (i := 11) rfl)), List.forall_mem_cons.mpr ⟨(gcX10_pictureTold__X10_pictureTold_r2 _ (List.mem_of_getElem? (i := 12) rfl)), List.forall_mem_cons.mpr ⟨(gcX10_pictureTold__X10_pictureTold_r2 _ (List.mem_of_getElem? (i := 13) rfl)), List.forall_mem_cons.mpr ⟨(gcX10_pictureTold__X10_pictureTold_r2 _ (List.mem_of_getElem? (i := 14) rfl)), List.forall_mem_cons.mpr ⟨(gcX10_pictureTold__X10_pictureTold_r2 _ (List.mem_of_getElem? (i := 15) rfl)), List.forall_mem_cons.mpr ⟨(gcX10_pictureTold__X10_pictureTold_r2 _ (List.mem_of_getElem? (i := 16) rfl)), List.forall_mem_cons.mpr ⟨(gcX10_pictureTold__X10_pictureTold_r2 _ (List.mem_of_getElem? (i := 17) rfl)), List.forall_mem_cons.mpr ⟨(gcX10_pictureTold__X10_pictureTold_r2 _ (List.mem_of_getElem? (i := 18) rfl)), fun _ h => (List.not_mem_nil h).elim⟩⟩⟩⟩⟩⟩⟩⟩⟩⟩⟩⟩⟩⟩⟩⟩⟩⟩⟩⟩⟩⟩⟩⟩
theorem gcX10_pictureTold__X10_pictureTold_r3 : ∀ w ∈ wsX10_pictureTold_r3, w ∈ wsX10_pictureTold := fun w h => List.mem_cons_of_mem _ (List.mem_append_left _ (List.mem_append_right _ (List.mem_append_right _ (List.mem_append_left _ (h)))))
set_option maxRecDepth 20000 in
theorem gmX10_pictureTold__X10_newName_r2 : ∀ w ∈ wsX10_newName_r2, w ∈ wsX10_pictureTold := List.forall_mem_cons.mpr ⟨(gcX10_pictureTold__X10_pictureTold_r2 _ (List.mem_of_getElem? (i := 19) rfl)), List.forall_mem_cons.mpr ⟨(gcX10_pictureTold__X10_pictureTold_r2 _ (List.mem_of_getElem? (i := 20) rfl)), List.forall_mem_cons.mpr ⟨(gcX10_pictureTold__X10_pictureTold_r2 _ (List.mem_of_getElem? (i := 21) rfl)), List.forall_mem_cons.mpr ⟨(gcX10_pictureTold__X10_pictureTold_r2 _ (List.mem_of_getElem? (i := 22) rfl)), List.forall_mem_cons.mpr ⟨(gcX10_pictureTold__X10_pictureTold_r1 _ (List.mem_of_getElem? (i := 0) rfl)), List.forall_mem_cons.mpr ⟨(gcX10_pictureTold__X10_pictureTold_r1 _ (List.mem_of_getElem? (i := 1) rfl)), List.forall_mem_cons.mpr ⟨(gcX10_pictureTold__X10_pictureTold_r1 _ (List.mem_of_getElem? (i := 2) rfl)), List.forall_mem_cons.mpr ⟨(gcX10_pictureTold__X10_pictureTold_r2 _ (List.mem_of_getElem? (i := 23) rfl)), List.forall_mem_cons.mpr ⟨(gcX10_pictureTold__X10_pictureTold_r3 _ (List.mem_of_getElem? (i := 0) rfl)), List.forall_mem_cons.mpr ⟨(gcX10_pictureTold__X10_pictureTold_r3 _ (List.mem_of_getElem? (i := 1) rfl)), List.forall_mem_cons.mpr ⟨(gcX10_pictureTold__X10_pictureTold_r3 _ (List.mem_of_getElem? (i := 2) rfl)), List.forall_mem_cons.mpr ⟨(gcX10_pictureTold__X10_pictureTold_r3 _ (List.mem_of_getElem? (i := 3) rfl)), List.forall_mem_cons.mpr ⟨(gcX10_pictureTold__X10_pictureTold_r3 _ (List.mem_of_getElem? (i := 4) rfl)), List.forall_mem_cons.mpr ⟨(gcX10_pictureTold__X10_pictureTold_r3 _ (List.mem_of_getElem? (i := 5) rfl)), List.forall_mem_cons.mpr ⟨(gcX10_pictureTold__X10_pictureTold_r3 _ (List.mem_of_getElem? (i := 6) rfl)), List.forall_mem_cons.mpr ⟨(gcX10_pictureTold__X10_pictureTold_r3 _ (List.mem_of_getElem? (i := 7) rfl)), List.forall_mem_cons.mpr ⟨(gcX10_pictureTold__X10_pictureTold_r3 _ (List.mem_of_getElem? (i := 8) rfl)), List.forall_mem_cons.mpr ⟨(gcX10_pictureTold__X10_pictureTold_r3 _ (List.mem_of_getElem? (i := 9) rfl)), List.forall_mem_cons.mpr ⟨(gcX10_pictureTold__X10_pictureTold_r1 _ (List.mem_of_getElem? (i := 13) rfl)), List.forall_mem_cons.mpr ⟨(gcX10_pictureTold__X10_pictureTold_r1 _ (List.mem_of_getElem? (i := 14) rfl)), List.forall_mem_cons.mpr ⟨(gcX10_pictureTold__X10_pictureTold_r1 _ (List.mem_of_getElem? (i := 15) rfl)), List.forall_mem_cons.mpr ⟨(gcX10_pictureTold__X10_pictureTold_r1 _ (List.mem_of_getElem? (i := 16) rfl)), List.forall_mem_cons.mpr ⟨(gcX10_pictureTold__X10_pictureTold_r1 _ (List.mem_of_getElem? (i := 17) rfl)), List.forall_mem_cons.mpr ⟨(gcX10_pictureTold__X10_pictureTold_r3 _ (List.mem_of_getElem? (i := 10) rfl)), fun _ h => (List.not_mem_nil h).elim⟩⟩⟩⟩⟩⟩⟩⟩⟩⟩⟩⟩⟩⟩⟩⟩⟩⟩⟩⟩⟩⟩⟩⟩
set_option maxRecDepth 20000 in
theorem gmX10_pictureTold__X10_newName_r3 : ∀ w ∈ wsX10_newName_r3, w ∈ wsX10_pictureTold := List.forall_mem_cons.mpr ⟨(gcX10_pictureTold__X10_pictureTold_r3 _ (List.mem_of_getElem? (i := 11) rfl)), List.forall_mem_cons.mpr ⟨(gcX10_pictureTold__X10_pictureTold_r3 _ (List.mem_of_getElem? (i := 12) rfl)), List.forall_mem_cons.mpr ⟨(gcX10_pictureTold__X10_pictureTold_r3 _ (List.mem_of_getElem? (i := 13) rfl)), fun _ h => (List.not_mem_nil h).elim⟩⟩⟩
set_option maxRecDepth 20000 in
theorem gwX10_newName : wsX10_newName.all goodWord = true := by decide +kernel
set_option maxRecDepth 20000 in
theorem ggX10_pictureTold_X10_newName : GoodIn wsX10_pictureTold wsX10_newName := goodIn_sub (List.forall_mem_cons.mpr ⟨(gcX10_pictureTold__X10_pictureTold_r1 _ (List.mem_of_getElem? (i := 21) rfl)), List.forall_mem_append.mpr ⟨List.forall_mem_append.mpr ⟨gmX10_pictureTold__X10_newName_r1, List.forall_mem_append.mpr ⟨gmX10_pictureTold__X10_newName_r2, gmX10_pictureTold__X10_newName_r3⟩⟩, gcX10_pictureTold__X100⟩⟩) gwX10_newName
set_option maxRecDepth 20000 in
theorem gX10_pictureTold_X10_newName : GoodIn wsX10_pictureTold (wsV RX10 210 RX10 yX10_newName wsX10_newName) := goodIn_app (goodIn_sub (List.forall_mem_cons.mpr ⟨(gcX10_pictureTold__X10_pictureTold_r1 _ (List.mem_of_getElem? (i := 18) rfl)), List.forall_mem_cons.mpr ⟨(gcX10_pictureTold__X10_pictureTold_r1 _ (List.mem_of_getElem? (i := 19) rfl)), List.forall_mem_cons.mpr ⟨(gcX10_pictureTold__X10_pictureTold_r1 _ (List.mem_of_getElem? (i := 20) rfl)), List.forall_mem_cons.mpr ⟨(gcX10_pictureTold__X10_pictureTold_r1 _ (List.mem_of_getElem? (i := 10) rfl)), fun _ h => (List.not_mem_nil h).elim⟩⟩⟩⟩) (by decide +kernel)) ggX10_pictureTold_X10_newName
set_option maxRecDepth 20000 in
theorem gmX10_pictureTold__X10_asks_r1 : ∀ w ∈ wsX10_asks_r1, w ∈ wsX10_pictureTold := List.forall_mem_cons.mpr ⟨(gcX10_pictureTold__X10_pictureTold_r1 _ (List.mem_of_getElem? (i := 3) rfl)), List.forall_mem_cons.mpr ⟨(gcX10_pictureTold__X10_pictureTold_r2 _ (List.mem_of_getElem? (i := 4) rfl)), List.forall_mem_cons.mpr ⟨(gcX10_pictureTold__X10_pictureTold_r3 _ (List.mem_of_getElem? (i := 18) rfl)), List.forall_mem_cons.mpr ⟨(gcX10_pictureTold__X10_pictureTold_r3 _ (List.mem_of_getElem? (i := 19) rfl)), List.forall_mem_cons.mpr ⟨(gcX10_pictureTold__X10_pictureTold_r3 _ (List.mem_of_getElem? (i := 20) rfl)), List.forall_mem_cons.mpr ⟨(gcX10_pictureTold__X10_pictureTold_r1 _ (List.mem_of_getElem? (i := 10) rfl)), List.forall_mem_cons.mpr ⟨(gcX10_pictureTold__X10_pictureTold_r3 _ (List.mem_of_getElem? (i := 21) rfl)), List.forall_mem_cons.mpr ⟨(gcX10_pictureTold__X10_pictureTold_r2 _ (List.mem_of_getElem? (i := 5) rfl)), List.forall_mem_cons.mpr ⟨(gcX10_pictureTold__X10_pictureTold_r3 _ (List.mem_of_getElem? (i := 6) rfl)), List.forall_mem_cons.mpr ⟨(gcX10_pictureTold__X10_pictureTold_r3 _ (List.mem_of_getElem? (i := 7) rfl)), List.forall_mem_cons.mpr ⟨(gcX10_pictureTold__X10_pictureTold_r3 _ (List.mem_of_getElem? (i := 8) rfl)), List.forall_mem_cons.mpr ⟨(gcX10_pictureTold__X10_pictureTold_r3 _ (List.mem_of_getElem? (i := 9) rfl)), List.forall_mem_cons.mpr ⟨(gcX10_pictureTold__X10_pictureTold_r2 _ (List.mem_of_getElem? (i := 6) rfl)), List.forall_mem_cons.mpr ⟨(gcX10_pictureTold__X10_pictureTold_r2 _ (List.mem_of_getElem? (i := 7) rfl)), List.forall_mem_cons.mpr ⟨(gcX10_pictureTold__X10_pictureTold_r2 _ (List.mem_of_getElem? (i := 10) rfl)), List.forall_mem_cons.mpr ⟨(gcX10_pictureTold__X10_pictureTold_r2 _ (List.mem_of_getElem? (i := 11) rfl)), List.forall_mem_cons.mpr ⟨(gcX10_pictureTold__X10_pictureTold_r2 _ (List.mem_of_getElem? (i := 12) rfl)), List.forall_mem_cons.mpr ⟨(gcX10_pictureTold__X10_pictureTold_r2 _ (List.mem_of_getElem? (i := 13) rfl)), List.forall_mem_cons.mpr ⟨(gcX10_pictureTold__X10_pictureTold_r2 _ (List.mem_of_getElem? (i := 14) rfl)), List.forall_mem_cons.mpr ⟨(gcX10_pictureTold__X10_pictureTold_r2 _ (List.mem_of_getElem? (i := 15) rfl)), List.forall_mem_cons.mpr ⟨(gcX10_pictureTold__X10_pictureTold_r2 _ (List.mem_of_getElem? (i := 16) rfl)), List.forall_mem_cons.mpr ⟨(gcX10_pictureTold__X10_pictureTold_r1 _ (List.mem_of_getElem? (i := 13) rfl)), List.forall_mem_cons.mpr ⟨(gcX10_pictureTold__X10_pictureTold_r1 _ (List.mem_of_getElem? (i := 14) rfl)), List.forall_mem_cons.mpr ⟨(gcX10_pictureTold__X10_pictureTold_r1 _ (List.mem_of_getElem? (i := 15) rfl)), fun _ h => (List.not_mem_nil h).elim⟩⟩⟩⟩⟩⟩⟩⟩⟩⟩⟩⟩⟩⟩⟩⟩⟩⟩⟩⟩⟩⟩⟩⟩
set_option maxRecDepth 20000 in
theorem gmX10_pictureTold__X10_asks_r2 : ∀ w ∈ wsX10_asks_r2, w ∈ wsX10_pictureTold := List.forall_mem_cons.mpr ⟨(gcX10_pictureTold__X10_pictureTold_r1 _ (List.mem_of_getElem? (i := 16) rfl)), List.forall_mem_cons.mpr ⟨(gcX10_pictureTold__X10_pictureTold_r1 _ (List.mem_of_getElem? (i := 17) rfl)), fun _ h => (List.not_mem_nil h).elim⟩⟩
set_option maxRecDepth 20000 in
theorem gwX10_asks : wsX10_asks.all goodWord = true := by decide +kernel
set_option maxRecDepth 20000 in
theorem ggX10_pictureTold_X10_asks : GoodIn wsX10_pictureTold wsX10_asks := goodIn_sub (List.forall_mem_cons.mpr ⟨(gcX10_pictureTold__X10_pictureTold_r3 _ (List.mem_of_getElem? (i := 17) rfl)), List.forall_mem_append.mpr ⟨List.forall_mem_append.mpr ⟨gmX10_pictureTold__X10_asks_r1, gmX10_pictureTold__X10_asks_r2⟩, gcX10_pictureTold__X100⟩⟩) gwX10_asks
set_option maxRecDepth 20000 in
theorem gX10_pictureTold_X10_asks : GoodIn wsX10_pictureTold (wsV RX10 214 RX10 yX10_asks wsX10_asks) := goodIn_app (goodIn_sub (List.forall_mem_cons.mpr ⟨(gcX10_pictureTold__X10_pictureTold_r3 _ (List.mem_of_getElem? (i := 14) rfl)), List.forall_mem_cons.mpr ⟨(gcX10_pictureTold__X10_pictureTold_r3 _ (List.mem_of_getElem? (i := 15) rfl)), List.forall_mem_cons.mpr ⟨(gcX10_pictureTold__X10_pictureTold_r3 _ (List.mem_of_getElem? (i := 16) rfl)), List.forall_mem_cons.mpr ⟨(gcX10_pictureTold__X10_pictureTold_r1 _ (List.mem_of_getElem? (i := 10) rfl)), fun _ h => (List.not_mem_nil h).elim⟩⟩⟩⟩) (by decide +kernel)) ggX10_pictureTold_X10_asks
theorem gcX10_pictureTold__X10_pictureTold_r4 : ∀ w ∈ wsX10_pictureTold_r4, w ∈ wsX10_pictureTold := fun w h => List.mem_cons_of_mem _ (List.mem_append_left _ (List.mem_append_right _ (List.mem_append_right _ (List.mem_append_right _ (h)))))
set_option maxRecDepth 20000 in
theorem gmX10_pictureTold__X10_oneOf_r1 : ∀ w ∈ wsX10_oneOf_r1, w ∈ wsX10_pictureTold := List.forall_mem_cons.mpr ⟨(gcX10_pictureTold__X10_pictureTold_r1 _ (List.mem_of_getElem? (i := 3) rfl)), List.forall_mem_cons.mpr ⟨(gcX10_pictureTold__X10_pictureTold_r1 _ (List.mem_of_getElem? (i := 22) rfl)), List.forall_mem_cons.mpr ⟨(gcX10_pictureTold__X10_pictureTold_r2 _ (List.mem_of_getElem? (i := 0) rfl)), List.forall_mem_cons.mpr ⟨(gcX10_pictureTold__X10_pictureTold_r2 _ (List.mem_of_getElem? (i := 1) rfl)), List.forall_mem_cons.mpr ⟨(gcX10_pictureTold__X10_pictureTold_r2 _ (List.mem_of_getElem? (i := 2) rfl)), List.forall_mem_cons.mpr ⟨(gcX10_pictureTold__X10_pictureTold_r1 _ (List.mem_of_getElem? (i := 10) rfl)), List.forall_mem_cons.mpr ⟨(gcX10_pictureTold__X10_pictureTold_r2 _ (List.mem_of_getElem? (i := 3) rfl)), List.forall_mem_cons.mpr ⟨(gcX10_pictureTold__X10_pictureTold_r2 _ (List.mem_of_getElem? (i := 4) rfl)), List.forall_mem_cons.mpr ⟨(gcX10_pictureTold__X10_pictureTold_r2 _ (List.mem_of_getElem? (i := 5) rfl)), List.forall_mem_cons.mpr ⟨(gcX10_pictureTold__X10_pictureTold_r2 _ (List.mem_of_getElem? (i := 6) rfl)), List.forall_mem_cons.mpr ⟨(gcX10_pictureTold__X10_pictureTold_r2 _ (List.mem_of_getElem? (i := 7) rfl)), List.forall_mem_cons.mpr ⟨(gcX10_pictureTold__X10_pictureTold_r2 _ (List.mem_of_getElem? (i := 8) rfl)), List.forall_mem_cons.mpr ⟨(gcX10_pictureTold__X10_pictureTold_r2 _ (List.mem_of_getElem? (i := 9) rfl)), List.forall_mem_cons.mpr ⟨(gcX10_pictureTold__X10_pictureTold_r2 _ (List.mem_of_getElem? (i := 10) rfl)), List.forall_mem_cons.mpr ⟨(gcX10_pictureTold__X10_pictureTold_r2 _ (List.mem_of_getElem? (i := 11) rfl)), List.forall_mem_cons.mpr ⟨(gcX10_pictureTold__X10_pictureTold_r2 _ (List.mem_of_getElem? (i := 12) rfl)), List.forall_mem_cons.mpr ⟨(gcX10_pictureTold__X10_pictureTold_r2 _ (List.mem_of_getElem? (i := 13) rfl)), List.forall_mem_cons.mpr ⟨(gcX10_pictureTold__X10_pictureTold_r2 _ (List.mem_of_getElem? (i := 14) rfl)), List.forall_mem_cons.mpr ⟨(gcX10_pictureTold__X10_pictureTold_r2 _ (List.mem_of_getElem? (i := 15) rfl)), List.forall_mem_cons.mpr ⟨(gcX10_pictureTold__X10_pictureTold_r2 _ (List.mem_of_getElem? (i := 16) rfl)), List.forall_mem_cons.mpr ⟨(gcX10_pictureTold__X10_pictureTold_r2 _ (List.mem_of_getElem? (i := 17) rfl)), List.forall_mem_cons.mpr ⟨(gcX10_pictureTold__X10_pictureTold_r2 _ (List.mem_of_getElem? (i := 18) rfl)), List.forall_mem_cons.mpr ⟨(gcX10_pictureTold__X10_pictureTold_r2 _ (List.mem_of_getElem? (i := 19) rfl)), List.forall_mem_cons.mpr ⟨(gcX10_pictureTold__X10_pictureTold_r2 _ (List.mem_of_getElem? (i := 20) rfl)), fun _ h => (List.not_mem_nil h).elim⟩⟩⟩⟩⟩⟩⟩⟩⟩⟩⟩⟩⟩⟩⟩⟩⟩⟩⟩⟩⟩⟩⟩⟩
set_option maxRecDepth 20000 in
theorem gmX10_pictureTold__X10_oneOf_r2 : ∀ w ∈ wsX10_oneOf_r2, w ∈ wsX10_pictureTold := List.forall_mem_cons.mpr ⟨(gcX10_pictureTold__X10_pictureTold_r2 _ (List.mem_of_getElem? (i := 21) rfl)), List.forall_mem_cons.mpr ⟨(gcX10_pictureTold__X10_pictureTold_r2 _ (List.mem_of_getElem? (i := 22) rfl)), List.forall_mem_cons.mpr ⟨(gcX10_pictureTold__X10_pictureTold_r1 _ (List.mem_of_getElem? (i := 0) rfl)), List.forall_mem_cons.mpr ⟨(gcX10_pictureTold__X10_pictureTold_r1 _ (List.mem_of_getElem? (i := 1) rfl)), List.forall_mem_cons.mpr ⟨(gcX10_pictureTold__X10_pictureTold_r1 _ (List.mem_of_getElem? (i := 2) rfl)), List.forall_mem_cons.mpr ⟨(gcX10_pictureTold__X10_pictureTold_r2 _ (List.mem_of_getElem? (i := 23) rfl)), List.forall_mem_cons.mpr ⟨(gcX10_pictureTold__X10_pictureTold_r3 _ (List.mem_of_getElem? (i := 0) rfl)), List.forall_mem_cons.mpr ⟨(gcX10_pictureTold__X10_pictureTold_r3 _ (List.mem_of_getElem? (i := 1) rfl)), List.forall_mem_cons.mpr ⟨(gcX10_pictureTold__X10_pictureTold_r3 _ (List.mem_of_getElem? (i := 2) rfl)), List.forall_mem_cons.mpr ⟨(gcX10_pictureTold__X10_pictureTold_r3 _ (List.mem_of_getElem? (i := 3) rfl)), List.forall_mem_cons.mpr ⟨(gcX10_pictureTold__X10_pictureTold_r3 _ (List.mem_of_getElem? (i := 4) rfl)), List.forall_mem_cons.mpr ⟨(gcX10_pictureTold__X10_pictureTold_r3 _ (List.mem_of_getElem? (i := 5) rfl)), List.forall_mem_cons.mpr ⟨(gcX10_pictureTold__X10_pictureTold_r3 _ (List.mem_of_getElem? (i := 6) rfl)), List.forall_mem_cons.mpr ⟨(gcX10_pictureTold__X10_pictureTold_r3 _ (List.mem_of_getElem? (i := 7) rfl)), List.forall_mem_cons.mpr ⟨(gcX10_pictureTold__X10_pictureTold_r3 _ (List.mem_of_getElem? (i := 8) rfl)), List.forall_mem_cons.mpr ⟨(gcX10_pictureTold__X10_pictureTold_r3 _ (List.mem_of_getElem? (i := 9) rfl)), List.forall_mem_cons.mpr ⟨(gcX10_pictureTold__X10_pictureTold_r1 _ (List.mem_of_getElem? (i := 13) rfl)), List.forall_mem_cons.mpr ⟨(gcX10_pictureTold__X10_pictureTold_r1 _ (List.mem_of_getElem? (i := 14) rfl)), List.forall_mem_cons.mpr ⟨(gcX10_pictureTold__X10_pictureTold_r1 _ (List.mem_of_getElem? (i := 15) rfl)), List.forall_mem_cons.mpr ⟨(gcX10_pictureTold__X10_pictureTold_r1 _ (List.mem_of_getElem? (i := 16) rfl)), List.forall_mem_cons.mpr ⟨(gcX10_pictureTold__X10_pictureTold_r1 _ (List.mem_of_getElem? (i := 17) rfl)), List.forall_mem_cons.mpr ⟨(gcX10_pictureTold__X10_pictureTold_r3 _ (List.mem_of_getElem? (i := 10) rfl)), List.forall_mem_cons.mpr ⟨(gcX10_pictureTold__X10_pictureTold_r3 _ (List.mem_of_getElem? (i := 11) rfl)), List.forall_mem_cons.mpr ⟨(gcX10_pictureTold__X10_pictureTold_r3 _ (List.mem_of_getElem? (i := 12) rfl)), fun _ h => (List.not_mem_nil h).elim⟩⟩⟩⟩⟩⟩⟩⟩⟩⟩⟩⟩⟩⟩⟩⟩⟩⟩⟩⟩⟩⟩⟩⟩
set_option maxRecDepth 20000 in
theorem gmX10_pictureTold__X10_oneOf_r3 : ∀ w ∈ wsX10_oneOf_r3, w ∈ wsX10_pictureTold := List.forall_mem_cons.mpr ⟨(gcX10_pictureTold__X10_pictureTold_r3 _ (List.mem_of_getElem? (i := 13) rfl)), List.forall_mem_cons.mpr ⟨(gcX10_pictureTold__X10_pictureTold_r1 _ (List.mem_of_getElem? (i := 12) rfl)), List.forall_mem_cons.mpr ⟨(gcX10_pictureTold__X10_pictureTold_r1 _ (List.mem_of_getElem? (i := 23) rfl)), fun _ h => (List.not_mem_nil h).elim⟩⟩⟩
set_option maxRecDepth 20000 in
theorem gwX10_oneOf : wsX10_oneOf.all goodWord = true := by decide +kernel
set_option maxRecDepth 20000 in
theorem ggX10_pictureTold_X10_oneOf : GoodIn wsX10_pictureTold wsX10_oneOf := goodIn_sub (List.forall_mem_cons.mpr ⟨(gcX10_pictureTold__X10_pictureTold_r4 _ (List.mem_of_getElem? (i := 1) rfl)), List.forall_mem_append.mpr ⟨List.forall_mem_append.mpr ⟨gmX10_pictureTold__X10_oneOf_r1, List.forall_mem_append.mpr ⟨gmX10_pictureTold__X10_oneOf_r2, gmX10_pictureTold__X10_oneOf_r3⟩⟩, gcX10_pictureTold__X100⟩⟩) gwX10_oneOf
set_option maxRecDepth 20000 in
theorem gX10_pictureTold_X10_oneOf : GoodIn wsX10_pictureTold (wsV RX10 218 RX10 yX10_oneOf wsX10_oneOf) := goodIn_app (goodIn_sub (List.forall_mem_cons.mpr ⟨(gcX10_pictureTold__X10_pictureTold_r3 _ (List.mem_of_getElem? (i := 22) rfl)), List.forall_mem_cons.mpr ⟨(gcX10_pictureTold__X10_pictureTold_r3 _ (List.mem_of_getElem? (i := 23) rfl)), List.forall_mem_cons.mpr ⟨(gcX10_pictureTold__X10_pictureTold_r4 _ (List.mem_of_getElem? (i := 0) rfl)), List.forall_mem_cons.mpr ⟨(gcX10_pictureTold__X10_pictureTold_r1 _ (List.mem_of_getElem? (i := 10) rfl)), fun _ h => (List.not_mem_nil h).elim⟩⟩⟩⟩) (by decide +kernel)) ggX10_pictureTold_X10_oneOf
set_option maxRecDepth 20000 in
theorem ggX10_pictureTold_X10_takes : GoodIn wsX10_pictureTold wsX10_takes := goodIn_sub (List.forall_mem_cons.mpr ⟨(gcX10_pictureTold__X10_pictureTold_r3 _ (List.mem_of_getElem? (i := 21) rfl)), List.forall_mem_append.mpr ⟨List.forall_mem_cons.mpr ⟨(gcX10_pictureTold__X10_pictureTold_r2 _ (List.mem_of_getElem? (i := 4) rfl)), List.forall_mem_cons.mpr ⟨(gcX10_pictureTold__X10_pictureTold_r2 _ (List.mem_of_getElem? (i := 5) rfl)), List.forall_mem_cons.mpr ⟨(gcX10_pictureTold__X10_pictureTold_r3 _ (List.mem_of_getElem? (i := 6) rfl)), List.forall_mem_cons.mpr ⟨(gcX10_pictureTold__X10_pictureTold_r3 _ (List.mem_of_getElem? (i := 7) rfl)), List.forall_mem_cons.mpr ⟨(gcX10_pictureTold__X10_pictureTold_r3 _ (List.mem_of_getElem? (i := 8) rfl)), List.forall_mem_cons.mpr ⟨(gcX10_pictureTold__X10_pictureTold_r1 _ (List.mem_of_getElem? (i := 10) rfl)), List.forall_mem_cons.mpr ⟨(gcX10_pictureTold__X10_pictureTold_r3 _ (List.mem_of_getElem? (i := 9) rfl)), List.forall_mem_cons.mpr ⟨(gcX10_pictureTold__X10_pictureTold_r1 _ (List.mem_of_getElem? (i := 3) rfl)), List.forall_mem_cons.mpr ⟨(gcX10_pictureTold__X10_pictureTold_r2 _ (List.mem_of_getElem? (i := 6) rfl)), List.forall_mem_cons.mpr ⟨(gcX10_pictureTold__X10_pictureTold_r2 _ (List.mem_of_getElem? (i := 7) rfl)), List.forall_mem_cons.mpr ⟨(gcX10_pictureTold__X10_pictureTold_r2 _ (List.mem_of_getElem? (i := 10) rfl)), List.forall_mem_cons.mpr ⟨(gcX10_pictureTold__X10_pictureTold_r2 _ (List.mem_of_getElem? (i := 11) rfl)), List.forall_mem_cons.mpr ⟨(gcX10_pictureTold__X10_pictureTold_r2 _ (List.mem_of_getElem? (i := 12) rfl)), List.forall_mem_cons.mpr ⟨(gcX10_pictureTold__X10_pictureTold_r2 _ (List.mem_of_getElem? (i := 13) rfl)), List.forall_mem_cons.mpr ⟨(gcX10_pictureTold__X10_pictureTold_r2 _ (List.mem_of_getElem? (i := 14) rfl)), List.forall_mem_cons.mpr ⟨(gcX10_pictureTold__X10_pictureTold_r2 _ (List.mem_of_getElem? (i := 15) rfl)), List.forall_mem_cons.mpr ⟨(gcX10_pictureTold__X10_pictureTold_r2 _ (List.mem_of_getElem? (i := 16) rfl)), fun _ h => (List.not_mem_nil h).elim⟩⟩⟩⟩⟩⟩⟩⟩⟩⟩⟩⟩⟩⟩⟩⟩⟩, gcX10_pictureTold__X100⟩⟩) gwX10_takes
set_option maxRecDepth 20000 in
theorem gX10_pictureTold_X10_takes : GoodIn wsX10_pictureTold (wsV RX10 170 RX10 yX10_takes wsX10_takes) := goodIn_app (goodIn_sub (List.forall_mem_cons.mpr ⟨(gcX10_pictureTold__X10_pictureTold_r3 _ (List.mem_of_getElem? (i := 18) rfl)), List.forall_mem_cons.mpr ⟨(gcX10_pictureTold__X10_pictureTold_r3 _ (List.mem_of_getElem? (i := 19) rfl)), List.forall_mem_cons.mpr ⟨(gcX10_pictureTold__X10_pictureTold_r3 _ (List.mem_of_getElem? (i := 20) rfl)), List.forall_mem_cons.mpr ⟨(gcX10_pictureTold__X10_pictureTold_r1 _ (List.mem_of_getElem? (i := 10) rfl)), fun _ h => (List.not_mem_nil h).elim⟩⟩⟩⟩) (by decide +kernel)) ggX10_pictureTold_X10_takes
set_option maxRecDepth 20000 in
theorem gwX10_number : wsX10_number.all goodWord = true := by decide +kernel
set_option maxRecDepth 20000 in
theorem ggX10_pictureTold_X10_number : GoodIn wsX10_pictureTold wsX10_number := goodIn_sub (List.forall_mem_cons.mpr ⟨(gcX10_pictureTold__X10_pictureTold_r4 _ (List.mem_of_getElem? (i := 5) rfl)), List.forall_mem_append.mpr ⟨List.forall_mem_cons.mpr ⟨(gcX10_pictureTold__X10_pictureTold_r1 _ (List.mem_of_getElem? (i := 3) rfl)), List.forall_mem_cons.mpr ⟨(gcX10_pictureTold__X10_pictureTold_r2 _ (List.mem_of_getElem? (i := 4) rfl)), List.forall_mem_cons.mpr ⟨(gcX10_pictureTold__X10_pictureTold_r2 _ (List.mem_of_getElem? (i := 5) rfl)), List.forall_mem_cons.mpr ⟨(gcX10_pictureTold__X10_pictureTold_r2 _ (List.mem_of_getElem? (i := 6) rfl)), List.forall_mem_cons.mpr ⟨(gcX10_pictureTold__X10_pictureTold_r2 _ (List.mem_of_getElem? (i := 7) rfl)), List.forall_mem_cons.mpr ⟨(gcX10_pictureTold__X10_pictureTold_r2 _ (List.mem_of_getElem? (i := 10) rfl)), List.forall_mem_cons.mpr ⟨(gcX10_pictureTold__X10_pictureTold_r2 _ (List.mem_of_getElem? (i := 11) rfl)), List.forall_mem_cons.mpr ⟨(gcX10_pictureTold__X10_pictureTold_r2 _ (List.mem_of_getElem? (i := 12) rfl)), List.forall_mem_cons.mpr ⟨(gcX10_pictureTold__X10_pictureTold_r1 _ (List.mem_of_getElem? (i := 10) rfl)), List.forall_mem_cons.mpr ⟨(gcX10_pictureTold__X10_pictureTold_r2 _ (List.mem_of_getElem? (i := 13) rfl)), List.forall_mem_cons.mpr ⟨(gcX10_pictureTold__X10_pictureTold_r4 _ (List.mem_of_getElem? (i := 6) rfl)), List.forall_mem_cons.mpr ⟨(gcX10_pictureTold__X10_pictureTold_r4 _ (List.mem_of_getElem? (i := 7) rfl)), List.forall_mem_cons.mpr ⟨(gcX10_pictureTold__X10_pictureTold_r4 _ (List.mem_of_getElem? (i := 8) rfl)), List.forall_mem_cons.mpr ⟨(gcX10_pictureTold__X10_pictureTold_r1 _ (List.mem_of_getElem? (i := 13) rfl)), List.forall_mem_cons.mpr ⟨(gcX10_pictureTold__X10_pictureTold_r1 _ (List.mem_of_getElem? (i := 14) rfl)), List.forall_mem_cons.mpr ⟨(gcX10_pictureTold__X10_pictureTold_r1 _ (List.mem_of_getElem? (i := 15) rfl)), List.forall_mem_cons.mpr ⟨(gcX10_pictureTold__X10_pictureTold_r1 _ (List.mem_of_getElem? (i := 16) rfl)), List.forall_mem_cons.mpr ⟨(gcX10_pictureTold__X10_pictureTold_r1 _ (List.mem_of_getElem? (i := 17) rfl)), List.forall_mem_cons.mpr ⟨(gcX10_pictureTold__X10_pictureTold_r4 _ (List.mem_of_getElem? (i := 9) rfl)), List.forall_mem_cons.mpr ⟨(gcX10_pictureTold__X10_pictureTold_r4 _ (List.mem_of_getElem? (i := 10) rfl)), List.forall_mem_cons.mpr ⟨(gcX10_pictureTold__X10_pictureTold_r4 _ (List.mem_of_getElem? (i := 11) rfl)), fun _ h => (List.not_mem_nil h).elim⟩⟩⟩⟩⟩⟩⟩⟩⟩⟩⟩⟩⟩⟩⟩⟩⟩⟩⟩⟩⟩, gcX10_pictureTold__X100⟩⟩) gwX10_number
set_option maxRecDepth 20000 in
theorem gX10_pictureTold_X10_number : GoodIn wsX10_pictureTold (wsV RX10 221 RX10 yX10_number wsX10_number) := goodIn_app (goodIn_sub (List.forall_mem_cons.mpr ⟨(gcX10_pictureTold__X10_pictureTold_r4 _ (List.mem_of_getElem? (i := 2) rfl)), List.forall_mem_cons.mpr ⟨(gcX10_pictureTold__X10_pictureTold_r4 _ (List.mem_of_getElem? (i := 3) rfl)), List.forall_mem_cons.mpr ⟨(gcX10_pictureTold__X10_pictureTold_r4 _ (List.mem_of_getElem? (i := 4) rfl)), List.forall_mem_cons.mpr ⟨(gcX10_pictureTold__X10_pictureTold_r1 _ (List.mem_of_getElem? (i := 10) rfl)), fun _ h => (List.not_mem_nil h).elim⟩⟩⟩⟩) (by decide +kernel)) ggX10_pictureTold_X10_number
theorem dX10_pictureTold_0 : decode cX10_pictureTold 0 = .ok (.aload_n 0, 1) := by decide +kernel
theorem dX10_pictureTold_1 : decode cX10_pictureTold 1 = .ok (.iconst 1, 1) := by decide +kernel
theorem dX10_pictureTold_2 : decode cX10_pictureTold 2 = .ok (.bipush 12, 2) := by decide +kernel
theorem dX10_pictureTold_4 : decode cX10_pictureTold 4 = .ok (.iload_n 1, 1) := by decide +kernel
theorem dX10_pictureTold_5 : decode cX10_pictureTold 5 = .ok (.invokevirtual 206, 3) := by decide +kernel
theorem dX10_pictureTold_8 : decode cX10_pictureTold 8 = .ok (.ifCond .eq 4, 3) := by decide +kernel
theorem dX10_pictureTold_11 : decode cX10_pictureTold 11 = .ok (.return_, 1) := by decide +kernel
theorem dX10_pictureTold_12 : decode cX10_pictureTold 12 = .ok (.aload_n 0, 1) := by decide +kernel
theorem dX10_pictureTold_13 : decode cX10_pictureTold 13 = .ok (.iconst 1, 1) := by decide +kernel
theorem dX10_pictureTold_14 : decode cX10_pictureTold 14 = .ok (.invokevirtual 210, 3) := by decide +kernel
theorem dX10_pictureTold_17 : decode cX10_pictureTold 17 = .ok (.istore_n 2, 1) := by decide +kernel
theorem dX10_pictureTold_18 : decode cX10_pictureTold 18 = .ok (.aload_n 0, 1) := by decide +kernel
theorem dX10_pictureTold_19 : decode cX10_pictureTold 19 = .ok (.aload_n 0, 1) := by decide +kernel
theorem dX10_pictureTold_20 : decode cX10_pictureTold 20 = .ok (.getfield 24, 3) := by decide +kernel
theorem dX10_pictureTold_23 : decode cX10_pictureTold 23 = .ok (.invokevirtual 214, 3) := by decide +kernel
theorem dX10_pictureTold_26 : decode cX10_pictureTold 26 = .ok (.aload_n 0, 1) := by decide +kernel
theorem dX10_pictureTold_27 : decode cX10_pictureTold 27 = .ok (.iconst 0, 1) := by decide +kernel
theorem dX10_pictureTold_28 : decode cX10_pictureTold 28 = .ok (.invokevirtual 218, 3) := by decide +kernel
theorem dX10_pictureTold_31 : decode cX10_pictureTold 31 = .ok (.istore_n 3, 1) := by decide +kernel
theorem dX10_pictureTold_32 : decode cX10_pictureTold 32 = .ok (.aload_n 0, 1) := by decide +kernel
theorem dX10_pictureTold_33 : decode cX10_pictureTold 33 = .ok (.aload_n 0, 1) := by decide +kernel
theorem dX10_pictureTold_34 : decode cX10_pictureTold 34 = .ok (.getfield 27, 3) := by decide +kernel
theorem dX10_pictureTold_37 : decode cX10_pictureTold 37 = .ok (.invokevirtual 214, 3) := by decide +kernel
theorem dX10_pictureTold_40 : decode cX10_pictureTold 40 = .ok (.aload_n 0, 1) := by decide +kernel
theorem dX10_pictureTold_41 : decode cX10_pictureTold 41 = .ok (.aload_n 0, 1) := by decide +kernel
theorem dX10_pictureTold_42 : decode cX10_pictureTold 42 = .ok (.getfield 30, 3) := by decide +kernel
theorem dX10_pictureTold_45 : decode cX10_pictureTold 45 = .ok (.invokevirtual 170, 3) := by decide +kernel
theorem dX10_pictureTold_48 : decode cX10_pictureTold 48 = .ok (.ifCond .eq 7, 3) := by decide +kernel
theorem dX10_pictureTold_51 : decode cX10_pictureTold 51 = .ok (.iconst 4, 1) := by decide +kernel
theorem dX10_pictureTold_52 : decode cX10_pictureTold 52 = .ok (.goto 9, 3) := by decide +kernel
theorem dX10_pictureTold_55 : decode cX10_pictureTold 55 = .ok (.aload_n 0, 1) := by decide +kernel
theorem dX10_pictureTold_56 : decode cX10_pictureTold 56 = .ok (.iconst 0, 1) := by decide +kernel
theorem dX10_pictureTold_57 : decode cX10_pictureTold 57 = .ok (.iconst 3, 1) := by decide +kernel
theorem dX10_pictureTold_58 : decode cX10_pictureTold 58 = .ok (.invokevirtual 221, 3) := by decide +kernel
theorem dX10_pictureTold_61 : decode cX10_pictureTold 61 = .ok (.istore 4, 2) := by decide +kernel
theorem dX10_pictureTold_63 : decode cX10_pictureTold 63 = .ok (.aload_n 0, 1) := by decide +kernel
theorem dX10_pictureTold_64 : decode cX10_pictureTold 64 = .ok (.getfield 143, 3) := by decide +kernel
theorem dX10_pictureTold_67 : decode cX10_pictureTold 67 = .ok (.ifCond .eq 4, 3) := by decide +kernel
theorem dX10_pictureTold_70 : decode cX10_pictureTold 70 = .ok (.return_, 1) := by decide +kernel
theorem dX10_pictureTold_71 : decode cX10_pictureTold 71 = .ok (.aload_n 0, 1) := by decide +kernel
theorem dX10_pictureTold_72 : decode cX10_pictureTold 72 = .ok (.getfield 61, 3) := by decide +kernel
theorem dX10_pictureTold_75 : decode cX10_pictureTold 75 = .ok (.iload_n 2, 1) := by decide +kernel
theorem dX10_pictureTold_76 : decode cX10_pictureTold 76 = .ok (.iload_n 3, 1) := by decide +kernel
theorem dX10_pictureTold_77 : decode cX10_pictureTold 77 = .ok (.iastore, 1) := by decide +kernel
theorem dX10_pictureTold_78 : decode cX10_pictureTold 78 = .ok (.aload_n 0, 1) := by decide +kernel
theorem dX10_pictureTold_79 : decode cX10_pictureTold 79 = .ok (.getfield 64, 3) := by decide +kernel
theorem dX10_pictureTold_82 : decode cX10_pictureTold 82 = .ok (.iload_n 2, 1) := by decide +kernel
theorem dX10_pictureTold_83 : decode cX10_pictureTold 83 = .ok (.iload 4, 2) := by decide +kernel
theorem dX10_pictureTold_85 : decode cX10_pictureTold 85 = .ok (.iastore, 1) := by decide +kernel
theorem dX10_pictureTold_86 : decode cX10_pictureTold 86 = .ok (.aload_n 0, 1) := by decide +kernel
theorem dX10_pictureTold_87 : decode cX10_pictureTold 87 = .ok (.getfield 67, 3) := by decide +kernel
theorem dX10_pictureTold_90 : decode cX10_pictureTold 90 = .ok (.iload_n 2, 1) := by decide +kernel
theorem dX10_pictureTold_91 : decode cX10_pictureTold 91 = .ok (.iconst 0, 1) := by decide +kernel
theorem dX10_pictureTold_92 : decode cX10_pictureTold 92 = .ok (.iastore, 1) := by decide +kernel
theorem dX10_pictureTold_93 : decode cX10_pictureTold 93 = .ok (.return_, 1) := by decide +kernel
theorem gcX10_rowTold__X10_rowTold_r1 : ∀ w ∈ wsX10_rowTold_r1, w ∈ wsX10_rowTold := fun w h => List.mem_cons_of_mem _ (List.mem_append_left _ (List.mem_append_left _ (h)))
theorem gcX10_rowTold__X100 : ∀ w ∈ wsX100, w ∈ wsX10_rowTold := fun w h => List.mem_cons_of_mem _ (List.mem_append_right _ (h))
set_option maxRecDepth 20000 in
theorem ggX10_rowTold_X10_isFull : GoodIn wsX10_rowTold wsX10_isFull := goodIn_sub (List.forall_mem_cons.mpr ⟨(gcX10_rowTold__X10_rowTold_r1 _ (List.mem_of_getElem? (i := 13) rfl)), List.forall_mem_append.mpr ⟨List.forall_mem_cons.mpr ⟨(gcX10_rowTold__X10_rowTold_r1 _ (List.mem_of_getElem? (i := 3) rfl)), List.forall_mem_cons.mpr ⟨(gcX10_rowTold__X10_rowTold_r1 _ (List.mem_of_getElem? (i := 0) rfl)), List.forall_mem_cons.mpr ⟨(gcX10_rowTold__X10_rowTold_r1 _ (List.mem_of_getElem? (i := 14) rfl)), List.forall_mem_cons.mpr ⟨(gcX10_rowTold__X10_rowTold_r1 _ (List.mem_of_getElem? (i := 15) rfl)), List.forall_mem_cons.mpr ⟨(gcX10_rowTold__X10_rowTold_r1 _ (List.mem_of_getElem? (i := 16) rfl)), List.forall_mem_cons.mpr ⟨(gcX10_rowTold__X10_rowTold_r1 _ (List.mem_of_getElem? (i := 12) rfl)), List.forall_mem_cons.mpr ⟨(gcX10_rowTold__X10_rowTold_r1 _ (List.mem_of_getElem? (i := 17) rfl)), List.forall_mem_cons.mpr ⟨(gcX10_rowTold__X10_rowTold_r1 _ (List.mem_of_getElem? (i := 18) rfl)), fun _ h => (List.not_mem_nil h).elim⟩⟩⟩⟩⟩⟩⟩⟩, gcX10_rowTold__X100⟩⟩) gwX10_isFull
set_option maxRecDepth 20000 in
theorem gX10_rowTold_X10_isFull : GoodIn wsX10_rowTold (wsV RX10 206 RX10 yX10_isFull wsX10_isFull) := goodIn_app (goodIn_sub (List.forall_mem_cons.mpr ⟨(gcX10_rowTold__X10_rowTold_r1 _ (List.mem_of_getElem? (i := 9) rfl)), List.forall_mem_cons.mpr ⟨(gcX10_rowTold__X10_rowTold_r1 _ (List.mem_of_getElem? (i := 10) rfl)), List.forall_mem_cons.mpr ⟨(gcX10_rowTold__X10_rowTold_r1 _ (List.mem_of_getElem? (i := 11) rfl)), List.forall_mem_cons.mpr ⟨(gcX10_rowTold__X10_rowTold_r1 _ (List.mem_of_getElem? (i := 12) rfl)), fun _ h => (List.not_mem_nil h).elim⟩⟩⟩⟩) (by decide +kernel)) ggX10_rowTold_X10_isFull
theorem gcX10_rowTold__X10_rowTold_r2 : ∀ w ∈ wsX10_rowTold_r2, w ∈ wsX10_rowTold := fun w h => List.mem_cons_of_mem _ (List.mem_append_left _ (List.mem_append_right _ (List.mem_append_left _ (h))))
set_option maxRecDepth 20000 in
theorem gmX10_rowTold__X10_oneOf_r1 : ∀ w ∈ wsX10_oneOf_r1, w ∈ wsX10_rowTold := List.forall_mem_cons.mpr ⟨(gcX10_rowTold__X10_rowTold_r1 _ (List.mem_of_getElem? (i := 3) rfl)), List.forall_mem_cons.mpr ⟨(gcX10_rowTold__X10_rowTold_r1 _ (List.mem_of_getElem? (i := 4) rfl)), List.forall_mem_cons.mpr ⟨(gcX10_rowTold__X10_rowTold_r1 _ (List.mem_of_getElem? (i := 23) rfl)), List.forall_mem_cons.mpr ⟨(gcX10_rowTold__X10_rowTold_r2 _ (List.mem_of_getElem? (i := 0) rfl)), List.forall_mem_cons.mpr ⟨(gcX10_rowTold__X10_rowTold_r2 _ (List.mem_of_getElem? (i := 1) rfl)), List.forall_mem_cons.mpr ⟨(gcX10_rowTold__X10_rowTold_r1 _ (List.mem_of_getElem? (i := 12) rfl)), List.forall_mem_cons.mpr ⟨(gcX10_rowTold__X10_rowTold_r2 _ (List.mem_of_getElem? (i := 2) rfl)), List.forall_mem_cons.mpr ⟨(gcX10_rowTold__X10_rowTold_r2 _ (List.mem_of_getElem? (i := 3) rfl)), List.forall_mem_cons.mpr ⟨(gcX10_rowTold__X10_rowTold_r2 _ (List.mem_of_getElem? (i := 4) rfl)), List.forall_mem_cons.mpr ⟨(gcX10_rowTold__X10_rowTold_r2 _ (List.mem_of_getElem? (i := 5) rfl)), List.forall_mem_cons.mpr ⟨(gcX10_rowTold__X10_rowTold_r2 _ (List.mem_of_getElem? (i := 6) rfl)), List.forall_mem_cons.mpr ⟨(gcX10_rowTold__X10_rowTold_r2 _ (List.mem_of_getElem? (i := 7) rfl)), List.forall_mem_cons.mpr ⟨(gcX10_rowTold__X10_rowTold_r2 _ (List.mem_of_getElem? (i := 8) rfl)), List.forall_mem_cons.mpr ⟨(gcX10_rowTold__X10_rowTold_r2 _ (List.mem_of_getElem? (i := 9) rfl)), List.forall_mem_cons.mpr ⟨(gcX10_rowTold__X10_rowTold_r2 _ (List.mem_of_getElem? (i := 10) rfl)), List.forall_mem_cons.mpr ⟨(gcX10_rowTold__X10_rowTold_r2 _ (List.mem_of_getElem? (i := 11) rfl)), List.forall_mem_cons.mpr ⟨(gcX10_rowTold__X10_rowTold_r2 _ (List.mem_of_getElem? (i := 12) rfl)), List.forall_mem_cons.mpr ⟨(gcX10_rowTold__X10_rowTold_r2 _ (List.mem_of_getElem? (i := 13) rfl)), List.forall_mem_cons.mpr ⟨(gcX10_rowTold__X10_rowTold_r2 _ (List.mem_of_getElem? (i := 14) rfl)), List.forall_mem_cons.mpr ⟨(gcX10_rowTold__X10_rowTold_r2 _ (List.mem_of_getElem? (i := 15) rfl)), List.forall_mem_cons.mpr ⟨(gcX10_rowTold__X10_rowTold_r2 _ (List.mem_of_getElem? (i := 16) rfl)), List.forall_mem_cons.mpr ⟨(gcX10_rowTold__X10_rowTold_r2 _ (List.mem_of_getElem? (i := 17) rfl)), List.forall_mem_cons.mpr ⟨(gcX10_rowTold__X10_rowTold_r2 _ (List.mem_of_getElem? (i := 18) rfl)), List.forall_mem_cons.mpr ⟨(gcX10_rowTold__X10_rowTold_r2 _ (List.mem_of_getElem? (i := 19) rfl)), fun _ h => (List.not_mem_nil h).elim⟩⟩⟩⟩⟩⟩⟩⟩⟩⟩⟩⟩⟩⟩⟩⟩⟩⟩⟩⟩⟩⟩⟩⟩
theorem gcX10_rowTold__X10_rowTold_r3 : ∀ w ∈ wsX10_rowTold_r3, w ∈ wsX10_rowTold := fun w h => List.mem_cons_of_mem _ (List.mem_append_left _ (List.mem_append_right _ (List.mem_append_right _ (List.mem_append_left _ (h)))))
set_option maxRecDepth 20000 in
theorem gmX10_rowTold__X10_oneOf_r2 : ∀ w ∈ wsX10_oneOf_r2, w ∈ wsX10_rowTold := List.forall_mem_cons.mpr ⟨(gcX10_rowTold__X10_rowTold_r2 _ (List.mem_of_getElem? (i := 20) rfl)), List.forall_mem_cons.mpr ⟨(gcX10_rowTold__X10_rowTold_r2 _ (List.mem_of_getElem? (i := 21) rfl)), List.forall_mem_cons.mpr ⟨(gcX10_rowTold__X10_rowTold_r2 _ (List.mem_of_getElem? (i := 22) rfl)), List.forall_mem_cons.mpr ⟨(gcX10_rowTold__X10_rowTold_r2 _ (List.mem_of_getElem? (i := 23) rfl)), List.forall_mem_cons.mpr ⟨(gcX10_rowTold__X10_rowTold_r3 _ (List.mem_of_getElem? (i := 0) rfl)), List.forall_mem_cons.mpr ⟨(gcX10_rowTold__X10_rowTold_r3 _ (List.mem_of_getElem? (i := 1) rfl)), List.forall_mem_cons.mpr ⟨(gcX10_rowTold__X10_rowTold_r3 _ (List.mem_of_getElem? (i := 2) rfl)), List.forall_mem_cons.mpr ⟨(gcX10_rowTold__X10_rowTold_r1 _ (List.mem_of_getElem? (i := 5) rfl)), List.forall_mem_cons.mpr ⟨(gcX10_rowTold__X10_rowTold_r1 _ (List.mem_of_getElem? (i := 7) rfl)), List.forall_mem_cons.mpr ⟨(gcX10_rowTold__X10_rowTold_r3 _ (List.mem_of_getElem? (i := 3) rfl)), List.forall_mem_cons.mpr ⟨(gcX10_rowTold__X10_rowTold_r3 _ (List.mem_of_getElem? (i := 4) rfl)), List.forall_mem_cons.mpr ⟨(gcX10_rowTold__X10_rowTold_r3 _ (List.mem_of_getElem? (i := 5) rfl)), List.forall_mem_cons.mpr ⟨(gcX10_rowTold__X10_rowTold_r3 _ (List.mem_of_getElem? (i := 6) rfl)), List.forall_mem_cons.mpr ⟨(gcX10_rowTold__X10_rowTold_r3 _ (List.mem_of_getElem? (i := 7) rfl)), List.forall_mem_cons.mpr ⟨(gcX10_rowTold__X10_rowTold_r3 _ (List.mem_of_getElem? (i := 8) rfl)), List.forall_mem_cons.mpr ⟨(gcX10_rowTold__X10_rowTold_r3 _ (List.mem_of_getElem? (i := 9) rfl)), List.forall_mem_cons.mpr ⟨(gcX10_rowTold__X10_rowTold_r1 _ (List.mem_of_getElem? (i := 14) rfl)), List.forall_mem_cons.mpr ⟨(gcX10_rowTold__X10_rowTold_r1 _ (List.mem_of_getElem? (i := 15) rfl)), List.forall_mem_cons.mpr ⟨(gcX10_rowTold__X10_rowTold_r1 _ (List.mem_of_getElem? (i := 16) rfl)), List.forall_mem_cons.mpr ⟨(gcX10_rowTold__X10_rowTold_r1 _ (List.mem_of_getElem? (i := 17) rfl)), List.forall_mem_cons.mpr ⟨(gcX10_rowTold__X10_rowTold_r1 _ (List.mem_of_getElem? (i := 18) rfl)), List.forall_mem_cons.mpr ⟨(gcX10_rowTold__X10_rowTold_r3 _ (List.mem_of_getElem? (i := 10) rfl)), List.forall_mem_cons.mpr ⟨(gcX10_rowTold__X10_rowTold_r3 _ (List.mem_of_getElem? (i := 11) rfl)), List.forall_mem_cons.mpr ⟨(gcX10_rowTold__X10_rowTold_r3 _ (List.mem_of_getElem? (i := 12) rfl)), fun _ h => (List.not_mem_nil h).elim⟩⟩⟩⟩⟩⟩⟩⟩⟩⟩⟩⟩⟩⟩⟩⟩⟩⟩⟩⟩⟩⟩⟩⟩
set_option maxRecDepth 20000 in
theorem gmX10_rowTold__X10_oneOf_r3 : ∀ w ∈ wsX10_oneOf_r3, w ∈ wsX10_rowTold := List.forall_mem_cons.mpr ⟨(gcX10_rowTold__X10_rowTold_r3 _ (List.mem_of_getElem? (i := 13) rfl)), List.forall_mem_cons.mpr ⟨(gcX10_rowTold__X10_rowTold_r1 _ (List.mem_of_getElem? (i := 0) rfl)), List.forall_mem_cons.mpr ⟨(gcX10_rowTold__X10_rowTold_r3 _ (List.mem_of_getElem? (i := 14) rfl)), fun _ h => (List.not_mem_nil h).elim⟩⟩⟩
set_option maxRecDepth 20000 in
theorem ggX10_rowTold_X10_oneOf : GoodIn wsX10_rowTold wsX10_oneOf := goodIn_sub (List.forall_mem_cons.mpr ⟨(gcX10_rowTold__X10_rowTold_r1 _ (List.mem_of_getElem? (i := 22) rfl)), List.forall_mem_append.mpr ⟨List.forall_mem_append.mpr ⟨gmX10_rowTold__X10_oneOf_r1, List.forall_mem_append.mpr ⟨gmX10_rowTold__X10_oneOf_r2, gmX10_rowTold__X10_oneOf_r3⟩⟩, gcX10_rowTold__X100⟩⟩) gwX10_oneOf
set_option maxRecDepth 20000 in
theorem gX10_rowTold_X10_oneOf : GoodIn wsX10_rowTold (wsV RX10 218 RX10 yX10_oneOf wsX10_oneOf) := goodIn_app (goodIn_sub (List.forall_mem_cons.mpr ⟨(gcX10_rowTold__X10_rowTold_r1 _ (List.mem_of_getElem? (i := 19) rfl)), List.forall_mem_cons.mpr ⟨(gcX10_rowTold__X10_rowTold_r1 _ (List.mem_of_getElem? (i := 20) rfl)), List.forall_mem_cons.mpr ⟨(gcX10_rowTold__X10_rowTold_r1 _ (List.mem_of_getElem? (i := 21) rfl)), List.forall_mem_cons.mpr ⟨(gcX10_rowTold__X10_rowTold_r1 _ (List.mem_of_getElem? (i := 12) rfl)), fun _ h => (List.not_mem_nil h).elim⟩⟩⟩⟩) (by decide +kernel)) ggX10_rowTold_X10_oneOf
set_option maxRecDepth 20000 in
theorem ggX10_rowTold_X10_fail : GoodIn wsX10_rowTold wsX10_fail := goodIn_sub (List.forall_mem_cons.mpr ⟨(gcX10_rowTold__X10_rowTold_r1 _ (List.mem_of_getElem? (i := 17) rfl)), List.forall_mem_append.mpr ⟨List.forall_mem_cons.mpr ⟨(gcX10_rowTold__X10_rowTold_r1 _ (List.mem_of_getElem? (i := 3) rfl)), List.forall_mem_cons.mpr ⟨(gcX10_rowTold__X10_rowTold_r1 _ (List.mem_of_getElem? (i := 18) rfl)), fun _ h => (List.not_mem_nil h).elim⟩⟩, gcX10_rowTold__X100⟩⟩) gwX10_fail
set_option maxRecDepth 20000 in
theorem gX10_rowTold_X10_fail : GoodIn wsX10_rowTold (wsV RX10 173 RX10 yX10_fail wsX10_fail) := goodIn_app (goodIn_sub (List.forall_mem_cons.mpr ⟨(gcX10_rowTold__X10_rowTold_r1 _ (List.mem_of_getElem? (i := 14) rfl)), List.forall_mem_cons.mpr ⟨(gcX10_rowTold__X10_rowTold_r1 _ (List.mem_of_getElem? (i := 15) rfl)), List.forall_mem_cons.mpr ⟨(gcX10_rowTold__X10_rowTold_r1 _ (List.mem_of_getElem? (i := 16) rfl)), List.forall_mem_cons.mpr ⟨(gcX10_rowTold__X10_rowTold_r1 _ (List.mem_of_getElem? (i := 12) rfl)), fun _ h => (List.not_mem_nil h).elim⟩⟩⟩⟩) (by decide +kernel)) ggX10_rowTold_X10_fail
set_option maxRecDepth 20000 in
theorem gmX10_rowTold__X10_asks_r1 : ∀ w ∈ wsX10_asks_r1, w ∈ wsX10_rowTold := List.forall_mem_cons.mpr ⟨(gcX10_rowTold__X10_rowTold_r1 _ (List.mem_of_getElem? (i := 3) rfl)), List.forall_mem_cons.mpr ⟨(gcX10_rowTold__X10_rowTold_r2 _ (List.mem_of_getElem? (i := 3) rfl)), List.forall_mem_cons.mpr ⟨(gcX10_rowTold__X10_rowTold_r3 _ (List.mem_of_getElem? (i := 19) rfl)), List.forall_mem_cons.mpr ⟨(gcX10_rowTold__X10_rowTold_r3 _ (List.mem_of_getElem? (i := 20) rfl)), List.forall_mem_cons.mpr ⟨(gcX10_rowTold__X10_rowTold_r3 _ (List.mem_of_getElem? (i := 21) rfl)), List.forall_mem_cons.mpr ⟨(gcX10_rowTold__X10_rowTold_r1 _ (List.mem_of_getElem? (i := 12) rfl)), List.forall_mem_cons.mpr ⟨(gcX10_rowTold__X10_rowTold_r3 _ (List.mem_of_getElem? (i := 22) rfl)), List.forall_mem_cons.mpr ⟨(gcX10_rowTold__X10_rowTold_r2 _ (List.mem_of_getElem? (i := 4) rfl)), List.forall_mem_cons.mpr ⟨(gcX10_rowTold__X10_rowTold_r3 _ (List.mem_of_getElem? (i := 6) rfl)), List.forall_mem_cons.mpr ⟨(gcX10_rowTold__X10_rowTold_r3 _ (List.mem_of_getElem? (i := 7) rfl)), List.forall_mem_cons.mpr ⟨(gcX10_rowTold__X10_rowTold_r3 _ (List.mem_of_getElem? (i := 8) rfl)), List.forall_mem_cons.mpr ⟨(gcX10_rowTold__X10_rowTold_r3 _ (List.mem_of_getElem? (i := 9) rfl)), List.forall_mem_cons.mpr ⟨(gcX10_rowTold__X10_rowTold_r2 _ (List.mem_of_getElem? (i := 5) rfl)), List.forall_mem_cons.mpr ⟨(gcX10_rowTold__X10_rowTold_r2 _ (List.mem_of_getElem? (i := 6) rfl)), List.forall_mem_cons.mpr ⟨(gcX10_rowTold__X10_rowTold_r2 _ (List.mem_of_getElem? (i := 9) rfl)), List.forall_mem_cons.mpr ⟨(gcX10_rowTold__X10_rowTold_r2 _ (List.mem_of_getElem? (i := 10) rfl)), List.forall_mem_cons.mpr ⟨(gcX10_rowTold__X10_rowTold_r2 _ (List.mem_of_getElem? (i := 11) rfl)), List.forall_mem_cons.mpr ⟨(gcX10_rowTold__X10_rowTold_r2 _ (List.mem_of_getElem? (i := 12) rfl)), List.forall_mem_cons.mpr ⟨(gcX10_rowTold__X10_rowTold_r2 _ (List.mem_of_getElem? (i := 13) rfl)), List.forall_mem_cons.mpr ⟨(gcX10_rowTold__X10_rowTold_r2 _ (List.mem_of_getElem? (i := 14) rfl)), List.forall_mem_cons.mpr ⟨(gcX10_rowTold__X10_rowTold_r2 _ (List.mem_of_getElem? (i := 15) rfl)), List.forall_mem_cons.mpr ⟨(gcX10_rowTold__X10_rowTold_r1 _ (List.mem_of_getElem? (i := 14) rfl)), List.forall_mem_cons.mpr ⟨(gcX10_rowTold__X10_rowTold_r1 _ (List.mem_of_getElem? (i := 15) rfl)), List.forall_mem_cons.mpr ⟨(gcX10_rowTold__X10_rowTold_r1 _ (List.mem_of_getElem? (i := 16) rfl)), fun _ h => (List.not_mem_nil h).elim⟩⟩⟩⟩⟩⟩⟩⟩⟩⟩⟩⟩⟩⟩⟩⟩⟩⟩⟩⟩⟩⟩⟩⟩
set_option maxRecDepth 20000 in
theorem gmX10_rowTold__X10_asks_r2 : ∀ w ∈ wsX10_asks_r2, w ∈ wsX10_rowTold := List.forall_mem_cons.mpr ⟨(gcX10_rowTold__X10_rowTold_r1 _ (List.mem_of_getElem? (i := 17) rfl)), List.forall_mem_cons.mpr ⟨(gcX10_rowTold__X10_rowTold_r1 _ (List.mem_of_getElem? (i := 18) rfl)), fun _ h => (List.not_mem_nil h).elim⟩⟩
set_option maxRecDepth 20000 in
theorem ggX10_rowTold_X10_asks : GoodIn wsX10_rowTold wsX10_asks := goodIn_sub (List.forall_mem_cons.mpr ⟨(gcX10_rowTold__X10_rowTold_r3 _ (List.mem_of_getElem? (i := 18) rfl)), List.forall_mem_append.mpr ⟨List.forall_mem_append.mpr ⟨gmX10_rowTold__X10_asks_r1, gmX10_rowTold__X10_asks_r2⟩, gcX10_rowTold__X100⟩⟩) gwX10_asks
set_option maxRecDepth 20000 in
theorem gX10_rowTold_X10_asks : GoodIn wsX10_rowTold (wsV RX10 214 RX10 yX10_asks wsX10_asks) := goodIn_app (goodIn_sub (List.forall_mem_cons.mpr ⟨(gcX10_rowTold__X10_rowTold_r3 _ (List.mem_of_getElem? (i := 15) rfl)), List.forall_mem_cons.mpr ⟨(gcX10_rowTold__X10_rowTold_r3 _ (List.mem_of_getElem? (i := 16) rfl)), List.forall_mem_cons.mpr ⟨(gcX10_rowTold__X10_rowTold_r3 _ (List.mem_of_getElem? (i := 17) rfl)), List.forall_mem_cons.mpr ⟨(gcX10_rowTold__X10_rowTold_r1 _ (List.mem_of_getElem? (i := 12) rfl)), fun _ h => (List.not_mem_nil h).elim⟩⟩⟩⟩) (by decide +kernel)) ggX10_rowTold_X10_asks
theorem gcX10_rowTold__X10_rowTold_r4 : ∀ w ∈ wsX10_rowTold_r4, w ∈ wsX10_rowTold := fun w h => List.mem_cons_of_mem _ (List.mem_append_left _ (List.mem_append_right _ (List.mem_append_right _ (List.mem_append_right _ (h)))))
set_option maxRecDepth 20000 in
theorem ggX10_rowTold_X10_number : GoodIn wsX10_rowTold wsX10_number := goodIn_sub (List.forall_mem_cons.mpr ⟨(gcX10_rowTold__X10_rowTold_r4 _ (List.mem_of_getElem? (i := 2) rfl)), List.forall_mem_append.mpr ⟨List.forall_mem_cons.mpr ⟨(gcX10_rowTold__X10_rowTold_r1 _ (List.mem_of_getElem? (i := 3) rfl)), List.forall_mem_cons.mpr ⟨(gcX10_rowTold__X10_rowTold_r2 _ (List.mem_of_getElem? (i := 3) rfl)), List.forall_mem_cons.mpr ⟨(gcX10_rowTold__X10_rowTold_r2 _ (List.mem_of_getElem? (i := 4) rfl)), List.forall_mem_cons.mpr ⟨(gcX10_rowTold__X10_rowTold_r2 _ (List.mem_of_getElem? (i := 5) rfl)), List.forall_mem_cons.mpr ⟨(gcX10_rowTold__X10_rowTold_r2 _ (List.mem_of_getElem? (i := 6) rfl)), List.forall_mem_cons.mpr ⟨(gcX10_rowTold__X10_rowTold_r2 _ (List.mem_of_getElem? (i := 9) rfl)), List.forall_mem_cons.mpr ⟨(gcX10_rowTold__X10_rowTold_r2 _ (List.mem_of_getElem? (i := 10) rfl)), List.forall_mem_cons.mpr ⟨(gcX10_rowTold__X10_rowTold_r2 _ (List.mem_of_getElem? (i := 11) rfl)), List.forall_mem_cons.mpr ⟨(gcX10_rowTold__X10_rowTold_r1 _ (List.mem_of_getElem? (i := 12) rfl)), List.forall_mem_cons.mpr ⟨(gcX10_rowTold__X10_rowTold_r2 _ (List.mem_of_getElem? (i := 12) rfl)), List.forall_mem_cons.mpr ⟨(gcX10_rowTold__X10_rowTold_r4 _ (List.mem_of_getElem? (i := 3) rfl)), List.forall_mem_cons.mpr ⟨(gcX10_rowTold__X10_rowTold_r4 _ (List.mem_of_getElem? (i := 4) rfl)), List.forall_mem_cons.mpr ⟨(gcX10_rowTold__X10_rowTold_r4 _ (List.mem_of_getElem? (i := 5) rfl)), List.forall_mem_cons.mpr ⟨(gcX10_rowTold__X10_rowTold_r1 _ (List.mem_of_getElem? (i := 14) rfl)), List.forall_mem_cons.mpr ⟨(gcX10_rowTold__X10_rowTold_r1 _ (List.mem_of_getElem? (i := 15) rfl)), List.forall_mem_cons.mpr ⟨(gcX10_rowTold__X10_rowTold_r1 _ (List.mem_of_getElem? (i := 16) rfl)), List.forall_mem_cons.mpr ⟨(gcX10_rowTold__X10_rowTold_r1 _ (List.mem_of_getElem? (i := 17) rfl)), List.forall_mem_cons.mpr ⟨(gcX10_rowTold__X10_rowTold_r1 _ (List.mem_of_getElem? (i := 18) rfl)), List.forall_mem_cons.mpr ⟨(gcX10_rowTold__X10_rowTold_r4 _ (List.mem_of_getElem? (i := 6) rfl)), List.forall_mem_cons.mpr ⟨(gcX10_rowTold__X10_rowTold_r4 _ (List.mem_of_getElem? (i := 7) rfl)), List.forall_mem_cons.mpr ⟨(gcX10_rowTold__X10_rowTold_r4 _ (List.mem_of_getElem? (i := 8) rfl)), fun _ h => (List.not_mem_nil h).elim⟩⟩⟩⟩⟩⟩⟩⟩⟩⟩⟩⟩⟩⟩⟩⟩⟩⟩⟩⟩⟩, gcX10_rowTold__X100⟩⟩) gwX10_number
set_option maxRecDepth 20000 in
theorem gX10_rowTold_X10_number : GoodIn wsX10_rowTold (wsV RX10 221 RX10 yX10_number wsX10_number) := goodIn_app (goodIn_sub (List.forall_mem_cons.mpr ⟨(gcX10_rowTold__X10_rowTold_r3 _ (List.mem_of_getElem? (i := 23) rfl)), List.forall_mem_cons.mpr ⟨(gcX10_rowTold__X10_rowTold_r4 _ (List.mem_of_getElem? (i := 0) rfl)), List.forall_mem_cons.mpr ⟨(gcX10_rowTold__X10_rowTold_r4 _ (List.mem_of_getElem? (i := 1) rfl)), List.forall_mem_cons.mpr ⟨(gcX10_rowTold__X10_rowTold_r1 _ (List.mem_of_getElem? (i := 12) rfl)), fun _ h => (List.not_mem_nil h).elim⟩⟩⟩⟩) (by decide +kernel)) ggX10_rowTold_X10_number
theorem dX10_rowTold_0 : decode cX10_rowTold 0 = .ok (.aload_n 0, 1) := by decide +kernel
theorem dX10_rowTold_1 : decode cX10_rowTold 1 = .ok (.iconst 3, 1) := by decide +kernel
theorem dX10_rowTold_2 : decode cX10_rowTold 2 = .ok (.bipush 60, 2) := by decide +kernel
theorem dX10_rowTold_4 : decode cX10_rowTold 4 = .ok (.iload_n 1, 1) := by decide +kernel
theorem dX10_rowTold_5 : decode cX10_rowTold 5 = .ok (.invokevirtual 206, 3) := by decide +kernel
theorem dX10_rowTold_8 : decode cX10_rowTold 8 = .ok (.ifCond .eq 4, 3) := by decide +kernel
theorem dX10_rowTold_11 : decode cX10_rowTold 11 = .ok (.return_, 1) := by decide +kernel
theorem dX10_rowTold_12 : decode cX10_rowTold 12 = .ok (.aload_n 0, 1) := by decide +kernel
theorem dX10_rowTold_13 : decode cX10_rowTold 13 = .ok (.getfield 58, 3) := by decide +kernel
theorem dX10_rowTold_16 : decode cX10_rowTold 16 = .ok (.iconst 3, 1) := by decide +kernel
theorem dX10_rowTold_17 : decode cX10_rowTold 17 = .ok (.iaload, 1) := by decide +kernel
theorem dX10_rowTold_18 : decode cX10_rowTold 18 = .ok (.istore_n 2, 1) := by decide +kernel
theorem dX10_rowTold_19 : decode cX10_rowTold 19 = .ok (.aload_n 0, 1) := by decide +kernel
theorem dX10_rowTold_20 : decode cX10_rowTold 20 = .ok (.getfield 79, 3) := by decide +kernel
theorem dX10_rowTold_23 : decode cX10_rowTold 23 = .ok (.iload_n 2, 1) := by decide +kernel
theorem dX10_rowTold_24 : decode cX10_rowTold 24 = .ok (.aload_n 0, 1) := by decide +kernel
theorem dX10_rowTold_25 : decode cX10_rowTold 25 = .ok (.iconst 1, 1) := by decide +kernel
theorem dX10_rowTold_26 : decode cX10_rowTold 26 = .ok (.invokevirtual 218, 3) := by decide +kernel
theorem dX10_rowTold_29 : decode cX10_rowTold 29 = .ok (.iastore, 1) := by decide +kernel
theorem dX10_rowTold_30 : decode cX10_rowTold 30 = .ok (.aload_n 0, 1) := by decide +kernel
theorem dX10_rowTold_31 : decode cX10_rowTold 31 = .ok (.getfield 82, 3) := by decide +kernel
theorem dX10_rowTold_34 : decode cX10_rowTold 34 = .ok (.iload_n 2, 1) := by decide +kernel
theorem dX10_rowTold_35 : decode cX10_rowTold 35 = .ok (.aload_n 0, 1) := by decide +kernel
theorem dX10_rowTold_36 : decode cX10_rowTold 36 = .ok (.iconst 2, 1) := by decide +kernel
theorem dX10_rowTold_37 : decode cX10_rowTold 37 = .ok (.invokevirtual 218, 3) := by decide +kernel
theorem dX10_rowTold_40 : decode cX10_rowTold 40 = .ok (.iastore, 1) := by decide +kernel
theorem dX10_rowTold_41 : decode cX10_rowTold 41 = .ok (.iconst 0, 1) := by decide +kernel
theorem dX10_rowTold_42 : decode cX10_rowTold 42 = .ok (.istore_n 3, 1) := by decide +kernel
theorem dX10_rowTold_43 : decode cX10_rowTold 43 = .ok (.iload_n 3, 1) := by decide +kernel
theorem dX10_rowTold_44 : decode cX10_rowTold 44 = .ok (.iload_n 2, 1) := by decide +kernel
theorem dX10_rowTold_45 : decode cX10_rowTold 45 = .ok (.if_icmp .ge 55, 3) := by decide +kernel
theorem dX10_rowTold_48 : decode cX10_rowTold 48 = .ok (.aload_n 0, 1) := by decide +kernel
theorem dX10_rowTold_49 : decode cX10_rowTold 49 = .ok (.getfield 143, 3) := by decide +kernel
theorem dX10_rowTold_52 : decode cX10_rowTold 52 = .ok (.ifCond .ne 42, 3) := by decide +kernel
theorem dX10_rowTold_55 : decode cX10_rowTold 55 = .ok (.aload_n 0, 1) := by decide +kernel
theorem dX10_rowTold_56 : decode cX10_rowTold 56 = .ok (.getfield 79, 3) := by decide +kernel
theorem dX10_rowTold_59 : decode cX10_rowTold 59 = .ok (.iload_n 3, 1) := by decide +kernel
theorem dX10_rowTold_60 : decode cX10_rowTold 60 = .ok (.iaload, 1) := by decide +kernel
theorem dX10_rowTold_61 : decode cX10_rowTold 61 = .ok (.aload_n 0, 1) := by decide +kernel
theorem dX10_rowTold_62 : decode cX10_rowTold 62 = .ok (.getfield 79, 3) := by decide +kernel
theorem dX10_rowTold_65 : decode cX10_rowTold 65 = .ok (.iload_n 2, 1) := by decide +kernel
theorem dX10_rowTold_66 : decode cX10_rowTold 66 = .ok (.iaload, 1) := by decide +kernel
theorem dX10_rowTold_67 : decode cX10_rowTold 67 = .ok (.if_icmp .ne 27, 3) := by decide +kernel
theorem dX10_rowTold_70 : decode cX10_rowTold 70 = .ok (.aload_n 0, 1) := by decide +kernel
theorem dX10_rowTold_71 : decode cX10_rowTold 71 = .ok (.getfield 82, 3) := by decide +kernel
theorem dX10_rowTold_74 : decode cX10_rowTold 74 = .ok (.iload_n 3, 1) := by decide +kernel
theorem dX10_rowTold_75 : decode cX10_rowTold 75 = .ok (.iaload, 1) := by decide +kernel
theorem dX10_rowTold_76 : decode cX10_rowTold 76 = .ok (.aload_n 0, 1) := by decide +kernel
theorem dX10_rowTold_77 : decode cX10_rowTold 77 = .ok (.getfield 82, 3) := by decide +kernel
theorem dX10_rowTold_80 : decode cX10_rowTold 80 = .ok (.iload_n 2, 1) := by decide +kernel
theorem dX10_rowTold_81 : decode cX10_rowTold 81 = .ok (.iaload, 1) := by decide +kernel
theorem dX10_rowTold_82 : decode cX10_rowTold 82 = .ok (.if_icmp .ne 12, 3) := by decide +kernel
theorem dX10_rowTold_85 : decode cX10_rowTold 85 = .ok (.aload_n 0, 1) := by decide +kernel
theorem dX10_rowTold_86 : decode cX10_rowTold 86 = .ok (.iconst 3, 1) := by decide +kernel
theorem dX10_rowTold_87 : decode cX10_rowTold 87 = .ok (.aload_n 0, 1) := by decide +kernel
theorem dX10_rowTold_88 : decode cX10_rowTold 88 = .ok (.getfield 191, 3) := by decide +kernel
theorem dX10_rowTold_91 : decode cX10_rowTold 91 = .ok (.invokevirtual 173, 3) := by decide +kernel
theorem dX10_rowTold_94 : decode cX10_rowTold 94 = .ok (.iinc 3 1, 3) := by decide +kernel
theorem dX10_rowTold_97 : decode cX10_rowTold 97 = .ok (.goto (-54), 3) := by decide +kernel
theorem dX10_rowTold_100 : decode cX10_rowTold 100 = .ok (.aload_n 0, 1) := by decide +kernel
theorem dX10_rowTold_101 : decode cX10_rowTold 101 = .ok (.aload_n 0, 1) := by decide +kernel
theorem dX10_rowTold_102 : decode cX10_rowTold 102 = .ok (.getfield 39, 3) := by decide +kernel
theorem dX10_rowTold_105 : decode cX10_rowTold 105 = .ok (.invokevirtual 214, 3) := by decide +kernel
theorem dX10_rowTold_108 : decode cX10_rowTold 108 = .ok (.aload_n 0, 1) := by decide +kernel
theorem dX10_rowTold_109 : decode cX10_rowTold 109 = .ok (.getfield 85, 3) := by decide +kernel
theorem dX10_rowTold_112 : decode cX10_rowTold 112 = .ok (.iconst 2, 1) := by decide +kernel
theorem dX10_rowTold_113 : decode cX10_rowTold 113 = .ok (.iload_n 2, 1) := by decide +kernel
theorem dX10_rowTold_114 : decode cX10_rowTold 114 = .ok (.imul, 1) := by decide +kernel
theorem dX10_rowTold_115 : decode cX10_rowTold 115 = .ok (.aload_n 0, 1) := by decide +kernel
theorem dX10_rowTold_116 : decode cX10_rowTold 116 = .ok (.iconst 0, 1) := by decide +kernel
theorem dX10_rowTold_117 : decode cX10_rowTold 117 = .ok (.sipush 9999, 3) := by decide +kernel
theorem dX10_rowTold_120 : decode cX10_rowTold 120 = .ok (.invokevirtual 221, 3) := by decide +kernel
theorem dX10_rowTold_123 : decode cX10_rowTold 123 = .ok (.iastore, 1) := by decide +kernel
theorem dX10_rowTold_124 : decode cX10_rowTold 124 = .ok (.aload_n 0, 1) := by decide +kernel
theorem dX10_rowTold_125 : decode cX10_rowTold 125 = .ok (.getfield 85, 3) := by decide +kernel
theorem dX10_rowTold_128 : decode cX10_rowTold 128 = .ok (.iconst 2, 1) := by decide +kernel
theorem dX10_rowTold_129 : decode cX10_rowTold 129 = .ok (.iload_n 2, 1) := by decide +kernel
theorem dX10_rowTold_130 : decode cX10_rowTold 130 = .ok (.imul, 1) := by decide +kernel
theorem dX10_rowTold_131 : decode cX10_rowTold 131 = .ok (.iconst 1, 1) := by decide +kernel
theorem dX10_rowTold_132 : decode cX10_rowTold 132 = .ok (.iadd, 1) := by decide +kernel
theorem dX10_rowTold_133 : decode cX10_rowTold 133 = .ok (.aload_n 0, 1) := by decide +kernel
theorem dX10_rowTold_134 : decode cX10_rowTold 134 = .ok (.iconst 0, 1) := by decide +kernel
theorem dX10_rowTold_135 : decode cX10_rowTold 135 = .ok (.sipush 9999, 3) := by decide +kernel
theorem dX10_rowTold_138 : decode cX10_rowTold 138 = .ok (.invokevirtual 221, 3) := by decide +kernel
theorem dX10_rowTold_141 : decode cX10_rowTold 141 = .ok (.iastore, 1) := by decide +kernel
theorem dX10_rowTold_142 : decode cX10_rowTold 142 = .ok (.aload_n 0, 1) := by decide +kernel
theorem dX10_rowTold_143 : decode cX10_rowTold 143 = .ok (.aload_n 0, 1) := by decide +kernel
theorem dX10_rowTold_144 : decode cX10_rowTold 144 = .ok (.getfield 42, 3) := by decide +kernel
theorem dX10_rowTold_147 : decode cX10_rowTold 147 = .ok (.invokevirtual 214, 3) := by decide +kernel
theorem dX10_rowTold_150 : decode cX10_rowTold 150 = .ok (.aload_n 0, 1) := by decide +kernel
theorem dX10_rowTold_151 : decode cX10_rowTold 151 = .ok (.getfield 88, 3) := by decide +kernel
theorem dX10_rowTold_154 : decode cX10_rowTold 154 = .ok (.iload_n 2, 1) := by decide +kernel
theorem dX10_rowTold_155 : decode cX10_rowTold 155 = .ok (.aload_n 0, 1) := by decide +kernel
theorem dX10_rowTold_156 : decode cX10_rowTold 156 = .ok (.iconst 1, 1) := by decide +kernel
theorem dX10_rowTold_157 : decode cX10_rowTold 157 = .ok (.bipush 9, 2) := by decide +kernel
theorem dX10_rowTold_159 : decode cX10_rowTold 159 = .ok (.invokevirtual 221, 3) := by decide +kernel
theorem dX10_rowTold_162 : decode cX10_rowTold 162 = .ok (.iastore, 1) := by decide +kernel
theorem dX10_rowTold_163 : decode cX10_rowTold 163 = .ok (.aload_n 0, 1) := by decide +kernel
theorem dX10_rowTold_164 : decode cX10_rowTold 164 = .ok (.getfield 58, 3) := by decide +kernel
theorem dX10_rowTold_167 : decode cX10_rowTold 167 = .ok (.iconst 3, 1) := by decide +kernel
theorem dX10_rowTold_168 : decode cX10_rowTold 168 = .ok (.dup2, 1) := by decide +kernel
theorem dX10_rowTold_169 : decode cX10_rowTold 169 = .ok (.iaload, 1) := by decide +kernel
theorem dX10_rowTold_170 : decode cX10_rowTold 170 = .ok (.iconst 1, 1) := by decide +kernel
theorem dX10_rowTold_171 : decode cX10_rowTold 171 = .ok (.iadd, 1) := by decide +kernel
theorem dX10_rowTold_172 : decode cX10_rowTold 172 = .ok (.iastore, 1) := by decide +kernel
theorem dX10_rowTold_173 : decode cX10_rowTold 173 = .ok (.return_, 1) := by decide +kernel
theorem gcX10_controlTold__X10_controlTold_r1 : ∀ w ∈ wsX10_controlTold_r1, w ∈ wsX10_controlTold := fun w h => List.mem_cons_of_mem _ (List.mem_append_left _ (List.mem_append_left _ (h)))
theorem gcX10_controlTold__X100 : ∀ w ∈ wsX100, w ∈ wsX10_controlTold := fun w h => List.mem_cons_of_mem _ (List.mem_append_right _ (h))
set_option maxRecDepth 20000 in
theorem ggX10_controlTold_X10_isFull : GoodIn wsX10_controlTold wsX10_isFull := goodIn_sub (List.forall_mem_cons.mpr ⟨(gcX10_controlTold__X10_controlTold_r1 _ (List.mem_of_getElem? (i := 11) rfl)), List.forall_mem_append.mpr ⟨List.forall_mem_cons.mpr ⟨(gcX10_controlTold__X10_controlTold_r1 _ (List.mem_of_getElem? (i := 0) rfl)), List.forall_mem_cons.mpr ⟨(gcX10_controlTold__X10_controlTold_r1 _ (List.mem_of_getElem? (i := 6) rfl)), List.forall_mem_cons.mpr ⟨(gcX10_controlTold__X10_controlTold_r1 _ (List.mem_of_getElem? (i := 12) rfl)), List.forall_mem_cons.mpr ⟨(gcX10_controlTold__X10_controlTold_r1 _ (List.mem_of_getElem? (i := 13) rfl)), List.forall_mem_cons.mpr ⟨(gcX10_controlTold__X10_controlTold_r1 _ (List.mem_of_getElem? (i := 14) rfl)), List.forall_mem_cons.mpr ⟨(gcX10_controlTold__X10_controlTold_r1 _ (List.mem_of_getElem? (i := 10) rfl)), List.forall_mem_cons.mpr ⟨(gcX10_controlTold__X10_controlTold_r1 _ (List.mem_of_getElem? (i := 15) rfl)), List.forall_mem_cons.mpr ⟨(gcX10_controlTold__X10_controlTold_r1 _ (List.mem_of_getElem? (i := 16) rfl)), fun _ h => (List.not_mem_nil h).elim⟩⟩⟩⟩⟩⟩⟩⟩, gcX10_controlTold__X100⟩⟩) gwX10_isFull
set_option maxRecDepth 20000 in
theorem gX10_controlTold_X10_isFull : GoodIn wsX10_controlTold (wsV RX10 206 RX10 yX10_isFull wsX10_isFull) := goodIn_app (goodIn_sub (List.forall_mem_cons.mpr ⟨(gcX10_controlTold__X10_controlTold_r1 _ (List.mem_of_getElem? (i := 7) rfl)), List.forall_mem_cons.mpr ⟨(gcX10_controlTold__X10_controlTold_r1 _ (List.mem_of_getElem? (i := 8) rfl)), List.forall_mem_cons.mpr ⟨(gcX10_controlTold__X10_controlTold_r1 _ (List.mem_of_getElem? (i := 9) rfl)), List.forall_mem_cons.mpr ⟨(gcX10_controlTold__X10_controlTold_r1 _ (List.mem_of_getElem? (i := 10) rfl)), fun _ h => (List.not_mem_nil h).elim⟩⟩⟩⟩) (by decide +kernel)) ggX10_controlTold_X10_isFull
theorem gcX10_controlTold__X10_controlTold_r2 : ∀ w ∈ wsX10_controlTold_r2, w ∈ wsX10_controlTold := fun w h => List.mem_cons_of_mem _ (List.mem_append_left _ (List.mem_append_right _ (List.mem_append_left _ (h))))
set_option maxRecDepth 20000 in
theorem gmX10_controlTold__X10_oneOf_r1 : ∀ w ∈ wsX10_oneOf_r1, w ∈ wsX10_controlTold := List.forall_mem_cons.mpr ⟨(gcX10_controlTold__X10_controlTold_r1 _ (List.mem_of_getElem? (i := 0) rfl)), List.forall_mem_cons.mpr ⟨(gcX10_controlTold__X10_controlTold_r1 _ (List.mem_of_getElem? (i := 2) rfl)), List.forall_mem_cons.mpr ⟨(gcX10_controlTold__X10_controlTold_r1 _ (List.mem_of_getElem? (i := 21) rfl)), List.forall_mem_cons.mpr ⟨(gcX10_controlTold__X10_controlTold_r1 _ (List.mem_of_getElem? (i := 22) rfl)), List.forall_mem_cons.mpr ⟨(gcX10_controlTold__X10_controlTold_r1 _ (List.mem_of_getElem? (i := 23) rfl)), List.forall_mem_cons.mpr ⟨(gcX10_controlTold__X10_controlTold_r1 _ (List.mem_of_getElem? (i := 10) rfl)), List.forall_mem_cons.mpr ⟨(gcX10_controlTold__X10_controlTold_r2 _ (List.mem_of_getElem? (i := 0) rfl)), List.forall_mem_cons.mpr ⟨(gcX10_controlTold__X10_controlTold_r2 _ (List.mem_of_getElem? (i := 1) rfl)), List.forall_mem_cons.mpr ⟨(gcX10_controlTold__X10_controlTold_r2 _ (List.mem_of_getElem? (i := 2) rfl)), List.forall_mem_cons.mpr ⟨(gcX10_controlTold__X10_controlTold_r2 _ (List.mem_of_getElem? (i := 3) rfl)), List.forall_mem_cons.mpr ⟨(gcX10_controlTold__X10_controlTold_r2 _ (List.mem_of_getElem? (i := 4) rfl)), List.forall_mem_cons.mpr ⟨(gcX10_controlTold__X10_controlTold_r2 _ (List.mem_of_getElem? (i := 5) rfl)), List.forall_mem_cons.mpr ⟨(gcX10_controlTold__X10_controlTold_r2 _ (List.mem_of_getElem? (i := 6) rfl)), List.forall_mem_cons.mpr ⟨(gcX10_controlTold__X10_controlTold_r2 _ (List.mem_of_getElem? (i := 7) rfl)), List.forall_mem_cons.mpr ⟨(gcX10_controlTold__X10_controlTold_r2 _ (List.mem_of_getElem? (i := 8) rfl)), List.forall_mem_cons.mpr ⟨(gcX10_controlTold__X10_controlTold_r2 _ (List.mem_of_getElem? (i := 9) rfl)), List.forall_mem_cons.mpr ⟨(gcX10_controlTold__X10_controlTold_r2 _ (List.mem_of_getElem? (i := 10) rfl)), List.forall_mem_cons.mpr ⟨(gcX10_controlTold__X10_controlTold_r2 _ (List.mem_of_getElem? (i := 11) rfl)), List.forall_mem_cons.mpr ⟨(gcX10_controlTold__X10_controlTold_r2 _ (List.mem_of_getElem? (i := 12) rfl)), List.forall_mem_cons.mpr ⟨(gcX10_controlTold__X10_controlTold_r2 _ (List.mem_of_getElem? (i := 13) rfl)), List.forall_mem_cons.mpr ⟨(gcX10_controlTold__X10_controlTold_r2 _ (List.mem_of_getElem? (i := 14) rfl)), List.forall_mem_cons.mpr ⟨(gcX10_controlTold__X10_controlTold_r2 _ (List.mem_of_getElem? (i := 15) rfl)), List.forall_mem_cons.mpr ⟨(gcX10_controlTold__X10_controlTold_r2 _ (List.mem_of_getElem? (i := 16) rfl)), List.forall_mem_cons.mpr ⟨(gcX10_controlTold__X10_controlTold_r2 _ (List.mem_of_getElem? (i := 17) rfl)), fun _ h => (List.not_mem_nil h).elim⟩⟩⟩⟩⟩⟩⟩⟩⟩⟩⟩⟩⟩⟩⟩⟩⟩⟩⟩⟩⟩⟩⟩⟩
theorem gcX10_controlTold__X10_controlTold_r3 : ∀ w ∈ wsX10_controlTold_r3, w ∈ wsX10_controlTold := fun w h => List.mem_cons_of_mem _ (List.mem_append_left _ (List.mem_append_right _ (List.mem_append_right _ (List.mem_append_left _ (h)))))
set_option maxRecDepth 20000 in
theorem gmX10_controlTold__X10_oneOf_r2 : ∀ w ∈ wsX10_oneOf_r2, w ∈ wsX10_controlTold := List.forall_mem_cons.mpr ⟨(gcX10_controlTold__X10_controlTold_r2 _ (List.mem_of_getElem? (i := 18) rfl)), List.forall_mem_cons.mpr ⟨(gcX10_controlTold__X10_controlTold_r2 _ (List.mem_of_getElem? (i := 19) rfl)), List.forall_mem_cons.mpr ⟨(gcX10_controlTold__X10_controlTold_r2 _ (List.mem_of_getElem? (i := 20) rfl)), List.forall_mem_cons.mpr ⟨(gcX10_controlTold__X10_controlTold_r2 _ (List.mem_of_getElem? (i := 21) rfl)), List.forall_mem_cons.mpr ⟨(gcX10_controlTold__X10_controlTold_r2 _ (List.mem_of_getElem? (i := 22) rfl)), List.forall_mem_cons.mpr ⟨(gcX10_controlTold__X10_controlTold_r2 _ (List.mem_of_getElem? (i := 23) rfl)), List.forall_mem_cons.mpr ⟨(gcX10_controlTold__X10_controlTold_r3 _ (List.mem_of_getElem? (i := 0) rfl)), List.forall_mem_cons.mpr ⟨(gcX10_controlTold__X10_controlTold_r1 _ (List.mem_of_getElem? (i := 3) rfl)), List.forall_mem_cons.mpr ⟨(gcX10_controlTold__X10_controlTold_r3 _ (List.mem_of_getElem? (i := 1) rfl)), List.forall_mem_cons.mpr ⟨(gcX10_controlTold__X10_controlTold_r3 _ (List.mem_of_getElem? (i := 2) rfl)), List.forall_mem_cons.mpr ⟨(gcX10_controlTold__X10_controlTold_r1 _ (List.mem_of_getElem? (i := 4) rfl)), List.forall_mem_cons.mpr ⟨(gcX10_controlTold__X10_controlTold_r3 _ (List.mem_of_getElem? (i := 3) rfl)), List.forall_mem_cons.mpr ⟨(gcX10_controlTold__X10_controlTold_r3 _ (List.mem_of_getElem? (i := 4) rfl)), List.forall_mem_cons.mpr ⟨(gcX10_controlTold__X10_controlTold_r3 _ (List.mem_of_getElem? (i := 5) rfl)), List.forall_mem_cons.mpr ⟨(gcX10_controlTold__X10_controlTold_r3 _ (List.mem_of_getElem? (i := 6) rfl)), List.forall_mem_cons.mpr ⟨(gcX10_controlTold__X10_controlTold_r3 _ (List.mem_of_getElem? (i := 7) rfl)), List.forall_mem_cons.mpr ⟨(gcX10_controlTold__X10_controlTold_r1 _ (List.mem_of_getElem? (i := 12) rfl)), List.forall_mem_cons.mpr ⟨(gcX10_controlTold__X10_controlTold_r1 _ (List.mem_of_getElem? (i := 13) rfl)), List.forall_mem_cons.mpr ⟨(gcX10_controlTold__X10_controlTold_r1 _ (List.mem_of_getElem? (i := 14) rfl)), List.forall_mem_cons.mpr ⟨(gcX10_controlTold__X10_controlTold_r1 _ (List.mem_of_getElem? (i := 15) rfl)), List.forall_mem_cons.mpr ⟨(gcX10_controlTold__X10_controlTold_r1 _ (List.mem_of_getElem? (i := 16) rfl)), List.forall_mem_cons.mpr ⟨(gcX10_controlTold__X10_controlTold_r3 _ (List.mem_of_getElem? (i := 8) rfl)), List.forall_mem_cons.mpr ⟨(gcX10_controlTold__X10_controlTold_r3 _ (List.mem_of_getElem? (i := 9) rfl)), List.forall_mem_cons.mpr ⟨(gcX10_controlTold__X10_controlTold_r3 _ (List.mem_of_getElem? (i := 10) rfl)), fun _ h => (List.not_mem_nil h).elim⟩⟩⟩⟩⟩⟩⟩⟩⟩⟩⟩⟩⟩⟩⟩⟩⟩⟩⟩⟩⟩⟩⟩⟩
set_option maxRecDepth 20000 in
theorem gmX10_controlTold__X10_oneOf_r3 : ∀ w ∈ wsX10_oneOf_r3, w ∈ wsX10_controlTold := List.forall_mem_cons.mpr ⟨(gcX10_controlTold__X10_controlTold_r3 _ (List.mem_of_getElem? (i := 11) rfl)), List.forall_mem_cons.mpr ⟨(gcX10_controlTold__X10_controlTold_r1 _ (List.mem_of_getElem? (i := 6) rfl)), List.forall_mem_cons.mpr ⟨(gcX10_controlTold__X10_controlTold_r3 _ (List.mem_of_getElem? (i := 12) rfl)), fun _ h => (List.not_mem_nil h).elim⟩⟩⟩
set_option maxRecDepth 20000 in
theorem ggX10_controlTold_X10_oneOf : GoodIn wsX10_controlTold wsX10_oneOf := goodIn_sub (List.forall_mem_cons.mpr ⟨(gcX10_controlTold__X10_controlTold_r1 _ (List.mem_of_getElem? (i := 20) rfl)), List.forall_mem_append.mpr ⟨List.forall_mem_append.mpr ⟨gmX10_controlTold__X10_oneOf_r1, List.forall_mem_append.mpr ⟨gmX10_controlTold__X10_oneOf_r2, gmX10_controlTold__X10_oneOf_r3⟩⟩, gcX10_controlTold__X100⟩⟩) gwX10_oneOf
set_option maxRecDepth 20000 in
theorem gX10_controlTold_X10_oneOf : GoodIn wsX10_controlTold (wsV RX10 218 RX10 yX10_oneOf wsX10_oneOf) := goodIn_app (goodIn_sub (List.forall_mem_cons.mpr ⟨(gcX10_controlTold__X10_controlTold_r1 _ (List.mem_of_getElem? (i := 17) rfl)), List.forall_mem_cons.mpr ⟨(gcX10_controlTold__X10_controlTold_r1 _ (List.mem_of_getElem? (i := 18) rfl)), List.forall_mem_cons.mpr ⟨(gcX10_controlTold__X10_controlTold_r1 _ (List.mem_of_getElem? (i := 19) rfl)), List.forall_mem_cons.mpr ⟨(gcX10_controlTold__X10_controlTold_r1 _ (List.mem_of_getElem? (i := 10) rfl)), fun _ h => (List.not_mem_nil h).elim⟩⟩⟩⟩) (by decide +kernel)) ggX10_controlTold_X10_oneOf
set_option maxRecDepth 20000 in
theorem ggX10_controlTold_X10_fail : GoodIn wsX10_controlTold wsX10_fail := goodIn_sub (List.forall_mem_cons.mpr ⟨(gcX10_controlTold__X10_controlTold_r1 _ (List.mem_of_getElem? (i := 15) rfl)), List.forall_mem_append.mpr ⟨List.forall_mem_cons.mpr ⟨(gcX10_controlTold__X10_controlTold_r1 _ (List.mem_of_getElem? (i := 0) rfl)), List.forall_mem_cons.mpr ⟨(gcX10_controlTold__X10_controlTold_r1 _ (List.mem_of_getElem? (i := 16) rfl)), fun _ h => (List.not_mem_nil h).elim⟩⟩, gcX10_controlTold__X100⟩⟩) gwX10_fail
set_option maxRecDepth 20000 in
theorem gX10_controlTold_X10_fail : GoodIn wsX10_controlTold (wsV RX10 173 RX10 yX10_fail wsX10_fail) := goodIn_app (goodIn_sub (List.forall_mem_cons.mpr ⟨(gcX10_controlTold__X10_controlTold_r1 _ (List.mem_of_getElem? (i := 12) rfl)), List.forall_mem_cons.mpr ⟨(gcX10_controlTold__X10_controlTold_r1 _ (List.mem_of_getElem? (i := 13) rfl)), List.forall_mem_cons.mpr ⟨(gcX10_controlTold__X10_controlTold_r1 _ (List.mem_of_getElem? (i := 14) rfl)), List.forall_mem_cons.mpr ⟨(gcX10_controlTold__X10_controlTold_r1 _ (List.mem_of_getElem? (i := 10) rfl)), fun _ h => (List.not_mem_nil h).elim⟩⟩⟩⟩) (by decide +kernel)) ggX10_controlTold_X10_fail
set_option maxRecDepth 20000 in
theorem gmX10_controlTold__X10_asks_r1 : ∀ w ∈ wsX10_asks_r1, w ∈ wsX10_controlTold := List.forall_mem_cons.mpr ⟨(gcX10_controlTold__X10_controlTold_r1 _ (List.mem_of_getElem? (i := 0) rfl)), List.forall_mem_cons.mpr ⟨(gcX10_controlTold__X10_controlTold_r2 _ (List.mem_of_getElem? (i := 1) rfl)), List.forall_mem_cons.mpr ⟨(gcX10_controlTold__X10_controlTold_r3 _ (List.mem_of_getElem? (i := 17) rfl)), List.forall_mem_cons.mpr ⟨(gcX10_controlTold__X10_controlTold_r3 _ (List.mem_of_getElem? (i := 18) rfl)), List.forall_mem_cons.mpr ⟨(gcX10_controlTold__X10_controlTold_r3 _ (List.mem_of_getElem? (i := 19) rfl)), List.forall_mem_cons.mpr ⟨(gcX10_controlTold__X10_controlTold_r1 _ (List.mem_of_getElem? (i := 10) rfl)), List.forall_mem_cons.mpr ⟨(gcX10_controlTold__X10_controlTold_r3 _ (List.mem_of_getElem? (i := 20) rfl)), List.forall_mem_cons.mpr ⟨(gcX10_controlTold__X10_controlTold_r2 _ (List.mem_of_getElem? (i := 2) rfl)), List.forall_mem_cons.mpr ⟨(gcX10_controlTold__X10_controlTold_r3 _ (List.mem_of_getElem? (i := 4) rfl)), List.forall_mem_cons.mpr ⟨(gcX10_controlTold__X10_controlTold_r3 _ (List.mem_of_getElem? (i := 5) rfl)), List.forall_mem_cons.mpr ⟨(gcX10_controlTold__X10_controlTold_r3 _ (List.mem_of_getElem? (i := 6) rfl)), List.forall_mem_cons.mpr ⟨(gcX10_controlTold__X10_controlTold_r3 _ (List.mem_of_getElem? (i := 7) rfl)), List.forall_mem_cons.mpr ⟨(gcX10_controlTold__X10_controlTold_r2 _ (List.mem_of_getElem? (i := 3) rfl)), List.forall_mem_cons.mpr ⟨(gcX10_controlTold__X10_controlTold_r2 _ (List.mem_of_getElem? (i := 4) rfl)), List.forall_mem_cons.mpr ⟨(gcX10_controlTold__X10_controlTold_r2 _ (List.mem_of_getElem? (i := 7) rfl)), List.forall_mem_cons.mpr ⟨(gcX10_controlTold__X10_controlTold_r2 _ (List.mem_of_getElem? (i := 8) rfl)), List.forall_mem_cons.mpr ⟨(gcX10_controlTold__X10_controlTold_r2 _ (List.mem_of_getElem? (i := 9) rfl)), List.forall_mem_cons.mpr ⟨(gcX10_controlTold__X10_controlTold_r2 _ (List.mem_of_getElem? (i := 10) rfl)), List.forall_mem_cons.mpr ⟨(gcX10_controlTold__X10_controlTold_r2 _ (List.mem_of_getElem? (i := 11) rfl)), List.forall_mem_cons.mpr ⟨(gcX10_controlTold__X10_controlTold_r2 _ (List.mem_of_getElem? (i := 12) rfl)), List.forall_mem_cons.mpr ⟨(gcX10_controlTold__X10_controlTold_r2 _ (List.mem_of_getElem? (i := 13) rfl)), List.forall_mem_cons.mpr ⟨(gcX10_controlTold__X10_controlTold_r1 _ (List.mem_of_getElem? (i := 12) rfl)), List.forall_mem_cons.mpr ⟨(gcX10_controlTold__X10_controlTold_r1 _ (List.mem_of_getElem? (i := 13) rfl)), List.forall_mem_cons.mpr ⟨(gcX10_controlTold__X10_controlTold_r1 _ (List.mem_of_getElem? (i := 14) rfl)), fun _ h => (List.not_mem_nil h).elim⟩⟩⟩⟩⟩⟩⟩⟩⟩⟩⟩⟩⟩⟩⟩⟩⟩⟩⟩⟩⟩⟩⟩⟩
set_option maxRecDepth 20000 in
theorem gmX10_controlTold__X10_asks_r2 : ∀ w ∈ wsX10_asks_r2, w ∈ wsX10_controlTold := List.forall_mem_cons.mpr ⟨(gcX10_controlTold__X10_controlTold_r1 _ (List.mem_of_getElem? (i := 15) rfl)), List.forall_mem_cons.mpr ⟨(gcX10_controlTold__X10_controlTold_r1 _ (List.mem_of_getElem? (i := 16) rfl)), fun _ h => (List.not_mem_nil h).elim⟩⟩
set_option maxRecDepth 20000 in
theorem ggX10_controlTold_X10_asks : GoodIn wsX10_controlTold wsX10_asks := goodIn_sub (List.forall_mem_cons.mpr ⟨(gcX10_controlTold__X10_controlTold_r3 _ (List.mem_of_getElem? (i := 16) rfl)), List.forall_mem_append.mpr ⟨List.forall_mem_append.mpr ⟨gmX10_controlTold__X10_asks_r1, gmX10_controlTold__X10_asks_r2⟩, gcX10_controlTold__X100⟩⟩) gwX10_asks
set_option maxRecDepth 20000 in
theorem gX10_controlTold_X10_asks : GoodIn wsX10_controlTold (wsV RX10 214 RX10 yX10_asks wsX10_asks) := goodIn_app (goodIn_sub (List.forall_mem_cons.mpr ⟨(gcX10_controlTold__X10_controlTold_r3 _ (List.mem_of_getElem? (i := 13) rfl)), List.forall_mem_cons.mpr ⟨(gcX10_controlTold__X10_controlTold_r3 _ (List.mem_of_getElem? (i := 14) rfl)), List.forall_mem_cons.mpr ⟨(gcX10_controlTold__X10_controlTold_r3 _ (List.mem_of_getElem? (i := 15) rfl)), List.forall_mem_cons.mpr ⟨(gcX10_controlTold__X10_controlTold_r1 _ (List.mem_of_getElem? (i := 10) rfl)), fun _ h => (List.not_mem_nil h).elim⟩⟩⟩⟩) (by decide +kernel)) ggX10_controlTold_X10_asks
theorem gcX10_controlTold__X10_controlTold_r4 : ∀ w ∈ wsX10_controlTold_r4, w ∈ wsX10_controlTold := fun w h => List.mem_cons_of_mem _ (List.mem_append_left _ (List.mem_append_right _ (List.mem_append_right _ (List.mem_append_right _ (h)))))
set_option maxRecDepth 20000 in
theorem ggX10_controlTold_X10_number : GoodIn wsX10_controlTold wsX10_number := goodIn_sub (List.forall_mem_cons.mpr ⟨(gcX10_controlTold__X10_controlTold_r4 _ (List.mem_of_getElem? (i := 0) rfl)), List.forall_mem_append.mpr ⟨List.forall_mem_cons.mpr ⟨(gcX10_controlTold__X10_controlTold_r1 _ (List.mem_of_getElem? (i := 0) rfl)), List.forall_mem_cons.mpr ⟨(gcX10_controlTold__X10_controlTold_r2 _ (List.mem_of_getElem? (i := 1) rfl)), List.forall_mem_cons.mpr ⟨(gcX10_controlTold__X10_controlTold_r2 _ (List.mem_of_getElem? (i := 2) rfl)), List.forall_mem_cons.mpr ⟨(gcX10_controlTold__X10_controlTold_r2 _ (List.mem_of_getElem? (i := 3) rfl)), List.forall_mem_cons.mpr ⟨(gcX10_controlTold__X10_controlTold_r2 _ (List.mem_of_getElem? (i := 4) rfl)), List.forall_mem_cons.mpr ⟨(gcX10_controlTold__X10_controlTold_r2 _ (List.mem_of_getElem? (i := 7) rfl)), List.forall_mem_cons.mpr ⟨(gcX10_controlTold__X10_controlTold_r2 _ (List.mem_of_getElem? (i := 8) rfl)), List.forall_mem_cons.mpr ⟨(gcX10_controlTold__X10_controlTold_r2 _ (List.mem_of_getElem? (i := 9) rfl)), List.forall_mem_cons.mpr ⟨(gcX10_controlTold__X10_controlTold_r1 _ (List.mem_of_getElem? (i := 10) rfl)), List.forall_mem_cons.mpr ⟨(gcX10_controlTold__X10_controlTold_r2 _ (List.mem_of_getElem? (i := 10) rfl)), List.forall_mem_cons.mpr ⟨(gcX10_controlTold__X10_controlTold_r4 _ (List.mem_of_getElem? (i := 1) rfl)), List.forall_mem_cons.mpr ⟨(gcX10_controlTold__X10_controlTold_r4 _ (List.mem_of_getElem? (i := 2) rfl)), List.forall_mem_cons.mpr ⟨(gcX10_controlTold__X10_controlTold_r4 _ (List.mem_of_getElem? (i := 3) rfl)), List.forall_mem_cons.mpr ⟨(gcX10_controlTold__X10_controlTold_r1 _ (List.mem_of_getElem? (i := 12) rfl)), List.forall_mem_cons.mpr ⟨(gcX10_controlTold__X10_controlTold_r1 _ (List.mem_of_getElem? (i := 13) rfl)), List.forall_mem_cons.mpr ⟨(gcX10_controlTold__X10_controlTold_r1 _ (List.mem_of_getElem? (i := 14) rfl)), List.forall_mem_cons.mpr ⟨(gcX10_controlTold__X10_controlTold_r1 _ (List.mem_of_getElem? (i := 15) rfl)), List.forall_mem_cons.mpr ⟨(gcX10_controlTold__X10_controlTold_r1 _ (List.mem_of_getElem? (i := 16) rfl)), List.forall_mem_cons.mpr ⟨(gcX10_controlTold__X10_controlTold_r4 _ (List.mem_of_getElem? (i := 4) rfl)), List.forall_mem_cons.mpr ⟨(gcX10_controlTold__X10_controlTold_r4 _ (List.mem_of_getElem? (i := 5) rfl)), List.forall_mem_cons.mpr ⟨(gcX10_controlTold__X10_controlTold_r4 _ (List.mem_of_getElem? (i := 6) rfl)), fun _ h => (List.not_mem_nil h).elim⟩⟩⟩⟩⟩⟩⟩⟩⟩⟩⟩⟩⟩⟩⟩⟩⟩⟩⟩⟩⟩, gcX10_controlTold__X100⟩⟩) gwX10_number
set_option maxRecDepth 20000 in
theorem gX10_controlTold_X10_number : GoodIn wsX10_controlTold (wsV RX10 221 RX10 yX10_number wsX10_number) := goodIn_app (goodIn_sub (List.forall_mem_cons.mpr ⟨(gcX10_controlTold__X10_controlTold_r3 _ (List.mem_of_getElem? (i := 21) rfl)), List.forall_mem_cons.mpr ⟨(gcX10_controlTold__X10_controlTold_r3 _ (List.mem_of_getElem? (i := 22) rfl)), List.forall_mem_cons.mpr ⟨(gcX10_controlTold__X10_controlTold_r3 _ (List.mem_of_getElem? (i := 23) rfl)), List.forall_mem_cons.mpr ⟨(gcX10_controlTold__X10_controlTold_r1 _ (List.mem_of_getElem? (i := 10) rfl)), fun _ h => (List.not_mem_nil h).elim⟩⟩⟩⟩) (by decide +kernel)) ggX10_controlTold_X10_number
theorem dX10_controlTold_0 : decode cX10_controlTold 0 = .ok (.aload_n 0, 1) := by decide +kernel
theorem dX10_controlTold_1 : decode cX10_controlTold 1 = .ok (.iconst 4, 1) := by decide +kernel
theorem dX10_controlTold_2 : decode cX10_controlTold 2 = .ok (.bipush 10, 2) := by decide +kernel
theorem dX10_controlTold_4 : decode cX10_controlTold 4 = .ok (.iload_n 1, 1) := by decide +kernel
theorem dX10_controlTold_5 : decode cX10_controlTold 5 = .ok (.invokevirtual 206, 3) := by decide +kernel
theorem dX10_controlTold_8 : decode cX10_controlTold 8 = .ok (.ifCond .eq 4, 3) := by decide +kernel
theorem dX10_controlTold_11 : decode cX10_controlTold 11 = .ok (.return_, 1) := by decide +kernel
theorem dX10_controlTold_12 : decode cX10_controlTold 12 = .ok (.aload_n 0, 1) := by decide +kernel
theorem dX10_controlTold_13 : decode cX10_controlTold 13 = .ok (.iconst 2, 1) := by decide +kernel
theorem dX10_controlTold_14 : decode cX10_controlTold 14 = .ok (.invokevirtual 218, 3) := by decide +kernel
theorem dX10_controlTold_17 : decode cX10_controlTold 17 = .ok (.istore_n 2, 1) := by decide +kernel
theorem dX10_controlTold_18 : decode cX10_controlTold 18 = .ok (.aload_n 0, 1) := by decide +kernel
theorem dX10_controlTold_19 : decode cX10_controlTold 19 = .ok (.getfield 143, 3) := by decide +kernel
theorem dX10_controlTold_22 : decode cX10_controlTold 22 = .ok (.ifCond .ne 21, 3) := by decide +kernel
theorem dX10_controlTold_25 : decode cX10_controlTold 25 = .ok (.aload_n 0, 1) := by decide +kernel
theorem dX10_controlTold_26 : decode cX10_controlTold 26 = .ok (.getfield 73, 3) := by decide +kernel
theorem dX10_controlTold_29 : decode cX10_controlTold 29 = .ok (.iload_n 2, 1) := by decide +kernel
theorem dX10_controlTold_30 : decode cX10_controlTold 30 = .ok (.iaload, 1) := by decide +kernel
theorem dX10_controlTold_31 : decode cX10_controlTold 31 = .ok (.ifCond .eq 12, 3) := by decide +kernel
theorem dX10_controlTold_34 : decode cX10_controlTold 34 = .ok (.aload_n 0, 1) := by decide +kernel
theorem dX10_controlTold_35 : decode cX10_controlTold 35 = .ok (.iconst 3, 1) := by decide +kernel
theorem dX10_controlTold_36 : decode cX10_controlTold 36 = .ok (.aload_n 0, 1) := by decide +kernel
theorem dX10_controlTold_37 : decode cX10_controlTold 37 = .ok (.getfield 191, 3) := by decide +kernel
theorem dX10_controlTold_40 : decode cX10_controlTold 40 = .ok (.invokevirtual 173, 3) := by decide +kernel
theorem dX10_controlTold_43 : decode cX10_controlTold 43 = .ok (.aload_n 0, 1) := by decide +kernel
theorem dX10_controlTold_44 : decode cX10_controlTold 44 = .ok (.aload_n 0, 1) := by decide +kernel
theorem dX10_controlTold_45 : decode cX10_controlTold 45 = .ok (.getfield 39, 3) := by decide +kernel
theorem dX10_controlTold_48 : decode cX10_controlTold 48 = .ok (.invokevirtual 214, 3) := by decide +kernel
theorem dX10_controlTold_51 : decode cX10_controlTold 51 = .ok (.aload_n 0, 1) := by decide +kernel
theorem dX10_controlTold_52 : decode cX10_controlTold 52 = .ok (.iconst 0, 1) := by decide +kernel
theorem dX10_controlTold_53 : decode cX10_controlTold 53 = .ok (.sipush 9999, 3) := by decide +kernel
theorem dX10_controlTold_56 : decode cX10_controlTold 56 = .ok (.invokevirtual 221, 3) := by decide +kernel
theorem dX10_controlTold_59 : decode cX10_controlTold 59 = .ok (.istore_n 3, 1) := by decide +kernel
theorem dX10_controlTold_60 : decode cX10_controlTold 60 = .ok (.aload_n 0, 1) := by decide +kernel
theorem dX10_controlTold_61 : decode cX10_controlTold 61 = .ok (.iconst 0, 1) := by decide +kernel
theorem dX10_controlTold_62 : decode cX10_controlTold 62 = .ok (.sipush 9999, 3) := by decide +kernel
theorem dX10_controlTold_65 : decode cX10_controlTold 65 = .ok (.invokevirtual 221, 3) := by decide +kernel
theorem dX10_controlTold_68 : decode cX10_controlTold 68 = .ok (.istore 4, 2) := by decide +kernel
theorem dX10_controlTold_70 : decode cX10_controlTold 70 = .ok (.aload_n 0, 1) := by decide +kernel
theorem dX10_controlTold_71 : decode cX10_controlTold 71 = .ok (.aload_n 0, 1) := by decide +kernel
theorem dX10_controlTold_72 : decode cX10_controlTold 72 = .ok (.getfield 48, 3) := by decide +kernel
theorem dX10_controlTold_75 : decode cX10_controlTold 75 = .ok (.invokevirtual 214, 3) := by decide +kernel
theorem dX10_controlTold_78 : decode cX10_controlTold 78 = .ok (.aload_n 0, 1) := by decide +kernel
theorem dX10_controlTold_79 : decode cX10_controlTold 79 = .ok (.iconst 1, 1) := by decide +kernel
theorem dX10_controlTold_80 : decode cX10_controlTold 80 = .ok (.iconst 2, 1) := by decide +kernel
theorem dX10_controlTold_81 : decode cX10_controlTold 81 = .ok (.invokevirtual 221, 3) := by decide +kernel
theorem dX10_controlTold_84 : decode cX10_controlTold 84 = .ok (.istore 5, 2) := by decide +kernel
theorem dX10_controlTold_86 : decode cX10_controlTold 86 = .ok (.aload_n 0, 1) := by decide +kernel
theorem dX10_controlTold_87 : decode cX10_controlTold 87 = .ok (.getfield 143, 3) := by decide +kernel
theorem dX10_controlTold_90 : decode cX10_controlTold 90 = .ok (.ifCond .eq 4, 3) := by decide +kernel
theorem dX10_controlTold_93 : decode cX10_controlTold 93 = .ok (.return_, 1) := by decide +kernel
theorem dX10_controlTold_94 : decode cX10_controlTold 94 = .ok (.aload_n 0, 1) := by decide +kernel
theorem dX10_controlTold_95 : decode cX10_controlTold 95 = .ok (.getfield 76, 3) := by decide +kernel
theorem dX10_controlTold_98 : decode cX10_controlTold 98 = .ok (.iconst 2, 1) := by decide +kernel
theorem dX10_controlTold_99 : decode cX10_controlTold 99 = .ok (.iload_n 2, 1) := by decide +kernel
theorem dX10_controlTold_100 : decode cX10_controlTold 100 = .ok (.imul, 1) := by decide +kernel
theorem dX10_controlTold_101 : decode cX10_controlTold 101 = .ok (.iload_n 3, 1) := by decide +kernel
theorem dX10_controlTold_102 : decode cX10_controlTold 102 = .ok (.iastore, 1) := by decide +kernel
theorem dX10_controlTold_103 : decode cX10_controlTold 103 = .ok (.aload_n 0, 1) := by decide +kernel
theorem dX10_controlTold_104 : decode cX10_controlTold 104 = .ok (.getfield 76, 3) := by decide +kernel
theorem dX10_controlTold_107 : decode cX10_controlTold 107 = .ok (.iconst 2, 1) := by decide +kernel
theorem dX10_controlTold_108 : decode cX10_controlTold 108 = .ok (.iload_n 2, 1) := by decide +kernel
theorem dX10_controlTold_109 : decode cX10_controlTold 109 = .ok (.imul, 1) := by decide +kernel
theorem dX10_controlTold_110 : decode cX10_controlTold 110 = .ok (.iconst 1, 1) := by decide +kernel
theorem dX10_controlTold_111 : decode cX10_controlTold 111 = .ok (.iadd, 1) := by decide +kernel
theorem dX10_controlTold_112 : decode cX10_controlTold 112 = .ok (.iload 4, 2) := by decide +kernel
theorem dX10_controlTold_114 : decode cX10_controlTold 114 = .ok (.iastore, 1) := by decide +kernel
theorem dX10_controlTold_115 : decode cX10_controlTold 115 = .ok (.aload_n 0, 1) := by decide +kernel
theorem dX10_controlTold_116 : decode cX10_controlTold 116 = .ok (.getfield 73, 3) := by decide +kernel
theorem dX10_controlTold_119 : decode cX10_controlTold 119 = .ok (.iload_n 2, 1) := by decide +kernel
theorem dX10_controlTold_120 : decode cX10_controlTold 120 = .ok (.iload 5, 2) := by decide +kernel
theorem dX10_controlTold_122 : decode cX10_controlTold 122 = .ok (.iastore, 1) := by decide +kernel
theorem dX10_controlTold_123 : decode cX10_controlTold 123 = .ok (.aload_n 0, 1) := by decide +kernel
theorem dX10_controlTold_124 : decode cX10_controlTold 124 = .ok (.getfield 58, 3) := by decide +kernel
theorem dX10_controlTold_127 : decode cX10_controlTold 127 = .ok (.iconst 4, 1) := by decide +kernel
theorem dX10_controlTold_128 : decode cX10_controlTold 128 = .ok (.dup2, 1) := by decide +kernel
theorem dX10_controlTold_129 : decode cX10_controlTold 129 = .ok (.iaload, 1) := by decide +kernel
theorem dX10_controlTold_130 : decode cX10_controlTold 130 = .ok (.iconst 1, 1) := by decide +kernel
theorem dX10_controlTold_131 : decode cX10_controlTold 131 = .ok (.iadd, 1) := by decide +kernel
theorem dX10_controlTold_132 : decode cX10_controlTold 132 = .ok (.iastore, 1) := by decide +kernel
theorem dX10_controlTold_133 : decode cX10_controlTold 133 = .ok (.return_, 1) := by decide +kernel
theorem gcX10_centreTold__X10_centreTold_r1 : ∀ w ∈ wsX10_centreTold_r1, w ∈ wsX10_centreTold := fun w h => List.mem_cons_of_mem _ (List.mem_append_left _ (List.mem_append_left _ (h)))
theorem gcX10_centreTold__X10_centreTold_r2 : ∀ w ∈ wsX10_centreTold_r2, w ∈ wsX10_centreTold := fun w h => List.mem_cons_of_mem _ (List.mem_append_left _ (List.mem_append_right _ (List.mem_append_left _ (h))))
set_option maxRecDepth 20000 in
theorem gmX10_centreTold__X10_oneOf_r1 : ∀ w ∈ wsX10_oneOf_r1, w ∈ wsX10_centreTold := List.forall_mem_cons.mpr ⟨(gcX10_centreTold__X10_centreTold_r1 _ (List.mem_of_getElem? (i := 0) rfl)), List.forall_mem_cons.mpr ⟨(gcX10_centreTold__X10_centreTold_r1 _ (List.mem_of_getElem? (i := 2) rfl)), List.forall_mem_cons.mpr ⟨(gcX10_centreTold__X10_centreTold_r1 _ (List.mem_of_getElem? (i := 12) rfl)), List.forall_mem_cons.mpr ⟨(gcX10_centreTold__X10_centreTold_r1 _ (List.mem_of_getElem? (i := 13) rfl)), List.forall_mem_cons.mpr ⟨(gcX10_centreTold__X10_centreTold_r1 _ (List.mem_of_getElem? (i := 14) rfl)), List.forall_mem_cons.mpr ⟨(gcX10_centreTold__X10_centreTold_r1 _ (List.mem_of_getElem? (i := 10) rfl)), List.forall_mem_cons.mpr ⟨(gcX10_centreTold__X10_centreTold_r1 _ (List.mem_of_getElem? (i := 15) rfl)), List.forall_mem_cons.mpr ⟨(gcX10_centreTold__X10_centreTold_r1 _ (List.mem_of_getElem? (i := 16) rfl)), List.forall_mem_cons.mpr ⟨(gcX10_centreTold__X10_centreTold_r1 _ (List.mem_of_getElem? (i := 17) rfl)), List.forall_mem_cons.mpr ⟨(gcX10_centreTold__X10_centreTold_r1 _ (List.mem_of_getElem? (i := 18) rfl)), List.forall_mem_cons.mpr ⟨(gcX10_centreTold__X10_centreTold_r1 _ (List.mem_of_getElem? (i := 19) rfl)), List.forall_mem_cons.mpr ⟨(gcX10_centreTold__X10_centreTold_r1 _ (List.mem_of_getElem? (i := 20) rfl)), List.forall_mem_cons.mpr ⟨(gcX10_centreTold__X10_centreTold_r1 _ (List.mem_of_getElem? (i := 21) rfl)), List.forall_mem_cons.mpr ⟨(gcX10_centreTold__X10_centreTold_r1 _ (List.mem_of_getElem? (i := 22) rfl)), List.forall_mem_cons.mpr ⟨(gcX10_centreTold__X10_centreTold_r1 _ (List.mem_of_getElem? (i := 23) rfl)), List.forall_mem_cons.mpr ⟨(gcX10_centreTold__X10_centreTold_r2 _ (List.mem_of_getElem? (i := 0) rfl)), List.forall_mem_cons.mpr ⟨(gcX10_centreTold__X10_centreTold_r2 _ (List.mem_of_getElem? (i := 1) rfl)), List.forall_mem_cons.mpr ⟨(gcX10_centreTold__X10_centreTold_r2 _ (List.mem_of_getElem? (i := 2) rfl)), List.forall_mem_cons.mpr ⟨(gcX10_centreTold__X10_centreTold_r2 _ (List.mem_of_getElem? (i := 3) rfl)), List.forall_mem_cons.mpr ⟨(gcX10_centreTold__X10_centreTold_r2 _ (List.mem_of_getElem? (i := 4) rfl)), List.forall_mem_cons.mpr ⟨(gcX10_centreTold__X10_centreTold_r2 _ (List.mem_of_getElem? (i := 5) rfl)), List.forall_mem_cons.mpr ⟨(gcX10_centreTold__X10_centreTold_r2 _ (List.mem_of_getElem? (i := 6) rfl)), List.forall_mem_cons.mpr ⟨(gcX10_centreTold__X10_centreTold_r2 _ (List.mem_of_getElem? (i := 7) rfl)), List.forall_mem_cons.mpr ⟨(gcX10_centreTold__X10_centreTold_r2 _ (List.mem_of_getElem? (i := 8) rfl)), fun _ h => (List.not_mem_nil h).elim⟩⟩⟩⟩⟩⟩⟩⟩⟩⟩⟩⟩⟩⟩⟩⟩⟩⟩⟩⟩⟩⟩⟩⟩
theorem gcX10_centreTold__X10_centreTold_r3 : ∀ w ∈ wsX10_centreTold_r3, w ∈ wsX10_centreTold := fun w h => List.mem_cons_of_mem _ (List.mem_append_left _ (List.mem_append_right _ (List.mem_append_right _ (List.mem_append_left _ (h)))))
set_option maxRecDepth 20000 in
theorem gmX10_centreTold__X10_oneOf_r2 : ∀ w ∈ wsX10_oneOf_r2, w ∈ wsX10_centreTold := List.forall_mem_cons.mpr ⟨(gcX10_centreTold__X10_centreTold_r2 _ (List.mem_of_getElem? (i := 9) rfl)), List.forall_mem_cons.mpr ⟨(gcX10_centreTold__X10_centreTold_r2 _ (List.mem_of_getElem? (i := 10) rfl)), List.forall_mem_cons.mpr ⟨(gcX10_centreTold__X10_centreTold_r2 _ (List.mem_of_getElem? (i := 11) rfl)), List.forall_mem_cons.mpr ⟨(gcX10_centreTold__X10_centreTold_r2 _ (List.mem_of_getElem? (i := 12) rfl)), List.forall_mem_cons.mpr ⟨(gcX10_centreTold__X10_centreTold_r2 _ (List.mem_of_getElem? (i := 13) rfl)), List.forall_mem_cons.mpr ⟨(gcX10_centreTold__X10_centreTold_r2 _ (List.mem_of_getElem? (i := 14) rfl)), List.forall_mem_cons.mpr ⟨(gcX10_centreTold__X10_centreTold_r2 _ (List.mem_of_getElem? (i := 15) rfl)), List.forall_mem_cons.mpr ⟨(gcX10_centreTold__X10_centreTold_r1 _ (List.mem_of_getElem? (i := 3) rfl)), List.forall_mem_cons.mpr ⟨(gcX10_centreTold__X10_centreTold_r1 _ (List.mem_of_getElem? (i := 4) rfl)), List.forall_mem_cons.mpr ⟨(gcX10_centreTold__X10_centreTold_r2 _ (List.mem_of_getElem? (i := 16) rfl)), List.forall_mem_cons.mpr ⟨(gcX10_centreTold__X10_centreTold_r2 _ (List.mem_of_getElem? (i := 17) rfl)), List.forall_mem_cons.mpr ⟨(gcX10_centreTold__X10_centreTold_r2 _ (List.mem_of_getElem? (i := 18) rfl)), List.forall_mem_cons.mpr ⟨(gcX10_centreTold__X10_centreTold_r2 _ (List.mem_of_getElem? (i := 19) rfl)), List.forall_mem_cons.mpr ⟨(gcX10_centreTold__X10_centreTold_r2 _ (List.mem_of_getElem? (i := 20) rfl)), List.forall_mem_cons.mpr ⟨(gcX10_centreTold__X10_centreTold_r2 _ (List.mem_of_getElem? (i := 21) rfl)), List.forall_mem_cons.mpr ⟨(gcX10_centreTold__X10_centreTold_r2 _ (List.mem_of_getElem? (i := 22) rfl)), List.forall_mem_cons.mpr ⟨(gcX10_centreTold__X10_centreTold_r2 _ (List.mem_of_getElem? (i := 23) rfl)), List.forall_mem_cons.mpr ⟨(gcX10_centreTold__X10_centreTold_r3 _ (List.mem_of_getElem? (i := 0) rfl)), List.forall_mem_cons.mpr ⟨(gcX10_centreTold__X10_centreTold_r3 _ (List.mem_of_getElem? (i := 1) rfl)), List.forall_mem_cons.mpr ⟨(gcX10_centreTold__X10_centreTold_r3 _ (List.mem_of_getElem? (i := 2) rfl)), List.forall_mem_cons.mpr ⟨(gcX10_centreTold__X10_centreTold_r3 _ (List.mem_of_getElem? (i := 3) rfl)), List.forall_mem_cons.mpr ⟨(gcX10_centreTold__X10_centreTold_r3 _ (List.mem_of_getElem? (i := 4) rfl)), List.forall_mem_cons.mpr ⟨(gcX10_centreTold__X10_centreTold_r3 _ (List.mem_of_getElem? (i := 5) rfl)), List.forall_mem_cons.mpr ⟨(gcX10_centreTold__X10_centreTold_r3 _ (List.mem_of_getElem? (i := 6) rfl)), fun _ h => (List.not_mem_nil h).elim⟩⟩⟩⟩⟩⟩⟩⟩⟩⟩⟩⟩⟩⟩⟩⟩⟩⟩⟩⟩⟩⟩⟩⟩
set_option maxRecDepth 20000 in
theorem gmX10_centreTold__X10_oneOf_r3 : ∀ w ∈ wsX10_oneOf_r3, w ∈ wsX10_centreTold := List.forall_mem_cons.mpr ⟨(gcX10_centreTold__X10_centreTold_r3 _ (List.mem_of_getElem? (i := 7) rfl)), List.forall_mem_cons.mpr ⟨(gcX10_centreTold__X10_centreTold_r1 _ (List.mem_of_getElem? (i := 6) rfl)), List.forall_mem_cons.mpr ⟨(gcX10_centreTold__X10_centreTold_r3 _ (List.mem_of_getElem? (i := 8) rfl)), fun _ h => (List.not_mem_nil h).elim⟩⟩⟩
theorem gcX10_centreTold__X100 : ∀ w ∈ wsX100, w ∈ wsX10_centreTold := fun w h => List.mem_cons_of_mem _ (List.mem_append_right _ (h))
set_option maxRecDepth 20000 in
theorem ggX10_centreTold_X10_oneOf : GoodIn wsX10_centreTold wsX10_oneOf := goodIn_sub (List.forall_mem_cons.mpr ⟨(gcX10_centreTold__X10_centreTold_r1 _ (List.mem_of_getElem? (i := 11) rfl)), List.forall_mem_append.mpr ⟨List.forall_mem_append.mpr ⟨gmX10_centreTold__X10_oneOf_r1, List.forall_mem_append.mpr ⟨gmX10_centreTold__X10_oneOf_r2, gmX10_centreTold__X10_oneOf_r3⟩⟩, gcX10_centreTold__X100⟩⟩) gwX10_oneOf
set_option maxRecDepth 20000 in
theorem gX10_centreTold_X10_oneOf : GoodIn wsX10_centreTold (wsV RX10 218 RX10 yX10_oneOf wsX10_oneOf) := goodIn_app (goodIn_sub (List.forall_mem_cons.mpr ⟨(gcX10_centreTold__X10_centreTold_r1 _ (List.mem_of_getElem? (i := 7) rfl)), List.forall_mem_cons.mpr ⟨(gcX10_centreTold__X10_centreTold_r1 _ (List.mem_of_getElem? (i := 8) rfl)), List.forall_mem_cons.mpr ⟨(gcX10_centreTold__X10_centreTold_r1 _ (List.mem_of_getElem? (i := 9) rfl)), List.forall_mem_cons.mpr ⟨(gcX10_centreTold__X10_centreTold_r1 _ (List.mem_of_getElem? (i := 10) rfl)), fun _ h => (List.not_mem_nil h).elim⟩⟩⟩⟩) (by decide +kernel)) ggX10_centreTold_X10_oneOf
set_option maxRecDepth 20000 in
theorem ggX10_centreTold_X10_fail : GoodIn wsX10_centreTold wsX10_fail := goodIn_sub (List.forall_mem_cons.mpr ⟨(gcX10_centreTold__X10_centreTold_r3 _ (List.mem_of_getElem? (i := 2) rfl)), List.forall_mem_append.mpr ⟨List.forall_mem_cons.mpr ⟨(gcX10_centreTold__X10_centreTold_r1 _ (List.mem_of_getElem? (i := 0) rfl)), List.forall_mem_cons.mpr ⟨(gcX10_centreTold__X10_centreTold_r3 _ (List.mem_of_getElem? (i := 3) rfl)), fun _ h => (List.not_mem_nil h).elim⟩⟩, gcX10_centreTold__X100⟩⟩) gwX10_fail
set_option maxRecDepth 20000 in
theorem gX10_centreTold_X10_fail : GoodIn wsX10_centreTold (wsV RX10 173 RX10 yX10_fail wsX10_fail) := goodIn_app (goodIn_sub (List.forall_mem_cons.mpr ⟨(gcX10_centreTold__X10_centreTold_r2 _ (List.mem_of_getElem? (i := 23) rfl)), List.forall_mem_cons.mpr ⟨(gcX10_centreTold__X10_centreTold_r3 _ (List.mem_of_getElem? (i := 0) rfl)), List.forall_mem_cons.mpr ⟨(gcX10_centreTold__X10_centreTold_r3 _ (List.mem_of_getElem? (i := 1) rfl)), List.forall_mem_cons.mpr ⟨(gcX10_centreTold__X10_centreTold_r1 _ (List.mem_of_getElem? (i := 10) rfl)), fun _ h => (List.not_mem_nil h).elim⟩⟩⟩⟩) (by decide +kernel)) ggX10_centreTold_X10_fail
set_option maxRecDepth 20000 in
theorem gmX10_centreTold__X10_asks_r1 : ∀ w ∈ wsX10_asks_r1, w ∈ wsX10_centreTold := List.forall_mem_cons.mpr ⟨(gcX10_centreTold__X10_centreTold_r1 _ (List.mem_of_getElem? (i := 0) rfl)), List.forall_mem_cons.mpr ⟨(gcX10_centreTold__X10_centreTold_r1 _ (List.mem_of_getElem? (i := 16) rfl)), List.forall_mem_cons.mpr ⟨(gcX10_centreTold__X10_centreTold_r3 _ (List.mem_of_getElem? (i := 13) rfl)), List.forall_mem_cons.mpr ⟨(gcX10_centreTold__X10_centreTold_r3 _ (List.mem_of_getElem? (i := 14) rfl)), List.forall_mem_cons.mpr ⟨(gcX10_centreTold__X10_centreTold_r3 _ (List.mem_of_getElem? (i := 15) rfl)), List.forall_mem_cons.mpr ⟨(gcX10_centreTold__X10_centreTold_r1 _ (List.mem_of_getElem? (i := 10) rfl)), List.forall_mem_cons.mpr ⟨(gcX10_centreTold__X10_centreTold_r3 _ (List.mem_of_getElem? (i := 16) rfl)), List.forall_mem_cons.mpr ⟨(gcX10_centreTold__X10_centreTold_r1 _ (List.mem_of_getElem? (i := 17) rfl)), List.forall_mem_cons.mpr ⟨(gcX10_centreTold__X10_centreTold_r2 _ (List.mem_of_getElem? (i := 19) rfl)), List.forall_mem_cons.mpr ⟨(gcX10_centreTold__X10_centreTold_r2 _ (List.mem_of_getElem? (i := 20) rfl)), List.forall_mem_cons.mpr ⟨(gcX10_centreTold__X10_centreTold_r2 _ (List.mem_of_getElem? (i := 21) rfl)), List.forall_mem_cons.mpr ⟨(gcX10_centreTold__X10_centreTold_r2 _ (List.mem_of_getElem? (i := 22) rfl)), List.forall_mem_cons.mpr ⟨(gcX10_centreTold__X10_centreTold_r1 _ (List.mem_of_getElem? (i := 18) rfl)), List.forall_mem_cons.mpr ⟨(gcX10_centreTold__X10_centreTold_r1 _ (List.mem_of_getElem? (i := 19) rfl)), List.forall_mem_cons.mpr ⟨(gcX10_centreTold__X10_centreTold_r1 _ (List.mem_of_getElem? (i := 22) rfl)), List.forall_mem_cons.mpr ⟨(gcX10_centreTold__X10_centreTold_r1 _ (List.mem_of_getElem? (i := 23) rfl)), List.forall_mem_cons.mpr ⟨(gcX10_centreTold__X10_centreTold_r2 _ (List.mem_of_getElem? (i := 0) rfl)), List.forall_mem_cons.mpr ⟨(gcX10_centreTold__X10_centreTold_r2 _ (List.mem_of_getElem? (i := 1) rfl)), List.forall_mem_cons.mpr ⟨(gcX10_centreTold__X10_centreTold_r2 _ (List.mem_of_getElem? (i := 2) rfl)), List.forall_mem_cons.mpr ⟨(gcX10_centreTold__X10_centreTold_r2 _ (List.mem_of_getElem? (i := 3) rfl)), List.forall_mem_cons.mpr ⟨(gcX10_centreTold__X10_centreTold_r2 _ (List.mem_of_getElem? (i := 4) rfl)), List.forall_mem_cons.mpr ⟨(gcX10_centreTold__X10_centreTold_r2 _ (List.mem_of_getElem? (i := 23) rfl)), List.forall_mem_cons.mpr ⟨(gcX10_centreTold__X10_centreTold_r3 _ (List.mem_of_getElem? (i := 0) rfl)), List.forall_mem_cons.mpr ⟨(gcX10_centreTold__X10_centreTold_r3 _ (List.mem_of_getElem? (i := 1) rfl)), fun _ h => (List.not_mem_nil h).elim⟩⟩⟩⟩⟩⟩⟩⟩⟩⟩⟩⟩⟩⟩⟩⟩⟩⟩⟩⟩⟩⟩⟩⟩
set_option maxRecDepth 20000 in
theorem gmX10_centreTold__X10_asks_r2 : ∀ w ∈ wsX10_asks_r2, w ∈ wsX10_centreTold := List.forall_mem_cons.mpr ⟨(gcX10_centreTold__X10_centreTold_r3 _ (List.mem_of_getElem? (i := 2) rfl)), List.forall_mem_cons.mpr ⟨(gcX10_centreTold__X10_centreTold_r3 _ (List.mem_of_getElem? (i := 3) rfl)), fun _ h => (List.not_mem_nil h).elim⟩⟩
set_option maxRecDepth 20000 in
theorem ggX10_centreTold_X10_asks : GoodIn wsX10_centreTold wsX10_asks := goodIn_sub (List.forall_mem_cons.mpr ⟨(gcX10_centreTold__X10_centreTold_r3 _ (List.mem_of_getElem? (i := 12) rfl)), List.forall_mem_append.mpr ⟨List.forall_mem_append.mpr ⟨gmX10_centreTold__X10_asks_r1, gmX10_centreTold__X10_asks_r2⟩, gcX10_centreTold__X100⟩⟩) gwX10_asks
set_option maxRecDepth 20000 in
theorem gX10_centreTold_X10_asks : GoodIn wsX10_centreTold (wsV RX10 214 RX10 yX10_asks wsX10_asks) := goodIn_app (goodIn_sub (List.forall_mem_cons.mpr ⟨(gcX10_centreTold__X10_centreTold_r3 _ (List.mem_of_getElem? (i := 9) rfl)), List.forall_mem_cons.mpr ⟨(gcX10_centreTold__X10_centreTold_r3 _ (List.mem_of_getElem? (i := 10) rfl)), List.forall_mem_cons.mpr ⟨(gcX10_centreTold__X10_centreTold_r3 _ (List.mem_of_getElem? (i := 11) rfl)), List.forall_mem_cons.mpr ⟨(gcX10_centreTold__X10_centreTold_r1 _ (List.mem_of_getElem? (i := 10) rfl)), fun _ h => (List.not_mem_nil h).elim⟩⟩⟩⟩) (by decide +kernel)) ggX10_centreTold_X10_asks
theorem gcX10_centreTold__X10_centreTold_r4 : ∀ w ∈ wsX10_centreTold_r4, w ∈ wsX10_centreTold := fun w h => List.mem_cons_of_mem _ (List.mem_append_left _ (List.mem_append_right _ (List.mem_append_right _ (List.mem_append_right _ (h)))))
set_option maxRecDepth 20000 in
theorem ggX10_centreTold_X10_number : GoodIn wsX10_centreTold wsX10_number := goodIn_sub (List.forall_mem_cons.mpr ⟨(gcX10_centreTold__X10_centreTold_r3 _ (List.mem_of_getElem? (i := 20) rfl)), List.forall_mem_append.mpr ⟨List.forall_mem_cons.mpr ⟨(gcX10_centreTold__X10_centreTold_r1 _ (List.mem_of_getElem? (i := 0) rfl)), List.forall_mem_cons.mpr ⟨(gcX10_centreTold__X10_centreTold_r1 _ (List.mem_of_getElem? (i := 16) rfl)), List.forall_mem_cons.mpr ⟨(gcX10_centreTold__X10_centreTold_r1 _ (List.mem_of_getElem? (i := 17) rfl)), List.forall_mem_cons.mpr ⟨(gcX10_centreTold__X10_centreTold_r1 _ (List.mem_of_getElem? (i := 18) rfl)), List.forall_mem_cons.mpr ⟨(gcX10_centreTold__X10_centreTold_r1 _ (List.mem_of_getElem? (i := 19) rfl)), List.forall_mem_cons.mpr ⟨(gcX10_centreTold__X10_centreTold_r1 _ (List.mem_of_getElem? (i := 22) rfl)), List.forall_mem_cons.mpr ⟨(gcX10_centreTold__X10_centreTold_r1 _ (List.mem_of_getElem? (i := 23) rfl)), List.forall_mem_cons.mpr ⟨(gcX10_centreTold__X10_centreTold_r2 _ (List.mem_of_getElem? (i := 0) rfl)), List.forall_mem_cons.mpr ⟨(gcX10_centreTold__X10_centreTold_r1 _ (List.mem_of_getElem? (i := 10) rfl)), List.forall_mem_cons.mpr ⟨(gcX10_centreTold__X10_centreTold_r2 _ (List.mem_of_getElem? (i := 1) rfl)), List.forall_mem_cons.mpr ⟨(gcX10_centreTold__X10_centreTold_r3 _ (List.mem_of_getElem? (i := 21) rfl)), List.forall_mem_cons.mpr ⟨(gcX10_centreTold__X10_centreTold_r3 _ (List.mem_of_getElem? (i := 22) rfl)), List.forall_mem_cons.mpr ⟨(gcX10_centreTold__X10_centreTold_r3 _ (List.mem_of_getElem? (i := 23) rfl)), List.forall_mem_cons.mpr ⟨(gcX10_centreTold__X10_centreTold_r2 _ (List.mem_of_getElem? (i := 23) rfl)), List.forall_mem_cons.mpr ⟨(gcX10_centreTold__X10_centreTold_r3 _ (List.mem_of_getElem? (i := 0) rfl)), List.forall_mem_cons.mpr ⟨(gcX10_centreTold__X10_centreTold_r3 _ (List.mem_of_getElem? (i := 1) rfl)), List.forall_mem_cons.mpr ⟨(gcX10_centreTold__X10_centreTold_r3 _ (List.mem_of_getElem? (i := 2) rfl)), List.forall_mem_cons.mpr ⟨(gcX10_centreTold__X10_centreTold_r3 _ (List.mem_of_getElem? (i := 3) rfl)), List.forall_mem_cons.mpr ⟨(gcX10_centreTold__X10_centreTold_r4 _ (List.mem_of_getElem? (i := 0) rfl)), List.forall_mem_cons.mpr ⟨(gcX10_centreTold__X10_centreTold_r4 _ (List.mem_of_getElem? (i := 1) rfl)), List.forall_mem_cons.mpr ⟨(gcX10_centreTold__X10_centreTold_r4 _ (List.mem_of_getElem? (i := 2) rfl)), fun _ h => (List.not_mem_nil h).elim⟩⟩⟩⟩⟩⟩⟩⟩⟩⟩⟩⟩⟩⟩⟩⟩⟩⟩⟩⟩⟩, gcX10_centreTold__X100⟩⟩) gwX10_number
set_option maxRecDepth 20000 in
theorem gX10_centreTold_X10_number : GoodIn wsX10_centreTold (wsV RX10 221 RX10 yX10_number wsX10_number) := goodIn_app (goodIn_sub (List.forall_mem_cons.mpr ⟨(gcX10_centreTold__X10_centreTold_r3 _ (List.mem_of_getElem? (i := 17) rfl)), List.forall_mem_cons.mpr ⟨(gcX10_centreTold__X10_centreTold_r3 _ (List.mem_of_getElem? (i := 18) rfl)), List.forall_mem_cons.mpr ⟨(gcX10_centreTold__X10_centreTold_r3 _ (List.mem_of_getElem? (i := 19) rfl)), List.forall_mem_cons.mpr ⟨(gcX10_centreTold__X10_centreTold_r1 _ (List.mem_of_getElem? (i := 10) rfl)), fun _ h => (List.not_mem_nil h).elim⟩⟩⟩⟩) (by decide +kernel)) ggX10_centreTold_X10_number
theorem dX10_centreTold_0 : decode cX10_centreTold 0 = .ok (.aload_n 0, 1) := by decide +kernel
theorem dX10_centreTold_1 : decode cX10_centreTold 1 = .ok (.iconst 1, 1) := by decide +kernel
theorem dX10_centreTold_2 : decode cX10_centreTold 2 = .ok (.invokevirtual 218, 3) := by decide +kernel
theorem dX10_centreTold_5 : decode cX10_centreTold 5 = .ok (.istore_n 1, 1) := by decide +kernel
theorem dX10_centreTold_6 : decode cX10_centreTold 6 = .ok (.aload_n 0, 1) := by decide +kernel
theorem dX10_centreTold_7 : decode cX10_centreTold 7 = .ok (.getfield 143, 3) := by decide +kernel
theorem dX10_centreTold_10 : decode cX10_centreTold 10 = .ok (.ifCond .ne 21, 3) := by decide +kernel
theorem dX10_centreTold_13 : decode cX10_centreTold 13 = .ok (.aload_n 0, 1) := by decide +kernel
theorem dX10_centreTold_14 : decode cX10_centreTold 14 = .ok (.getfield 67, 3) := by decide +kernel
theorem dX10_centreTold_17 : decode cX10_centreTold 17 = .ok (.iload_n 1, 1) := by decide +kernel
theorem dX10_centreTold_18 : decode cX10_centreTold 18 = .ok (.iaload, 1) := by decide +kernel
theorem dX10_centreTold_19 : decode cX10_centreTold 19 = .ok (.ifCond .eq 12, 3) := by decide +kernel
theorem dX10_centreTold_22 : decode cX10_centreTold 22 = .ok (.aload_n 0, 1) := by decide +kernel
theorem dX10_centreTold_23 : decode cX10_centreTold 23 = .ok (.iconst 3, 1) := by decide +kernel
theorem dX10_centreTold_24 : decode cX10_centreTold 24 = .ok (.aload_n 0, 1) := by decide +kernel
theorem dX10_centreTold_25 : decode cX10_centreTold 25 = .ok (.getfield 191, 3) := by decide +kernel
theorem dX10_centreTold_28 : decode cX10_centreTold 28 = .ok (.invokevirtual 173, 3) := by decide +kernel
theorem dX10_centreTold_31 : decode cX10_centreTold 31 = .ok (.aload_n 0, 1) := by decide +kernel
theorem dX10_centreTold_32 : decode cX10_centreTold 32 = .ok (.aload_n 0, 1) := by decide +kernel
theorem dX10_centreTold_33 : decode cX10_centreTold 33 = .ok (.getfield 39, 3) := by decide +kernel
theorem dX10_centreTold_36 : decode cX10_centreTold 36 = .ok (.invokevirtual 214, 3) := by decide +kernel
theorem dX10_centreTold_39 : decode cX10_centreTold 39 = .ok (.aload_n 0, 1) := by decide +kernel
theorem dX10_centreTold_40 : decode cX10_centreTold 40 = .ok (.iconst 0, 1) := by decide +kernel
theorem dX10_centreTold_41 : decode cX10_centreTold 41 = .ok (.sipush 9999, 3) := by decide +kernel
theorem dX10_centreTold_44 : decode cX10_centreTold 44 = .ok (.invokevirtual 221, 3) := by decide +kernel
theorem dX10_centreTold_47 : decode cX10_centreTold 47 = .ok (.istore_n 2, 1) := by decide +kernel
theorem dX10_centreTold_48 : decode cX10_centreTold 48 = .ok (.aload_n 0, 1) := by decide +kernel
theorem dX10_centreTold_49 : decode cX10_centreTold 49 = .ok (.iconst 0, 1) := by decide +kernel
theorem dX10_centreTold_50 : decode cX10_centreTold 50 = .ok (.sipush 9999, 3) := by decide +kernel
theorem dX10_centreTold_53 : decode cX10_centreTold 53 = .ok (.invokevirtual 221, 3) := by decide +kernel
theorem dX10_centreTold_56 : decode cX10_centreTold 56 = .ok (.istore_n 3, 1) := by decide +kernel
theorem dX10_centreTold_57 : decode cX10_centreTold 57 = .ok (.aload_n 0, 1) := by decide +kernel
theorem dX10_centreTold_58 : decode cX10_centreTold 58 = .ok (.aload_n 0, 1) := by decide +kernel
theorem dX10_centreTold_59 : decode cX10_centreTold 59 = .ok (.getfield 42, 3) := by decide +kernel
theorem dX10_centreTold_62 : decode cX10_centreTold 62 = .ok (.invokevirtual 214, 3) := by decide +kernel
theorem dX10_centreTold_65 : decode cX10_centreTold 65 = .ok (.aload_n 0, 1) := by decide +kernel
theorem dX10_centreTold_66 : decode cX10_centreTold 66 = .ok (.iconst 1, 1) := by decide +kernel
theorem dX10_centreTold_67 : decode cX10_centreTold 67 = .ok (.bipush 9, 2) := by decide +kernel
theorem dX10_centreTold_69 : decode cX10_centreTold 69 = .ok (.invokevirtual 221, 3) := by decide +kernel
theorem dX10_centreTold_72 : decode cX10_centreTold 72 = .ok (.istore 4, 2) := by decide +kernel
theorem dX10_centreTold_74 : decode cX10_centreTold 74 = .ok (.aload_n 0, 1) := by decide +kernel
theorem dX10_centreTold_75 : decode cX10_centreTold 75 = .ok (.getfield 143, 3) := by decide +kernel
theorem dX10_centreTold_78 : decode cX10_centreTold 78 = .ok (.ifCond .eq 4, 3) := by decide +kernel
theorem dX10_centreTold_81 : decode cX10_centreTold 81 = .ok (.return_, 1) := by decide +kernel
theorem dX10_centreTold_82 : decode cX10_centreTold 82 = .ok (.aload_n 0, 1) := by decide +kernel
theorem dX10_centreTold_83 : decode cX10_centreTold 83 = .ok (.getfield 70, 3) := by decide +kernel
theorem dX10_centreTold_86 : decode cX10_centreTold 86 = .ok (.iconst 2, 1) := by decide +kernel
theorem dX10_centreTold_87 : decode cX10_centreTold 87 = .ok (.iload_n 1, 1) := by decide +kernel
theorem dX10_centreTold_88 : decode cX10_centreTold 88 = .ok (.imul, 1) := by decide +kernel
theorem dX10_centreTold_89 : decode cX10_centreTold 89 = .ok (.iload_n 2, 1) := by decide +kernel
theorem dX10_centreTold_90 : decode cX10_centreTold 90 = .ok (.iastore, 1) := by decide +kernel
theorem dX10_centreTold_91 : decode cX10_centreTold 91 = .ok (.aload_n 0, 1) := by decide +kernel
theorem dX10_centreTold_92 : decode cX10_centreTold 92 = .ok (.getfield 70, 3) := by decide +kernel
theorem dX10_centreTold_95 : decode cX10_centreTold 95 = .ok (.iconst 2, 1) := by decide +kernel
theorem dX10_centreTold_96 : decode cX10_centreTold 96 = .ok (.iload_n 1, 1) := by decide +kernel
theorem dX10_centreTold_97 : decode cX10_centreTold 97 = .ok (.imul, 1) := by decide +kernel
theorem dX10_centreTold_98 : decode cX10_centreTold 98 = .ok (.iconst 1, 1) := by decide +kernel
theorem dX10_centreTold_99 : decode cX10_centreTold 99 = .ok (.iadd, 1) := by decide +kernel
theorem dX10_centreTold_100 : decode cX10_centreTold 100 = .ok (.iload_n 3, 1) := by decide +kernel
theorem dX10_centreTold_101 : decode cX10_centreTold 101 = .ok (.iastore, 1) := by decide +kernel
theorem dX10_centreTold_102 : decode cX10_centreTold 102 = .ok (.aload_n 0, 1) := by decide +kernel
