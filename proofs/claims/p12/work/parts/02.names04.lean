theorem gcX3_readCentre__X30 : ∀ w ∈ wsX30, w ∈ wsX3_readCentre := fun w h => List.mem_cons_of_mem _ (List.mem_append_left _ (List.mem_append_right _ (h)))
theorem gcX3_readCentre__X80 : ∀ w ∈ wsX80, w ∈ wsX3_readCentre := fun w h => List.mem_cons_of_mem _ (List.mem_append_right _ (h))
set_option maxRecDepth 20000 in
theorem ggX3_readCentre_X3_readName : GoodIn wsX3_readCentre wsX3_readName := goodIn_sub (List.forall_mem_cons.mpr ⟨(gcX3_readCentre__X3_readCentre_r1 _ (List.mem_of_getElem? (i := 11) rfl)), List.forall_mem_append.mpr ⟨List.forall_mem_append.mpr ⟨List.forall_mem_append.mpr ⟨gmX3_readCentre__X3_readName_r1, List.forall_mem_append.mpr ⟨gmX3_readCentre__X3_readName_r2, List.forall_mem_append.mpr ⟨gmX3_readCentre__X3_readName_r3, List.forall_mem_append.mpr ⟨gmX3_readCentre__X3_readName_r4, gmX3_readCentre__X3_readName_r5⟩⟩⟩⟩, gcX3_readCentre__X30⟩, gcX3_readCentre__X80⟩⟩) gwX3_readName
set_option maxRecDepth 20000 in
theorem gX3_readCentre_X3_readName : GoodIn wsX3_readCentre (wsV RX3 138 RX3 yX3_readName wsX3_readName) := goodIn_app (goodIn_sub (List.forall_mem_cons.mpr ⟨(gcX3_readCentre__X3_readCentre_r1 _ (List.mem_of_getElem? (i := 7) rfl)), List.forall_mem_cons.mpr ⟨(gcX3_readCentre__X3_readCentre_r1 _ (List.mem_of_getElem? (i := 8) rfl)), List.forall_mem_cons.mpr ⟨(gcX3_readCentre__X3_readCentre_r1 _ (List.mem_of_getElem? (i := 9) rfl)), List.forall_mem_cons.mpr ⟨(gcX3_readCentre__X3_readCentre_r1 _ (List.mem_of_getElem? (i := 10) rfl)), fun _ h => (List.not_mem_nil h).elim⟩⟩⟩⟩) (by decide +kernel)) ggX3_readCentre_X3_readName
set_option maxRecDepth 20000 in
theorem ggX3_readCentre_X3_fail : GoodIn wsX3_readCentre wsX3_fail := goodIn_sub (List.forall_mem_cons.mpr ⟨(gcX3_readCentre__X3_readCentre_r4 _ (List.mem_of_getElem? (i := 18) rfl)), List.forall_mem_append.mpr ⟨List.forall_mem_cons.mpr ⟨(gcX3_readCentre__X3_readCentre_r4 _ (List.mem_of_getElem? (i := 19) rfl)), List.forall_mem_cons.mpr ⟨(gcX3_readCentre__X3_readCentre_r4 _ (List.mem_of_getElem? (i := 20) rfl)), fun _ h => (List.not_mem_nil h).elim⟩⟩, gcX3_readCentre__X30⟩⟩) gwX3_fail
set_option maxRecDepth 20000 in
theorem gX3_readCentre_X3_fail : GoodIn wsX3_readCentre (wsV RX3 78 RX3 yX3_fail wsX3_fail) := goodIn_app (goodIn_sub (List.forall_mem_cons.mpr ⟨(gcX3_readCentre__X3_readCentre_r4 _ (List.mem_of_getElem? (i := 15) rfl)), List.forall_mem_cons.mpr ⟨(gcX3_readCentre__X3_readCentre_r4 _ (List.mem_of_getElem? (i := 16) rfl)), List.forall_mem_cons.mpr ⟨(gcX3_readCentre__X3_readCentre_r4 _ (List.mem_of_getElem? (i := 17) rfl)), List.forall_mem_cons.mpr ⟨(gcX3_readCentre__X3_readCentre_r1 _ (List.mem_of_getElem? (i := 10) rfl)), fun _ h => (List.not_mem_nil h).elim⟩⟩⟩⟩) (by decide +kernel)) ggX3_readCentre_X3_fail
set_option maxRecDepth 20000 in
theorem gmX3_readCentre__X3_readAt_r1 : ∀ w ∈ wsX3_readAt_r1, w ∈ wsX3_readCentre := List.forall_mem_cons.mpr ⟨(gcX3_readCentre__X3_readCentre_r1 _ (List.mem_of_getElem? (i := 6) rfl)), List.forall_mem_cons.mpr ⟨(gcX3_readCentre__X3_readCentre_r1 _ (List.mem_of_getElem? (i := 4) rfl)), List.forall_mem_cons.mpr ⟨(gcX3_readCentre__X3_readCentre_r1 _ (List.mem_of_getElem? (i := 5) rfl)), List.forall_mem_cons.mpr ⟨(gcX3_readCentre__X3_readCentre_r5 _ (List.mem_of_getElem? (i := 17) rfl)), List.forall_mem_cons.mpr ⟨(gcX3_readCentre__X3_readCentre_r5 _ (List.mem_of_getElem? (i := 18) rfl)), List.forall_mem_cons.mpr ⟨(gcX3_readCentre__X3_readCentre_r5 _ (List.mem_of_getElem? (i := 19) rfl)), List.forall_mem_cons.mpr ⟨(gcX3_readCentre__X3_readCentre_r1 _ (List.mem_of_getElem? (i := 10) rfl)), List.forall_mem_cons.mpr ⟨(gcX3_readCentre__X3_readCentre_r5 _ (List.mem_of_getElem? (i := 20) rfl)), List.forall_mem_cons.mpr ⟨(gcX3_readCentre__X3_readCentre_r1 _ (List.mem_of_getElem? (i := 3) rfl)), List.forall_mem_cons.mpr ⟨(gcX3_readCentre__X3_readCentre_r1 _ (List.mem_of_getElem? (i := 15) rfl)), List.forall_mem_cons.mpr ⟨(gcX3_readCentre__X3_readCentre_r1 _ (List.mem_of_getElem? (i := 16) rfl)), List.forall_mem_cons.mpr ⟨(gcX3_readCentre__X3_readCentre_r1 _ (List.mem_of_getElem? (i := 17) rfl)), List.forall_mem_cons.mpr ⟨(gcX3_readCentre__X3_readCentre_r1 _ (List.mem_of_getElem? (i := 18) rfl)), List.forall_mem_cons.mpr ⟨(gcX3_readCentre__X3_readCentre_r1 _ (List.mem_of_getElem? (i := 19) rfl)), List.forall_mem_cons.mpr ⟨(gcX3_readCentre__X3_readCentre_r1 _ (List.mem_of_getElem? (i := 12) rfl)), List.forall_mem_cons.mpr ⟨(gcX3_readCentre__X3_readCentre_r1 _ (List.mem_of_getElem? (i := 20) rfl)), List.forall_mem_cons.mpr ⟨(gcX3_readCentre__X3_readCentre_r1 _ (List.mem_of_getElem? (i := 14) rfl)), List.forall_mem_cons.mpr ⟨(gcX3_readCentre__X3_readCentre_r1 _ (List.mem_of_getElem? (i := 21) rfl)), List.forall_mem_cons.mpr ⟨(gcX3_readCentre__X3_readCentre_r1 _ (List.mem_of_getElem? (i := 22) rfl)), List.forall_mem_cons.mpr ⟨(gcX3_readCentre__X3_readCentre_r1 _ (List.mem_of_getElem? (i := 23) rfl)), List.forall_mem_cons.mpr ⟨(gcX3_readCentre__X3_readCentre_r2 _ (List.mem_of_getElem? (i := 0) rfl)), List.forall_mem_cons.mpr ⟨(gcX3_readCentre__X3_readCentre_r2 _ (List.mem_of_getElem? (i := 1) rfl)), List.forall_mem_cons.mpr ⟨(gcX3_readCentre__X3_readCentre_r2 _ (List.mem_of_getElem? (i := 2) rfl)), List.forall_mem_cons.mpr ⟨(gcX3_readCentre__X3_readCentre_r2 _ (List.mem_of_getElem? (i := 3) rfl)), fun _ h => (List.not_mem_nil h).elim⟩⟩⟩⟩⟩⟩⟩⟩⟩⟩⟩⟩⟩⟩⟩⟩⟩⟩⟩⟩⟩⟩⟩⟩
set_option maxRecDepth 20000 in
theorem gmX3_readCentre__X3_readAt_r2 : ∀ w ∈ wsX3_readAt_r2, w ∈ wsX3_readCentre := List.forall_mem_cons.mpr ⟨(gcX3_readCentre__X3_readCentre_r2 _ (List.mem_of_getElem? (i := 4) rfl)), List.forall_mem_cons.mpr ⟨(gcX3_readCentre__X3_readCentre_r2 _ (List.mem_of_getElem? (i := 5) rfl)), List.forall_mem_cons.mpr ⟨(gcX3_readCentre__X3_readCentre_r2 _ (List.mem_of_getElem? (i := 10) rfl)), List.forall_mem_cons.mpr ⟨(gcX3_readCentre__X3_readCentre_r2 _ (List.mem_of_getElem? (i := 11) rfl)), List.forall_mem_cons.mpr ⟨(gcX3_readCentre__X3_readCentre_r2 _ (List.mem_of_getElem? (i := 12) rfl)), List.forall_mem_cons.mpr ⟨(gcX3_readCentre__X3_readCentre_r2 _ (List.mem_of_getElem? (i := 13) rfl)), List.forall_mem_cons.mpr ⟨(gcX3_readCentre__X3_readCentre_r2 _ (List.mem_of_getElem? (i := 14) rfl)), List.forall_mem_cons.mpr ⟨(gcX3_readCentre__X3_readCentre_r2 _ (List.mem_of_getElem? (i := 15) rfl)), List.forall_mem_cons.mpr ⟨(gcX3_readCentre__X3_readCentre_r2 _ (List.mem_of_getElem? (i := 16) rfl)), List.forall_mem_cons.mpr ⟨(gcX3_readCentre__X3_readCentre_r2 _ (List.mem_of_getElem? (i := 17) rfl)), List.forall_mem_cons.mpr ⟨(gcX3_readCentre__X3_readCentre_r2 _ (List.mem_of_getElem? (i := 18) rfl)), List.forall_mem_cons.mpr ⟨(gcX3_readCentre__X3_readCentre_r2 _ (List.mem_of_getElem? (i := 19) rfl)), List.forall_mem_cons.mpr ⟨(gcX3_readCentre__X3_readCentre_r2 _ (List.mem_of_getElem? (i := 20) rfl)), List.forall_mem_cons.mpr ⟨(gcX3_readCentre__X3_readCentre_r2 _ (List.mem_of_getElem? (i := 21) rfl)), List.forall_mem_cons.mpr ⟨(gcX3_readCentre__X3_readCentre_r2 _ (List.mem_of_getElem? (i := 22) rfl)), List.forall_mem_cons.mpr ⟨(gcX3_readCentre__X3_readCentre_r2 _ (List.mem_of_getElem? (i := 23) rfl)), List.forall_mem_cons.mpr ⟨(gcX3_readCentre__X3_readCentre_r3 _ (List.mem_of_getElem? (i := 0) rfl)), List.forall_mem_cons.mpr ⟨(gcX3_readCentre__X3_readCentre_r3 _ (List.mem_of_getElem? (i := 1) rfl)), List.forall_mem_cons.mpr ⟨(gcX3_readCentre__X3_readCentre_r3 _ (List.mem_of_getElem? (i := 2) rfl)), List.forall_mem_cons.mpr ⟨(gcX3_readCentre__X3_readCentre_r3 _ (List.mem_of_getElem? (i := 3) rfl)), List.forall_mem_cons.mpr ⟨(gcX3_readCentre__X3_readCentre_r3 _ (List.mem_of_getElem? (i := 4) rfl)), List.forall_mem_cons.mpr ⟨(gcX3_readCentre__X3_readCentre_r3 _ (List.mem_of_getElem? (i := 5) rfl)), List.forall_mem_cons.mpr ⟨(gcX3_readCentre__X3_readCentre_r3 _ (List.mem_of_getElem? (i := 6) rfl)), List.forall_mem_cons.mpr ⟨(gcX3_readCentre__X3_readCentre_r3 _ (List.mem_of_getElem? (i := 7) rfl)), fun _ h => (List.not_mem_nil h).elim⟩⟩⟩⟩⟩⟩⟩⟩⟩⟩⟩⟩⟩⟩⟩⟩⟩⟩⟩⟩⟩⟩⟩⟩
set_option maxRecDepth 20000 in
theorem gmX3_readCentre__X3_readAt_r3 : ∀ w ∈ wsX3_readAt_r3, w ∈ wsX3_readCentre := List.forall_mem_cons.mpr ⟨(gcX3_readCentre__X3_readCentre_r3 _ (List.mem_of_getElem? (i := 8) rfl)), List.forall_mem_cons.mpr ⟨(gcX3_readCentre__X3_readCentre_r3 _ (List.mem_of_getElem? (i := 9) rfl)), List.forall_mem_cons.mpr ⟨(gcX3_readCentre__X3_readCentre_r3 _ (List.mem_of_getElem? (i := 10) rfl)), List.forall_mem_cons.mpr ⟨(gcX3_readCentre__X3_readCentre_r3 _ (List.mem_of_getElem? (i := 11) rfl)), List.forall_mem_cons.mpr ⟨(gcX3_readCentre__X3_readCentre_r3 _ (List.mem_of_getElem? (i := 12) rfl)), List.forall_mem_cons.mpr ⟨(gcX3_readCentre__X3_readCentre_r3 _ (List.mem_of_getElem? (i := 13) rfl)), List.forall_mem_cons.mpr ⟨(gcX3_readCentre__X3_readCentre_r3 _ (List.mem_of_getElem? (i := 14) rfl)), List.forall_mem_cons.mpr ⟨(gcX3_readCentre__X3_readCentre_r3 _ (List.mem_of_getElem? (i := 15) rfl)), List.forall_mem_cons.mpr ⟨(gcX3_readCentre__X3_readCentre_r3 _ (List.mem_of_getElem? (i := 16) rfl)), List.forall_mem_cons.mpr ⟨(gcX3_readCentre__X3_readCentre_r3 _ (List.mem_of_getElem? (i := 17) rfl)), List.forall_mem_cons.mpr ⟨(gcX3_readCentre__X3_readCentre_r3 _ (List.mem_of_getElem? (i := 18) rfl)), List.forall_mem_cons.mpr ⟨(gcX3_readCentre__X3_readCentre_r3 _ (List.mem_of_getElem? (i := 19) rfl)), List.forall_mem_cons.mpr ⟨(gcX3_readCentre__X3_readCentre_r3 _ (List.mem_of_getElem? (i := 20) rfl)), List.forall_mem_cons.mpr ⟨(gcX3_readCentre__X3_readCentre_r3 _ (List.mem_of_getElem? (i := 21) rfl)), List.forall_mem_cons.mpr ⟨(gcX3_readCentre__X3_readCentre_r3 _ (List.mem_of_getElem? (i := 22) rfl)), List.forall_mem_cons.mpr ⟨(gcX3_readCentre__X3_readCentre_r3 _ (List.mem_of_getElem? (i := 23) rfl)), List.forall_mem_cons.mpr ⟨(gcX3_readCentre__X3_readCentre_r4 _ (List.mem_of_getElem? (i := 0) rfl)), List.forall_mem_cons.mpr ⟨(gcX3_readCentre__X3_readCentre_r4 _ (List.mem_of_getElem? (i := 1) rfl)), List.forall_mem_cons.mpr ⟨(gcX3_readCentre__X3_readCentre_r4 _ (List.mem_of_getElem? (i := 2) rfl)), List.forall_mem_cons.mpr ⟨(gcX3_readCentre__X3_readCentre_r4 _ (List.mem_of_getElem? (i := 3) rfl)), List.forall_mem_cons.mpr ⟨(gcX3_readCentre__X3_readCentre_r4 _ (List.mem_of_getElem? (i := 4) rfl)), List.forall_mem_cons.mpr ⟨(gcX3_readCentre__X3_readCentre_r4 _ (List.mem_of_getElem? (i := 5) rfl)), List.forall_mem_cons.mpr ⟨(gcX3_readCentre__X3_readCentre_r4 _ (List.mem_of_getElem? (i := 6) rfl)), List.forall_mem_cons.mpr ⟨(gcX3_readCentre__X3_readCentre_r4 _ (List.mem_of_getElem? (i := 7) rfl)), fun _ h => (List.not_mem_nil h).elim⟩⟩⟩⟩⟩⟩⟩⟩⟩⟩⟩⟩⟩⟩⟩⟩⟩⟩⟩⟩⟩⟩⟩⟩
theorem gcX3_readCentre__X3_readCentre_r6 : ∀ w ∈ wsX3_readCentre_r6, w ∈ wsX3_readCentre := fun w h => List.mem_cons_of_mem _ (List.mem_append_left _ (List.mem_append_left _ (List.mem_append_right _ (List.mem_append_right _ (List.mem_append_right _ (List.mem_append_right _ (List.mem_append_right _ (h))))))))
set_option maxRecDepth 20000 in
theorem gmX3_readCentre__X3_readAt_r4 : ∀ w ∈ wsX3_readAt_r4, w ∈ wsX3_readCentre := List.forall_mem_cons.mpr ⟨(gcX3_readCentre__X3_readCentre_r4 _ (List.mem_of_getElem? (i := 8) rfl)), List.forall_mem_cons.mpr ⟨(gcX3_readCentre__X3_readCentre_r4 _ (List.mem_of_getElem? (i := 9) rfl)), List.forall_mem_cons.mpr ⟨(gcX3_readCentre__X3_readCentre_r4 _ (List.mem_of_getElem? (i := 10) rfl)), List.forall_mem_cons.mpr ⟨(gcX3_readCentre__X3_readCentre_r4 _ (List.mem_of_getElem? (i := 11) rfl)), List.forall_mem_cons.mpr ⟨(gcX3_readCentre__X3_readCentre_r4 _ (List.mem_of_getElem? (i := 12) rfl)), List.forall_mem_cons.mpr ⟨(gcX3_readCentre__X3_readCentre_r4 _ (List.mem_of_getElem? (i := 13) rfl)), List.forall_mem_cons.mpr ⟨(gcX3_readCentre__X3_readCentre_r4 _ (List.mem_of_getElem? (i := 14) rfl)), List.forall_mem_cons.mpr ⟨(gcX3_readCentre__X3_readCentre_r4 _ (List.mem_of_getElem? (i := 15) rfl)), List.forall_mem_cons.mpr ⟨(gcX3_readCentre__X3_readCentre_r4 _ (List.mem_of_getElem? (i := 16) rfl)), List.forall_mem_cons.mpr ⟨(gcX3_readCentre__X3_readCentre_r4 _ (List.mem_of_getElem? (i := 17) rfl)), List.forall_mem_cons.mpr ⟨(gcX3_readCentre__X3_readCentre_r4 _ (List.mem_of_getElem? (i := 18) rfl)), List.forall_mem_cons.mpr ⟨(gcX3_readCentre__X3_readCentre_r4 _ (List.mem_of_getElem? (i := 19) rfl)), List.forall_mem_cons.mpr ⟨(gcX3_readCentre__X3_readCentre_r4 _ (List.mem_of_getElem? (i := 20) rfl)), List.forall_mem_cons.mpr ⟨(gcX3_readCentre__X3_readCentre_r4 _ (List.mem_of_getElem? (i := 21) rfl)), List.forall_mem_cons.mpr ⟨(gcX3_readCentre__X3_readCentre_r4 _ (List.mem_of_getElem? (i := 22) rfl)), List.forall_mem_cons.mpr ⟨(gcX3_readCentre__X3_readCentre_r4 _ (List.mem_of_getElem? (i := 23) rfl)), List.forall_mem_cons.mpr ⟨(gcX3_readCentre__X3_readCentre_r5 _ (List.mem_of_getElem? (i := 0) rfl)), List.forall_mem_cons.mpr ⟨(gcX3_readCentre__X3_readCentre_r5 _ (List.mem_of_getElem? (i := 21) rfl)), List.forall_mem_cons.mpr ⟨(gcX3_readCentre__X3_readCentre_r5 _ (List.mem_of_getElem? (i := 22) rfl)), List.forall_mem_cons.mpr ⟨(gcX3_readCentre__X3_readCentre_r5 _ (List.mem_of_getElem? (i := 23) rfl)), List.forall_mem_cons.mpr ⟨(gcX3_readCentre__X3_readCentre_r6 _ (List.mem_of_getElem? (i := 0) rfl)), fun _ h => (List.not_mem_nil h).elim⟩⟩⟩⟩⟩⟩⟩⟩⟩⟩⟩⟩⟩⟩⟩⟩⟩⟩⟩⟩⟩
set_option maxRecDepth 20000 in
theorem ggX3_readCentre_X3_readAt : GoodIn wsX3_readCentre wsX3_readAt := goodIn_sub (List.forall_mem_cons.mpr ⟨(gcX3_readCentre__X3_readCentre_r5 _ (List.mem_of_getElem? (i := 16) rfl)), List.forall_mem_append.mpr ⟨List.forall_mem_append.mpr ⟨gmX3_readCentre__X3_readAt_r1, List.forall_mem_append.mpr ⟨gmX3_readCentre__X3_readAt_r2, List.forall_mem_append.mpr ⟨gmX3_readCentre__X3_readAt_r3, gmX3_readCentre__X3_readAt_r4⟩⟩⟩, gcX3_readCentre__X30⟩⟩) gwX3_readAt
set_option maxRecDepth 20000 in
theorem gX3_readCentre_X3_readAt : GoodIn wsX3_readCentre (wsV RX3 160 RX3 yX3_readAt wsX3_readAt) := goodIn_app (goodIn_sub (List.forall_mem_cons.mpr ⟨(gcX3_readCentre__X3_readCentre_r5 _ (List.mem_of_getElem? (i := 13) rfl)), List.forall_mem_cons.mpr ⟨(gcX3_readCentre__X3_readCentre_r5 _ (List.mem_of_getElem? (i := 14) rfl)), List.forall_mem_cons.mpr ⟨(gcX3_readCentre__X3_readCentre_r5 _ (List.mem_of_getElem? (i := 15) rfl)), List.forall_mem_cons.mpr ⟨(gcX3_readCentre__X3_readCentre_r1 _ (List.mem_of_getElem? (i := 10) rfl)), fun _ h => (List.not_mem_nil h).elim⟩⟩⟩⟩) (by decide +kernel)) ggX3_readCentre_X3_readAt
set_option maxRecDepth 20000 in
theorem gmX3_readCentre__X3_readWord_r1 : ∀ w ∈ wsX3_readWord_r1, w ∈ wsX3_readCentre := List.forall_mem_cons.mpr ⟨(gcX3_readCentre__X3_readCentre_r1 _ (List.mem_of_getElem? (i := 3) rfl)), List.forall_mem_cons.mpr ⟨(gcX3_readCentre__X3_readCentre_r1 _ (List.mem_of_getElem? (i := 15) rfl)), List.forall_mem_cons.mpr ⟨(gcX3_readCentre__X3_readCentre_r1 _ (List.mem_of_getElem? (i := 16) rfl)), List.forall_mem_cons.mpr ⟨(gcX3_readCentre__X3_readCentre_r1 _ (List.mem_of_getElem? (i := 17) rfl)), List.forall_mem_cons.mpr ⟨(gcX3_readCentre__X3_readCentre_r1 _ (List.mem_of_getElem? (i := 10) rfl)), List.forall_mem_cons.mpr ⟨(gcX3_readCentre__X3_readCentre_r1 _ (List.mem_of_getElem? (i := 18) rfl)), List.forall_mem_cons.mpr ⟨(gcX3_readCentre__X3_readCentre_r1 _ (List.mem_of_getElem? (i := 19) rfl)), List.forall_mem_cons.mpr ⟨(gcX3_readCentre__X3_readCentre_r1 _ (List.mem_of_getElem? (i := 12) rfl)), List.forall_mem_cons.mpr ⟨(gcX3_readCentre__X3_readCentre_r1 _ (List.mem_of_getElem? (i := 20) rfl)), List.forall_mem_cons.mpr ⟨(gcX3_readCentre__X3_readCentre_r1 _ (List.mem_of_getElem? (i := 14) rfl)), List.forall_mem_cons.mpr ⟨(gcX3_readCentre__X3_readCentre_r1 _ (List.mem_of_getElem? (i := 21) rfl)), List.forall_mem_cons.mpr ⟨(gcX3_readCentre__X3_readCentre_r1 _ (List.mem_of_getElem? (i := 22) rfl)), List.forall_mem_cons.mpr ⟨(gcX3_readCentre__X3_readCentre_r1 _ (List.mem_of_getElem? (i := 23) rfl)), List.forall_mem_cons.mpr ⟨(gcX3_readCentre__X3_readCentre_r2 _ (List.mem_of_getElem? (i := 0) rfl)), List.forall_mem_cons.mpr ⟨(gcX3_readCentre__X3_readCentre_r2 _ (List.mem_of_getElem? (i := 1) rfl)), List.forall_mem_cons.mpr ⟨(gcX3_readCentre__X3_readCentre_r2 _ (List.mem_of_getElem? (i := 2) rfl)), List.forall_mem_cons.mpr ⟨(gcX3_readCentre__X3_readCentre_r2 _ (List.mem_of_getElem? (i := 3) rfl)), List.forall_mem_cons.mpr ⟨(gcX3_readCentre__X3_readCentre_r2 _ (List.mem_of_getElem? (i := 4) rfl)), List.forall_mem_cons.mpr ⟨(gcX3_readCentre__X3_readCentre_r2 _ (List.mem_of_getElem? (i := 5) rfl)), List.forall_mem_cons.mpr ⟨(gcX3_readCentre__X3_readCentre_r2 _ (List.mem_of_getElem? (i := 10) rfl)), List.forall_mem_cons.mpr ⟨(gcX3_readCentre__X3_readCentre_r2 _ (List.mem_of_getElem? (i := 11) rfl)), List.forall_mem_cons.mpr ⟨(gcX3_readCentre__X3_readCentre_r2 _ (List.mem_of_getElem? (i := 12) rfl)), List.forall_mem_cons.mpr ⟨(gcX3_readCentre__X3_readCentre_r2 _ (List.mem_of_getElem? (i := 13) rfl)), List.forall_mem_cons.mpr ⟨(gcX3_readCentre__X3_readCentre_r2 _ (List.mem_of_getElem? (i := 14) rfl)), fun _ h => (List.not_mem_nil h).elim⟩⟩⟩⟩⟩⟩⟩⟩⟩⟩⟩⟩⟩⟩⟩⟩⟩⟩⟩⟩⟩⟩⟩⟩
set_option maxRecDepth 20000 in
theorem gmX3_readCentre__X3_readWord_r2 : ∀ w ∈ wsX3_readWord_r2, w ∈ wsX3_readCentre := List.forall_mem_cons.mpr ⟨(gcX3_readCentre__X3_readCentre_r2 _ (List.mem_of_getElem? (i := 15) rfl)), List.forall_mem_cons.mpr ⟨(gcX3_readCentre__X3_readCentre_r2 _ (List.mem_of_getElem? (i := 16) rfl)), List.forall_mem_cons.mpr ⟨(gcX3_readCentre__X3_readCentre_r2 _ (List.mem_of_getElem? (i := 17) rfl)), List.forall_mem_cons.mpr ⟨(gcX3_readCentre__X3_readCentre_r2 _ (List.mem_of_getElem? (i := 18) rfl)), List.forall_mem_cons.mpr ⟨(gcX3_readCentre__X3_readCentre_r2 _ (List.mem_of_getElem? (i := 19) rfl)), List.forall_mem_cons.mpr ⟨(gcX3_readCentre__X3_readCentre_r2 _ (List.mem_of_getElem? (i := 20) rfl)), List.forall_mem_cons.mpr ⟨(gcX3_readCentre__X3_readCentre_r2 _ (List.mem_of_getElem? (i := 21) rfl)), List.forall_mem_cons.mpr ⟨(gcX3_readCentre__X3_readCentre_r2 _ (List.mem_of_getElem? (i := 22) rfl)), List.forall_mem_cons.mpr ⟨(gcX3_readCentre__X3_readCentre_r2 _ (List.mem_of_getElem? (i := 23) rfl)), List.forall_mem_cons.mpr ⟨(gcX3_readCentre__X3_readCentre_r3 _ (List.mem_of_getElem? (i := 0) rfl)), List.forall_mem_cons.mpr ⟨(gcX3_readCentre__X3_readCentre_r3 _ (List.mem_of_getElem? (i := 1) rfl)), List.forall_mem_cons.mpr ⟨(gcX3_readCentre__X3_readCentre_r3 _ (List.mem_of_getElem? (i := 2) rfl)), List.forall_mem_cons.mpr ⟨(gcX3_readCentre__X3_readCentre_r3 _ (List.mem_of_getElem? (i := 3) rfl)), List.forall_mem_cons.mpr ⟨(gcX3_readCentre__X3_readCentre_r3 _ (List.mem_of_getElem? (i := 4) rfl)), List.forall_mem_cons.mpr ⟨(gcX3_readCentre__X3_readCentre_r3 _ (List.mem_of_getElem? (i := 5) rfl)), List.forall_mem_cons.mpr ⟨(gcX3_readCentre__X3_readCentre_r3 _ (List.mem_of_getElem? (i := 6) rfl)), List.forall_mem_cons.mpr ⟨(gcX3_readCentre__X3_readCentre_r3 _ (List.mem_of_getElem? (i := 7) rfl)), List.forall_mem_cons.mpr ⟨(gcX3_readCentre__X3_readCentre_r3 _ (List.mem_of_getElem? (i := 8) rfl)), List.forall_mem_cons.mpr ⟨(gcX3_readCentre__X3_readCentre_r3 _ (List.mem_of_getElem? (i := 9) rfl)), List.forall_mem_cons.mpr ⟨(gcX3_readCentre__X3_readCentre_r3 _ (List.mem_of_getElem? (i := 10) rfl)), List.forall_mem_cons.mpr ⟨(gcX3_readCentre__X3_readCentre_r3 _ (List.mem_of_getElem? (i := 11) rfl)), List.forall_mem_cons.mpr ⟨(gcX3_readCentre__X3_readCentre_r3 _ (List.mem_of_getElem? (i := 12) rfl)), List.forall_mem_cons.mpr ⟨(gcX3_readCentre__X3_readCentre_r3 _ (List.mem_of_getElem? (i := 13) rfl)), List.forall_mem_cons.mpr ⟨(gcX3_readCentre__X3_readCentre_r3 _ (List.mem_of_getElem? (i := 14) rfl)), fun _ h => (List.not_mem_nil h).elim⟩⟩⟩⟩⟩⟩⟩⟩⟩⟩⟩⟩⟩⟩⟩⟩⟩⟩⟩⟩⟩⟩⟩⟩
set_option maxRecDepth 20000 in
theorem gmX3_readCentre__X3_readWord_r3 : ∀ w ∈ wsX3_readWord_r3, w ∈ wsX3_readCentre := List.forall_mem_cons.mpr ⟨(gcX3_readCentre__X3_readCentre_r3 _ (List.mem_of_getElem? (i := 15) rfl)), List.forall_mem_cons.mpr ⟨(gcX3_readCentre__X3_readCentre_r3 _ (List.mem_of_getElem? (i := 16) rfl)), List.forall_mem_cons.mpr ⟨(gcX3_readCentre__X3_readCentre_r3 _ (List.mem_of_getElem? (i := 17) rfl)), List.forall_mem_cons.mpr ⟨(gcX3_readCentre__X3_readCentre_r3 _ (List.mem_of_getElem? (i := 18) rfl)), List.forall_mem_cons.mpr ⟨(gcX3_readCentre__X3_readCentre_r3 _ (List.mem_of_getElem? (i := 19) rfl)), List.forall_mem_cons.mpr ⟨(gcX3_readCentre__X3_readCentre_r3 _ (List.mem_of_getElem? (i := 20) rfl)), List.forall_mem_cons.mpr ⟨(gcX3_readCentre__X3_readCentre_r3 _ (List.mem_of_getElem? (i := 21) rfl)), List.forall_mem_cons.mpr ⟨(gcX3_readCentre__X3_readCentre_r3 _ (List.mem_of_getElem? (i := 22) rfl)), List.forall_mem_cons.mpr ⟨(gcX3_readCentre__X3_readCentre_r3 _ (List.mem_of_getElem? (i := 23) rfl)), List.forall_mem_cons.mpr ⟨(gcX3_readCentre__X3_readCentre_r4 _ (List.mem_of_getElem? (i := 0) rfl)), List.forall_mem_cons.mpr ⟨(gcX3_readCentre__X3_readCentre_r4 _ (List.mem_of_getElem? (i := 1) rfl)), List.forall_mem_cons.mpr ⟨(gcX3_readCentre__X3_readCentre_r4 _ (List.mem_of_getElem? (i := 2) rfl)), List.forall_mem_cons.mpr ⟨(gcX3_readCentre__X3_readCentre_r4 _ (List.mem_of_getElem? (i := 3) rfl)), List.forall_mem_cons.mpr ⟨(gcX3_readCentre__X3_readCentre_r4 _ (List.mem_of_getElem? (i := 4) rfl)), List.forall_mem_cons.mpr ⟨(gcX3_readCentre__X3_readCentre_r4 _ (List.mem_of_getElem? (i := 5) rfl)), List.forall_mem_cons.mpr ⟨(gcX3_readCentre__X3_readCentre_r4 _ (List.mem_of_getElem? (i := 6) rfl)), List.forall_mem_cons.mpr ⟨(gcX3_readCentre__X3_readCentre_r4 _ (List.mem_of_getElem? (i := 7) rfl)), List.forall_mem_cons.mpr ⟨(gcX3_readCentre__X3_readCentre_r4 _ (List.mem_of_getElem? (i := 8) rfl)), List.forall_mem_cons.mpr ⟨(gcX3_readCentre__X3_readCentre_r4 _ (List.mem_of_getElem? (i := 9) rfl)), List.forall_mem_cons.mpr ⟨(gcX3_readCentre__X3_readCentre_r4 _ (List.mem_of_getElem? (i := 10) rfl)), List.forall_mem_cons.mpr ⟨(gcX3_readCentre__X3_readCentre_r4 _ (List.mem_of_getElem? (i := 11) rfl)), List.forall_mem_cons.mpr ⟨(gcX3_readCentre__X3_readCentre_r4 _ (List.mem_of_getElem? (i := 12) rfl)), List.forall_mem_cons.mpr ⟨(gcX3_readCentre__X3_readCentre_r4 _ (List.mem_of_getElem? (i := 13) rfl)), List.forall_mem_cons.mpr ⟨(gcX3_readCentre__X3_readCentre_r4 _ (List.mem_of_getElem? (i := 14) rfl)), fun _ h => (List.not_mem_nil h).elim⟩⟩⟩⟩⟩⟩⟩⟩⟩⟩⟩⟩⟩⟩⟩⟩⟩⟩⟩⟩⟩⟩⟩⟩
set_option maxRecDepth 20000 in
theorem gmX3_readCentre__X3_readWord_r4 : ∀ w ∈ wsX3_readWord_r4, w ∈ wsX3_readCentre := List.forall_mem_cons.mpr ⟨(gcX3_readCentre__X3_readCentre_r4 _ (List.mem_of_getElem? (i := 15) rfl)), List.forall_mem_cons.mpr ⟨(gcX3_readCentre__X3_readCentre_r4 _ (List.mem_of_getElem? (i := 16) rfl)), List.forall_mem_cons.mpr ⟨(gcX3_readCentre__X3_readCentre_r4 _ (List.mem_of_getElem? (i := 17) rfl)), List.forall_mem_cons.mpr ⟨(gcX3_readCentre__X3_readCentre_r4 _ (List.mem_of_getElem? (i := 18) rfl)), List.forall_mem_cons.mpr ⟨(gcX3_readCentre__X3_readCentre_r4 _ (List.mem_of_getElem? (i := 19) rfl)), List.forall_mem_cons.mpr ⟨(gcX3_readCentre__X3_readCentre_r4 _ (List.mem_of_getElem? (i := 20) rfl)), List.forall_mem_cons.mpr ⟨(gcX3_readCentre__X3_readCentre_r4 _ (List.mem_of_getElem? (i := 21) rfl)), List.forall_mem_cons.mpr ⟨(gcX3_readCentre__X3_readCentre_r4 _ (List.mem_of_getElem? (i := 22) rfl)), List.forall_mem_cons.mpr ⟨(gcX3_readCentre__X3_readCentre_r4 _ (List.mem_of_getElem? (i := 23) rfl)), List.forall_mem_cons.mpr ⟨(gcX3_readCentre__X3_readCentre_r5 _ (List.mem_of_getElem? (i := 0) rfl)), fun _ h => (List.not_mem_nil h).elim⟩⟩⟩⟩⟩⟩⟩⟩⟩⟩
set_option maxRecDepth 20000 in
theorem ggX3_readCentre_X3_readWord : GoodIn wsX3_readCentre wsX3_readWord := goodIn_sub (List.forall_mem_cons.mpr ⟨(gcX3_readCentre__X3_readCentre_r5 _ (List.mem_of_getElem? (i := 20) rfl)), List.forall_mem_append.mpr ⟨List.forall_mem_append.mpr ⟨gmX3_readCentre__X3_readWord_r1, List.forall_mem_append.mpr ⟨gmX3_readCentre__X3_readWord_r2, List.forall_mem_append.mpr ⟨gmX3_readCentre__X3_readWord_r3, gmX3_readCentre__X3_readWord_r4⟩⟩⟩, gcX3_readCentre__X30⟩⟩) gwX3_readWord
set_option maxRecDepth 20000 in
theorem gX3_readCentre_X3_readWord : GoodIn wsX3_readCentre (wsV RX3 144 RX3 yX3_readWord wsX3_readWord) := goodIn_app (goodIn_sub (List.forall_mem_cons.mpr ⟨(gcX3_readCentre__X3_readCentre_r5 _ (List.mem_of_getElem? (i := 17) rfl)), List.forall_mem_cons.mpr ⟨(gcX3_readCentre__X3_readCentre_r5 _ (List.mem_of_getElem? (i := 18) rfl)), List.forall_mem_cons.mpr ⟨(gcX3_readCentre__X3_readCentre_r5 _ (List.mem_of_getElem? (i := 19) rfl)), List.forall_mem_cons.mpr ⟨(gcX3_readCentre__X3_readCentre_r1 _ (List.mem_of_getElem? (i := 10) rfl)), fun _ h => (List.not_mem_nil h).elim⟩⟩⟩⟩) (by decide +kernel)) ggX3_readCentre_X3_readWord
set_option maxRecDepth 20000 in
theorem gmX3_readCentre__X3_readNumber_r1 : ∀ w ∈ wsX3_readNumber_r1, w ∈ wsX3_readCentre := List.forall_mem_cons.mpr ⟨(gcX3_readCentre__X3_readCentre_r1 _ (List.mem_of_getElem? (i := 3) rfl)), List.forall_mem_cons.mpr ⟨(gcX3_readCentre__X3_readCentre_r1 _ (List.mem_of_getElem? (i := 12) rfl)), List.forall_mem_cons.mpr ⟨(gcX3_readCentre__X3_readCentre_r1 _ (List.mem_of_getElem? (i := 6) rfl)), List.forall_mem_cons.mpr ⟨(gcX3_readCentre__X3_readCentre_r1 _ (List.mem_of_getElem? (i := 14) rfl)), List.forall_mem_cons.mpr ⟨(gcX3_readCentre__X3_readCentre_r1 _ (List.mem_of_getElem? (i := 15) rfl)), List.forall_mem_cons.mpr ⟨(gcX3_readCentre__X3_readCentre_r1 _ (List.mem_of_getElem? (i := 16) rfl)), List.forall_mem_cons.mpr ⟨(gcX3_readCentre__X3_readCentre_r1 _ (List.mem_of_getElem? (i := 17) rfl)), List.forall_mem_cons.mpr ⟨(gcX3_readCentre__X3_readCentre_r1 _ (List.mem_of_getElem? (i := 10) rfl)), List.forall_mem_cons.mpr ⟨(gcX3_readCentre__X3_readCentre_r1 _ (List.mem_of_getElem? (i := 18) rfl)), List.forall_mem_cons.mpr ⟨(gcX3_readCentre__X3_readCentre_r1 _ (List.mem_of_getElem? (i := 19) rfl)), List.forall_mem_cons.mpr ⟨(gcX3_readCentre__X3_readCentre_r1 _ (List.mem_of_getElem? (i := 20) rfl)), List.forall_mem_cons.mpr ⟨(gcX3_readCentre__X3_readCentre_r1 _ (List.mem_of_getElem? (i := 21) rfl)), List.forall_mem_cons.mpr ⟨(gcX3_readCentre__X3_readCentre_r1 _ (List.mem_of_getElem? (i := 22) rfl)), List.forall_mem_cons.mpr ⟨(gcX3_readCentre__X3_readCentre_r1 _ (List.mem_of_getElem? (i := 23) rfl)), List.forall_mem_cons.mpr ⟨(gcX3_readCentre__X3_readCentre_r2 _ (List.mem_of_getElem? (i := 0) rfl)), List.forall_mem_cons.mpr ⟨(gcX3_readCentre__X3_readCentre_r2 _ (List.mem_of_getElem? (i := 1) rfl)), List.forall_mem_cons.mpr ⟨(gcX3_readCentre__X3_readCentre_r2 _ (List.mem_of_getElem? (i := 2) rfl)), List.forall_mem_cons.mpr ⟨(gcX3_readCentre__X3_readCentre_r2 _ (List.mem_of_getElem? (i := 3) rfl)), List.forall_mem_cons.mpr ⟨(gcX3_readCentre__X3_readCentre_r2 _ (List.mem_of_getElem? (i := 4) rfl)), List.forall_mem_cons.mpr ⟨(gcX3_readCentre__X3_readCentre_r2 _ (List.mem_of_getElem? (i := 5) rfl)), List.forall_mem_cons.mpr ⟨(gcX3_readCentre__X3_readCentre_r4 _ (List.mem_of_getElem? (i := 15) rfl)), List.forall_mem_cons.mpr ⟨(gcX3_readCentre__X3_readCentre_r4 _ (List.mem_of_getElem? (i := 16) rfl)), List.forall_mem_cons.mpr ⟨(gcX3_readCentre__X3_readCentre_r4 _ (List.mem_of_getElem? (i := 17) rfl)), List.forall_mem_cons.mpr ⟨(gcX3_readCentre__X3_readCentre_r4 _ (List.mem_of_getElem? (i := 18) rfl)), fun _ h => (List.not_mem_nil h).elim⟩⟩⟩⟩⟩⟩⟩⟩⟩⟩⟩⟩⟩⟩⟩⟩⟩⟩⟩⟩⟩⟩⟩⟩
set_option maxRecDepth 20000 in
theorem gmX3_readCentre__X3_readNumber_r2 : ∀ w ∈ wsX3_readNumber_r2, w ∈ wsX3_readCentre := List.forall_mem_cons.mpr ⟨(gcX3_readCentre__X3_readCentre_r4 _ (List.mem_of_getElem? (i := 19) rfl)), List.forall_mem_cons.mpr ⟨(gcX3_readCentre__X3_readCentre_r4 _ (List.mem_of_getElem? (i := 20) rfl)), List.forall_mem_cons.mpr ⟨(gcX3_readCentre__X3_readCentre_r4 _ (List.mem_of_getElem? (i := 21) rfl)), List.forall_mem_cons.mpr ⟨(gcX3_readCentre__X3_readCentre_r4 _ (List.mem_of_getElem? (i := 22) rfl)), List.forall_mem_cons.mpr ⟨(gcX3_readCentre__X3_readCentre_r4 _ (List.mem_of_getElem? (i := 23) rfl)), List.forall_mem_cons.mpr ⟨(gcX3_readCentre__X3_readCentre_r5 _ (List.mem_of_getElem? (i := 0) rfl)), fun _ h => (List.not_mem_nil h).elim⟩⟩⟩⟩⟩⟩
set_option maxRecDepth 20000 in
theorem ggX3_readCentre_X3_readNumber : GoodIn wsX3_readCentre wsX3_readNumber := goodIn_sub (List.forall_mem_cons.mpr ⟨(gcX3_readCentre__X3_readCentre_r6 _ (List.mem_of_getElem? (i := 0) rfl)), List.forall_mem_append.mpr ⟨List.forall_mem_append.mpr ⟨gmX3_readCentre__X3_readNumber_r1, gmX3_readCentre__X3_readNumber_r2⟩, gcX3_readCentre__X30⟩⟩) gwX3_readNumber
set_option maxRecDepth 20000 in
theorem gX3_readCentre_X3_readNumber : GoodIn wsX3_readCentre (wsV RX3 154 RX3 yX3_readNumber wsX3_readNumber) := goodIn_app (goodIn_sub (List.forall_mem_cons.mpr ⟨(gcX3_readCentre__X3_readCentre_r5 _ (List.mem_of_getElem? (i := 21) rfl)), List.forall_mem_cons.mpr ⟨(gcX3_readCentre__X3_readCentre_r5 _ (List.mem_of_getElem? (i := 22) rfl)), List.forall_mem_cons.mpr ⟨(gcX3_readCentre__X3_readCentre_r5 _ (List.mem_of_getElem? (i := 23) rfl)), List.forall_mem_cons.mpr ⟨(gcX3_readCentre__X3_readCentre_r1 _ (List.mem_of_getElem? (i := 10) rfl)), fun _ h => (List.not_mem_nil h).elim⟩⟩⟩⟩) (by decide +kernel)) ggX3_readCentre_X3_readNumber
set_option maxRecDepth 20000 in
theorem gwX8_addCentre : wsX8_addCentre.all goodWord = true := by decide +kernel
set_option maxRecDepth 20000 in
theorem ggX3_readCentre_X8_addCentre : GoodIn wsX3_readCentre wsX8_addCentre := goodIn_sub (List.forall_mem_cons.mpr ⟨(gcX3_readCentre__X3_readCentre_r6 _ (List.mem_of_getElem? (i := 4) rfl)), List.forall_mem_append.mpr ⟨List.forall_mem_cons.mpr ⟨(gcX3_readCentre__X3_readCentre_r6 _ (List.mem_of_getElem? (i := 5) rfl)), List.forall_mem_cons.mpr ⟨(gcX3_readCentre__X3_readCentre_r6 _ (List.mem_of_getElem? (i := 6) rfl)), List.forall_mem_cons.mpr ⟨(gcX3_readCentre__X3_readCentre_r5 _ (List.mem_of_getElem? (i := 6) rfl)), fun _ h => (List.not_mem_nil h).elim⟩⟩⟩, gcX3_readCentre__X80⟩⟩) gwX8_addCentre
set_option maxRecDepth 20000 in
theorem gX3_readCentre_X8_addCentre : GoodIn wsX3_readCentre (wsV RX3 177 RX8 yX8_addCentre wsX8_addCentre) := goodIn_app (goodIn_sub (List.forall_mem_cons.mpr ⟨(gcX3_readCentre__X3_readCentre_r6 _ (List.mem_of_getElem? (i := 1) rfl)), List.forall_mem_cons.mpr ⟨(gcX3_readCentre__X3_readCentre_r6 _ (List.mem_of_getElem? (i := 2) rfl)), List.forall_mem_cons.mpr ⟨(gcX3_readCentre__X3_readCentre_r6 _ (List.mem_of_getElem? (i := 3) rfl)), List.forall_mem_cons.mpr ⟨(gcX3_readCentre__X3_readCentre_r5 _ (List.mem_of_getElem? (i := 4) rfl)), fun _ h => (List.not_mem_nil h).elim⟩⟩⟩⟩) (by decide +kernel)) ggX3_readCentre_X8_addCentre
theorem dX3_readCentre_0 : decode cX3_readCentre 0 = .ok (.aload_n 0, 1) := by decide +kernel
theorem dX3_readCentre_1 : decode cX3_readCentre 1 = .ok (.iconst 1, 1) := by decide +kernel
theorem dX3_readCentre_2 : decode cX3_readCentre 2 = .ok (.invokevirtual 138, 3) := by decide +kernel
theorem dX3_readCentre_5 : decode cX3_readCentre 5 = .ok (.ifCond .ne 5, 3) := by decide +kernel
theorem dX3_readCentre_8 : decode cX3_readCentre 8 = .ok (.iconst 0, 1) := by decide +kernel
theorem dX3_readCentre_9 : decode cX3_readCentre 9 = .ok (.ireturn, 1) := by decide +kernel
theorem dX3_readCentre_10 : decode cX3_readCentre 10 = .ok (.aload_n 0, 1) := by decide +kernel
theorem dX3_readCentre_11 : decode cX3_readCentre 11 = .ok (.getfield 52, 3) := by decide +kernel
theorem dX3_readCentre_14 : decode cX3_readCentre 14 = .ok (.getfield 174, 3) := by decide +kernel
theorem dX3_readCentre_17 : decode cX3_readCentre 17 = .ok (.aload_n 0, 1) := by decide +kernel
theorem dX3_readCentre_18 : decode cX3_readCentre 18 = .ok (.getfield 36, 3) := by decide +kernel
theorem dX3_readCentre_21 : decode cX3_readCentre 21 = .ok (.iaload, 1) := by decide +kernel
theorem dX3_readCentre_22 : decode cX3_readCentre 22 = .ok (.ifCond .eq 13, 3) := by decide +kernel
theorem dX3_readCentre_25 : decode cX3_readCentre 25 = .ok (.aload_n 0, 1) := by decide +kernel
theorem dX3_readCentre_26 : decode cX3_readCentre 26 = .ok (.iconst 3, 1) := by decide +kernel
theorem dX3_readCentre_27 : decode cX3_readCentre 27 = .ok (.aload_n 0, 1) := by decide +kernel
theorem dX3_readCentre_28 : decode cX3_readCentre 28 = .ok (.getfield 24, 3) := by decide +kernel
theorem dX3_readCentre_31 : decode cX3_readCentre 31 = .ok (.invokevirtual 78, 3) := by decide +kernel
theorem dX3_readCentre_34 : decode cX3_readCentre 34 = .ok (.ireturn, 1) := by decide +kernel
theorem dX3_readCentre_35 : decode cX3_readCentre 35 = .ok (.aload_n 0, 1) := by decide +kernel
theorem dX3_readCentre_36 : decode cX3_readCentre 36 = .ok (.invokevirtual 160, 3) := by decide +kernel
theorem dX3_readCentre_39 : decode cX3_readCentre 39 = .ok (.ifCond .eq 22, 3) := by decide +kernel
theorem dX3_readCentre_42 : decode cX3_readCentre 42 = .ok (.aload_n 0, 1) := by decide +kernel
theorem dX3_readCentre_43 : decode cX3_readCentre 43 = .ok (.ldc 134, 2) := by decide +kernel
theorem dX3_readCentre_45 : decode cX3_readCentre 45 = .ok (.invokevirtual 144, 3) := by decide +kernel
theorem dX3_readCentre_48 : decode cX3_readCentre 48 = .ok (.ifCond .eq 13, 3) := by decide +kernel
theorem dX3_readCentre_51 : decode cX3_readCentre 51 = .ok (.aload_n 0, 1) := by decide +kernel
theorem dX3_readCentre_52 : decode cX3_readCentre 52 = .ok (.iconst 1, 1) := by decide +kernel
theorem dX3_readCentre_53 : decode cX3_readCentre 53 = .ok (.bipush 9, 2) := by decide +kernel
theorem dX3_readCentre_55 : decode cX3_readCentre 55 = .ok (.invokevirtual 154, 3) := by decide +kernel
theorem dX3_readCentre_58 : decode cX3_readCentre 58 = .ok (.ifCond .ne 5, 3) := by decide +kernel
theorem dX3_readCentre_61 : decode cX3_readCentre 61 = .ok (.iconst 0, 1) := by decide +kernel
theorem dX3_readCentre_62 : decode cX3_readCentre 62 = .ok (.ireturn, 1) := by decide +kernel
theorem dX3_readCentre_63 : decode cX3_readCentre 63 = .ok (.aload_n 0, 1) := by decide +kernel
theorem dX3_readCentre_64 : decode cX3_readCentre 64 = .ok (.getfield 52, 3) := by decide +kernel
theorem dX3_readCentre_67 : decode cX3_readCentre 67 = .ok (.aload_n 0, 1) := by decide +kernel
theorem dX3_readCentre_68 : decode cX3_readCentre 68 = .ok (.getfield 36, 3) := by decide +kernel
theorem dX3_readCentre_71 : decode cX3_readCentre 71 = .ok (.aload_n 0, 1) := by decide +kernel
theorem dX3_readCentre_72 : decode cX3_readCentre 72 = .ok (.getfield 42, 3) := by decide +kernel
theorem dX3_readCentre_75 : decode cX3_readCentre 75 = .ok (.aload_n 0, 1) := by decide +kernel
theorem dX3_readCentre_76 : decode cX3_readCentre 76 = .ok (.getfield 45, 3) := by decide +kernel
theorem dX3_readCentre_79 : decode cX3_readCentre 79 = .ok (.aload_n 0, 1) := by decide +kernel
theorem dX3_readCentre_80 : decode cX3_readCentre 80 = .ok (.getfield 39, 3) := by decide +kernel
theorem dX3_readCentre_83 : decode cX3_readCentre 83 = .ok (.invokevirtual 177, 3) := by decide +kernel
theorem dX3_readCentre_86 : decode cX3_readCentre 86 = .ok (.iconst 1, 1) := by decide +kernel
theorem dX3_readCentre_87 : decode cX3_readCentre 87 = .ok (.ireturn, 1) := by decide +kernel
theorem gcX3_readAt__X3_readAt_r1 : ∀ w ∈ wsX3_readAt_r1, w ∈ wsX3_readAt := fun w h => List.mem_cons_of_mem _ (List.mem_append_left _ (List.mem_append_left _ (h)))
theorem gcX3_readAt__X3_readAt_r2 : ∀ w ∈ wsX3_readAt_r2, w ∈ wsX3_readAt := fun w h => List.mem_cons_of_mem _ (List.mem_append_left _ (List.mem_append_right _ (List.mem_append_left _ (h))))
set_option maxRecDepth 20000 in
theorem gmX3_readAt__X3_readWord_r1 : ∀ w ∈ wsX3_readWord_r1, w ∈ wsX3_readAt := List.forall_mem_cons.mpr ⟨(gcX3_readAt__X3_readAt_r1 _ (List.mem_of_getElem? (i := 8) rfl)), List.forall_mem_cons.mpr ⟨(gcX3_readAt__X3_readAt_r1 _ (List.mem_of_getElem? (i := 9) rfl)), List.forall_mem_cons.mpr ⟨(gcX3_readAt__X3_readAt_r1 _ (List.mem_of_getElem? (i := 10) rfl)), List.forall_mem_cons.mpr ⟨(gcX3_readAt__X3_readAt_r1 _ (List.mem_of_getElem? (i := 11) rfl)), List.forall_mem_cons.mpr ⟨(gcX3_readAt__X3_readAt_r1 _ (List.mem_of_getElem? (i := 6) rfl)), List.forall_mem_cons.mpr ⟨(gcX3_readAt__X3_readAt_r1 _ (List.mem_of_getElem? (i := 12) rfl)), List.forall_mem_cons.mpr ⟨(gcX3_readAt__X3_readAt_r1 _ (List.mem_of_getElem? (i := 13) rfl)), List.forall_mem_cons.mpr ⟨(gcX3_readAt__X3_readAt_r1 _ (List.mem_of_getElem? (i := 14) rfl)), List.forall_mem_cons.mpr ⟨(gcX3_readAt__X3_readAt_r1 _ (List.mem_of_getElem? (i := 15) rfl)), List.forall_mem_cons.mpr ⟨(gcX3_readAt__X3_readAt_r1 _ (List.mem_of_getElem? (i := 16) rfl)), List.forall_mem_cons.mpr ⟨(gcX3_readAt__X3_readAt_r1 _ (List.mem_of_getElem? (i := 17) rfl)), List.forall_mem_cons.mpr ⟨(gcX3_readAt__X3_readAt_r1 _ (List.mem_of_getElem? (i := 18) rfl)), List.forall_mem_cons.mpr ⟨(gcX3_readAt__X3_readAt_r1 _ (List.mem_of_getElem? (i := 19) rfl)), List.forall_mem_cons.mpr ⟨(gcX3_readAt__X3_readAt_r1 _ (List.mem_of_getElem? (i := 20) rfl)), List.forall_mem_cons.mpr ⟨(gcX3_readAt__X3_readAt_r1 _ (List.mem_of_getElem? (i := 21) rfl)), List.forall_mem_cons.mpr ⟨(gcX3_readAt__X3_readAt_r1 _ (List.mem_of_getElem? (i := 22) rfl)), List.forall_mem_cons.mpr ⟨(gcX3_readAt__X3_readAt_r1 _ (List.mem_of_getElem? (i := 23) rfl)), List.forall_mem_cons.mpr ⟨(gcX3_readAt__X3_readAt_r2 _ (List.mem_of_getElem? (i := 0) rfl)), List.forall_mem_cons.mpr ⟨(gcX3_readAt__X3_readAt_r2 _ (List.mem_of_getElem? (i := 1) rfl)), List.forall_mem_cons.mpr ⟨(gcX3_readAt__X3_readAt_r2 _ (List.mem_of_getElem? (i := 2) rfl)), List.forall_mem_cons.mpr ⟨(gcX3_readAt__X3_readAt_r2 _ (List.mem_of_getElem? (i := 3) rfl)), List.forall_mem_cons.mpr ⟨(gcX3_readAt__X3_readAt_r2 _ (List.mem_of_getElem? (i := 4) rfl)), List.forall_mem_cons.mpr ⟨(gcX3_readAt__X3_readAt_r2 _ (List.mem_of_getElem? (i := 5) rfl)), List.forall_mem_cons.mpr ⟨(gcX3_readAt__X3_readAt_r2 _ (List.mem_of_getElem? (i := 6) rfl)), fun _ h => (List.not_mem_nil h).elim⟩⟩⟩⟩⟩⟩⟩⟩⟩⟩⟩⟩⟩⟩⟩⟩⟩⟩⟩⟩⟩⟩⟩⟩
theorem gcX3_readAt__X3_readAt_r3 : ∀ w ∈ wsX3_readAt_r3, w ∈ wsX3_readAt := fun w h => List.mem_cons_of_mem _ (List.mem_append_left _ (List.mem_append_right _ (List.mem_append_right _ (List.mem_append_left _ (h)))))
set_option maxRecDepth 20000 in
theorem gmX3_readAt__X3_readWord_r2 : ∀ w ∈ wsX3_readWord_r2, w ∈ wsX3_readAt := List.forall_mem_cons.mpr ⟨(gcX3_readAt__X3_readAt_r2 _ (List.mem_of_getElem? (i := 7) rfl)), List.forall_mem_cons.mpr ⟨(gcX3_readAt__X3_readAt_r2 _ (List.mem_of_getElem? (i := 8) rfl)), List.forall_mem_cons.mpr ⟨(gcX3_readAt__X3_readAt_r2 _ (List.mem_of_getElem? (i := 9) rfl)), List.forall_mem_cons.mpr ⟨(gcX3_readAt__X3_readAt_r2 _ (List.mem_of_getElem? (i := 10) rfl)), List.forall_mem_cons.mpr ⟨(gcX3_readAt__X3_readAt_r2 _ (List.mem_of_getElem? (i := 11) rfl)), List.forall_mem_cons.mpr ⟨(gcX3_readAt__X3_readAt_r2 _ (List.mem_of_getElem? (i := 12) rfl)), List.forall_mem_cons.mpr ⟨(gcX3_readAt__X3_readAt_r2 _ (List.mem_of_getElem? (i := 13) rfl)), List.forall_mem_cons.mpr ⟨(gcX3_readAt__X3_readAt_r2 _ (List.mem_of_getElem? (i := 14) rfl)), List.forall_mem_cons.mpr ⟨(gcX3_readAt__X3_readAt_r2 _ (List.mem_of_getElem? (i := 15) rfl)), List.forall_mem_cons.mpr ⟨(gcX3_readAt__X3_readAt_r2 _ (List.mem_of_getElem? (i := 16) rfl)), List.forall_mem_cons.mpr ⟨(gcX3_readAt__X3_readAt_r2 _ (List.mem_of_getElem? (i := 17) rfl)), List.forall_mem_cons.mpr ⟨(gcX3_readAt__X3_readAt_r2 _ (List.mem_of_getElem? (i := 18) rfl)), List.forall_mem_cons.mpr ⟨(gcX3_readAt__X3_readAt_r2 _ (List.mem_of_getElem? (i := 19) rfl)), List.forall_mem_cons.mpr ⟨(gcX3_readAt__X3_readAt_r2 _ (List.mem_of_getElem? (i := 20) rfl)), List.forall_mem_cons.mpr ⟨(gcX3_readAt__X3_readAt_r2 _ (List.mem_of_getElem? (i := 21) rfl)), List.forall_mem_cons.mpr ⟨(gcX3_readAt__X3_readAt_r2 _ (List.mem_of_getElem? (i := 22) rfl)), List.forall_mem_cons.mpr ⟨(gcX3_readAt__X3_readAt_r2 _ (List.mem_of_getElem? (i := 23) rfl)), List.forall_mem_cons.mpr ⟨(gcX3_readAt__X3_readAt_r3 _ (List.mem_of_getElem? (i := 0) rfl)), List.forall_mem_cons.mpr ⟨(gcX3_readAt__X3_readAt_r3 _ (List.mem_of_getElem? (i := 1) rfl)), List.forall_mem_cons.mpr ⟨(gcX3_readAt__X3_readAt_r3 _ (List.mem_of_getElem? (i := 2) rfl)), List.forall_mem_cons.mpr ⟨(gcX3_readAt__X3_readAt_r3 _ (List.mem_of_getElem? (i := 3) rfl)), List.forall_mem_cons.mpr ⟨(gcX3_readAt__X3_readAt_r3 _ (List.mem_of_getElem? (i := 4) rfl)), List.forall_mem_cons.mpr ⟨(gcX3_readAt__X3_readAt_r3 _ (List.mem_of_getElem? (i := 5) rfl)), List.forall_mem_cons.mpr ⟨(gcX3_readAt__X3_readAt_r3 _ (List.mem_of_getElem? (i := 6) rfl)), fun _ h => (List.not_mem_nil h).elim⟩⟩⟩⟩⟩⟩⟩⟩⟩⟩⟩⟩⟩⟩⟩⟩⟩⟩⟩⟩⟩⟩⟩⟩
theorem gcX3_readAt__X3_readAt_r4 : ∀ w ∈ wsX3_readAt_r4, w ∈ wsX3_readAt := fun w h => List.mem_cons_of_mem _ (List.mem_append_left _ (List.mem_append_right _ (List.mem_append_right _ (List.mem_append_right _ (h)))))
set_option maxRecDepth 20000 in
theorem gmX3_readAt__X3_readWord_r3 : ∀ w ∈ wsX3_readWord_r3, w ∈ wsX3_readAt := List.forall_mem_cons.mpr ⟨(gcX3_readAt__X3_readAt_r3 _ (List.mem_of_getElem? (i := 7) rfl)), List.forall_mem_cons.mpr ⟨(gcX3_readAt__X3_readAt_r3 _ (List.mem_of_getElem? (i := 8) rfl)), List.forall_mem_cons.mpr ⟨(gcX3_readAt__X3_readAt_r3 _ (List.mem_of_getElem? (i := 9) rfl)), List.forall_mem_cons.mpr ⟨(gcX3_readAt__X3_readAt_r3 _ (List.mem_of_getElem? (i := 10) rfl)), List.forall_mem_cons.mpr ⟨(gcX3_readAt__X3_readAt_r3 _ (List.mem_of_getElem? (i := 11) rfl)), List.forall_mem_cons.mpr ⟨(gcX3_readAt__X3_readAt_r3 _ (List.mem_of_getElem? (i := 12) rfl)), List.forall_mem_cons.mpr ⟨(gcX3_readAt__X3_readAt_r3 _ (List.mem_of_getElem? (i := 13) rfl)), List.forall_mem_cons.mpr ⟨(gcX3_readAt__X3_readAt_r3 _ (List.mem_of_getElem? (i := 14) rfl)), List.forall_mem_cons.mpr ⟨(gcX3_readAt__X3_readAt_r3 _ (List.mem_of_getElem? (i := 15) rfl)), List.forall_mem_cons.mpr ⟨(gcX3_readAt__X3_readAt_r3 _ (List.mem_of_getElem? (i := 16) rfl)), List.forall_mem_cons.mpr ⟨(gcX3_readAt__X3_readAt_r3 _ (List.mem_of_getElem? (i := 17) rfl)), List.forall_mem_cons.mpr ⟨(gcX3_readAt__X3_readAt_r3 _ (List.mem_of_getElem? (i := 18) rfl)), List.forall_mem_cons.mpr ⟨(gcX3_readAt__X3_readAt_r3 _ (List.mem_of_getElem? (i := 19) rfl)), List.forall_mem_cons.mpr ⟨(gcX3_readAt__X3_readAt_r3 _ (List.mem_of_getElem? (i := 20) rfl)), List.forall_mem_cons.mpr ⟨(gcX3_readAt__X3_readAt_r3 _ (List.mem_of_getElem? (i := 21) rfl)), List.forall_mem_cons.mpr ⟨(gcX3_readAt__X3_readAt_r3 _ (List.mem_of_getElem? (i := 22) rfl)), List.forall_mem_cons.mpr ⟨(gcX3_readAt__X3_readAt_r3 _ (List.mem_of_getElem? (i := 23) rfl)), List.forall_mem_cons.mpr ⟨(gcX3_readAt__X3_readAt_r4 _ (List.mem_of_getElem? (i := 0) rfl)), List.forall_mem_cons.mpr ⟨(gcX3_readAt__X3_readAt_r4 _ (List.mem_of_getElem? (i := 1) rfl)), List.forall_mem_cons.mpr ⟨(gcX3_readAt__X3_readAt_r4 _ (List.mem_of_getElem? (i := 2) rfl)), List.forall_mem_cons.mpr ⟨(gcX3_readAt__X3_readAt_r4 _ (List.mem_of_getElem? (i := 3) rfl)), List.forall_mem_cons.mpr ⟨(gcX3_readAt__X3_readAt_r4 _ (List.mem_of_getElem? (i := 4) rfl)), List.forall_mem_cons.mpr ⟨(gcX3_readAt__X3_readAt_r4 _ (List.mem_of_getElem? (i := 5) rfl)), List.forall_mem_cons.mpr ⟨(gcX3_readAt__X3_readAt_r4 _ (List.mem_of_getElem? (i := 6) rfl)), fun _ h => (List.not_mem_nil h).elim⟩⟩⟩⟩⟩⟩⟩⟩⟩⟩⟩⟩⟩⟩⟩⟩⟩⟩⟩⟩⟩⟩⟩⟩
set_option maxRecDepth 20000 in
theorem gmX3_readAt__X3_readWord_r4 : ∀ w ∈ wsX3_readWord_r4, w ∈ wsX3_readAt := List.forall_mem_cons.mpr ⟨(gcX3_readAt__X3_readAt_r4 _ (List.mem_of_getElem? (i := 7) rfl)), List.forall_mem_cons.mpr ⟨(gcX3_readAt__X3_readAt_r4 _ (List.mem_of_getElem? (i := 8) rfl)), List.forall_mem_cons.mpr ⟨(gcX3_readAt__X3_readAt_r4 _ (List.mem_of_getElem? (i := 9) rfl)), List.forall_mem_cons.mpr ⟨(gcX3_readAt__X3_readAt_r4 _ (List.mem_of_getElem? (i := 10) rfl)), List.forall_mem_cons.mpr ⟨(gcX3_readAt__X3_readAt_r4 _ (List.mem_of_getElem? (i := 11) rfl)), List.forall_mem_cons.mpr ⟨(gcX3_readAt__X3_readAt_r4 _ (List.mem_of_getElem? (i := 12) rfl)), List.forall_mem_cons.mpr ⟨(gcX3_readAt__X3_readAt_r4 _ (List.mem_of_getElem? (i := 13) rfl)), List.forall_mem_cons.mpr ⟨(gcX3_readAt__X3_readAt_r4 _ (List.mem_of_getElem? (i := 14) rfl)), List.forall_mem_cons.mpr ⟨(gcX3_readAt__X3_readAt_r4 _ (List.mem_of_getElem? (i := 15) rfl)), List.forall_mem_cons.mpr ⟨(gcX3_readAt__X3_readAt_r4 _ (List.mem_of_getElem? (i := 16) rfl)), fun _ h => (List.not_mem_nil h).elim⟩⟩⟩⟩⟩⟩⟩⟩⟩⟩
theorem gcX3_readAt__X30 : ∀ w ∈ wsX30, w ∈ wsX3_readAt := fun w h => List.mem_cons_of_mem _ (List.mem_append_right _ (h))
set_option maxRecDepth 20000 in
theorem ggX3_readAt_X3_readWord : GoodIn wsX3_readAt wsX3_readWord := goodIn_sub (List.forall_mem_cons.mpr ⟨(gcX3_readAt__X3_readAt_r1 _ (List.mem_of_getElem? (i := 7) rfl)), List.forall_mem_append.mpr ⟨List.forall_mem_append.mpr ⟨gmX3_readAt__X3_readWord_r1, List.forall_mem_append.mpr ⟨gmX3_readAt__X3_readWord_r2, List.forall_mem_append.mpr ⟨gmX3_readAt__X3_readWord_r3, gmX3_readAt__X3_readWord_r4⟩⟩⟩, gcX3_readAt__X30⟩⟩) gwX3_readWord
set_option maxRecDepth 20000 in
theorem gX3_readAt_X3_readWord : GoodIn wsX3_readAt (wsV RX3 144 RX3 yX3_readWord wsX3_readWord) := goodIn_app (goodIn_sub (List.forall_mem_cons.mpr ⟨(gcX3_readAt__X3_readAt_r1 _ (List.mem_of_getElem? (i := 3) rfl)), List.forall_mem_cons.mpr ⟨(gcX3_readAt__X3_readAt_r1 _ (List.mem_of_getElem? (i := 4) rfl)), List.forall_mem_cons.mpr ⟨(gcX3_readAt__X3_readAt_r1 _ (List.mem_of_getElem? (i := 5) rfl)), List.forall_mem_cons.mpr ⟨(gcX3_readAt__X3_readAt_r1 _ (List.mem_of_getElem? (i := 6) rfl)), fun _ h => (List.not_mem_nil h).elim⟩⟩⟩⟩) (by decide +kernel)) ggX3_readAt_X3_readWord
set_option maxRecDepth 20000 in
theorem gmX3_readAt__X3_readNumber_r1 : ∀ w ∈ wsX3_readNumber_r1, w ∈ wsX3_readAt := List.forall_mem_cons.mpr ⟨(gcX3_readAt__X3_readAt_r1 _ (List.mem_of_getElem? (i := 8) rfl)), List.forall_mem_cons.mpr ⟨(gcX3_readAt__X3_readAt_r1 _ (List.mem_of_getElem? (i := 14) rfl)), List.forall_mem_cons.mpr ⟨(gcX3_readAt__X3_readAt_r1 _ (List.mem_of_getElem? (i := 0) rfl)), List.forall_mem_cons.mpr ⟨(gcX3_readAt__X3_readAt_r1 _ (List.mem_of_getElem? (i := 16) rfl)), List.forall_mem_cons.mpr ⟨(gcX3_readAt__X3_readAt_r1 _ (List.mem_of_getElem? (i := 9) rfl)), List.forall_mem_cons.mpr ⟨(gcX3_readAt__X3_readAt_r1 _ (List.mem_of_getElem? (i := 10) rfl)), List.forall_mem_cons.mpr ⟨(gcX3_readAt__X3_readAt_r1 _ (List.mem_of_getElem? (i := 11) rfl)), List.forall_mem_cons.mpr ⟨(gcX3_readAt__X3_readAt_r1 _ (List.mem_of_getElem? (i := 6) rfl)), List.forall_mem_cons.mpr ⟨(gcX3_readAt__X3_readAt_r1 _ (List.mem_of_getElem? (i := 12) rfl)), List.forall_mem_cons.mpr ⟨(gcX3_readAt__X3_readAt_r1 _ (List.mem_of_getElem? (i := 13) rfl)), List.forall_mem_cons.mpr ⟨(gcX3_readAt__X3_readAt_r1 _ (List.mem_of_getElem? (i := 15) rfl)), List.forall_mem_cons.mpr ⟨(gcX3_readAt__X3_readAt_r1 _ (List.mem_of_getElem? (i := 17) rfl)), List.forall_mem_cons.mpr ⟨(gcX3_readAt__X3_readAt_r1 _ (List.mem_of_getElem? (i := 18) rfl)), List.forall_mem_cons.mpr ⟨(gcX3_readAt__X3_readAt_r1 _ (List.mem_of_getElem? (i := 19) rfl)), List.forall_mem_cons.mpr ⟨(gcX3_readAt__X3_readAt_r1 _ (List.mem_of_getElem? (i := 20) rfl)), List.forall_mem_cons.mpr ⟨(gcX3_readAt__X3_readAt_r1 _ (List.mem_of_getElem? (i := 21) rfl)), List.forall_mem_cons.mpr ⟨(gcX3_readAt__X3_readAt_r1 _ (List.mem_of_getElem? (i := 22) rfl)), List.forall_mem_cons.mpr ⟨(gcX3_readAt__X3_readAt_r1 _ (List.mem_of_getElem? (i := 23) rfl)), List.forall_mem_cons.mpr ⟨(gcX3_readAt__X3_readAt_r2 _ (List.mem_of_getElem? (i := 0) rfl)), List.forall_mem_cons.mpr ⟨(gcX3_readAt__X3_readAt_r2 _ (List.mem_of_getElem? (i := 1) rfl)), List.forall_mem_cons.mpr ⟨(gcX3_readAt__X3_readAt_r4 _ (List.mem_of_getElem? (i := 7) rfl)), List.forall_mem_cons.mpr ⟨(gcX3_readAt__X3_readAt_r4 _ (List.mem_of_getElem? (i := 8) rfl)), List.forall_mem_cons.mpr ⟨(gcX3_readAt__X3_readAt_r4 _ (List.mem_of_getElem? (i := 9) rfl)), List.forall_mem_cons.mpr ⟨(gcX3_readAt__X3_readAt_r4 _ (List.mem_of_getElem? (i := 10) rfl)), fun _ h => (List.not_mem_nil h).elim⟩⟩⟩⟩⟩⟩⟩⟩⟩⟩⟩⟩⟩⟩⟩⟩⟩⟩⟩⟩⟩⟩⟩⟩
set_option maxRecDepth 20000 in
theorem gmX3_readAt__X3_readNumber_r2 : ∀ w ∈ wsX3_readNumber_r2, w ∈ wsX3_readAt := List.forall_mem_cons.mpr ⟨(gcX3_readAt__X3_readAt_r4 _ (List.mem_of_getElem? (i := 11) rfl)), List.forall_mem_cons.mpr ⟨(gcX3_readAt__X3_readAt_r4 _ (List.mem_of_getElem? (i := 12) rfl)), List.forall_mem_cons.mpr ⟨(gcX3_readAt__X3_readAt_r4 _ (List.mem_of_getElem? (i := 13) rfl)), List.forall_mem_cons.mpr ⟨(gcX3_readAt__X3_readAt_r4 _ (List.mem_of_getElem? (i := 14) rfl)), List.forall_mem_cons.mpr ⟨(gcX3_readAt__X3_readAt_r4 _ (List.mem_of_getElem? (i := 15) rfl)), List.forall_mem_cons.mpr ⟨(gcX3_readAt__X3_readAt_r4 _ (List.mem_of_getElem? (i := 16) rfl)), fun _ h => (List.not_mem_nil h).elim⟩⟩⟩⟩⟩⟩
set_option maxRecDepth 20000 in
theorem ggX3_readAt_X3_readNumber : GoodIn wsX3_readAt wsX3_readNumber := goodIn_sub (List.forall_mem_cons.mpr ⟨(gcX3_readAt__X3_readAt_r4 _ (List.mem_of_getElem? (i := 20) rfl)), List.forall_mem_append.mpr ⟨List.forall_mem_append.mpr ⟨gmX3_readAt__X3_readNumber_r1, gmX3_readAt__X3_readNumber_r2⟩, gcX3_readAt__X30⟩⟩) gwX3_readNumber
set_option maxRecDepth 20000 in
theorem gX3_readAt_X3_readNumber : GoodIn wsX3_readAt (wsV RX3 154 RX3 yX3_readNumber wsX3_readNumber) := goodIn_app (goodIn_sub (List.forall_mem_cons.mpr ⟨(gcX3_readAt__X3_readAt_r4 _ (List.mem_of_getElem? (i := 17) rfl)), List.forall_mem_cons.mpr ⟨(gcX3_readAt__X3_readAt_r4 _ (List.mem_of_getElem? (i := 18) rfl)), List.forall_mem_cons.mpr ⟨(gcX3_readAt__X3_readAt_r4 _ (List.mem_of_getElem? (i := 19) rfl)), List.forall_mem_cons.mpr ⟨(gcX3_readAt__X3_readAt_r1 _ (List.mem_of_getElem? (i := 6) rfl)), fun _ h => (List.not_mem_nil h).elim⟩⟩⟩⟩) (by decide +kernel)) ggX3_readAt_X3_readNumber
theorem dX3_readAt_0 : decode cX3_readAt 0 = .ok (.aload_n 0, 1) := by decide +kernel
theorem dX3_readAt_1 : decode cX3_readAt 1 = .ok (.ldc 133, 2) := by decide +kernel
theorem dX3_readAt_3 : decode cX3_readAt 3 = .ok (.invokevirtual 144, 3) := by decide +kernel
theorem dX3_readAt_6 : decode cX3_readAt 6 = .ok (.ifCond .eq 14, 3) := by decide +kernel
theorem dX3_readAt_9 : decode cX3_readAt 9 = .ok (.aload_n 0, 1) := by decide +kernel
theorem dX3_readAt_10 : decode cX3_readAt 10 = .ok (.iconst 0, 1) := by decide +kernel
theorem dX3_readAt_11 : decode cX3_readAt 11 = .ok (.sipush 9999, 3) := by decide +kernel
theorem dX3_readAt_14 : decode cX3_readAt 14 = .ok (.invokevirtual 154, 3) := by decide +kernel
theorem dX3_readAt_17 : decode cX3_readAt 17 = .ok (.ifCond .ne 5, 3) := by decide +kernel
theorem dX3_readAt_20 : decode cX3_readAt 20 = .ok (.iconst 0, 1) := by decide +kernel
theorem dX3_readAt_21 : decode cX3_readAt 21 = .ok (.ireturn, 1) := by decide +kernel
theorem dX3_readAt_22 : decode cX3_readAt 22 = .ok (.aload_n 0, 1) := by decide +kernel
theorem dX3_readAt_23 : decode cX3_readAt 23 = .ok (.aload_n 0, 1) := by decide +kernel
theorem dX3_readAt_24 : decode cX3_readAt 24 = .ok (.getfield 39, 3) := by decide +kernel
theorem dX3_readAt_27 : decode cX3_readAt 27 = .ok (.putfield 42, 3) := by decide +kernel
theorem dX3_readAt_30 : decode cX3_readAt 30 = .ok (.aload_n 0, 1) := by decide +kernel
theorem dX3_readAt_31 : decode cX3_readAt 31 = .ok (.iconst 0, 1) := by decide +kernel
theorem dX3_readAt_32 : decode cX3_readAt 32 = .ok (.sipush 9999, 3) := by decide +kernel
theorem dX3_readAt_35 : decode cX3_readAt 35 = .ok (.invokevirtual 154, 3) := by decide +kernel
theorem dX3_readAt_38 : decode cX3_readAt 38 = .ok (.ifCond .ne 5, 3) := by decide +kernel
theorem dX3_readAt_41 : decode cX3_readAt 41 = .ok (.iconst 0, 1) := by decide +kernel
theorem dX3_readAt_42 : decode cX3_readAt 42 = .ok (.ireturn, 1) := by decide +kernel
theorem dX3_readAt_43 : decode cX3_readAt 43 = .ok (.aload_n 0, 1) := by decide +kernel
theorem dX3_readAt_44 : decode cX3_readAt 44 = .ok (.aload_n 0, 1) := by decide +kernel
theorem dX3_readAt_45 : decode cX3_readAt 45 = .ok (.getfield 39, 3) := by decide +kernel
theorem dX3_readAt_48 : decode cX3_readAt 48 = .ok (.putfield 45, 3) := by decide +kernel
theorem dX3_readAt_51 : decode cX3_readAt 51 = .ok (.iconst 1, 1) := by decide +kernel
theorem dX3_readAt_52 : decode cX3_readAt 52 = .ok (.ireturn, 1) := by decide +kernel
theorem gcX3_readName__X3_readName_r1 : ∀ w ∈ wsX3_readName_r1, w ∈ wsX3_readName := fun w h => List.mem_cons_of_mem _ (List.mem_append_left _ (List.mem_append_left _ (List.mem_append_left _ (h))))
theorem gcX3_readName__X30 : ∀ w ∈ wsX30, w ∈ wsX3_readName := fun w h => List.mem_cons_of_mem _ (List.mem_append_left _ (List.mem_append_right _ (h)))
set_option maxRecDepth 20000 in
theorem ggX3_readName_X3_markRun : GoodIn wsX3_readName wsX3_markRun := goodIn_sub (List.forall_mem_cons.mpr ⟨(gcX3_readName__X3_readName_r1 _ (List.mem_of_getElem? (i := 10) rfl)), List.forall_mem_append.mpr ⟨List.forall_mem_cons.mpr ⟨(gcX3_readName__X3_readName_r1 _ (List.mem_of_getElem? (i := 11) rfl)), List.forall_mem_cons.mpr ⟨(gcX3_readName__X3_readName_r1 _ (List.mem_of_getElem? (i := 0) rfl)), List.forall_mem_cons.mpr ⟨(gcX3_readName__X3_readName_r1 _ (List.mem_of_getElem? (i := 1) rfl)), List.forall_mem_cons.mpr ⟨(gcX3_readName__X3_readName_r1 _ (List.mem_of_getElem? (i := 12) rfl)), List.forall_mem_cons.mpr ⟨(gcX3_readName__X3_readName_r1 _ (List.mem_of_getElem? (i := 3) rfl)), List.forall_mem_cons.mpr ⟨(gcX3_readName__X3_readName_r1 _ (List.mem_of_getElem? (i := 13) rfl)), List.forall_mem_cons.mpr ⟨(gcX3_readName__X3_readName_r1 _ (List.mem_of_getElem? (i := 14) rfl)), List.forall_mem_cons.mpr ⟨(gcX3_readName__X3_readName_r1 _ (List.mem_of_getElem? (i := 15) rfl)), List.forall_mem_cons.mpr ⟨(gcX3_readName__X3_readName_r1 _ (List.mem_of_getElem? (i := 9) rfl)), List.forall_mem_cons.mpr ⟨(gcX3_readName__X3_readName_r1 _ (List.mem_of_getElem? (i := 16) rfl)), fun _ h => (List.not_mem_nil h).elim⟩⟩⟩⟩⟩⟩⟩⟩⟩⟩, gcX3_readName__X30⟩⟩) gwX3_markRun
set_option maxRecDepth 20000 in
theorem gX3_readName_X3_markRun : GoodIn wsX3_readName (wsV RX3 74 RX3 yX3_markRun wsX3_markRun) := goodIn_app (goodIn_sub (List.forall_mem_cons.mpr ⟨(gcX3_readName__X3_readName_r1 _ (List.mem_of_getElem? (i := 6) rfl)), List.forall_mem_cons.mpr ⟨(gcX3_readName__X3_readName_r1 _ (List.mem_of_getElem? (i := 7) rfl)), List.forall_mem_cons.mpr ⟨(gcX3_readName__X3_readName_r1 _ (List.mem_of_getElem? (i := 8) rfl)), List.forall_mem_cons.mpr ⟨(gcX3_readName__X3_readName_r1 _ (List.mem_of_getElem? (i := 9) rfl)), fun _ h => (List.not_mem_nil h).elim⟩⟩⟩⟩) (by decide +kernel)) ggX3_readName_X3_markRun
set_option maxRecDepth 20000 in
theorem gwX3_isNoRun : wsX3_isNoRun.all goodWord = true := by decide +kernel
set_option maxRecDepth 20000 in
theorem ggX3_readName_X3_isNoRun : GoodIn wsX3_readName wsX3_isNoRun := goodIn_sub (List.forall_mem_cons.mpr ⟨(gcX3_readName__X3_readName_r1 _ (List.mem_of_getElem? (i := 20) rfl)), List.forall_mem_append.mpr ⟨List.forall_mem_cons.mpr ⟨(gcX3_readName__X3_readName_r1 _ (List.mem_of_getElem? (i := 0) rfl)), List.forall_mem_cons.mpr ⟨(gcX3_readName__X3_readName_r1 _ (List.mem_of_getElem? (i := 1) rfl)), List.forall_mem_cons.mpr ⟨(gcX3_readName__X3_readName_r1 _ (List.mem_of_getElem? (i := 21) rfl)), fun _ h => (List.not_mem_nil h).elim⟩⟩⟩, gcX3_readName__X30⟩⟩) gwX3_isNoRun
set_option maxRecDepth 20000 in
theorem gX3_readName_X3_isNoRun : GoodIn wsX3_readName (wsV RX3 180 RX3 yX3_isNoRun wsX3_isNoRun) := goodIn_app (goodIn_sub (List.forall_mem_cons.mpr ⟨(gcX3_readName__X3_readName_r1 _ (List.mem_of_getElem? (i := 17) rfl)), List.forall_mem_cons.mpr ⟨(gcX3_readName__X3_readName_r1 _ (List.mem_of_getElem? (i := 18) rfl)), List.forall_mem_cons.mpr ⟨(gcX3_readName__X3_readName_r1 _ (List.mem_of_getElem? (i := 19) rfl)), List.forall_mem_cons.mpr ⟨(gcX3_readName__X3_readName_r1 _ (List.mem_of_getElem? (i := 9) rfl)), fun _ h => (List.not_mem_nil h).elim⟩⟩⟩⟩) (by decide +kernel)) ggX3_readName_X3_isNoRun
theorem gcX3_readName__X3_readName_r2 : ∀ w ∈ wsX3_readName_r2, w ∈ wsX3_readName := fun w h => List.mem_cons_of_mem _ (List.mem_append_left _ (List.mem_append_left _ (List.mem_append_right _ (List.mem_append_left _ (h)))))
set_option maxRecDepth 20000 in
theorem gmX3_readName__X3_isOwnWord_r1 : ∀ w ∈ wsX3_isOwnWord_r1, w ∈ wsX3_readName := List.forall_mem_cons.mpr ⟨(gcX3_readName__X3_readName_r2 _ (List.mem_of_getElem? (i := 2) rfl)), List.forall_mem_cons.mpr ⟨(gcX3_readName__X3_readName_r2 _ (List.mem_of_getElem? (i := 3) rfl)), List.forall_mem_cons.mpr ⟨(gcX3_readName__X3_readName_r2 _ (List.mem_of_getElem? (i := 4) rfl)), List.forall_mem_cons.mpr ⟨(gcX3_readName__X3_readName_r1 _ (List.mem_of_getElem? (i := 9) rfl)), List.forall_mem_cons.mpr ⟨(gcX3_readName__X3_readName_r2 _ (List.mem_of_getElem? (i := 5) rfl)), List.forall_mem_cons.mpr ⟨(gcX3_readName__X3_readName_r1 _ (List.mem_of_getElem? (i := 1) rfl)), List.forall_mem_cons.mpr ⟨(gcX3_readName__X3_readName_r1 _ (List.mem_of_getElem? (i := 0) rfl)), List.forall_mem_cons.mpr ⟨(gcX3_readName__X3_readName_r1 _ (List.mem_of_getElem? (i := 3) rfl)), List.forall_mem_cons.mpr ⟨(gcX3_readName__X3_readName_r2 _ (List.mem_of_getElem? (i := 6) rfl)), List.forall_mem_cons.mpr ⟨(gcX3_readName__X3_readName_r2 _ (List.mem_of_getElem? (i := 7) rfl)), List.forall_mem_cons.mpr ⟨(gcX3_readName__X3_readName_r2 _ (List.mem_of_getElem? (i := 8) rfl)), List.forall_mem_cons.mpr ⟨(gcX3_readName__X3_readName_r2 _ (List.mem_of_getElem? (i := 9) rfl)), List.forall_mem_cons.mpr ⟨(gcX3_readName__X3_readName_r2 _ (List.mem_of_getElem? (i := 10) rfl)), List.forall_mem_cons.mpr ⟨(gcX3_readName__X3_readName_r2 _ (List.mem_of_getElem? (i := 11) rfl)), List.forall_mem_cons.mpr ⟨(gcX3_readName__X3_readName_r2 _ (List.mem_of_getElem? (i := 12) rfl)), List.forall_mem_cons.mpr ⟨(gcX3_readName__X3_readName_r2 _ (List.mem_of_getElem? (i := 13) rfl)), List.forall_mem_cons.mpr ⟨(gcX3_readName__X3_readName_r2 _ (List.mem_of_getElem? (i := 14) rfl)), List.forall_mem_cons.mpr ⟨(gcX3_readName__X3_readName_r2 _ (List.mem_of_getElem? (i := 15) rfl)), List.forall_mem_cons.mpr ⟨(gcX3_readName__X3_readName_r2 _ (List.mem_of_getElem? (i := 16) rfl)), List.forall_mem_cons.mpr ⟨(gcX3_readName__X3_readName_r2 _ (List.mem_of_getElem? (i := 17) rfl)), List.forall_mem_cons.mpr ⟨(gcX3_readName__X3_readName_r2 _ (List.mem_of_getElem? (i := 18) rfl)), List.forall_mem_cons.mpr ⟨(gcX3_readName__X3_readName_r2 _ (List.mem_of_getElem? (i := 19) rfl)), List.forall_mem_cons.mpr ⟨(gcX3_readName__X3_readName_r2 _ (List.mem_of_getElem? (i := 20) rfl)), List.forall_mem_cons.mpr ⟨(gcX3_readName__X3_readName_r2 _ (List.mem_of_getElem? (i := 21) rfl)), fun _ h => (List.not_mem_nil h).elim⟩⟩⟩⟩⟩⟩⟩⟩⟩⟩⟩⟩⟩⟩⟩⟩⟩⟩⟩⟩⟩⟩⟩⟩
theorem gcX3_readName__X3_readName_r3 : ∀ w ∈ wsX3_readName_r3, w ∈ wsX3_readName := fun w h => List.mem_cons_of_mem _ (List.mem_append_left _ (List.mem_append_left _ (List.mem_append_right _ (List.mem_append_right _ (List.mem_append_left _ (h))))))
set_option maxRecDepth 20000 in
theorem gmX3_readName__X3_isOwnWord_r2 : ∀ w ∈ wsX3_isOwnWord_r2, w ∈ wsX3_readName := List.forall_mem_cons.mpr ⟨(gcX3_readName__X3_readName_r2 _ (List.mem_of_getElem? (i := 22) rfl)), List.forall_mem_cons.mpr ⟨(gcX3_readName__X3_readName_r2 _ (List.mem_of_getElem? (i := 23) rfl)), List.forall_mem_cons.mpr ⟨(gcX3_readName__X3_readName_r3 _ (List.mem_of_getElem? (i := 0) rfl)), List.forall_mem_cons.mpr ⟨(gcX3_readName__X3_readName_r3 _ (List.mem_of_getElem? (i := 1) rfl)), List.forall_mem_cons.mpr ⟨(gcX3_readName__X3_readName_r3 _ (List.mem_of_getElem? (i := 2) rfl)), List.forall_mem_cons.mpr ⟨(gcX3_readName__X3_readName_r3 _ (List.mem_of_getElem? (i := 3) rfl)), List.forall_mem_cons.mpr ⟨(gcX3_readName__X3_readName_r3 _ (List.mem_of_getElem? (i := 4) rfl)), List.forall_mem_cons.mpr ⟨(gcX3_readName__X3_readName_r3 _ (List.mem_of_getElem? (i := 5) rfl)), List.forall_mem_cons.mpr ⟨(gcX3_readName__X3_readName_r3 _ (List.mem_of_getElem? (i := 6) rfl)), List.forall_mem_cons.mpr ⟨(gcX3_readName__X3_readName_r3 _ (List.mem_of_getElem? (i := 7) rfl)), List.forall_mem_cons.mpr ⟨(gcX3_readName__X3_readName_r3 _ (List.mem_of_getElem? (i := 8) rfl)), List.forall_mem_cons.mpr ⟨(gcX3_readName__X3_readName_r3 _ (List.mem_of_getElem? (i := 9) rfl)), List.forall_mem_cons.mpr ⟨(gcX3_readName__X3_readName_r3 _ (List.mem_of_getElem? (i := 10) rfl)), List.forall_mem_cons.mpr ⟨(gcX3_readName__X3_readName_r3 _ (List.mem_of_getElem? (i := 11) rfl)), List.forall_mem_cons.mpr ⟨(gcX3_readName__X3_readName_r3 _ (List.mem_of_getElem? (i := 12) rfl)), List.forall_mem_cons.mpr ⟨(gcX3_readName__X3_readName_r3 _ (List.mem_of_getElem? (i := 13) rfl)), List.forall_mem_cons.mpr ⟨(gcX3_readName__X3_readName_r3 _ (List.mem_of_getElem? (i := 14) rfl)), List.forall_mem_cons.mpr ⟨(gcX3_readName__X3_readName_r3 _ (List.mem_of_getElem? (i := 15) rfl)), List.forall_mem_cons.mpr ⟨(gcX3_readName__X3_readName_r3 _ (List.mem_of_getElem? (i := 16) rfl)), List.forall_mem_cons.mpr ⟨(gcX3_readName__X3_readName_r3 _ (List.mem_of_getElem? (i := 17) rfl)), List.forall_mem_cons.mpr ⟨(gcX3_readName__X3_readName_r3 _ (List.mem_of_getElem? (i := 18) rfl)), List.forall_mem_cons.mpr ⟨(gcX3_readName__X3_readName_r3 _ (List.mem_of_getElem? (i := 19) rfl)), List.forall_mem_cons.mpr ⟨(gcX3_readName__X3_readName_r3 _ (List.mem_of_getElem? (i := 20) rfl)), List.forall_mem_cons.mpr ⟨(gcX3_readName__X3_readName_r3 _ (List.mem_of_getElem? (i := 21) rfl)), fun _ h => (List.not_mem_nil h).elim⟩⟩⟩⟩⟩⟩⟩⟩⟩⟩⟩⟩⟩⟩⟩⟩⟩⟩⟩⟩⟩⟩⟩⟩
theorem gcX3_readName__X3_readName_r4 : ∀ w ∈ wsX3_readName_r4, w ∈ wsX3_readName := fun w h => List.mem_cons_of_mem _ (List.mem_append_left _ (List.mem_append_left _ (List.mem_append_right _ (List.mem_append_right _ (List.mem_append_right _ (List.mem_append_left _ (h)))))))
set_option maxRecDepth 20000 in
theorem gmX3_readName__X3_isOwnWord_r3 : ∀ w ∈ wsX3_isOwnWord_r3, w ∈ wsX3_readName := List.forall_mem_cons.mpr ⟨(gcX3_readName__X3_readName_r3 _ (List.mem_of_getElem? (i := 22) rfl)), List.forall_mem_cons.mpr ⟨(gcX3_readName__X3_readName_r3 _ (List.mem_of_getElem? (i := 23) rfl)), List.forall_mem_cons.mpr ⟨(gcX3_readName__X3_readName_r4 _ (List.mem_of_getElem? (i := 0) rfl)), List.forall_mem_cons.mpr ⟨(gcX3_readName__X3_readName_r4 _ (List.mem_of_getElem? (i := 1) rfl)), List.forall_mem_cons.mpr ⟨(gcX3_readName__X3_readName_r4 _ (List.mem_of_getElem? (i := 2) rfl)), List.forall_mem_cons.mpr ⟨(gcX3_readName__X3_readName_r4 _ (List.mem_of_getElem? (i := 3) rfl)), List.forall_mem_cons.mpr ⟨(gcX3_readName__X3_readName_r4 _ (List.mem_of_getElem? (i := 4) rfl)), List.forall_mem_cons.mpr ⟨(gcX3_readName__X3_readName_r4 _ (List.mem_of_getElem? (i := 5) rfl)), List.forall_mem_cons.mpr ⟨(gcX3_readName__X3_readName_r4 _ (List.mem_of_getElem? (i := 6) rfl)), fun _ h => (List.not_mem_nil h).elim⟩⟩⟩⟩⟩⟩⟩⟩⟩
set_option maxRecDepth 20000 in
theorem gwX3_isOwnWord : wsX3_isOwnWord.all goodWord = true := by decide +kernel
set_option maxRecDepth 20000 in
theorem ggX3_readName_X3_isOwnWord : GoodIn wsX3_readName wsX3_isOwnWord := goodIn_sub (List.forall_mem_cons.mpr ⟨(gcX3_readName__X3_readName_r2 _ (List.mem_of_getElem? (i := 1) rfl)), List.forall_mem_append.mpr ⟨List.forall_mem_append.mpr ⟨gmX3_readName__X3_isOwnWord_r1, List.forall_mem_append.mpr ⟨gmX3_readName__X3_isOwnWord_r2, gmX3_readName__X3_isOwnWord_r3⟩⟩, gcX3_readName__X30⟩⟩) gwX3_isOwnWord
set_option maxRecDepth 20000 in
theorem gX3_readName_X3_isOwnWord : GoodIn wsX3_readName (wsV RX3 183 RX3 yX3_isOwnWord wsX3_isOwnWord) := goodIn_app (goodIn_sub (List.forall_mem_cons.mpr ⟨(gcX3_readName__X3_readName_r1 _ (List.mem_of_getElem? (i := 22) rfl)), List.forall_mem_cons.mpr ⟨(gcX3_readName__X3_readName_r1 _ (List.mem_of_getElem? (i := 23) rfl)), List.forall_mem_cons.mpr ⟨(gcX3_readName__X3_readName_r2 _ (List.mem_of_getElem? (i := 0) rfl)), List.forall_mem_cons.mpr ⟨(gcX3_readName__X3_readName_r1 _ (List.mem_of_getElem? (i := 9) rfl)), fun _ h => (List.not_mem_nil h).elim⟩⟩⟩⟩) (by decide +kernel)) ggX3_readName_X3_isOwnWord
set_option maxRecDepth 20000 in
theorem ggX3_readName_X3_fail : GoodIn wsX3_readName wsX3_fail := goodIn_sub (List.forall_mem_cons.mpr ⟨(gcX3_readName__X3_readName_r4 _ (List.mem_of_getElem? (i := 10) rfl)), List.forall_mem_append.mpr ⟨List.forall_mem_cons.mpr ⟨(gcX3_readName__X3_readName_r4 _ (List.mem_of_getElem? (i := 11) rfl)), List.forall_mem_cons.mpr ⟨(gcX3_readName__X3_readName_r4 _ (List.mem_of_getElem? (i := 12) rfl)), fun _ h => (List.not_mem_nil h).elim⟩⟩, gcX3_readName__X30⟩⟩) gwX3_fail
set_option maxRecDepth 20000 in
theorem gX3_readName_X3_fail : GoodIn wsX3_readName (wsV RX3 78 RX3 yX3_fail wsX3_fail) := goodIn_app (goodIn_sub (List.forall_mem_cons.mpr ⟨(gcX3_readName__X3_readName_r4 _ (List.mem_of_getElem? (i := 7) rfl)), List.forall_mem_cons.mpr ⟨(gcX3_readName__X3_readName_r4 _ (List.mem_of_getElem? (i := 8) rfl)), List.forall_mem_cons.mpr ⟨(gcX3_readName__X3_readName_r4 _ (List.mem_of_getElem? (i := 9) rfl)), List.forall_mem_cons.mpr ⟨(gcX3_readName__X3_readName_r1 _ (List.mem_of_getElem? (i := 9) rfl)), fun _ h => (List.not_mem_nil h).elim⟩⟩⟩⟩) (by decide +kernel)) ggX3_readName_X3_fail
set_option maxRecDepth 20000 in
theorem ggX3_readName_X3_passRun : GoodIn wsX3_readName wsX3_passRun := goodIn_sub (List.forall_mem_cons.mpr ⟨(gcX3_readName__X3_readName_r4 _ (List.mem_of_getElem? (i := 16) rfl)), List.forall_mem_append.mpr ⟨List.forall_mem_cons.mpr ⟨(gcX3_readName__X3_readName_r1 _ (List.mem_of_getElem? (i := 1) rfl)), List.forall_mem_cons.mpr ⟨(gcX3_readName__X3_readName_r1 _ (List.mem_of_getElem? (i := 11) rfl)), List.forall_mem_cons.mpr ⟨(gcX3_readName__X3_readName_r1 _ (List.mem_of_getElem? (i := 21) rfl)), fun _ h => (List.not_mem_nil h).elim⟩⟩⟩, gcX3_readName__X30⟩⟩) gwX3_passRun
set_option maxRecDepth 20000 in
theorem gX3_readName_X3_passRun : GoodIn wsX3_readName (wsV RX3 89 RX3 yX3_passRun wsX3_passRun) := goodIn_app (goodIn_sub (List.forall_mem_cons.mpr ⟨(gcX3_readName__X3_readName_r4 _ (List.mem_of_getElem? (i := 13) rfl)), List.forall_mem_cons.mpr ⟨(gcX3_readName__X3_readName_r4 _ (List.mem_of_getElem? (i := 14) rfl)), List.forall_mem_cons.mpr ⟨(gcX3_readName__X3_readName_r4 _ (List.mem_of_getElem? (i := 15) rfl)), List.forall_mem_cons.mpr ⟨(gcX3_readName__X3_readName_r1 _ (List.mem_of_getElem? (i := 9) rfl)), fun _ h => (List.not_mem_nil h).elim⟩⟩⟩⟩) (by decide +kernel)) ggX3_readName_X3_passRun
theorem gcX3_readName__X80 : ∀ w ∈ wsX80, w ∈ wsX3_readName := fun w h => List.mem_cons_of_mem _ (List.mem_append_right _ (h))
set_option maxRecDepth 20000 in
theorem gwX8_find : wsX8_find.all goodWord = true := by decide +kernel
set_option maxRecDepth 20000 in
theorem ggX3_readName_X8_find : GoodIn wsX3_readName wsX8_find := goodIn_sub (List.forall_mem_cons.mpr ⟨(gcX3_readName__X3_readName_r4 _ (List.mem_of_getElem? (i := 21) rfl)), List.forall_mem_append.mpr ⟨List.forall_mem_cons.mpr ⟨(gcX3_readName__X3_readName_r4 _ (List.mem_of_getElem? (i := 22) rfl)), List.forall_mem_cons.mpr ⟨(gcX3_readName__X3_readName_r4 _ (List.mem_of_getElem? (i := 23) rfl)), fun _ h => (List.not_mem_nil h).elim⟩⟩, gcX3_readName__X80⟩⟩) gwX8_find
set_option maxRecDepth 20000 in
theorem gX3_readName_X8_find : GoodIn wsX3_readName (wsV RX3 186 RX8 yX8_find wsX8_find) := goodIn_app (goodIn_sub (List.forall_mem_cons.mpr ⟨(gcX3_readName__X3_readName_r4 _ (List.mem_of_getElem? (i := 17) rfl)), List.forall_mem_cons.mpr ⟨(gcX3_readName__X3_readName_r4 _ (List.mem_of_getElem? (i := 18) rfl)), List.forall_mem_cons.mpr ⟨(gcX3_readName__X3_readName_r4 _ (List.mem_of_getElem? (i := 19) rfl)), List.forall_mem_cons.mpr ⟨(gcX3_readName__X3_readName_r4 _ (List.mem_of_getElem? (i := 20) rfl)), fun _ h => (List.not_mem_nil h).elim⟩⟩⟩⟩) (by decide +kernel)) ggX3_readName_X8_find
theorem gcX3_readName__X3_readName_r5 : ∀ w ∈ wsX3_readName_r5, w ∈ wsX3_readName := fun w h => List.mem_cons_of_mem _ (List.mem_append_left _ (List.mem_append_left _ (List.mem_append_right _ (List.mem_append_right _ (List.mem_append_right _ (List.mem_append_right _ (h)))))))
set_option maxRecDepth 20000 in
theorem gwX8_isNamed : wsX8_isNamed.all goodWord = true := by decide +kernel
set_option maxRecDepth 20000 in
theorem ggX3_readName_X8_isNamed : GoodIn wsX3_readName wsX8_isNamed := goodIn_sub (List.forall_mem_cons.mpr ⟨(gcX3_readName__X3_readName_r5 _ (List.mem_of_getElem? (i := 3) rfl)), List.forall_mem_append.mpr ⟨List.forall_mem_cons.mpr ⟨(gcX3_readName__X3_readName_r5 _ (List.mem_of_getElem? (i := 4) rfl)), List.forall_mem_cons.mpr ⟨(gcX3_readName__X3_readName_r4 _ (List.mem_of_getElem? (i := 18) rfl)), List.forall_mem_cons.mpr ⟨(gcX3_readName__X3_readName_r4 _ (List.mem_of_getElem? (i := 19) rfl)), List.forall_mem_cons.mpr ⟨(gcX3_readName__X3_readName_r4 _ (List.mem_of_getElem? (i := 20) rfl)), List.forall_mem_cons.mpr ⟨(gcX3_readName__X3_readName_r4 _ (List.mem_of_getElem? (i := 21) rfl)), List.forall_mem_cons.mpr ⟨(gcX3_readName__X3_readName_r4 _ (List.mem_of_getElem? (i := 22) rfl)), List.forall_mem_cons.mpr ⟨(gcX3_readName__X3_readName_r4 _ (List.mem_of_getElem? (i := 23) rfl)), fun _ h => (List.not_mem_nil h).elim⟩⟩⟩⟩⟩⟩⟩, gcX3_readName__X80⟩⟩) gwX8_isNamed
set_option maxRecDepth 20000 in
theorem gX3_readName_X8_isNamed : GoodIn wsX3_readName (wsV RX3 189 RX8 yX8_isNamed wsX8_isNamed) := goodIn_app (goodIn_sub (List.forall_mem_cons.mpr ⟨(gcX3_readName__X3_readName_r5 _ (List.mem_of_getElem? (i := 0) rfl)), List.forall_mem_cons.mpr ⟨(gcX3_readName__X3_readName_r5 _ (List.mem_of_getElem? (i := 1) rfl)), List.forall_mem_cons.mpr ⟨(gcX3_readName__X3_readName_r5 _ (List.mem_of_getElem? (i := 2) rfl)), List.forall_mem_cons.mpr ⟨(gcX3_readName__X3_readName_r4 _ (List.mem_of_getElem? (i := 20) rfl)), fun _ h => (List.not_mem_nil h).elim⟩⟩⟩⟩) (by decide +kernel)) ggX3_readName_X8_isNamed
theorem dX3_readName_0 : decode cX3_readName 0 = .ok (.aload_n 0, 1) := by decide +kernel
theorem dX3_readName_1 : decode cX3_readName 1 = .ok (.bipush 97, 2) := by decide +kernel
theorem dX3_readName_3 : decode cX3_readName 3 = .ok (.bipush 122, 2) := by decide +kernel
theorem dX3_readName_5 : decode cX3_readName 5 = .ok (.invokevirtual 74, 3) := by decide +kernel
theorem dX3_readName_8 : decode cX3_readName 8 = .ok (.aload_n 0, 1) := by decide +kernel
theorem dX3_readName_9 : decode cX3_readName 9 = .ok (.invokevirtual 180, 3) := by decide +kernel
theorem dX3_readName_12 : decode cX3_readName 12 = .ok (.ifCond .ne 10, 3) := by decide +kernel
theorem dX3_readName_15 : decode cX3_readName 15 = .ok (.aload_n 0, 1) := by decide +kernel
theorem dX3_readName_16 : decode cX3_readName 16 = .ok (.invokevirtual 183, 3) := by decide +kernel
theorem dX3_readName_19 : decode cX3_readName 19 = .ok (.ifCond .eq 13, 3) := by decide +kernel
theorem dX3_readName_22 : decode cX3_readName 22 = .ok (.aload_n 0, 1) := by decide +kernel
theorem dX3_readName_23 : decode cX3_readName 23 = .ok (.iconst 1, 1) := by decide +kernel
theorem dX3_readName_24 : decode cX3_readName 24 = .ok (.aload_n 0, 1) := by decide +kernel
theorem dX3_readName_25 : decode cX3_readName 25 = .ok (.getfield 24, 3) := by decide +kernel
theorem dX3_readName_28 : decode cX3_readName 28 = .ok (.invokevirtual 78, 3) := by decide +kernel
theorem dX3_readName_31 : decode cX3_readName 31 = .ok (.ireturn, 1) := by decide +kernel
theorem dX3_readName_32 : decode cX3_readName 32 = .ok (.aload_n 0, 1) := by decide +kernel
theorem dX3_readName_33 : decode cX3_readName 33 = .ok (.getfield 27, 3) := by decide +kernel
theorem dX3_readName_36 : decode cX3_readName 36 = .ok (.aload_n 0, 1) := by decide +kernel
theorem dX3_readName_37 : decode cX3_readName 37 = .ok (.getfield 24, 3) := by decide +kernel
theorem dX3_readName_40 : decode cX3_readName 40 = .ok (.isub, 1) := by decide +kernel
theorem dX3_readName_41 : decode cX3_readName 41 = .ok (.bipush 6, 2) := by decide +kernel
theorem dX3_readName_43 : decode cX3_readName 43 = .ok (.if_icmp .le 16, 3) := by decide +kernel
theorem dX3_readName_46 : decode cX3_readName 46 = .ok (.aload_n 0, 1) := by decide +kernel
theorem dX3_readName_47 : decode cX3_readName 47 = .ok (.iconst 1, 1) := by decide +kernel
theorem dX3_readName_48 : decode cX3_readName 48 = .ok (.aload_n 0, 1) := by decide +kernel
theorem dX3_readName_49 : decode cX3_readName 49 = .ok (.getfield 24, 3) := by decide +kernel
theorem dX3_readName_52 : decode cX3_readName 52 = .ok (.bipush 6, 2) := by decide +kernel
theorem dX3_readName_54 : decode cX3_readName 54 = .ok (.iadd, 1) := by decide +kernel
theorem dX3_readName_55 : decode cX3_readName 55 = .ok (.invokevirtual 78, 3) := by decide +kernel
theorem dX3_readName_58 : decode cX3_readName 58 = .ok (.ireturn, 1) := by decide +kernel
theorem dX3_readName_59 : decode cX3_readName 59 = .ok (.aload_n 0, 1) := by decide +kernel
theorem dX3_readName_60 : decode cX3_readName 60 = .ok (.iconst 0, 1) := by decide +kernel
theorem dX3_readName_61 : decode cX3_readName 61 = .ok (.putfield 33, 3) := by decide +kernel
theorem dX3_readName_64 : decode cX3_readName 64 = .ok (.iconst 0, 1) := by decide +kernel
theorem dX3_readName_65 : decode cX3_readName 65 = .ok (.istore_n 2, 1) := by decide +kernel
theorem dX3_readName_66 : decode cX3_readName 66 = .ok (.iload_n 2, 1) := by decide +kernel
theorem dX3_readName_67 : decode cX3_readName 67 = .ok (.bipush 6, 2) := by decide +kernel
theorem dX3_readName_69 : decode cX3_readName 69 = .ok (.if_icmp .ge 54, 3) := by decide +kernel
theorem dX3_readName_72 : decode cX3_readName 72 = .ok (.aload_n 0, 1) := by decide +kernel
theorem dX3_readName_73 : decode cX3_readName 73 = .ok (.bipush 27, 2) := by decide +kernel
theorem dX3_readName_75 : decode cX3_readName 75 = .ok (.aload_n 0, 1) := by decide +kernel
theorem dX3_readName_76 : decode cX3_readName 76 = .ok (.getfield 33, 3) := by decide +kernel
theorem dX3_readName_79 : decode cX3_readName 79 = .ok (.imul, 1) := by decide +kernel
theorem dX3_readName_80 : decode cX3_readName 80 = .ok (.aload_n 0, 1) := by decide +kernel
theorem dX3_readName_81 : decode cX3_readName 81 = .ok (.getfield 24, 3) := by decide +kernel
theorem dX3_readName_84 : decode cX3_readName 84 = .ok (.iload_n 2, 1) := by decide +kernel
theorem dX3_readName_85 : decode cX3_readName 85 = .ok (.iadd, 1) := by decide +kernel
theorem dX3_readName_86 : decode cX3_readName 86 = .ok (.aload_n 0, 1) := by decide +kernel
theorem dX3_readName_87 : decode cX3_readName 87 = .ok (.getfield 27, 3) := by decide +kernel
theorem dX3_readName_90 : decode cX3_readName 90 = .ok (.if_icmp .ge 22, 3) := by decide +kernel
theorem dX3_readName_93 : decode cX3_readName 93 = .ok (.aload_n 0, 1) := by decide +kernel
theorem dX3_readName_94 : decode cX3_readName 94 = .ok (.getfield 48, 3) := by decide +kernel
theorem dX3_readName_97 : decode cX3_readName 97 = .ok (.aload_n 0, 1) := by decide +kernel
theorem dX3_readName_98 : decode cX3_readName 98 = .ok (.getfield 24, 3) := by decide +kernel
theorem dX3_readName_101 : decode cX3_readName 101 = .ok (.iload_n 2, 1) := by decide +kernel
theorem dX3_readName_102 : decode cX3_readName 102 = .ok (.iadd, 1) := by decide +kernel
theorem dX3_readName_103 : decode cX3_readName 103 = .ok (.iaload, 1) := by decide +kernel
theorem dX3_readName_104 : decode cX3_readName 104 = .ok (.bipush 97, 2) := by decide +kernel
theorem dX3_readName_106 : decode cX3_readName 106 = .ok (.isub, 1) := by decide +kernel
theorem dX3_readName_107 : decode cX3_readName 107 = .ok (.iconst 1, 1) := by decide +kernel
theorem dX3_readName_108 : decode cX3_readName 108 = .ok (.iadd, 1) := by decide +kernel
theorem dX3_readName_109 : decode cX3_readName 109 = .ok (.goto 4, 3) := by decide +kernel
theorem dX3_readName_112 : decode cX3_readName 112 = .ok (.iconst 0, 1) := by decide +kernel
theorem dX3_readName_113 : decode cX3_readName 113 = .ok (.iadd, 1) := by decide +kernel
theorem dX3_readName_114 : decode cX3_readName 114 = .ok (.putfield 33, 3) := by decide +kernel
theorem dX3_readName_117 : decode cX3_readName 117 = .ok (.iinc 2 1, 3) := by decide +kernel
theorem dX3_readName_120 : decode cX3_readName 120 = .ok (.goto (-54), 3) := by decide +kernel
theorem dX3_readName_123 : decode cX3_readName 123 = .ok (.aload_n 0, 1) := by decide +kernel
theorem dX3_readName_124 : decode cX3_readName 124 = .ok (.invokevirtual 89, 3) := by decide +kernel
theorem dX3_readName_127 : decode cX3_readName 127 = .ok (.aload_n 0, 1) := by decide +kernel
theorem dX3_readName_128 : decode cX3_readName 128 = .ok (.iload_n 1, 1) := by decide +kernel
theorem dX3_readName_129 : decode cX3_readName 129 = .ok (.iconst (-1), 1) := by decide +kernel
theorem dX3_readName_130 : decode cX3_readName 130 = .ok (.if_icmp .ne 7, 3) := by decide +kernel
theorem dX3_readName_133 : decode cX3_readName 133 = .ok (.iconst (-1), 1) := by decide +kernel
theorem dX3_readName_134 : decode cX3_readName 134 = .ok (.goto 15, 3) := by decide +kernel
theorem dX3_readName_137 : decode cX3_readName 137 = .ok (.aload_n 0, 1) := by decide +kernel
theorem dX3_readName_138 : decode cX3_readName 138 = .ok (.getfield 52, 3) := by decide +kernel
theorem dX3_readName_141 : decode cX3_readName 141 = .ok (.iload_n 1, 1) := by decide +kernel
theorem dX3_readName_142 : decode cX3_readName 142 = .ok (.aload_n 0, 1) := by decide +kernel
theorem dX3_readName_143 : decode cX3_readName 143 = .ok (.getfield 33, 3) := by decide +kernel
theorem dX3_readName_146 : decode cX3_readName 146 = .ok (.invokevirtual 186, 3) := by decide +kernel
theorem dX3_readName_149 : decode cX3_readName 149 = .ok (.putfield 36, 3) := by decide +kernel
theorem dX3_readName_152 : decode cX3_readName 152 = .ok (.iload_n 1, 1) := by decide +kernel
theorem dX3_readName_153 : decode cX3_readName 153 = .ok (.iconst (-1), 1) := by decide +kernel
theorem dX3_readName_154 : decode cX3_readName 154 = .ok (.if_icmp .ne 25, 3) := by decide +kernel
theorem dX3_readName_157 : decode cX3_readName 157 = .ok (.aload_n 0, 1) := by decide +kernel
theorem dX3_readName_158 : decode cX3_readName 158 = .ok (.getfield 52, 3) := by decide +kernel
theorem dX3_readName_161 : decode cX3_readName 161 = .ok (.aload_n 0, 1) := by decide +kernel
theorem dX3_readName_162 : decode cX3_readName 162 = .ok (.getfield 33, 3) := by decide +kernel
theorem dX3_readName_165 : decode cX3_readName 165 = .ok (.invokevirtual 189, 3) := by decide +kernel
theorem dX3_readName_168 : decode cX3_readName 168 = .ok (.ifCond .ne 7, 3) := by decide +kernel
theorem dX3_readName_171 : decode cX3_readName 171 = .ok (.iconst 1, 1) := by decide +kernel
theorem dX3_readName_172 : decode cX3_readName 172 = .ok (.goto 20, 3) := by decide +kernel
theorem dX3_readName_175 : decode cX3_readName 175 = .ok (.iconst 0, 1) := by decide +kernel
theorem dX3_readName_176 : decode cX3_readName 176 = .ok (.goto 16, 3) := by decide +kernel
theorem dX3_readName_179 : decode cX3_readName 179 = .ok (.aload_n 0, 1) := by decide +kernel
theorem dX3_readName_180 : decode cX3_readName 180 = .ok (.getfield 36, 3) := by decide +kernel
theorem dX3_readName_183 : decode cX3_readName 183 = .ok (.iconst (-1), 1) := by decide +kernel
theorem dX3_readName_184 : decode cX3_readName 184 = .ok (.if_icmp .eq 7, 3) := by decide +kernel
theorem dX3_readName_187 : decode cX3_readName 187 = .ok (.iconst 1, 1) := by decide +kernel
theorem dX3_readName_188 : decode cX3_readName 188 = .ok (.goto 4, 3) := by decide +kernel
theorem dX3_readName_191 : decode cX3_readName 191 = .ok (.iconst 0, 1) := by decide +kernel
theorem dX3_readName_192 : decode cX3_readName 192 = .ok (.istore_n 2, 1) := by decide +kernel
theorem dX3_readName_193 : decode cX3_readName 193 = .ok (.iload_n 2, 1) := by decide +kernel
theorem dX3_readName_194 : decode cX3_readName 194 = .ok (.ifCond .eq 7, 3) := by decide +kernel
theorem dX3_readName_197 : decode cX3_readName 197 = .ok (.iconst 1, 1) := by decide +kernel
theorem dX3_readName_198 : decode cX3_readName 198 = .ok (.goto 12, 3) := by decide +kernel
theorem dX3_readName_201 : decode cX3_readName 201 = .ok (.aload_n 0, 1) := by decide +kernel
theorem dX3_readName_202 : decode cX3_readName 202 = .ok (.iconst 3, 1) := by decide +kernel
theorem dX3_readName_203 : decode cX3_readName 203 = .ok (.aload_n 0, 1) := by decide +kernel
theorem dX3_readName_204 : decode cX3_readName 204 = .ok (.getfield 24, 3) := by decide +kernel
theorem dX3_readName_207 : decode cX3_readName 207 = .ok (.invokevirtual 78, 3) := by decide +kernel
theorem dX3_readName_210 : decode cX3_readName 210 = .ok (.ireturn, 1) := by decide +kernel
theorem gcX3_readWord__X3_readWord_r1 : ∀ w ∈ wsX3_readWord_r1, w ∈ wsX3_readWord := fun w h => List.mem_cons_of_mem _ (List.mem_append_left _ (List.mem_append_left _ (h)))
theorem gcX3_readWord__X30 : ∀ w ∈ wsX30, w ∈ wsX3_readWord := fun w h => List.mem_cons_of_mem _ (List.mem_append_right _ (h))
set_option maxRecDepth 20000 in
theorem ggX3_readWord_X3_markRun : GoodIn wsX3_readWord wsX3_markRun := goodIn_sub (List.forall_mem_cons.mpr ⟨(gcX3_readWord__X3_readWord_r1 _ (List.mem_of_getElem? (i := 5) rfl)), List.forall_mem_append.mpr ⟨List.forall_mem_cons.mpr ⟨(gcX3_readWord__X3_readWord_r1 _ (List.mem_of_getElem? (i := 6) rfl)), List.forall_mem_cons.mpr ⟨(gcX3_readWord__X3_readWord_r1 _ (List.mem_of_getElem? (i := 0) rfl)), List.forall_mem_cons.mpr ⟨(gcX3_readWord__X3_readWord_r1 _ (List.mem_of_getElem? (i := 7) rfl)), List.forall_mem_cons.mpr ⟨(gcX3_readWord__X3_readWord_r1 _ (List.mem_of_getElem? (i := 8) rfl)), List.forall_mem_cons.mpr ⟨(gcX3_readWord__X3_readWord_r1 _ (List.mem_of_getElem? (i := 9) rfl)), List.forall_mem_cons.mpr ⟨(gcX3_readWord__X3_readWord_r1 _ (List.mem_of_getElem? (i := 10) rfl)), List.forall_mem_cons.mpr ⟨(gcX3_readWord__X3_readWord_r1 _ (List.mem_of_getElem? (i := 11) rfl)), List.forall_mem_cons.mpr ⟨(gcX3_readWord__X3_readWord_r1 _ (List.mem_of_getElem? (i := 12) rfl)), List.forall_mem_cons.mpr ⟨(gcX3_readWord__X3_readWord_r1 _ (List.mem_of_getElem? (i := 4) rfl)), List.forall_mem_cons.mpr ⟨(gcX3_readWord__X3_readWord_r1 _ (List.mem_of_getElem? (i := 13) rfl)), fun _ h => (List.not_mem_nil h).elim⟩⟩⟩⟩⟩⟩⟩⟩⟩⟩, gcX3_readWord__X30⟩⟩) gwX3_markRun
set_option maxRecDepth 20000 in
theorem gX3_readWord_X3_markRun : GoodIn wsX3_readWord (wsV RX3 74 RX3 yX3_markRun wsX3_markRun) := goodIn_app (goodIn_sub (List.forall_mem_cons.mpr ⟨(gcX3_readWord__X3_readWord_r1 _ (List.mem_of_getElem? (i := 1) rfl)), List.forall_mem_cons.mpr ⟨(gcX3_readWord__X3_readWord_r1 _ (List.mem_of_getElem? (i := 2) rfl)), List.forall_mem_cons.mpr ⟨(gcX3_readWord__X3_readWord_r1 _ (List.mem_of_getElem? (i := 3) rfl)), List.forall_mem_cons.mpr ⟨(gcX3_readWord__X3_readWord_r1 _ (List.mem_of_getElem? (i := 4) rfl)), fun _ h => (List.not_mem_nil h).elim⟩⟩⟩⟩) (by decide +kernel)) ggX3_readWord_X3_markRun
set_option maxRecDepth 20000 in
theorem ggX3_readWord_X3_isNoRun : GoodIn wsX3_readWord wsX3_isNoRun := goodIn_sub (List.forall_mem_cons.mpr ⟨(gcX3_readWord__X3_readWord_r1 _ (List.mem_of_getElem? (i := 17) rfl)), List.forall_mem_append.mpr ⟨List.forall_mem_cons.mpr ⟨(gcX3_readWord__X3_readWord_r1 _ (List.mem_of_getElem? (i := 0) rfl)), List.forall_mem_cons.mpr ⟨(gcX3_readWord__X3_readWord_r1 _ (List.mem_of_getElem? (i := 7) rfl)), List.forall_mem_cons.mpr ⟨(gcX3_readWord__X3_readWord_r1 _ (List.mem_of_getElem? (i := 18) rfl)), fun _ h => (List.not_mem_nil h).elim⟩⟩⟩, gcX3_readWord__X30⟩⟩) gwX3_isNoRun
set_option maxRecDepth 20000 in
theorem gX3_readWord_X3_isNoRun : GoodIn wsX3_readWord (wsV RX3 180 RX3 yX3_isNoRun wsX3_isNoRun) := goodIn_app (goodIn_sub (List.forall_mem_cons.mpr ⟨(gcX3_readWord__X3_readWord_r1 _ (List.mem_of_getElem? (i := 14) rfl)), List.forall_mem_cons.mpr ⟨(gcX3_readWord__X3_readWord_r1 _ (List.mem_of_getElem? (i := 15) rfl)), List.forall_mem_cons.mpr ⟨(gcX3_readWord__X3_readWord_r1 _ (List.mem_of_getElem? (i := 16) rfl)), List.forall_mem_cons.mpr ⟨(gcX3_readWord__X3_readWord_r1 _ (List.mem_of_getElem? (i := 4) rfl)), fun _ h => (List.not_mem_nil h).elim⟩⟩⟩⟩) (by decide +kernel)) ggX3_readWord_X3_isNoRun
theorem gcX3_readWord__X3_readWord_r2 : ∀ w ∈ wsX3_readWord_r2, w ∈ wsX3_readWord := fun w h => List.mem_cons_of_mem _ (List.mem_append_left _ (List.mem_append_right _ (List.mem_append_left _ (h))))
set_option maxRecDepth 20000 in
theorem gmX3_readWord__X3_isWord_r1 : ∀ w ∈ wsX3_isWord_r1, w ∈ wsX3_readWord := List.forall_mem_cons.mpr ⟨(gcX3_readWord__X3_readWord_r1 _ (List.mem_of_getElem? (i := 7) rfl)), List.forall_mem_cons.mpr ⟨(gcX3_readWord__X3_readWord_r1 _ (List.mem_of_getElem? (i := 0) rfl)), List.forall_mem_cons.mpr ⟨(gcX3_readWord__X3_readWord_r1 _ (List.mem_of_getElem? (i := 9) rfl)), List.forall_mem_cons.mpr ⟨(gcX3_readWord__X3_readWord_r1 _ (List.mem_of_getElem? (i := 23) rfl)), List.forall_mem_cons.mpr ⟨(gcX3_readWord__X3_readWord_r2 _ (List.mem_of_getElem? (i := 0) rfl)), List.forall_mem_cons.mpr ⟨(gcX3_readWord__X3_readWord_r2 _ (List.mem_of_getElem? (i := 1) rfl)), List.forall_mem_cons.mpr ⟨(gcX3_readWord__X3_readWord_r2 _ (List.mem_of_getElem? (i := 2) rfl)), List.forall_mem_cons.mpr ⟨(gcX3_readWord__X3_readWord_r2 _ (List.mem_of_getElem? (i := 3) rfl)), List.forall_mem_cons.mpr ⟨(gcX3_readWord__X3_readWord_r2 _ (List.mem_of_getElem? (i := 4) rfl)), List.forall_mem_cons.mpr ⟨(gcX3_readWord__X3_readWord_r2 _ (List.mem_of_getElem? (i := 5) rfl)), List.forall_mem_cons.mpr ⟨(gcX3_readWord__X3_readWord_r2 _ (List.mem_of_getElem? (i := 6) rfl)), List.forall_mem_cons.mpr ⟨(gcX3_readWord__X3_readWord_r2 _ (List.mem_of_getElem? (i := 7) rfl)), List.forall_mem_cons.mpr ⟨(gcX3_readWord__X3_readWord_r2 _ (List.mem_of_getElem? (i := 8) rfl)), List.forall_mem_cons.mpr ⟨(gcX3_readWord__X3_readWord_r2 _ (List.mem_of_getElem? (i := 9) rfl)), List.forall_mem_cons.mpr ⟨(gcX3_readWord__X3_readWord_r2 _ (List.mem_of_getElem? (i := 10) rfl)), List.forall_mem_cons.mpr ⟨(gcX3_readWord__X3_readWord_r2 _ (List.mem_of_getElem? (i := 11) rfl)), List.forall_mem_cons.mpr ⟨(gcX3_readWord__X3_readWord_r2 _ (List.mem_of_getElem? (i := 12) rfl)), List.forall_mem_cons.mpr ⟨(gcX3_readWord__X3_readWord_r2 _ (List.mem_of_getElem? (i := 13) rfl)), List.forall_mem_cons.mpr ⟨(gcX3_readWord__X3_readWord_r2 _ (List.mem_of_getElem? (i := 14) rfl)), List.forall_mem_cons.mpr ⟨(gcX3_readWord__X3_readWord_r2 _ (List.mem_of_getElem? (i := 15) rfl)), List.forall_mem_cons.mpr ⟨(gcX3_readWord__X3_readWord_r2 _ (List.mem_of_getElem? (i := 16) rfl)), List.forall_mem_cons.mpr ⟨(gcX3_readWord__X3_readWord_r2 _ (List.mem_of_getElem? (i := 17) rfl)), List.forall_mem_cons.mpr ⟨(gcX3_readWord__X3_readWord_r2 _ (List.mem_of_getElem? (i := 18) rfl)), List.forall_mem_cons.mpr ⟨(gcX3_readWord__X3_readWord_r2 _ (List.mem_of_getElem? (i := 19) rfl)), fun _ h => (List.not_mem_nil h).elim⟩⟩⟩⟩⟩⟩⟩⟩⟩⟩⟩⟩⟩⟩⟩⟩⟩⟩⟩⟩⟩⟩⟩⟩
theorem gcX3_readWord__X3_readWord_r3 : ∀ w ∈ wsX3_readWord_r3, w ∈ wsX3_readWord := fun w h => List.mem_cons_of_mem _ (List.mem_append_left _ (List.mem_append_right _ (List.mem_append_right _ (List.mem_append_left _ (h)))))
set_option maxRecDepth 20000 in
theorem gmX3_readWord__X3_isWord_r2 : ∀ w ∈ wsX3_isWord_r2, w ∈ wsX3_readWord := List.forall_mem_cons.mpr ⟨(gcX3_readWord__X3_readWord_r2 _ (List.mem_of_getElem? (i := 20) rfl)), List.forall_mem_cons.mpr ⟨(gcX3_readWord__X3_readWord_r2 _ (List.mem_of_getElem? (i := 21) rfl)), List.forall_mem_cons.mpr ⟨(gcX3_readWord__X3_readWord_r2 _ (List.mem_of_getElem? (i := 22) rfl)), List.forall_mem_cons.mpr ⟨(gcX3_readWord__X3_readWord_r2 _ (List.mem_of_getElem? (i := 23) rfl)), List.forall_mem_cons.mpr ⟨(gcX3_readWord__X3_readWord_r3 _ (List.mem_of_getElem? (i := 0) rfl)), List.forall_mem_cons.mpr ⟨(gcX3_readWord__X3_readWord_r3 _ (List.mem_of_getElem? (i := 1) rfl)), List.forall_mem_cons.mpr ⟨(gcX3_readWord__X3_readWord_r3 _ (List.mem_of_getElem? (i := 2) rfl)), List.forall_mem_cons.mpr ⟨(gcX3_readWord__X3_readWord_r3 _ (List.mem_of_getElem? (i := 3) rfl)), List.forall_mem_cons.mpr ⟨(gcX3_readWord__X3_readWord_r3 _ (List.mem_of_getElem? (i := 4) rfl)), List.forall_mem_cons.mpr ⟨(gcX3_readWord__X3_readWord_r3 _ (List.mem_of_getElem? (i := 5) rfl)), List.forall_mem_cons.mpr ⟨(gcX3_readWord__X3_readWord_r3 _ (List.mem_of_getElem? (i := 6) rfl)), List.forall_mem_cons.mpr ⟨(gcX3_readWord__X3_readWord_r3 _ (List.mem_of_getElem? (i := 7) rfl)), List.forall_mem_cons.mpr ⟨(gcX3_readWord__X3_readWord_r3 _ (List.mem_of_getElem? (i := 8) rfl)), List.forall_mem_cons.mpr ⟨(gcX3_readWord__X3_readWord_r3 _ (List.mem_of_getElem? (i := 9) rfl)), List.forall_mem_cons.mpr ⟨(gcX3_readWord__X3_readWord_r3 _ (List.mem_of_getElem? (i := 10) rfl)), List.forall_mem_cons.mpr ⟨(gcX3_readWord__X3_readWord_r3 _ (List.mem_of_getElem? (i := 11) rfl)), List.forall_mem_cons.mpr ⟨(gcX3_readWord__X3_readWord_r3 _ (List.mem_of_getElem? (i := 12) rfl)), List.forall_mem_cons.mpr ⟨(gcX3_readWord__X3_readWord_r3 _ (List.mem_of_getElem? (i := 13) rfl)), List.forall_mem_cons.mpr ⟨(gcX3_readWord__X3_readWord_r3 _ (List.mem_of_getElem? (i := 14) rfl)), List.forall_mem_cons.mpr ⟨(gcX3_readWord__X3_readWord_r3 _ (List.mem_of_getElem? (i := 15) rfl)), List.forall_mem_cons.mpr ⟨(gcX3_readWord__X3_readWord_r3 _ (List.mem_of_getElem? (i := 16) rfl)), List.forall_mem_cons.mpr ⟨(gcX3_readWord__X3_readWord_r3 _ (List.mem_of_getElem? (i := 17) rfl)), List.forall_mem_cons.mpr ⟨(gcX3_readWord__X3_readWord_r3 _ (List.mem_of_getElem? (i := 18) rfl)), List.forall_mem_cons.mpr ⟨(gcX3_readWord__X3_readWord_r3 _ (List.mem_of_getElem? (i := 19) rfl)), fun _ h => (List.not_mem_nil h).elim⟩⟩⟩⟩⟩⟩⟩⟩⟩⟩⟩⟩⟩⟩⟩⟩⟩⟩⟩⟩⟩⟩⟩⟩
set_option maxRecDepth 20000 in
theorem gmX3_readWord__X3_isWord_r3 : ∀ w ∈ wsX3_isWord_r3, w ∈ wsX3_readWord := List.forall_mem_cons.mpr ⟨(gcX3_readWord__X3_readWord_r3 _ (List.mem_of_getElem? (i := 20) rfl)), List.forall_mem_cons.mpr ⟨(gcX3_readWord__X3_readWord_r3 _ (List.mem_of_getElem? (i := 21) rfl)), List.forall_mem_cons.mpr ⟨(gcX3_readWord__X3_readWord_r3 _ (List.mem_of_getElem? (i := 22) rfl)), List.forall_mem_cons.mpr ⟨(gcX3_readWord__X3_readWord_r3 _ (List.mem_of_getElem? (i := 23) rfl)), fun _ h => (List.not_mem_nil h).elim⟩⟩⟩⟩
set_option maxRecDepth 20000 in
theorem ggX3_readWord_X3_isWord : GoodIn wsX3_readWord wsX3_isWord := goodIn_sub (List.forall_mem_cons.mpr ⟨(gcX3_readWord__X3_readWord_r1 _ (List.mem_of_getElem? (i := 22) rfl)), List.forall_mem_append.mpr ⟨List.forall_mem_append.mpr ⟨gmX3_readWord__X3_isWord_r1, List.forall_mem_append.mpr ⟨gmX3_readWord__X3_isWord_r2, gmX3_readWord__X3_isWord_r3⟩⟩, gcX3_readWord__X30⟩⟩) gwX3_isWord
set_option maxRecDepth 20000 in
theorem gX3_readWord_X3_isWord : GoodIn wsX3_readWord (wsV RX3 113 RX3 yX3_isWord wsX3_isWord) := goodIn_app (goodIn_sub (List.forall_mem_cons.mpr ⟨(gcX3_readWord__X3_readWord_r1 _ (List.mem_of_getElem? (i := 19) rfl)), List.forall_mem_cons.mpr ⟨(gcX3_readWord__X3_readWord_r1 _ (List.mem_of_getElem? (i := 20) rfl)), List.forall_mem_cons.mpr ⟨(gcX3_readWord__X3_readWord_r1 _ (List.mem_of_getElem? (i := 21) rfl)), List.forall_mem_cons.mpr ⟨(gcX3_readWord__X3_readWord_r1 _ (List.mem_of_getElem? (i := 4) rfl)), fun _ h => (List.not_mem_nil h).elim⟩⟩⟩⟩) (by decide +kernel)) ggX3_readWord_X3_isWord
theorem gcX3_readWord__X3_readWord_r4 : ∀ w ∈ wsX3_readWord_r4, w ∈ wsX3_readWord := fun w h => List.mem_cons_of_mem _ (List.mem_append_left _ (List.mem_append_right _ (List.mem_append_right _ (List.mem_append_right _ (h)))))
set_option maxRecDepth 20000 in
theorem ggX3_readWord_X3_fail : GoodIn wsX3_readWord wsX3_fail := goodIn_sub (List.forall_mem_cons.mpr ⟨(gcX3_readWord__X3_readWord_r4 _ (List.mem_of_getElem? (i := 3) rfl)), List.forall_mem_append.mpr ⟨List.forall_mem_cons.mpr ⟨(gcX3_readWord__X3_readWord_r4 _ (List.mem_of_getElem? (i := 4) rfl)), List.forall_mem_cons.mpr ⟨(gcX3_readWord__X3_readWord_r4 _ (List.mem_of_getElem? (i := 5) rfl)), fun _ h => (List.not_mem_nil h).elim⟩⟩, gcX3_readWord__X30⟩⟩) gwX3_fail
set_option maxRecDepth 20000 in
theorem gX3_readWord_X3_fail : GoodIn wsX3_readWord (wsV RX3 78 RX3 yX3_fail wsX3_fail) := goodIn_app (goodIn_sub (List.forall_mem_cons.mpr ⟨(gcX3_readWord__X3_readWord_r4 _ (List.mem_of_getElem? (i := 0) rfl)), List.forall_mem_cons.mpr ⟨(gcX3_readWord__X3_readWord_r4 _ (List.mem_of_getElem? (i := 1) rfl)), List.forall_mem_cons.mpr ⟨(gcX3_readWord__X3_readWord_r4 _ (List.mem_of_getElem? (i := 2) rfl)), List.forall_mem_cons.mpr ⟨(gcX3_readWord__X3_readWord_r1 _ (List.mem_of_getElem? (i := 4) rfl)), fun _ h => (List.not_mem_nil h).elim⟩⟩⟩⟩) (by decide +kernel)) ggX3_readWord_X3_fail
set_option maxRecDepth 20000 in
theorem ggX3_readWord_X3_passRun : GoodIn wsX3_readWord wsX3_passRun := goodIn_sub (List.forall_mem_cons.mpr ⟨(gcX3_readWord__X3_readWord_r4 _ (List.mem_of_getElem? (i := 9) rfl)), List.forall_mem_append.mpr ⟨List.forall_mem_cons.mpr ⟨(gcX3_readWord__X3_readWord_r1 _ (List.mem_of_getElem? (i := 7) rfl)), List.forall_mem_cons.mpr ⟨(gcX3_readWord__X3_readWord_r1 _ (List.mem_of_getElem? (i := 6) rfl)), List.forall_mem_cons.mpr ⟨(gcX3_readWord__X3_readWord_r1 _ (List.mem_of_getElem? (i := 18) rfl)), fun _ h => (List.not_mem_nil h).elim⟩⟩⟩, gcX3_readWord__X30⟩⟩) gwX3_passRun
set_option maxRecDepth 20000 in
theorem gX3_readWord_X3_passRun : GoodIn wsX3_readWord (wsV RX3 89 RX3 yX3_passRun wsX3_passRun) := goodIn_app (goodIn_sub (List.forall_mem_cons.mpr ⟨(gcX3_readWord__X3_readWord_r4 _ (List.mem_of_getElem? (i := 6) rfl)), List.forall_mem_cons.mpr ⟨(gcX3_readWord__X3_readWord_r4 _ (List.mem_of_getElem? (i := 7) rfl)), List.forall_mem_cons.mpr ⟨(gcX3_readWord__X3_readWord_r4 _ (List.mem_of_getElem? (i := 8) rfl)), List.forall_mem_cons.mpr ⟨(gcX3_readWord__X3_readWord_r1 _ (List.mem_of_getElem? (i := 4) rfl)), fun _ h => (List.not_mem_nil h).elim⟩⟩⟩⟩) (by decide +kernel)) ggX3_readWord_X3_passRun
theorem dX3_readWord_0 : decode cX3_readWord 0 = .ok (.aload_n 0, 1) := by decide +kernel
theorem dX3_readWord_1 : decode cX3_readWord 1 = .ok (.bipush 97, 2) := by decide +kernel
theorem dX3_readWord_3 : decode cX3_readWord 3 = .ok (.bipush 122, 2) := by decide +kernel
theorem dX3_readWord_5 : decode cX3_readWord 5 = .ok (.invokevirtual 74, 3) := by decide +kernel
theorem dX3_readWord_8 : decode cX3_readWord 8 = .ok (.aload_n 0, 1) := by decide +kernel
theorem dX3_readWord_9 : decode cX3_readWord 9 = .ok (.invokevirtual 180, 3) := by decide +kernel
theorem dX3_readWord_12 : decode cX3_readWord 12 = .ok (.ifCond .ne 11, 3) := by decide +kernel
theorem dX3_readWord_15 : decode cX3_readWord 15 = .ok (.aload_n 0, 1) := by decide +kernel
theorem dX3_readWord_16 : decode cX3_readWord 16 = .ok (.aload_n 1, 1) := by decide +kernel
theorem dX3_readWord_17 : decode cX3_readWord 17 = .ok (.invokevirtual 113, 3) := by decide +kernel
theorem dX3_readWord_20 : decode cX3_readWord 20 = .ok (.ifCond .ne 13, 3) := by decide +kernel
theorem dX3_readWord_23 : decode cX3_readWord 23 = .ok (.aload_n 0, 1) := by decide +kernel
theorem dX3_readWord_24 : decode cX3_readWord 24 = .ok (.iconst 1, 1) := by decide +kernel
theorem dX3_readWord_25 : decode cX3_readWord 25 = .ok (.aload_n 0, 1) := by decide +kernel
theorem dX3_readWord_26 : decode cX3_readWord 26 = .ok (.getfield 24, 3) := by decide +kernel
theorem dX3_readWord_29 : decode cX3_readWord 29 = .ok (.invokevirtual 78, 3) := by decide +kernel
theorem dX3_readWord_32 : decode cX3_readWord 32 = .ok (.ireturn, 1) := by decide +kernel
theorem dX3_readWord_33 : decode cX3_readWord 33 = .ok (.aload_n 0, 1) := by decide +kernel
theorem dX3_readWord_34 : decode cX3_readWord 34 = .ok (.invokevirtual 89, 3) := by decide +kernel
theorem dX3_readWord_37 : decode cX3_readWord 37 = .ok (.iconst 1, 1) := by decide +kernel
theorem dX3_readWord_38 : decode cX3_readWord 38 = .ok (.ireturn, 1) := by decide +kernel
theorem gcX3_readNumber__X3_readNumber_r1 : ∀ w ∈ wsX3_readNumber_r1, w ∈ wsX3_readNumber := fun w h => List.mem_cons_of_mem _ (List.mem_append_left _ (List.mem_append_left _ (h)))
theorem gcX3_readNumber__X30 : ∀ w ∈ wsX30, w ∈ wsX3_readNumber := fun w h => List.mem_cons_of_mem _ (List.mem_append_right _ (h))
set_option maxRecDepth 20000 in
theorem ggX3_readNumber_X3_markRun : GoodIn wsX3_readNumber wsX3_markRun := goodIn_sub (List.forall_mem_cons.mpr ⟨(gcX3_readNumber__X3_readNumber_r1 _ (List.mem_of_getElem? (i := 8) rfl)), List.forall_mem_append.mpr ⟨List.forall_mem_cons.mpr ⟨(gcX3_readNumber__X3_readNumber_r1 _ (List.mem_of_getElem? (i := 9) rfl)), List.forall_mem_cons.mpr ⟨(gcX3_readNumber__X3_readNumber_r1 _ (List.mem_of_getElem? (i := 0) rfl)), List.forall_mem_cons.mpr ⟨(gcX3_readNumber__X3_readNumber_r1 _ (List.mem_of_getElem? (i := 1) rfl)), List.forall_mem_cons.mpr ⟨(gcX3_readNumber__X3_readNumber_r1 _ (List.mem_of_getElem? (i := 10) rfl)), List.forall_mem_cons.mpr ⟨(gcX3_readNumber__X3_readNumber_r1 _ (List.mem_of_getElem? (i := 3) rfl)), List.forall_mem_cons.mpr ⟨(gcX3_readNumber__X3_readNumber_r1 _ (List.mem_of_getElem? (i := 11) rfl)), List.forall_mem_cons.mpr ⟨(gcX3_readNumber__X3_readNumber_r1 _ (List.mem_of_getElem? (i := 12) rfl)), List.forall_mem_cons.mpr ⟨(gcX3_readNumber__X3_readNumber_r1 _ (List.mem_of_getElem? (i := 13) rfl)), List.forall_mem_cons.mpr ⟨(gcX3_readNumber__X3_readNumber_r1 _ (List.mem_of_getElem? (i := 7) rfl)), List.forall_mem_cons.mpr ⟨(gcX3_readNumber__X3_readNumber_r1 _ (List.mem_of_getElem? (i := 14) rfl)), fun _ h => (List.not_mem_nil h).elim⟩⟩⟩⟩⟩⟩⟩⟩⟩⟩, gcX3_readNumber__X30⟩⟩) gwX3_markRun
set_option maxRecDepth 20000 in
theorem gX3_readNumber_X3_markRun : GoodIn wsX3_readNumber (wsV RX3 74 RX3 yX3_markRun wsX3_markRun) := goodIn_app (goodIn_sub (List.forall_mem_cons.mpr ⟨(gcX3_readNumber__X3_readNumber_r1 _ (List.mem_of_getElem? (i := 4) rfl)), List.forall_mem_cons.mpr ⟨(gcX3_readNumber__X3_readNumber_r1 _ (List.mem_of_getElem? (i := 5) rfl)), List.forall_mem_cons.mpr ⟨(gcX3_readNumber__X3_readNumber_r1 _ (List.mem_of_getElem? (i := 6) rfl)), List.forall_mem_cons.mpr ⟨(gcX3_readNumber__X3_readNumber_r1 _ (List.mem_of_getElem? (i := 7) rfl)), fun _ h => (List.not_mem_nil h).elim⟩⟩⟩⟩) (by decide +kernel)) ggX3_readNumber_X3_markRun
set_option maxRecDepth 20000 in
theorem ggX3_readNumber_X3_isNoRun : GoodIn wsX3_readNumber wsX3_isNoRun := goodIn_sub (List.forall_mem_cons.mpr ⟨(gcX3_readNumber__X3_readNumber_r1 _ (List.mem_of_getElem? (i := 18) rfl)), List.forall_mem_append.mpr ⟨List.forall_mem_cons.mpr ⟨(gcX3_readNumber__X3_readNumber_r1 _ (List.mem_of_getElem? (i := 0) rfl)), List.forall_mem_cons.mpr ⟨(gcX3_readNumber__X3_readNumber_r1 _ (List.mem_of_getElem? (i := 1) rfl)), List.forall_mem_cons.mpr ⟨(gcX3_readNumber__X3_readNumber_r1 _ (List.mem_of_getElem? (i := 19) rfl)), fun _ h => (List.not_mem_nil h).elim⟩⟩⟩, gcX3_readNumber__X30⟩⟩) gwX3_isNoRun
set_option maxRecDepth 20000 in
theorem gX3_readNumber_X3_isNoRun : GoodIn wsX3_readNumber (wsV RX3 180 RX3 yX3_isNoRun wsX3_isNoRun) := goodIn_app (goodIn_sub (List.forall_mem_cons.mpr ⟨(gcX3_readNumber__X3_readNumber_r1 _ (List.mem_of_getElem? (i := 15) rfl)), List.forall_mem_cons.mpr ⟨(gcX3_readNumber__X3_readNumber_r1 _ (List.mem_of_getElem? (i := 16) rfl)), List.forall_mem_cons.mpr ⟨(gcX3_readNumber__X3_readNumber_r1 _ (List.mem_of_getElem? (i := 17) rfl)), List.forall_mem_cons.mpr ⟨(gcX3_readNumber__X3_readNumber_r1 _ (List.mem_of_getElem? (i := 7) rfl)), fun _ h => (List.not_mem_nil h).elim⟩⟩⟩⟩) (by decide +kernel)) ggX3_readNumber_X3_isNoRun
theorem gcX3_readNumber__X3_readNumber_r2 : ∀ w ∈ wsX3_readNumber_r2, w ∈ wsX3_readNumber := fun w h => List.mem_cons_of_mem _ (List.mem_append_left _ (List.mem_append_right _ (h)))
set_option maxRecDepth 20000 in
theorem ggX3_readNumber_X3_fail : GoodIn wsX3_readNumber wsX3_fail := goodIn_sub (List.forall_mem_cons.mpr ⟨(gcX3_readNumber__X3_readNumber_r1 _ (List.mem_of_getElem? (i := 23) rfl)), List.forall_mem_append.mpr ⟨List.forall_mem_cons.mpr ⟨(gcX3_readNumber__X3_readNumber_r2 _ (List.mem_of_getElem? (i := 0) rfl)), List.forall_mem_cons.mpr ⟨(gcX3_readNumber__X3_readNumber_r2 _ (List.mem_of_getElem? (i := 1) rfl)), fun _ h => (List.not_mem_nil h).elim⟩⟩, gcX3_readNumber__X30⟩⟩) gwX3_fail
set_option maxRecDepth 20000 in
theorem gX3_readNumber_X3_fail : GoodIn wsX3_readNumber (wsV RX3 78 RX3 yX3_fail wsX3_fail) := goodIn_app (goodIn_sub (List.forall_mem_cons.mpr ⟨(gcX3_readNumber__X3_readNumber_r1 _ (List.mem_of_getElem? (i := 20) rfl)), List.forall_mem_cons.mpr ⟨(gcX3_readNumber__X3_readNumber_r1 _ (List.mem_of_getElem? (i := 21) rfl)), List.forall_mem_cons.mpr ⟨(gcX3_readNumber__X3_readNumber_r1 _ (List.mem_of_getElem? (i := 22) rfl)), List.forall_mem_cons.mpr ⟨(gcX3_readNumber__X3_readNumber_r1 _ (List.mem_of_getElem? (i := 7) rfl)), fun _ h => (List.not_mem_nil h).elim⟩⟩⟩⟩) (by decide +kernel)) ggX3_readNumber_X3_fail
set_option maxRecDepth 20000 in
theorem ggX3_readNumber_X3_passRun : GoodIn wsX3_readNumber wsX3_passRun := goodIn_sub (List.forall_mem_cons.mpr ⟨(gcX3_readNumber__X3_readNumber_r2 _ (List.mem_of_getElem? (i := 5) rfl)), List.forall_mem_append.mpr ⟨List.forall_mem_cons.mpr ⟨(gcX3_readNumber__X3_readNumber_r1 _ (List.mem_of_getElem? (i := 1) rfl)), List.forall_mem_cons.mpr ⟨(gcX3_readNumber__X3_readNumber_r1 _ (List.mem_of_getElem? (i := 9) rfl)), List.forall_mem_cons.mpr ⟨(gcX3_readNumber__X3_readNumber_r1 _ (List.mem_of_getElem? (i := 19) rfl)), fun _ h => (List.not_mem_nil h).elim⟩⟩⟩, gcX3_readNumber__X30⟩⟩) gwX3_passRun
set_option maxRecDepth 20000 in
theorem gX3_readNumber_X3_passRun : GoodIn wsX3_readNumber (wsV RX3 89 RX3 yX3_passRun wsX3_passRun) := goodIn_app (goodIn_sub (List.forall_mem_cons.mpr ⟨(gcX3_readNumber__X3_readNumber_r2 _ (List.mem_of_getElem? (i := 2) rfl)), List.forall_mem_cons.mpr ⟨(gcX3_readNumber__X3_readNumber_r2 _ (List.mem_of_getElem? (i := 3) rfl)), List.forall_mem_cons.mpr ⟨(gcX3_readNumber__X3_readNumber_r2 _ (List.mem_of_getElem? (i := 4) rfl)), List.forall_mem_cons.mpr ⟨(gcX3_readNumber__X3_readNumber_r1 _ (List.mem_of_getElem? (i := 7) rfl)), fun _ h => (List.not_mem_nil h).elim⟩⟩⟩⟩) (by decide +kernel)) ggX3_readNumber_X3_passRun
theorem dX3_readNumber_0 : decode cX3_readNumber 0 = .ok (.aload_n 0, 1) := by decide +kernel
theorem dX3_readNumber_1 : decode cX3_readNumber 1 = .ok (.bipush 48, 2) := by decide +kernel
theorem dX3_readNumber_3 : decode cX3_readNumber 3 = .ok (.bipush 57, 2) := by decide +kernel
theorem dX3_readNumber_5 : decode cX3_readNumber 5 = .ok (.invokevirtual 74, 3) := by decide +kernel
theorem dX3_readNumber_8 : decode cX3_readNumber 8 = .ok (.aload_n 0, 1) := by decide +kernel
theorem dX3_readNumber_9 : decode cX3_readNumber 9 = .ok (.invokevirtual 180, 3) := by decide +kernel
theorem dX3_readNumber_12 : decode cX3_readNumber 12 = .ok (.ifCond .eq 13, 3) := by decide +kernel
theorem dX3_readNumber_15 : decode cX3_readNumber 15 = .ok (.aload_n 0, 1) := by decide +kernel
theorem dX3_readNumber_16 : decode cX3_readNumber 16 = .ok (.iconst 1, 1) := by decide +kernel
theorem dX3_readNumber_17 : decode cX3_readNumber 17 = .ok (.aload_n 0, 1) := by decide +kernel
theorem dX3_readNumber_18 : decode cX3_readNumber 18 = .ok (.getfield 24, 3) := by decide +kernel
theorem dX3_readNumber_21 : decode cX3_readNumber 21 = .ok (.invokevirtual 78, 3) := by decide +kernel
theorem dX3_readNumber_24 : decode cX3_readNumber 24 = .ok (.ireturn, 1) := by decide +kernel
theorem dX3_readNumber_25 : decode cX3_readNumber 25 = .ok (.aload_n 0, 1) := by decide +kernel
theorem dX3_readNumber_26 : decode cX3_readNumber 26 = .ok (.getfield 27, 3) := by decide +kernel
theorem dX3_readNumber_29 : decode cX3_readNumber 29 = .ok (.aload_n 0, 1) := by decide +kernel
theorem dX3_readNumber_30 : decode cX3_readNumber 30 = .ok (.getfield 24, 3) := by decide +kernel
theorem dX3_readNumber_33 : decode cX3_readNumber 33 = .ok (.isub, 1) := by decide +kernel
theorem dX3_readNumber_34 : decode cX3_readNumber 34 = .ok (.iconst 4, 1) := by decide +kernel
theorem dX3_readNumber_35 : decode cX3_readNumber 35 = .ok (.if_icmp .le 15, 3) := by decide +kernel
theorem dX3_readNumber_38 : decode cX3_readNumber 38 = .ok (.aload_n 0, 1) := by decide +kernel
theorem dX3_readNumber_39 : decode cX3_readNumber 39 = .ok (.iconst 1, 1) := by decide +kernel
theorem dX3_readNumber_40 : decode cX3_readNumber 40 = .ok (.aload_n 0, 1) := by decide +kernel
theorem dX3_readNumber_41 : decode cX3_readNumber 41 = .ok (.getfield 24, 3) := by decide +kernel
theorem dX3_readNumber_44 : decode cX3_readNumber 44 = .ok (.iconst 4, 1) := by decide +kernel
theorem dX3_readNumber_45 : decode cX3_readNumber 45 = .ok (.iadd, 1) := by decide +kernel
theorem dX3_readNumber_46 : decode cX3_readNumber 46 = .ok (.invokevirtual 78, 3) := by decide +kernel
theorem dX3_readNumber_49 : decode cX3_readNumber 49 = .ok (.ireturn, 1) := by decide +kernel
theorem dX3_readNumber_50 : decode cX3_readNumber 50 = .ok (.aload_n 0, 1) := by decide +kernel
theorem dX3_readNumber_51 : decode cX3_readNumber 51 = .ok (.iconst 0, 1) := by decide +kernel
theorem dX3_readNumber_52 : decode cX3_readNumber 52 = .ok (.putfield 39, 3) := by decide +kernel
theorem dX3_readNumber_55 : decode cX3_readNumber 55 = .ok (.aload_n 0, 1) := by decide +kernel
theorem dX3_readNumber_56 : decode cX3_readNumber 56 = .ok (.getfield 24, 3) := by decide +kernel
theorem dX3_readNumber_59 : decode cX3_readNumber 59 = .ok (.istore_n 3, 1) := by decide +kernel
theorem dX3_readNumber_60 : decode cX3_readNumber 60 = .ok (.iload_n 3, 1) := by decide +kernel
theorem dX3_readNumber_61 : decode cX3_readNumber 61 = .ok (.aload_n 0, 1) := by decide +kernel
theorem dX3_readNumber_62 : decode cX3_readNumber 62 = .ok (.getfield 27, 3) := by decide +kernel
theorem dX3_readNumber_65 : decode cX3_readNumber 65 = .ok (.if_icmp .ge 30, 3) := by decide +kernel
theorem dX3_readNumber_68 : decode cX3_readNumber 68 = .ok (.aload_n 0, 1) := by decide +kernel
theorem dX3_readNumber_69 : decode cX3_readNumber 69 = .ok (.bipush 10, 2) := by decide +kernel
theorem dX3_readNumber_71 : decode cX3_readNumber 71 = .ok (.aload_n 0, 1) := by decide +kernel
theorem dX3_readNumber_72 : decode cX3_readNumber 72 = .ok (.getfield 39, 3) := by decide +kernel
theorem dX3_readNumber_75 : decode cX3_readNumber 75 = .ok (.imul, 1) := by decide +kernel
theorem dX3_readNumber_76 : decode cX3_readNumber 76 = .ok (.aload_n 0, 1) := by decide +kernel
theorem dX3_readNumber_77 : decode cX3_readNumber 77 = .ok (.getfield 48, 3) := by decide +kernel
theorem dX3_readNumber_80 : decode cX3_readNumber 80 = .ok (.iload_n 3, 1) := by decide +kernel
theorem dX3_readNumber_81 : decode cX3_readNumber 81 = .ok (.iaload, 1) := by decide +kernel
theorem dX3_readNumber_82 : decode cX3_readNumber 82 = .ok (.iadd, 1) := by decide +kernel
theorem dX3_readNumber_83 : decode cX3_readNumber 83 = .ok (.bipush 48, 2) := by decide +kernel
theorem dX3_readNumber_85 : decode cX3_readNumber 85 = .ok (.isub, 1) := by decide +kernel
theorem dX3_readNumber_86 : decode cX3_readNumber 86 = .ok (.putfield 39, 3) := by decide +kernel
theorem dX3_readNumber_89 : decode cX3_readNumber 89 = .ok (.iinc 3 1, 3) := by decide +kernel
theorem dX3_readNumber_92 : decode cX3_readNumber 92 = .ok (.goto (-32), 3) := by decide +kernel
theorem dX3_readNumber_95 : decode cX3_readNumber 95 = .ok (.aload_n 0, 1) := by decide +kernel
theorem dX3_readNumber_96 : decode cX3_readNumber 96 = .ok (.invokevirtual 89, 3) := by decide +kernel
theorem dX3_readNumber_99 : decode cX3_readNumber 99 = .ok (.aload_n 0, 1) := by decide +kernel
theorem dX3_readNumber_100 : decode cX3_readNumber 100 = .ok (.getfield 39, 3) := by decide +kernel
theorem dX3_readNumber_103 : decode cX3_readNumber 103 = .ok (.iload_n 1, 1) := by decide +kernel
theorem dX3_readNumber_104 : decode cX3_readNumber 104 = .ok (.if_icmp .lt 11, 3) := by decide +kernel
theorem dX3_readNumber_107 : decode cX3_readNumber 107 = .ok (.aload_n 0, 1) := by decide +kernel
theorem dX3_readNumber_108 : decode cX3_readNumber 108 = .ok (.getfield 39, 3) := by decide +kernel
theorem dX3_readNumber_111 : decode cX3_readNumber 111 = .ok (.iload_n 2, 1) := by decide +kernel
theorem dX3_readNumber_112 : decode cX3_readNumber 112 = .ok (.if_icmp .le 15, 3) := by decide +kernel
theorem dX3_readNumber_115 : decode cX3_readNumber 115 = .ok (.aload_n 0, 1) := by decide +kernel
theorem dX3_readNumber_116 : decode cX3_readNumber 116 = .ok (.iconst 2, 1) := by decide +kernel
theorem dX3_readNumber_117 : decode cX3_readNumber 117 = .ok (.aload_n 0, 1) := by decide +kernel
theorem dX3_readNumber_118 : decode cX3_readNumber 118 = .ok (.getfield 24, 3) := by decide +kernel
theorem dX3_readNumber_121 : decode cX3_readNumber 121 = .ok (.invokevirtual 78, 3) := by decide +kernel
theorem dX3_readNumber_124 : decode cX3_readNumber 124 = .ok (.goto 4, 3) := by decide +kernel
theorem dX3_readNumber_127 : decode cX3_readNumber 127 = .ok (.iconst 1, 1) := by decide +kernel
theorem dX3_readNumber_128 : decode cX3_readNumber 128 = .ok (.ireturn, 1) := by decide +kernel
theorem gcX3_readSemicolon__X30 : ∀ w ∈ wsX30, w ∈ wsX3_readSemicolon := fun w h => List.mem_cons_of_mem _ (List.mem_append_right _ (h))
set_option maxRecDepth 20000 in
theorem ggX3_readSemicolon_X3_skipBlanks : GoodIn wsX3_readSemicolon wsX3_skipBlanks := goodIn_sub (List.forall_mem_cons.mpr ⟨(List.mem_of_getElem? (i := 8) rfl), List.forall_mem_append.mpr ⟨List.forall_mem_cons.mpr ⟨(List.mem_of_getElem? (i := 1) rfl), List.forall_mem_cons.mpr ⟨(List.mem_of_getElem? (i := 2) rfl), List.forall_mem_cons.mpr ⟨(List.mem_of_getElem? (i := 3) rfl), fun _ h => (List.not_mem_nil h).elim⟩⟩⟩, gcX3_readSemicolon__X30⟩⟩) gwX3_skipBlanks
set_option maxRecDepth 20000 in
theorem gX3_readSemicolon_X3_skipBlanks : GoodIn wsX3_readSemicolon (wsV RX3 67 RX3 yX3_skipBlanks wsX3_skipBlanks) := goodIn_app (goodIn_sub (List.forall_mem_cons.mpr ⟨(List.mem_of_getElem? (i := 4) rfl), List.forall_mem_cons.mpr ⟨(List.mem_of_getElem? (i := 5) rfl), List.forall_mem_cons.mpr ⟨(List.mem_of_getElem? (i := 6) rfl), List.forall_mem_cons.mpr ⟨(List.mem_of_getElem? (i := 7) rfl), fun _ h => (List.not_mem_nil h).elim⟩⟩⟩⟩) (by decide +kernel)) ggX3_readSemicolon_X3_skipBlanks
set_option maxRecDepth 20000 in
theorem ggX3_readSemicolon_X3_fail : GoodIn wsX3_readSemicolon wsX3_fail := goodIn_sub (List.forall_mem_cons.mpr ⟨(List.mem_of_getElem? (i := 12) rfl), List.forall_mem_append.mpr ⟨List.forall_mem_cons.mpr ⟨(List.mem_of_getElem? (i := 13) rfl), List.forall_mem_cons.mpr ⟨(List.mem_of_getElem? (i := 14) rfl), fun _ h => (List.not_mem_nil h).elim⟩⟩, gcX3_readSemicolon__X30⟩⟩) gwX3_fail
set_option maxRecDepth 20000 in
theorem gX3_readSemicolon_X3_fail : GoodIn wsX3_readSemicolon (wsV RX3 78 RX3 yX3_fail wsX3_fail) := goodIn_app (goodIn_sub (List.forall_mem_cons.mpr ⟨(List.mem_of_getElem? (i := 9) rfl), List.forall_mem_cons.mpr ⟨(List.mem_of_getElem? (i := 10) rfl), List.forall_mem_cons.mpr ⟨(List.mem_of_getElem? (i := 11) rfl), List.forall_mem_cons.mpr ⟨(List.mem_of_getElem? (i := 7) rfl), fun _ h => (List.not_mem_nil h).elim⟩⟩⟩⟩) (by decide +kernel)) ggX3_readSemicolon_X3_fail
theorem dX3_readSemicolon_0 : decode cX3_readSemicolon 0 = .ok (.aload_n 0, 1) := by decide +kernel
theorem dX3_readSemicolon_1 : decode cX3_readSemicolon 1 = .ok (.invokevirtual 67, 3) := by decide +kernel
theorem dX3_readSemicolon_4 : decode cX3_readSemicolon 4 = .ok (.aload_n 0, 1) := by decide +kernel
theorem dX3_readSemicolon_5 : decode cX3_readSemicolon 5 = .ok (.getfield 21, 3) := by decide +kernel
theorem dX3_readSemicolon_8 : decode cX3_readSemicolon 8 = .ok (.aload_n 0, 1) := by decide +kernel
theorem dX3_readSemicolon_9 : decode cX3_readSemicolon 9 = .ok (.getfield 18, 3) := by decide +kernel
theorem dX3_readSemicolon_12 : decode cX3_readSemicolon 12 = .ok (.if_icmp .ge 17, 3) := by decide +kernel
theorem dX3_readSemicolon_15 : decode cX3_readSemicolon 15 = .ok (.aload_n 0, 1) := by decide +kernel
theorem dX3_readSemicolon_16 : decode cX3_readSemicolon 16 = .ok (.getfield 48, 3) := by decide +kernel
theorem dX3_readSemicolon_19 : decode cX3_readSemicolon 19 = .ok (.aload_n 0, 1) := by decide +kernel
theorem dX3_readSemicolon_20 : decode cX3_readSemicolon 20 = .ok (.getfield 21, 3) := by decide +kernel
theorem dX3_readSemicolon_23 : decode cX3_readSemicolon 23 = .ok (.iaload, 1) := by decide +kernel
theorem dX3_readSemicolon_24 : decode cX3_readSemicolon 24 = .ok (.bipush 59, 2) := by decide +kernel
theorem dX3_readSemicolon_26 : decode cX3_readSemicolon 26 = .ok (.if_icmp .eq 13, 3) := by decide +kernel
theorem dX3_readSemicolon_29 : decode cX3_readSemicolon 29 = .ok (.aload_n 0, 1) := by decide +kernel
theorem dX3_readSemicolon_30 : decode cX3_readSemicolon 30 = .ok (.iconst 1, 1) := by decide +kernel
theorem dX3_readSemicolon_31 : decode cX3_readSemicolon 31 = .ok (.aload_n 0, 1) := by decide +kernel
theorem dX3_readSemicolon_32 : decode cX3_readSemicolon 32 = .ok (.getfield 21, 3) := by decide +kernel
theorem dX3_readSemicolon_35 : decode cX3_readSemicolon 35 = .ok (.invokevirtual 78, 3) := by decide +kernel
theorem dX3_readSemicolon_38 : decode cX3_readSemicolon 38 = .ok (.ireturn, 1) := by decide +kernel
theorem dX3_readSemicolon_39 : decode cX3_readSemicolon 39 = .ok (.aload_n 0, 1) := by decide +kernel
theorem dX3_readSemicolon_40 : decode cX3_readSemicolon 40 = .ok (.dup, 1) := by decide +kernel
theorem dX3_readSemicolon_41 : decode cX3_readSemicolon 41 = .ok (.getfield 21, 3) := by decide +kernel
theorem dX3_readSemicolon_44 : decode cX3_readSemicolon 44 = .ok (.iconst 1, 1) := by decide +kernel
theorem dX3_readSemicolon_45 : decode cX3_readSemicolon 45 = .ok (.iadd, 1) := by decide +kernel
theorem dX3_readSemicolon_46 : decode cX3_readSemicolon 46 = .ok (.putfield 21, 3) := by decide +kernel
theorem dX3_readSemicolon_49 : decode cX3_readSemicolon 49 = .ok (.iconst 1, 1) := by decide +kernel
theorem dX3_readSemicolon_50 : decode cX3_readSemicolon 50 = .ok (.ireturn, 1) := by decide +kernel
theorem gcX3_isWord__X3_isWord_r1 : ∀ w ∈ wsX3_isWord_r1, w ∈ wsX3_isWord := fun w h => List.mem_cons_of_mem _ (List.mem_append_left _ (List.mem_append_left _ (h)))
set_option maxRecDepth 20000 in
theorem gwJ0_length_8abf5 : wsJ0_length_8abf5.all goodWord = true := by decide +kernel
set_option maxRecDepth 20000 in
theorem ggX3_isWord_J0_length_8abf5 : GoodIn wsX3_isWord wsJ0_length_8abf5 := goodIn_sub (List.forall_mem_cons.mpr ⟨(gcX3_isWord__X3_isWord_r1 _ (List.mem_of_getElem? (i := 7) rfl)), List.forall_mem_cons.mpr ⟨(gcX3_isWord__X3_isWord_r1 _ (List.mem_of_getElem? (i := 8) rfl)), List.forall_mem_cons.mpr ⟨(gcX3_isWord__X3_isWord_r1 _ (List.mem_of_getElem? (i := 9) rfl)), List.forall_mem_cons.mpr ⟨(gcX3_isWord__X3_isWord_r1 _ (List.mem_of_getElem? (i := 10) rfl)), List.forall_mem_cons.mpr ⟨(gcX3_isWord__X3_isWord_r1 _ (List.mem_of_getElem? (i := 11) rfl)), List.forall_mem_cons.mpr ⟨(gcX3_isWord__X3_isWord_r1 _ (List.mem_of_getElem? (i := 6) rfl)), List.forall_mem_cons.mpr ⟨(gcX3_isWord__X3_isWord_r1 _ (List.mem_of_getElem? (i := 12) rfl)), List.forall_mem_cons.mpr ⟨(gcX3_isWord__X3_isWord_r1 _ (List.mem_of_getElem? (i := 13) rfl)), List.forall_mem_cons.mpr ⟨(gcX3_isWord__X3_isWord_r1 _ (List.mem_of_getElem? (i := 14) rfl)), fun _ h => (List.not_mem_nil h).elim⟩⟩⟩⟩⟩⟩⟩⟩⟩) gwJ0_length_8abf5
set_option maxRecDepth 20000 in
theorem gX3_isWord_J0_length_8abf5 : GoodIn wsX3_isWord (wsV RX3 192 RJ0 yJ0_length_8abf5 wsJ0_length_8abf5) := goodIn_app (goodIn_sub (List.forall_mem_cons.mpr ⟨(gcX3_isWord__X3_isWord_r1 _ (List.mem_of_getElem? (i := 3) rfl)), List.forall_mem_cons.mpr ⟨(gcX3_isWord__X3_isWord_r1 _ (List.mem_of_getElem? (i := 4) rfl)), List.forall_mem_cons.mpr ⟨(gcX3_isWord__X3_isWord_r1 _ (List.mem_of_getElem? (i := 5) rfl)), List.forall_mem_cons.mpr ⟨(gcX3_isWord__X3_isWord_r1 _ (List.mem_of_getElem? (i := 6) rfl)), fun _ h => (List.not_mem_nil h).elim⟩⟩⟩⟩) (by decide +kernel)) ggX3_isWord_J0_length_8abf5
theorem gcX3_isWord__X3_isWord_r2 : ∀ w ∈ wsX3_isWord_r2, w ∈ wsX3_isWord := fun w h => List.mem_cons_of_mem _ (List.mem_append_left _ (List.mem_append_right _ (List.mem_append_left _ (h))))
set_option maxRecDepth 20000 in
theorem gmX3_isWord__J0_charAt_5068e_r1 : ∀ w ∈ wsJ0_charAt_5068e_r1, w ∈ wsX3_isWord := List.forall_mem_cons.mpr ⟨(gcX3_isWord__X3_isWord_r1 _ (List.mem_of_getElem? (i := 8) rfl)), List.forall_mem_cons.mpr ⟨(gcX3_isWord__X3_isWord_r1 _ (List.mem_of_getElem? (i := 19) rfl)), List.forall_mem_cons.mpr ⟨(gcX3_isWord__X3_isWord_r1 _ (List.mem_of_getElem? (i := 20) rfl)), List.forall_mem_cons.mpr ⟨(gcX3_isWord__X3_isWord_r1 _ (List.mem_of_getElem? (i := 21) rfl)), List.forall_mem_cons.mpr ⟨(gcX3_isWord__X3_isWord_r1 _ (List.mem_of_getElem? (i := 6) rfl)), List.forall_mem_cons.mpr ⟨(gcX3_isWord__X3_isWord_r1 _ (List.mem_of_getElem? (i := 22) rfl)), List.forall_mem_cons.mpr ⟨(gcX3_isWord__X3_isWord_r1 _ (List.mem_of_getElem? (i := 13) rfl)), List.forall_mem_cons.mpr ⟨(gcX3_isWord__X3_isWord_r1 _ (List.mem_of_getElem? (i := 14) rfl)), List.forall_mem_cons.mpr ⟨(gcX3_isWord__X3_isWord_r1 _ (List.mem_of_getElem? (i := 23) rfl)), List.forall_mem_cons.mpr ⟨(gcX3_isWord__X3_isWord_r2 _ (List.mem_of_getElem? (i := 0) rfl)), List.forall_mem_cons.mpr ⟨(gcX3_isWord__X3_isWord_r2 _ (List.mem_of_getElem? (i := 1) rfl)), List.forall_mem_cons.mpr ⟨(gcX3_isWord__X3_isWord_r2 _ (List.mem_of_getElem? (i := 2) rfl)), List.forall_mem_cons.mpr ⟨(gcX3_isWord__X3_isWord_r2 _ (List.mem_of_getElem? (i := 3) rfl)), List.forall_mem_cons.mpr ⟨(gcX3_isWord__X3_isWord_r2 _ (List.mem_of_getElem? (i := 4) rfl)), List.forall_mem_cons.mpr ⟨(gcX3_isWord__X3_isWord_r2 _ (List.mem_of_getElem? (i := 5) rfl)), List.forall_mem_cons.mpr ⟨(gcX3_isWord__X3_isWord_r2 _ (List.mem_of_getElem? (i := 6) rfl)), List.forall_mem_cons.mpr ⟨(gcX3_isWord__X3_isWord_r2 _ (List.mem_of_getElem? (i := 7) rfl)), List.forall_mem_cons.mpr ⟨(gcX3_isWord__X3_isWord_r2 _ (List.mem_of_getElem? (i := 8) rfl)), List.forall_mem_cons.mpr ⟨(gcX3_isWord__X3_isWord_r2 _ (List.mem_of_getElem? (i := 9) rfl)), List.forall_mem_cons.mpr ⟨(gcX3_isWord__X3_isWord_r2 _ (List.mem_of_getElem? (i := 10) rfl)), List.forall_mem_cons.mpr ⟨(gcX3_isWord__X3_isWord_r2 _ (List.mem_of_getElem? (i := 11) rfl)), List.forall_mem_cons.mpr ⟨(gcX3_isWord__X3_isWord_r2 _ (List.mem_of_getElem? (i := 12) rfl)), List.forall_mem_cons.mpr ⟨(gcX3_isWord__X3_isWord_r2 _ (List.mem_of_getElem? (i := 13) rfl)), List.forall_mem_cons.mpr ⟨(gcX3_isWord__X3_isWord_r2 _ (List.mem_of_getElem? (i := 14) rfl)), fun _ h => (List.not_mem_nil h).elim⟩⟩⟩⟩⟩⟩⟩⟩⟩⟩⟩⟩⟩⟩⟩⟩⟩⟩⟩⟩⟩⟩⟩⟩
theorem gcX3_isWord__X3_isWord_r3 : ∀ w ∈ wsX3_isWord_r3, w ∈ wsX3_isWord := fun w h => List.mem_cons_of_mem _ (List.mem_append_left _ (List.mem_append_right _ (List.mem_append_right _ (h))))
set_option maxRecDepth 20000 in
theorem gmX3_isWord__J0_charAt_5068e_r2 : ∀ w ∈ wsJ0_charAt_5068e_r2, w ∈ wsX3_isWord := List.forall_mem_cons.mpr ⟨(gcX3_isWord__X3_isWord_r2 _ (List.mem_of_getElem? (i := 15) rfl)), List.forall_mem_cons.mpr ⟨(gcX3_isWord__X3_isWord_r2 _ (List.mem_of_getElem? (i := 16) rfl)), List.forall_mem_cons.mpr ⟨(gcX3_isWord__X3_isWord_r2 _ (List.mem_of_getElem? (i := 17) rfl)), List.forall_mem_cons.mpr ⟨(gcX3_isWord__X3_isWord_r2 _ (List.mem_of_getElem? (i := 18) rfl)), List.forall_mem_cons.mpr ⟨(gcX3_isWord__X3_isWord_r2 _ (List.mem_of_getElem? (i := 19) rfl)), List.forall_mem_cons.mpr ⟨(gcX3_isWord__X3_isWord_r2 _ (List.mem_of_getElem? (i := 20) rfl)), List.forall_mem_cons.mpr ⟨(gcX3_isWord__X3_isWord_r2 _ (List.mem_of_getElem? (i := 21) rfl)), List.forall_mem_cons.mpr ⟨(gcX3_isWord__X3_isWord_r2 _ (List.mem_of_getElem? (i := 22) rfl)), List.forall_mem_cons.mpr ⟨(gcX3_isWord__X3_isWord_r2 _ (List.mem_of_getElem? (i := 23) rfl)), List.forall_mem_cons.mpr ⟨(gcX3_isWord__X3_isWord_r3 _ (List.mem_of_getElem? (i := 0) rfl)), List.forall_mem_cons.mpr ⟨(gcX3_isWord__X3_isWord_r3 _ (List.mem_of_getElem? (i := 1) rfl)), List.forall_mem_cons.mpr ⟨(gcX3_isWord__X3_isWord_r3 _ (List.mem_of_getElem? (i := 2) rfl)), List.forall_mem_cons.mpr ⟨(gcX3_isWord__X3_isWord_r3 _ (List.mem_of_getElem? (i := 3) rfl)), fun _ h => (List.not_mem_nil h).elim⟩⟩⟩⟩⟩⟩⟩⟩⟩⟩⟩⟩⟩
set_option maxRecDepth 20000 in
theorem gwJ0_charAt_5068e : wsJ0_charAt_5068e.all goodWord = true := by decide +kernel
set_option maxRecDepth 20000 in
theorem ggX3_isWord_J0_charAt_5068e : GoodIn wsX3_isWord wsJ0_charAt_5068e := goodIn_sub (List.forall_mem_cons.mpr ⟨(gcX3_isWord__X3_isWord_r1 _ (List.mem_of_getElem? (i := 18) rfl)), List.forall_mem_append.mpr ⟨gmX3_isWord__J0_charAt_5068e_r1, gmX3_isWord__J0_charAt_5068e_r2⟩⟩) gwJ0_charAt_5068e
set_option maxRecDepth 20000 in
theorem gX3_isWord_J0_charAt_5068e : GoodIn wsX3_isWord (wsV RX3 196 RJ0 yJ0_charAt_5068e wsJ0_charAt_5068e) := goodIn_app (goodIn_sub (List.forall_mem_cons.mpr ⟨(gcX3_isWord__X3_isWord_r1 _ (List.mem_of_getElem? (i := 15) rfl)), List.forall_mem_cons.mpr ⟨(gcX3_isWord__X3_isWord_r1 _ (List.mem_of_getElem? (i := 16) rfl)), List.forall_mem_cons.mpr ⟨(gcX3_isWord__X3_isWord_r1 _ (List.mem_of_getElem? (i := 17) rfl)), List.forall_mem_cons.mpr ⟨(gcX3_isWord__X3_isWord_r1 _ (List.mem_of_getElem? (i := 6) rfl)), fun _ h => (List.not_mem_nil h).elim⟩⟩⟩⟩) (by decide +kernel)) ggX3_isWord_J0_charAt_5068e
theorem dX3_isWord_0 : decode cX3_isWord 0 = .ok (.aload_n 0, 1) := by decide +kernel
theorem dX3_isWord_1 : decode cX3_isWord 1 = .ok (.getfield 27, 3) := by decide +kernel
theorem dX3_isWord_4 : decode cX3_isWord 4 = .ok (.aload_n 0, 1) := by decide +kernel
theorem dX3_isWord_5 : decode cX3_isWord 5 = .ok (.getfield 24, 3) := by decide +kernel
theorem dX3_isWord_8 : decode cX3_isWord 8 = .ok (.isub, 1) := by decide +kernel
theorem dX3_isWord_9 : decode cX3_isWord 9 = .ok (.aload_n 1, 1) := by decide +kernel
theorem dX3_isWord_10 : decode cX3_isWord 10 = .ok (.invokevirtual 192, 3) := by decide +kernel
theorem dX3_isWord_13 : decode cX3_isWord 13 = .ok (.if_icmp .eq 5, 3) := by decide +kernel
theorem dX3_isWord_16 : decode cX3_isWord 16 = .ok (.iconst 0, 1) := by decide +kernel
theorem dX3_isWord_17 : decode cX3_isWord 17 = .ok (.ireturn, 1) := by decide +kernel
theorem dX3_isWord_18 : decode cX3_isWord 18 = .ok (.iconst 0, 1) := by decide +kernel
theorem dX3_isWord_19 : decode cX3_isWord 19 = .ok (.istore_n 2, 1) := by decide +kernel
theorem dX3_isWord_20 : decode cX3_isWord 20 = .ok (.iload_n 2, 1) := by decide +kernel
theorem dX3_isWord_21 : decode cX3_isWord 21 = .ok (.aload_n 1, 1) := by decide +kernel
theorem dX3_isWord_22 : decode cX3_isWord 22 = .ok (.invokevirtual 192, 3) := by decide +kernel
theorem dX3_isWord_25 : decode cX3_isWord 25 = .ok (.if_icmp .ge 30, 3) := by decide +kernel
theorem dX3_isWord_28 : decode cX3_isWord 28 = .ok (.aload_n 0, 1) := by decide +kernel
theorem dX3_isWord_29 : decode cX3_isWord 29 = .ok (.getfield 48, 3) := by decide +kernel
theorem dX3_isWord_32 : decode cX3_isWord 32 = .ok (.aload_n 0, 1) := by decide +kernel
theorem dX3_isWord_33 : decode cX3_isWord 33 = .ok (.getfield 24, 3) := by decide +kernel
theorem dX3_isWord_36 : decode cX3_isWord 36 = .ok (.iload_n 2, 1) := by decide +kernel
theorem dX3_isWord_37 : decode cX3_isWord 37 = .ok (.iadd, 1) := by decide +kernel
theorem dX3_isWord_38 : decode cX3_isWord 38 = .ok (.iaload, 1) := by decide +kernel
theorem dX3_isWord_39 : decode cX3_isWord 39 = .ok (.aload_n 1, 1) := by decide +kernel
theorem dX3_isWord_40 : decode cX3_isWord 40 = .ok (.iload_n 2, 1) := by decide +kernel
theorem dX3_isWord_41 : decode cX3_isWord 41 = .ok (.invokevirtual 196, 3) := by decide +kernel
theorem dX3_isWord_44 : decode cX3_isWord 44 = .ok (.if_icmp .eq 5, 3) := by decide +kernel
theorem dX3_isWord_47 : decode cX3_isWord 47 = .ok (.iconst 0, 1) := by decide +kernel
theorem dX3_isWord_48 : decode cX3_isWord 48 = .ok (.ireturn, 1) := by decide +kernel
theorem dX3_isWord_49 : decode cX3_isWord 49 = .ok (.iinc 2 1, 3) := by decide +kernel
theorem dX3_isWord_52 : decode cX3_isWord 52 = .ok (.goto (-32), 3) := by decide +kernel
theorem dX3_isWord_55 : decode cX3_isWord 55 = .ok (.iconst 1, 1) := by decide +kernel
theorem dX3_isWord_56 : decode cX3_isWord 56 = .ok (.ireturn, 1) := by decide +kernel
theorem dX3_isNoRun_0 : decode cX3_isNoRun 0 = .ok (.aload_n 0, 1) := by decide +kernel
theorem dX3_isNoRun_1 : decode cX3_isNoRun 1 = .ok (.getfield 24, 3) := by decide +kernel
theorem dX3_isNoRun_4 : decode cX3_isNoRun 4 = .ok (.aload_n 0, 1) := by decide +kernel
theorem dX3_isNoRun_5 : decode cX3_isNoRun 5 = .ok (.getfield 27, 3) := by decide +kernel
theorem dX3_isNoRun_8 : decode cX3_isNoRun 8 = .ok (.if_icmp .eq 14, 3) := by decide +kernel
theorem dX3_isNoRun_11 : decode cX3_isNoRun 11 = .ok (.aload_n 0, 1) := by decide +kernel
theorem dX3_isNoRun_12 : decode cX3_isNoRun 12 = .ok (.getfield 24, 3) := by decide +kernel
theorem dX3_isNoRun_15 : decode cX3_isNoRun 15 = .ok (.aload_n 0, 1) := by decide +kernel
theorem dX3_isNoRun_16 : decode cX3_isNoRun 16 = .ok (.getfield 30, 3) := by decide +kernel
theorem dX3_isNoRun_19 : decode cX3_isNoRun 19 = .ok (.if_icmp .ne 7, 3) := by decide +kernel
theorem dX3_isNoRun_22 : decode cX3_isNoRun 22 = .ok (.iconst 1, 1) := by decide +kernel
theorem dX3_isNoRun_23 : decode cX3_isNoRun 23 = .ok (.goto 4, 3) := by decide +kernel
theorem dX3_isNoRun_26 : decode cX3_isNoRun 26 = .ok (.iconst 0, 1) := by decide +kernel
theorem dX3_isNoRun_27 : decode cX3_isNoRun 27 = .ok (.ireturn, 1) := by decide +kernel
theorem gcX3_markRun__X30 : ∀ w ∈ wsX30, w ∈ wsX3_markRun := fun w h => List.mem_cons_of_mem _ (List.mem_append_right _ (h))
set_option maxRecDepth 20000 in
theorem ggX3_markRun_X3_skipBlanks : GoodIn wsX3_markRun wsX3_skipBlanks := goodIn_sub (List.forall_mem_cons.mpr ⟨(List.mem_of_getElem? (i := 10) rfl), List.forall_mem_append.mpr ⟨List.forall_mem_cons.mpr ⟨(List.mem_of_getElem? (i := 1) rfl), List.forall_mem_cons.mpr ⟨(List.mem_of_getElem? (i := 4) rfl), List.forall_mem_cons.mpr ⟨(List.mem_of_getElem? (i := 5) rfl), fun _ h => (List.not_mem_nil h).elim⟩⟩⟩, gcX3_markRun__X30⟩⟩) gwX3_skipBlanks
set_option maxRecDepth 20000 in
theorem gX3_markRun_X3_skipBlanks : GoodIn wsX3_markRun (wsV RX3 67 RX3 yX3_skipBlanks wsX3_skipBlanks) := goodIn_app (goodIn_sub (List.forall_mem_cons.mpr ⟨(List.mem_of_getElem? (i := 6) rfl), List.forall_mem_cons.mpr ⟨(List.mem_of_getElem? (i := 7) rfl), List.forall_mem_cons.mpr ⟨(List.mem_of_getElem? (i := 8) rfl), List.forall_mem_cons.mpr ⟨(List.mem_of_getElem? (i := 9) rfl), fun _ h => (List.not_mem_nil h).elim⟩⟩⟩⟩) (by decide +kernel)) ggX3_markRun_X3_skipBlanks
theorem dX3_markRun_0 : decode cX3_markRun 0 = .ok (.aload_n 0, 1) := by decide +kernel
theorem dX3_markRun_1 : decode cX3_markRun 1 = .ok (.invokevirtual 67, 3) := by decide +kernel
theorem dX3_markRun_4 : decode cX3_markRun 4 = .ok (.aload_n 0, 1) := by decide +kernel
theorem dX3_markRun_5 : decode cX3_markRun 5 = .ok (.aload_n 0, 1) := by decide +kernel
theorem dX3_markRun_6 : decode cX3_markRun 6 = .ok (.getfield 21, 3) := by decide +kernel
theorem dX3_markRun_9 : decode cX3_markRun 9 = .ok (.putfield 24, 3) := by decide +kernel
theorem dX3_markRun_12 : decode cX3_markRun 12 = .ok (.aload_n 0, 1) := by decide +kernel
theorem dX3_markRun_13 : decode cX3_markRun 13 = .ok (.aload_n 0, 1) := by decide +kernel
theorem dX3_markRun_14 : decode cX3_markRun 14 = .ok (.getfield 21, 3) := by decide +kernel
theorem dX3_markRun_17 : decode cX3_markRun 17 = .ok (.putfield 27, 3) := by decide +kernel
theorem dX3_markRun_20 : decode cX3_markRun 20 = .ok (.aload_n 0, 1) := by decide +kernel
theorem dX3_markRun_21 : decode cX3_markRun 21 = .ok (.getfield 27, 3) := by decide +kernel
theorem dX3_markRun_24 : decode cX3_markRun 24 = .ok (.aload_n 0, 1) := by decide +kernel
theorem dX3_markRun_25 : decode cX3_markRun 25 = .ok (.getfield 18, 3) := by decide +kernel
theorem dX3_markRun_28 : decode cX3_markRun 28 = .ok (.if_icmp .ge 42, 3) := by decide +kernel
theorem dX3_markRun_31 : decode cX3_markRun 31 = .ok (.aload_n 0, 1) := by decide +kernel
theorem dX3_markRun_32 : decode cX3_markRun 32 = .ok (.getfield 48, 3) := by decide +kernel
theorem dX3_markRun_35 : decode cX3_markRun 35 = .ok (.aload_n 0, 1) := by decide +kernel
theorem dX3_markRun_36 : decode cX3_markRun 36 = .ok (.getfield 27, 3) := by decide +kernel
theorem dX3_markRun_39 : decode cX3_markRun 39 = .ok (.iaload, 1) := by decide +kernel
theorem dX3_markRun_40 : decode cX3_markRun 40 = .ok (.iload_n 1, 1) := by decide +kernel
theorem dX3_markRun_41 : decode cX3_markRun 41 = .ok (.if_icmp .lt 29, 3) := by decide +kernel
theorem dX3_markRun_44 : decode cX3_markRun 44 = .ok (.aload_n 0, 1) := by decide +kernel
theorem dX3_markRun_45 : decode cX3_markRun 45 = .ok (.getfield 48, 3) := by decide +kernel
theorem dX3_markRun_48 : decode cX3_markRun 48 = .ok (.aload_n 0, 1) := by decide +kernel
theorem dX3_markRun_49 : decode cX3_markRun 49 = .ok (.getfield 27, 3) := by decide +kernel
theorem dX3_markRun_52 : decode cX3_markRun 52 = .ok (.iaload, 1) := by decide +kernel
theorem dX3_markRun_53 : decode cX3_markRun 53 = .ok (.iload_n 2, 1) := by decide +kernel
theorem dX3_markRun_54 : decode cX3_markRun 54 = .ok (.if_icmp .gt 16, 3) := by decide +kernel
theorem dX3_markRun_57 : decode cX3_markRun 57 = .ok (.aload_n 0, 1) := by decide +kernel
theorem dX3_markRun_58 : decode cX3_markRun 58 = .ok (.dup, 1) := by decide +kernel
theorem dX3_markRun_59 : decode cX3_markRun 59 = .ok (.getfield 27, 3) := by decide +kernel
theorem dX3_markRun_62 : decode cX3_markRun 62 = .ok (.iconst 1, 1) := by decide +kernel
theorem dX3_markRun_63 : decode cX3_markRun 63 = .ok (.iadd, 1) := by decide +kernel
theorem dX3_markRun_64 : decode cX3_markRun 64 = .ok (.putfield 27, 3) := by decide +kernel
theorem dX3_markRun_67 : decode cX3_markRun 67 = .ok (.goto (-47), 3) := by decide +kernel
theorem dX3_markRun_70 : decode cX3_markRun 70 = .ok (.return_, 1) := by decide +kernel
theorem dX3_passRun_0 : decode cX3_passRun 0 = .ok (.aload_n 0, 1) := by decide +kernel
theorem dX3_passRun_1 : decode cX3_passRun 1 = .ok (.aload_n 0, 1) := by decide +kernel
theorem dX3_passRun_2 : decode cX3_passRun 2 = .ok (.getfield 27, 3) := by decide +kernel
theorem dX3_passRun_5 : decode cX3_passRun 5 = .ok (.putfield 21, 3) := by decide +kernel
theorem dX3_passRun_8 : decode cX3_passRun 8 = .ok (.aload_n 0, 1) := by decide +kernel
theorem dX3_passRun_9 : decode cX3_passRun 9 = .ok (.aload_n 0, 1) := by decide +kernel
theorem dX3_passRun_10 : decode cX3_passRun 10 = .ok (.getfield 27, 3) := by decide +kernel
theorem dX3_passRun_13 : decode cX3_passRun 13 = .ok (.putfield 30, 3) := by decide +kernel
theorem dX3_passRun_16 : decode cX3_passRun 16 = .ok (.return_, 1) := by decide +kernel
theorem dX3_skipBlanks_0 : decode cX3_skipBlanks 0 = .ok (.aload_n 0, 1) := by decide +kernel
theorem dX3_skipBlanks_1 : decode cX3_skipBlanks 1 = .ok (.getfield 21, 3) := by decide +kernel
theorem dX3_skipBlanks_4 : decode cX3_skipBlanks 4 = .ok (.aload_n 0, 1) := by decide +kernel
theorem dX3_skipBlanks_5 : decode cX3_skipBlanks 5 = .ok (.getfield 18, 3) := by decide +kernel
theorem dX3_skipBlanks_8 : decode cX3_skipBlanks 8 = .ok (.if_icmp .ge 44, 3) := by decide +kernel
theorem dX3_skipBlanks_11 : decode cX3_skipBlanks 11 = .ok (.aload_n 0, 1) := by decide +kernel
theorem dX3_skipBlanks_12 : decode cX3_skipBlanks 12 = .ok (.getfield 48, 3) := by decide +kernel
theorem dX3_skipBlanks_15 : decode cX3_skipBlanks 15 = .ok (.aload_n 0, 1) := by decide +kernel
theorem dX3_skipBlanks_16 : decode cX3_skipBlanks 16 = .ok (.getfield 21, 3) := by decide +kernel
theorem dX3_skipBlanks_19 : decode cX3_skipBlanks 19 = .ok (.iaload, 1) := by decide +kernel
theorem dX3_skipBlanks_20 : decode cX3_skipBlanks 20 = .ok (.bipush 10, 2) := by decide +kernel
theorem dX3_skipBlanks_22 : decode cX3_skipBlanks 22 = .ok (.if_icmp .eq 17, 3) := by decide +kernel
theorem dX3_skipBlanks_25 : decode cX3_skipBlanks 25 = .ok (.aload_n 0, 1) := by decide +kernel
theorem dX3_skipBlanks_26 : decode cX3_skipBlanks 26 = .ok (.getfield 48, 3) := by decide +kernel
theorem dX3_skipBlanks_29 : decode cX3_skipBlanks 29 = .ok (.aload_n 0, 1) := by decide +kernel
theorem dX3_skipBlanks_30 : decode cX3_skipBlanks 30 = .ok (.getfield 21, 3) := by decide +kernel
theorem dX3_skipBlanks_33 : decode cX3_skipBlanks 33 = .ok (.iaload, 1) := by decide +kernel
theorem dX3_skipBlanks_34 : decode cX3_skipBlanks 34 = .ok (.bipush 32, 2) := by decide +kernel
theorem dX3_skipBlanks_36 : decode cX3_skipBlanks 36 = .ok (.if_icmp .ne 16, 3) := by decide +kernel
theorem dX3_skipBlanks_39 : decode cX3_skipBlanks 39 = .ok (.aload_n 0, 1) := by decide +kernel
theorem dX3_skipBlanks_40 : decode cX3_skipBlanks 40 = .ok (.dup, 1) := by decide +kernel
theorem dX3_skipBlanks_41 : decode cX3_skipBlanks 41 = .ok (.getfield 21, 3) := by decide +kernel
theorem dX3_skipBlanks_44 : decode cX3_skipBlanks 44 = .ok (.iconst 1, 1) := by decide +kernel
theorem dX3_skipBlanks_45 : decode cX3_skipBlanks 45 = .ok (.iadd, 1) := by decide +kernel
theorem dX3_skipBlanks_46 : decode cX3_skipBlanks 46 = .ok (.putfield 21, 3) := by decide +kernel
theorem dX3_skipBlanks_49 : decode cX3_skipBlanks 49 = .ok (.goto (-49), 3) := by decide +kernel
theorem dX3_skipBlanks_52 : decode cX3_skipBlanks 52 = .ok (.return_, 1) := by decide +kernel
theorem dX3_fail_0 : decode cX3_fail 0 = .ok (.aload_n 0, 1) := by decide +kernel
theorem dX3_fail_1 : decode cX3_fail 1 = .ok (.iload_n 1, 1) := by decide +kernel
theorem dX3_fail_2 : decode cX3_fail 2 = .ok (.putfield 9, 3) := by decide +kernel
theorem dX3_fail_5 : decode cX3_fail 5 = .ok (.aload_n 0, 1) := by decide +kernel
theorem dX3_fail_6 : decode cX3_fail 6 = .ok (.iload_n 2, 1) := by decide +kernel
theorem dX3_fail_7 : decode cX3_fail 7 = .ok (.putfield 15, 3) := by decide +kernel
theorem dX3_fail_10 : decode cX3_fail 10 = .ok (.iconst 0, 1) := by decide +kernel
theorem dX3_fail_11 : decode cX3_fail 11 = .ok (.ireturn, 1) := by decide +kernel
theorem dX4_init_0 : decode cX4_init 0 = .ok (.aload_n 0, 1) := by decide +kernel
theorem dX4_init_1 : decode cX4_init 1 = .ok (.invokespecial 3, 3) := by decide +kernel
theorem dX4_init_4 : decode cX4_init 4 = .ok (.aload_n 0, 1) := by decide +kernel
theorem dX4_init_5 : decode cX4_init 5 = .ok (.bipush 38, 2) := by decide +kernel
theorem dX4_init_7 : decode cX4_init 7 = .ok (.newarray .int, 2) := by decide +kernel
theorem dX4_init_9 : decode cX4_init 9 = .ok (.putfield 9, 3) := by decide +kernel
theorem dX4_init_12 : decode cX4_init 12 = .ok (.aload_n 0, 1) := by decide +kernel
theorem dX4_init_13 : decode cX4_init 13 = .ok (.bipush 38, 2) := by decide +kernel
theorem dX4_init_15 : decode cX4_init 15 = .ok (.bipush 39, 2) := by decide +kernel
theorem dX4_init_17 : decode cX4_init 17 = .ok (.multianewarray 15 2, 4) := by decide +kernel
theorem dX4_init_21 : decode cX4_init 21 = .ok (.putfield 17, 3) := by decide +kernel
theorem dX4_init_24 : decode cX4_init 24 = .ok (.aload_n 0, 1) := by decide +kernel
theorem dX4_init_25 : decode cX4_init 25 = .ok (.iconst 0, 1) := by decide +kernel
theorem dX4_init_26 : decode cX4_init 26 = .ok (.putfield 20, 3) := by decide +kernel
theorem dX4_init_29 : decode cX4_init 29 = .ok (.aload_n 0, 1) := by decide +kernel
theorem dX4_init_30 : decode cX4_init 30 = .ok (.aload_n 1, 1) := by decide +kernel
theorem dX4_init_31 : decode cX4_init 31 = .ok (.putfield 24, 3) := by decide +kernel
theorem dX4_init_34 : decode cX4_init 34 = .ok (.aload_n 0, 1) := by decide +kernel
theorem dX4_init_35 : decode cX4_init 35 = .ok (.aload_n 2, 1) := by decide +kernel
theorem dX4_init_36 : decode cX4_init 36 = .ok (.putfield 28, 3) := by decide +kernel
theorem dX4_init_39 : decode cX4_init 39 = .ok (.return_, 1) := by decide +kernel
theorem gcX4_solveFor__X4_solveFor_r1 : ∀ w ∈ wsX4_solveFor_r1, w ∈ wsX4_solveFor := fun w h => List.mem_cons_of_mem _ (List.mem_append_left _ (List.mem_append_left _ (List.mem_append_left _ (List.mem_append_left _ (h)))))
theorem gcX4_solveFor__X4_solveFor_r2 : ∀ w ∈ wsX4_solveFor_r2, w ∈ wsX4_solveFor := fun w h => List.mem_cons_of_mem _ (List.mem_append_left _ (List.mem_append_left _ (List.mem_append_left _ (List.mem_append_right _ (List.mem_append_left _ (h))))))
set_option maxRecDepth 20000 in
theorem gmX4_solveFor__X4_numberUnknowns_r1 : ∀ w ∈ wsX4_numberUnknowns_r1, w ∈ wsX4_solveFor := List.forall_mem_cons.mpr ⟨(gcX4_solveFor__X4_solveFor_r1 _ (List.mem_of_getElem? (i := 0) rfl)), List.forall_mem_cons.mpr ⟨(gcX4_solveFor__X4_solveFor_r1 _ (List.mem_of_getElem? (i := 8) rfl)), List.forall_mem_cons.mpr ⟨(gcX4_solveFor__X4_solveFor_r1 _ (List.mem_of_getElem? (i := 9) rfl)), List.forall_mem_cons.mpr ⟨(gcX4_solveFor__X4_solveFor_r1 _ (List.mem_of_getElem? (i := 10) rfl)), List.forall_mem_cons.mpr ⟨(gcX4_solveFor__X4_solveFor_r1 _ (List.mem_of_getElem? (i := 11) rfl)), List.forall_mem_cons.mpr ⟨(gcX4_solveFor__X4_solveFor_r1 _ (List.mem_of_getElem? (i := 12) rfl)), List.forall_mem_cons.mpr ⟨(gcX4_solveFor__X4_solveFor_r1 _ (List.mem_of_getElem? (i := 13) rfl)), List.forall_mem_cons.mpr ⟨(gcX4_solveFor__X4_solveFor_r1 _ (List.mem_of_getElem? (i := 1) rfl)), List.forall_mem_cons.mpr ⟨(gcX4_solveFor__X4_solveFor_r1 _ (List.mem_of_getElem? (i := 14) rfl)), List.forall_mem_cons.mpr ⟨(gcX4_solveFor__X4_solveFor_r1 _ (List.mem_of_getElem? (i := 15) rfl)), List.forall_mem_cons.mpr ⟨(gcX4_solveFor__X4_solveFor_r1 _ (List.mem_of_getElem? (i := 16) rfl)), List.forall_mem_cons.mpr ⟨(gcX4_solveFor__X4_solveFor_r1 _ (List.mem_of_getElem? (i := 17) rfl)), List.forall_mem_cons.mpr ⟨(gcX4_solveFor__X4_solveFor_r1 _ (List.mem_of_getElem? (i := 18) rfl)), List.forall_mem_cons.mpr ⟨(gcX4_solveFor__X4_solveFor_r1 _ (List.mem_of_getElem? (i := 19) rfl)), List.forall_mem_cons.mpr ⟨(gcX4_solveFor__X4_solveFor_r1 _ (List.mem_of_getElem? (i := 20) rfl)), List.forall_mem_cons.mpr ⟨(gcX4_solveFor__X4_solveFor_r1 _ (List.mem_of_getElem? (i := 21) rfl)), List.forall_mem_cons.mpr ⟨(gcX4_solveFor__X4_solveFor_r1 _ (List.mem_of_getElem? (i := 22) rfl)), List.forall_mem_cons.mpr ⟨(gcX4_solveFor__X4_solveFor_r1 _ (List.mem_of_getElem? (i := 23) rfl)), List.forall_mem_cons.mpr ⟨(gcX4_solveFor__X4_solveFor_r2 _ (List.mem_of_getElem? (i := 0) rfl)), List.forall_mem_cons.mpr ⟨(gcX4_solveFor__X4_solveFor_r2 _ (List.mem_of_getElem? (i := 1) rfl)), List.forall_mem_cons.mpr ⟨(gcX4_solveFor__X4_solveFor_r2 _ (List.mem_of_getElem? (i := 2) rfl)), List.forall_mem_cons.mpr ⟨(gcX4_solveFor__X4_solveFor_r2 _ (List.mem_of_getElem? (i := 3) rfl)), List.forall_mem_cons.mpr ⟨(gcX4_solveFor__X4_solveFor_r2 _ (List.mem_of_getElem? (i := 4) rfl)), List.forall_mem_cons.mpr ⟨(gcX4_solveFor__X4_solveFor_r2 _ (List.mem_of_getElem? (i := 5) rfl)), fun _ h => (List.not_mem_nil h).elim⟩⟩⟩⟩⟩⟩⟩⟩⟩⟩⟩⟩⟩⟩⟩⟩⟩⟩⟩⟩⟩⟩⟩⟩
set_option maxRecDepth 20000 in
theorem gmX4_solveFor__X4_numberUnknowns_r2 : ∀ w ∈ wsX4_numberUnknowns_r2, w ∈ wsX4_solveFor := List.forall_mem_cons.mpr ⟨(gcX4_solveFor__X4_solveFor_r2 _ (List.mem_of_getElem? (i := 6) rfl)), List.forall_mem_cons.mpr ⟨(gcX4_solveFor__X4_solveFor_r2 _ (List.mem_of_getElem? (i := 7) rfl)), List.forall_mem_cons.mpr ⟨(gcX4_solveFor__X4_solveFor_r2 _ (List.mem_of_getElem? (i := 8) rfl)), List.forall_mem_cons.mpr ⟨(gcX4_solveFor__X4_solveFor_r2 _ (List.mem_of_getElem? (i := 9) rfl)), List.forall_mem_cons.mpr ⟨(gcX4_solveFor__X4_solveFor_r1 _ (List.mem_of_getElem? (i := 6) rfl)), List.forall_mem_cons.mpr ⟨(gcX4_solveFor__X4_solveFor_r2 _ (List.mem_of_getElem? (i := 10) rfl)), List.forall_mem_cons.mpr ⟨(gcX4_solveFor__X4_solveFor_r2 _ (List.mem_of_getElem? (i := 11) rfl)), fun _ h => (List.not_mem_nil h).elim⟩⟩⟩⟩⟩⟩⟩
theorem gcX4_solveFor__X40 : ∀ w ∈ wsX40, w ∈ wsX4_solveFor := fun w h => List.mem_cons_of_mem _ (List.mem_append_left _ (List.mem_append_left _ (List.mem_append_right _ (h))))
theorem gcX4_solveFor__X80 : ∀ w ∈ wsX80, w ∈ wsX4_solveFor := fun w h => List.mem_cons_of_mem _ (List.mem_append_left _ (List.mem_append_right _ (h)))
theorem gcX4_solveFor__X50 : ∀ w ∈ wsX50, w ∈ wsX4_solveFor := fun w h => List.mem_cons_of_mem _ (List.mem_append_right _ (h))
set_option maxRecDepth 20000 in
theorem gwX4_numberUnknowns : wsX4_numberUnknowns.all goodWord = true := by decide +kernel
set_option maxRecDepth 20000 in
theorem ggX4_solveFor_X4_numberUnknowns : GoodIn wsX4_solveFor wsX4_numberUnknowns := goodIn_sub (List.forall_mem_cons.mpr ⟨(gcX4_solveFor__X4_solveFor_r1 _ (List.mem_of_getElem? (i := 7) rfl)), List.forall_mem_append.mpr ⟨List.forall_mem_append.mpr ⟨List.forall_mem_append.mpr ⟨List.forall_mem_append.mpr ⟨gmX4_solveFor__X4_numberUnknowns_r1, gmX4_solveFor__X4_numberUnknowns_r2⟩, gcX4_solveFor__X40⟩, gcX4_solveFor__X80⟩, gcX4_solveFor__X50⟩⟩) gwX4_numberUnknowns
set_option maxRecDepth 20000 in
theorem gX4_solveFor_X4_numberUnknowns : GoodIn wsX4_solveFor (wsV RX4 32 RX4 yX4_numberUnknowns wsX4_numberUnknowns) := goodIn_app (goodIn_sub (List.forall_mem_cons.mpr ⟨(gcX4_solveFor__X4_solveFor_r1 _ (List.mem_of_getElem? (i := 3) rfl)), List.forall_mem_cons.mpr ⟨(gcX4_solveFor__X4_solveFor_r1 _ (List.mem_of_getElem? (i := 4) rfl)), List.forall_mem_cons.mpr ⟨(gcX4_solveFor__X4_solveFor_r1 _ (List.mem_of_getElem? (i := 5) rfl)), List.forall_mem_cons.mpr ⟨(gcX4_solveFor__X4_solveFor_r1 _ (List.mem_of_getElem? (i := 6) rfl)), fun _ h => (List.not_mem_nil h).elim⟩⟩⟩⟩) (by decide +kernel)) ggX4_solveFor_X4_numberUnknowns
theorem gcX4_solveFor__X4_solveFor_r3 : ∀ w ∈ wsX4_solveFor_r3, w ∈ wsX4_solveFor := fun w h => List.mem_cons_of_mem _ (List.mem_append_left _ (List.mem_append_left _ (List.mem_append_left _ (List.mem_append_right _ (List.mem_append_right _ (List.mem_append_left _ (h)))))))
set_option maxRecDepth 20000 in
theorem gmX4_solveFor__X4_fill_r1 : ∀ w ∈ wsX4_fill_r1, w ∈ wsX4_solveFor := List.forall_mem_cons.mpr ⟨(gcX4_solveFor__X4_solveFor_r1 _ (List.mem_of_getElem? (i := 1) rfl)), List.forall_mem_cons.mpr ⟨(gcX4_solveFor__X4_solveFor_r1 _ (List.mem_of_getElem? (i := 2) rfl)), List.forall_mem_cons.mpr ⟨(gcX4_solveFor__X4_solveFor_r1 _ (List.mem_of_getElem? (i := 8) rfl)), List.forall_mem_cons.mpr ⟨(gcX4_solveFor__X4_solveFor_r1 _ (List.mem_of_getElem? (i := 9) rfl)), List.forall_mem_cons.mpr ⟨(gcX4_solveFor__X4_solveFor_r1 _ (List.mem_of_getElem? (i := 10) rfl)), List.forall_mem_cons.mpr ⟨(gcX4_solveFor__X4_solveFor_r1 _ (List.mem_of_getElem? (i := 11) rfl)), List.forall_mem_cons.mpr ⟨(gcX4_solveFor__X4_solveFor_r1 _ (List.mem_of_getElem? (i := 12) rfl)), List.forall_mem_cons.mpr ⟨(gcX4_solveFor__X4_solveFor_r2 _ (List.mem_of_getElem? (i := 16) rfl)), List.forall_mem_cons.mpr ⟨(gcX4_solveFor__X4_solveFor_r1 _ (List.mem_of_getElem? (i := 13) rfl)), List.forall_mem_cons.mpr ⟨(gcX4_solveFor__X4_solveFor_r2 _ (List.mem_of_getElem? (i := 17) rfl)), List.forall_mem_cons.mpr ⟨(gcX4_solveFor__X4_solveFor_r2 _ (List.mem_of_getElem? (i := 18) rfl)), List.forall_mem_cons.mpr ⟨(gcX4_solveFor__X4_solveFor_r2 _ (List.mem_of_getElem? (i := 19) rfl)), List.forall_mem_cons.mpr ⟨(gcX4_solveFor__X4_solveFor_r2 _ (List.mem_of_getElem? (i := 20) rfl)), List.forall_mem_cons.mpr ⟨(gcX4_solveFor__X4_solveFor_r1 _ (List.mem_of_getElem? (i := 16) rfl)), List.forall_mem_cons.mpr ⟨(gcX4_solveFor__X4_solveFor_r2 _ (List.mem_of_getElem? (i := 21) rfl)), List.forall_mem_cons.mpr ⟨(gcX4_solveFor__X4_solveFor_r1 _ (List.mem_of_getElem? (i := 18) rfl)), List.forall_mem_cons.mpr ⟨(gcX4_solveFor__X4_solveFor_r1 _ (List.mem_of_getElem? (i := 19) rfl)), List.forall_mem_cons.mpr ⟨(gcX4_solveFor__X4_solveFor_r1 _ (List.mem_of_getElem? (i := 20) rfl)), List.forall_mem_cons.mpr ⟨(gcX4_solveFor__X4_solveFor_r1 _ (List.mem_of_getElem? (i := 21) rfl)), List.forall_mem_cons.mpr ⟨(gcX4_solveFor__X4_solveFor_r1 _ (List.mem_of_getElem? (i := 22) rfl)), List.forall_mem_cons.mpr ⟨(gcX4_solveFor__X4_solveFor_r1 _ (List.mem_of_getElem? (i := 23) rfl)), List.forall_mem_cons.mpr ⟨(gcX4_solveFor__X4_solveFor_r2 _ (List.mem_of_getElem? (i := 22) rfl)), List.forall_mem_cons.mpr ⟨(gcX4_solveFor__X4_solveFor_r2 _ (List.mem_of_getElem? (i := 23) rfl)), List.forall_mem_cons.mpr ⟨(gcX4_solveFor__X4_solveFor_r3 _ (List.mem_of_getElem? (i := 0) rfl)), fun _ h => (List.not_mem_nil h).elim⟩⟩⟩⟩⟩⟩⟩⟩⟩⟩⟩⟩⟩⟩⟩⟩⟩⟩⟩⟩⟩⟩⟩⟩
set_option maxRecDepth 20000 in
theorem gmX4_solveFor__X4_fill_r2 : ∀ w ∈ wsX4_fill_r2, w ∈ wsX4_solveFor := List.forall_mem_cons.mpr ⟨(gcX4_solveFor__X4_solveFor_r3 _ (List.mem_of_getElem? (i := 1) rfl)), List.forall_mem_cons.mpr ⟨(gcX4_solveFor__X4_solveFor_r2 _ (List.mem_of_getElem? (i := 4) rfl)), List.forall_mem_cons.mpr ⟨(gcX4_solveFor__X4_solveFor_r3 _ (List.mem_of_getElem? (i := 2) rfl)), List.forall_mem_cons.mpr ⟨(gcX4_solveFor__X4_solveFor_r3 _ (List.mem_of_getElem? (i := 3) rfl)), List.forall_mem_cons.mpr ⟨(gcX4_solveFor__X4_solveFor_r3 _ (List.mem_of_getElem? (i := 4) rfl)), List.forall_mem_cons.mpr ⟨(gcX4_solveFor__X4_solveFor_r3 _ (List.mem_of_getElem? (i := 5) rfl)), List.forall_mem_cons.mpr ⟨(gcX4_solveFor__X4_solveFor_r3 _ (List.mem_of_getElem? (i := 6) rfl)), List.forall_mem_cons.mpr ⟨(gcX4_solveFor__X4_solveFor_r3 _ (List.mem_of_getElem? (i := 7) rfl)), List.forall_mem_cons.mpr ⟨(gcX4_solveFor__X4_solveFor_r3 _ (List.mem_of_getElem? (i := 8) rfl)), List.forall_mem_cons.mpr ⟨(gcX4_solveFor__X4_solveFor_r3 _ (List.mem_of_getElem? (i := 9) rfl)), List.forall_mem_cons.mpr ⟨(gcX4_solveFor__X4_solveFor_r2 _ (List.mem_of_getElem? (i := 0) rfl)), List.forall_mem_cons.mpr ⟨(gcX4_solveFor__X4_solveFor_r2 _ (List.mem_of_getElem? (i := 1) rfl)), List.forall_mem_cons.mpr ⟨(gcX4_solveFor__X4_solveFor_r2 _ (List.mem_of_getElem? (i := 2) rfl)), List.forall_mem_cons.mpr ⟨(gcX4_solveFor__X4_solveFor_r2 _ (List.mem_of_getElem? (i := 3) rfl)), List.forall_mem_cons.mpr ⟨(gcX4_solveFor__X4_solveFor_r2 _ (List.mem_of_getElem? (i := 5) rfl)), List.forall_mem_cons.mpr ⟨(gcX4_solveFor__X4_solveFor_r2 _ (List.mem_of_getElem? (i := 6) rfl)), List.forall_mem_cons.mpr ⟨(gcX4_solveFor__X4_solveFor_r3 _ (List.mem_of_getElem? (i := 10) rfl)), List.forall_mem_cons.mpr ⟨(gcX4_solveFor__X4_solveFor_r3 _ (List.mem_of_getElem? (i := 11) rfl)), List.forall_mem_cons.mpr ⟨(gcX4_solveFor__X4_solveFor_r3 _ (List.mem_of_getElem? (i := 12) rfl)), List.forall_mem_cons.mpr ⟨(gcX4_solveFor__X4_solveFor_r3 _ (List.mem_of_getElem? (i := 13) rfl)), List.forall_mem_cons.mpr ⟨(gcX4_solveFor__X4_solveFor_r3 _ (List.mem_of_getElem? (i := 14) rfl)), List.forall_mem_cons.mpr ⟨(gcX4_solveFor__X4_solveFor_r3 _ (List.mem_of_getElem? (i := 15) rfl)), List.forall_mem_cons.mpr ⟨(gcX4_solveFor__X4_solveFor_r3 _ (List.mem_of_getElem? (i := 16) rfl)), List.forall_mem_cons.mpr ⟨(gcX4_solveFor__X4_solveFor_r3 _ (List.mem_of_getElem? (i := 17) rfl)), fun _ h => (List.not_mem_nil h).elim⟩⟩⟩⟩⟩⟩⟩⟩⟩⟩⟩⟩⟩⟩⟩⟩⟩⟩⟩⟩⟩⟩⟩⟩
theorem gcX4_solveFor__X4_solveFor_r4 : ∀ w ∈ wsX4_solveFor_r4, w ∈ wsX4_solveFor := fun w h => List.mem_cons_of_mem _ (List.mem_append_left _ (List.mem_append_left _ (List.mem_append_left _ (List.mem_append_right _ (List.mem_append_right _ (List.mem_append_right _ (h)))))))
set_option maxRecDepth 20000 in
theorem gmX4_solveFor__X4_fill_r3 : ∀ w ∈ wsX4_fill_r3, w ∈ wsX4_solveFor := List.forall_mem_cons.mpr ⟨(gcX4_solveFor__X4_solveFor_r1 _ (List.mem_of_getElem? (i := 6) rfl)), List.forall_mem_cons.mpr ⟨(gcX4_solveFor__X4_solveFor_r3 _ (List.mem_of_getElem? (i := 18) rfl)), List.forall_mem_cons.mpr ⟨(gcX4_solveFor__X4_solveFor_r1 _ (List.mem_of_getElem? (i := 0) rfl)), List.forall_mem_cons.mpr ⟨(gcX4_solveFor__X4_solveFor_r3 _ (List.mem_of_getElem? (i := 19) rfl)), List.forall_mem_cons.mpr ⟨(gcX4_solveFor__X4_solveFor_r3 _ (List.mem_of_getElem? (i := 20) rfl)), List.forall_mem_cons.mpr ⟨(gcX4_solveFor__X4_solveFor_r3 _ (List.mem_of_getElem? (i := 21) rfl)), List.forall_mem_cons.mpr ⟨(gcX4_solveFor__X4_solveFor_r3 _ (List.mem_of_getElem? (i := 22) rfl)), List.forall_mem_cons.mpr ⟨(gcX4_solveFor__X4_solveFor_r2 _ (List.mem_of_getElem? (i := 7) rfl)), List.forall_mem_cons.mpr ⟨(gcX4_solveFor__X4_solveFor_r2 _ (List.mem_of_getElem? (i := 8) rfl)), List.forall_mem_cons.mpr ⟨(gcX4_solveFor__X4_solveFor_r2 _ (List.mem_of_getElem? (i := 9) rfl)), List.forall_mem_cons.mpr ⟨(gcX4_solveFor__X4_solveFor_r2 _ (List.mem_of_getElem? (i := 10) rfl)), List.forall_mem_cons.mpr ⟨(gcX4_solveFor__X4_solveFor_r2 _ (List.mem_of_getElem? (i := 11) rfl)), List.forall_mem_cons.mpr ⟨(gcX4_solveFor__X4_solveFor_r3 _ (List.mem_of_getElem? (i := 23) rfl)), List.forall_mem_cons.mpr ⟨(gcX4_solveFor__X4_solveFor_r4 _ (List.mem_of_getElem? (i := 0) rfl)), List.forall_mem_cons.mpr ⟨(gcX4_solveFor__X4_solveFor_r4 _ (List.mem_of_getElem? (i := 1) rfl)), List.forall_mem_cons.mpr ⟨(gcX4_solveFor__X4_solveFor_r4 _ (List.mem_of_getElem? (i := 2) rfl)), fun _ h => (List.not_mem_nil h).elim⟩⟩⟩⟩⟩⟩⟩⟩⟩⟩⟩⟩⟩⟩⟩⟩
set_option maxRecDepth 20000 in
theorem gwX4_fill : wsX4_fill.all goodWord = true := by decide +kernel
set_option maxRecDepth 20000 in
theorem ggX4_solveFor_X4_fill : GoodIn wsX4_solveFor wsX4_fill := goodIn_sub (List.forall_mem_cons.mpr ⟨(gcX4_solveFor__X4_solveFor_r2 _ (List.mem_of_getElem? (i := 15) rfl)), List.forall_mem_append.mpr ⟨List.forall_mem_append.mpr ⟨List.forall_mem_append.mpr ⟨List.forall_mem_append.mpr ⟨gmX4_solveFor__X4_fill_r1, List.forall_mem_append.mpr ⟨gmX4_solveFor__X4_fill_r2, gmX4_solveFor__X4_fill_r3⟩⟩, gcX4_solveFor__X40⟩, gcX4_solveFor__X80⟩, gcX4_solveFor__X50⟩⟩) gwX4_fill
set_option maxRecDepth 20000 in
theorem gX4_solveFor_X4_fill : GoodIn wsX4_solveFor (wsV RX4 35 RX4 yX4_fill wsX4_fill) := goodIn_app (goodIn_sub (List.forall_mem_cons.mpr ⟨(gcX4_solveFor__X4_solveFor_r2 _ (List.mem_of_getElem? (i := 12) rfl)), List.forall_mem_cons.mpr ⟨(gcX4_solveFor__X4_solveFor_r2 _ (List.mem_of_getElem? (i := 13) rfl)), List.forall_mem_cons.mpr ⟨(gcX4_solveFor__X4_solveFor_r2 _ (List.mem_of_getElem? (i := 14) rfl)), List.forall_mem_cons.mpr ⟨(gcX4_solveFor__X4_solveFor_r1 _ (List.mem_of_getElem? (i := 6) rfl)), fun _ h => (List.not_mem_nil h).elim⟩⟩⟩⟩) (by decide +kernel)) ggX4_solveFor_X4_fill
set_option maxRecDepth 20000 in
theorem gwX4_eliminate : wsX4_eliminate.all goodWord = true := by decide +kernel
set_option maxRecDepth 20000 in
theorem ggX4_solveFor_X4_eliminate : GoodIn wsX4_solveFor wsX4_eliminate := goodIn_sub (List.forall_mem_cons.mpr ⟨(gcX4_solveFor__X4_solveFor_r4 _ (List.mem_of_getElem? (i := 6) rfl)), List.forall_mem_append.mpr ⟨List.forall_mem_cons.mpr ⟨(gcX4_solveFor__X4_solveFor_r1 _ (List.mem_of_getElem? (i := 1) rfl)), List.forall_mem_cons.mpr ⟨(gcX4_solveFor__X4_solveFor_r1 _ (List.mem_of_getElem? (i := 2) rfl)), List.forall_mem_cons.mpr ⟨(gcX4_solveFor__X4_solveFor_r2 _ (List.mem_of_getElem? (i := 18) rfl)), List.forall_mem_cons.mpr ⟨(gcX4_solveFor__X4_solveFor_r4 _ (List.mem_of_getElem? (i := 7) rfl)), List.forall_mem_cons.mpr ⟨(gcX4_solveFor__X4_solveFor_r4 _ (List.mem_of_getElem? (i := 8) rfl)), List.forall_mem_cons.mpr ⟨(gcX4_solveFor__X4_solveFor_r4 _ (List.mem_of_getElem? (i := 9) rfl)), List.forall_mem_cons.mpr ⟨(gcX4_solveFor__X4_solveFor_r1 _ (List.mem_of_getElem? (i := 6) rfl)), List.forall_mem_cons.mpr ⟨(gcX4_solveFor__X4_solveFor_r4 _ (List.mem_of_getElem? (i := 10) rfl)), List.forall_mem_cons.mpr ⟨(gcX4_solveFor__X4_solveFor_r4 _ (List.mem_of_getElem? (i := 11) rfl)), List.forall_mem_cons.mpr ⟨(gcX4_solveFor__X4_solveFor_r4 _ (List.mem_of_getElem? (i := 12) rfl)), List.forall_mem_cons.mpr ⟨(gcX4_solveFor__X4_solveFor_r4 _ (List.mem_of_getElem? (i := 13) rfl)), List.forall_mem_cons.mpr ⟨(gcX4_solveFor__X4_solveFor_r4 _ (List.mem_of_getElem? (i := 14) rfl)), List.forall_mem_cons.mpr ⟨(gcX4_solveFor__X4_solveFor_r4 _ (List.mem_of_getElem? (i := 15) rfl)), List.forall_mem_cons.mpr ⟨(gcX4_solveFor__X4_solveFor_r4 _ (List.mem_of_getElem? (i := 16) rfl)), List.forall_mem_cons.mpr ⟨(gcX4_solveFor__X4_solveFor_r4 _ (List.mem_of_getElem? (i := 17) rfl)), List.forall_mem_cons.mpr ⟨(gcX4_solveFor__X4_solveFor_r4 _ (List.mem_of_getElem? (i := 18) rfl)), fun _ h => (List.not_mem_nil h).elim⟩⟩⟩⟩⟩⟩⟩⟩⟩⟩⟩⟩⟩⟩⟩⟩, gcX4_solveFor__X40⟩⟩) gwX4_eliminate
set_option maxRecDepth 20000 in
theorem gX4_solveFor_X4_eliminate : GoodIn wsX4_solveFor (wsV RX4 39 RX4 yX4_eliminate wsX4_eliminate) := goodIn_app (goodIn_sub (List.forall_mem_cons.mpr ⟨(gcX4_solveFor__X4_solveFor_r4 _ (List.mem_of_getElem? (i := 3) rfl)), List.forall_mem_cons.mpr ⟨(gcX4_solveFor__X4_solveFor_r4 _ (List.mem_of_getElem? (i := 4) rfl)), List.forall_mem_cons.mpr ⟨(gcX4_solveFor__X4_solveFor_r4 _ (List.mem_of_getElem? (i := 5) rfl)), List.forall_mem_cons.mpr ⟨(gcX4_solveFor__X4_solveFor_r1 _ (List.mem_of_getElem? (i := 6) rfl)), fun _ h => (List.not_mem_nil h).elim⟩⟩⟩⟩) (by decide +kernel)) ggX4_solveFor_X4_eliminate
theorem dX4_solveFor_0 : decode cX4_solveFor 0 = .ok (.aload_n 0, 1) := by decide +kernel
theorem dX4_solveFor_1 : decode cX4_solveFor 1 = .ok (.invokevirtual 32, 3) := by decide +kernel
theorem dX4_solveFor_4 : decode cX4_solveFor 4 = .ok (.aload_n 0, 1) := by decide +kernel
theorem dX4_solveFor_5 : decode cX4_solveFor 5 = .ok (.getfield 9, 3) := by decide +kernel
theorem dX4_solveFor_8 : decode cX4_solveFor 8 = .ok (.iload_n 1, 1) := by decide +kernel
theorem dX4_solveFor_9 : decode cX4_solveFor 9 = .ok (.iaload, 1) := by decide +kernel
theorem dX4_solveFor_10 : decode cX4_solveFor 10 = .ok (.istore_n 3, 1) := by decide +kernel
theorem dX4_solveFor_11 : decode cX4_solveFor 11 = .ok (.iload_n 3, 1) := by decide +kernel
theorem dX4_solveFor_12 : decode cX4_solveFor 12 = .ok (.iconst (-1), 1) := by decide +kernel
theorem dX4_solveFor_13 : decode cX4_solveFor 13 = .ok (.if_icmp .ne 5, 3) := by decide +kernel
theorem dX4_solveFor_16 : decode cX4_solveFor 16 = .ok (.iconst (-1), 1) := by decide +kernel
theorem dX4_solveFor_17 : decode cX4_solveFor 17 = .ok (.ireturn, 1) := by decide +kernel
theorem dX4_solveFor_18 : decode cX4_solveFor 18 = .ok (.aload_n 0, 1) := by decide +kernel
theorem dX4_solveFor_19 : decode cX4_solveFor 19 = .ok (.iload_n 2, 1) := by decide +kernel
theorem dX4_solveFor_20 : decode cX4_solveFor 20 = .ok (.invokevirtual 35, 3) := by decide +kernel
theorem dX4_solveFor_23 : decode cX4_solveFor 23 = .ok (.iconst 0, 1) := by decide +kernel
theorem dX4_solveFor_24 : decode cX4_solveFor 24 = .ok (.istore 4, 2) := by decide +kernel
theorem dX4_solveFor_26 : decode cX4_solveFor 26 = .ok (.iload 4, 2) := by decide +kernel
theorem dX4_solveFor_28 : decode cX4_solveFor 28 = .ok (.aload_n 0, 1) := by decide +kernel
theorem dX4_solveFor_29 : decode cX4_solveFor 29 = .ok (.getfield 20, 3) := by decide +kernel
theorem dX4_solveFor_32 : decode cX4_solveFor 32 = .ok (.if_icmp .ge 20, 3) := by decide +kernel
theorem dX4_solveFor_35 : decode cX4_solveFor 35 = .ok (.aload_n 0, 1) := by decide +kernel
theorem dX4_solveFor_36 : decode cX4_solveFor 36 = .ok (.iload 4, 2) := by decide +kernel
theorem dX4_solveFor_38 : decode cX4_solveFor 38 = .ok (.invokevirtual 39, 3) := by decide +kernel
theorem dX4_solveFor_41 : decode cX4_solveFor 41 = .ok (.ifCond .ne 5, 3) := by decide +kernel
theorem dX4_solveFor_44 : decode cX4_solveFor 44 = .ok (.iconst (-1), 1) := by decide +kernel
theorem dX4_solveFor_45 : decode cX4_solveFor 45 = .ok (.ireturn, 1) := by decide +kernel
theorem dX4_solveFor_46 : decode cX4_solveFor 46 = .ok (.iinc 4 1, 3) := by decide +kernel
theorem dX4_solveFor_49 : decode cX4_solveFor 49 = .ok (.goto (-23), 3) := by decide +kernel
theorem dX4_solveFor_52 : decode cX4_solveFor 52 = .ok (.aload_n 0, 1) := by decide +kernel
theorem dX4_solveFor_53 : decode cX4_solveFor 53 = .ok (.getfield 17, 3) := by decide +kernel
theorem dX4_solveFor_56 : decode cX4_solveFor 56 = .ok (.iload_n 3, 1) := by decide +kernel
theorem dX4_solveFor_57 : decode cX4_solveFor 57 = .ok (.aaload, 1) := by decide +kernel
theorem dX4_solveFor_58 : decode cX4_solveFor 58 = .ok (.aload_n 0, 1) := by decide +kernel
theorem dX4_solveFor_59 : decode cX4_solveFor 59 = .ok (.getfield 20, 3) := by decide +kernel
theorem dX4_solveFor_62 : decode cX4_solveFor 62 = .ok (.laload, 1) := by decide +kernel
theorem dX4_solveFor_63 : decode cX4_solveFor 63 = .ok (.l2i, 1) := by decide +kernel
theorem dX4_solveFor_64 : decode cX4_solveFor 64 = .ok (.ireturn, 1) := by decide +kernel
theorem gcX4_numberUnknowns__X4_numberUnknowns_r1 : ∀ w ∈ wsX4_numberUnknowns_r1, w ∈ wsX4_numberUnknowns := fun w h => List.mem_cons_of_mem _ (List.mem_append_left _ (List.mem_append_left _ (List.mem_append_left _ (List.mem_append_left _ (h)))))
set_option maxRecDepth 20000 in
theorem ggX4_numberUnknowns_J7_fill_53178 : GoodIn wsX4_numberUnknowns wsJ7_fill_53178 := goodIn_sub (List.forall_mem_cons.mpr ⟨(gcX4_numberUnknowns__X4_numberUnknowns_r1 _ (List.mem_of_getElem? (i := 11) rfl)), fun _ h => (List.not_mem_nil h).elim⟩) gwJ7_fill_53178
set_option maxRecDepth 20000 in
theorem gX4_numberUnknowns_J7_fill_53178 : GoodIn wsX4_numberUnknowns (va_wsS RX4 43 yJ7_fill_53178 wsJ7_fill_53178) := goodIn_app (goodIn_sub (List.forall_mem_cons.mpr ⟨(gcX4_numberUnknowns__X4_numberUnknowns_r1 _ (List.mem_of_getElem? (i := 8) rfl)), List.forall_mem_cons.mpr ⟨(gcX4_numberUnknowns__X4_numberUnknowns_r1 _ (List.mem_of_getElem? (i := 9) rfl)), List.forall_mem_cons.mpr ⟨(gcX4_numberUnknowns__X4_numberUnknowns_r1 _ (List.mem_of_getElem? (i := 10) rfl)), fun _ h => (List.not_mem_nil h).elim⟩⟩⟩) (by decide +kernel)) ggX4_numberUnknowns_J7_fill_53178
theorem gcX4_numberUnknowns__X50 : ∀ w ∈ wsX50, w ∈ wsX4_numberUnknowns := fun w h => List.mem_cons_of_mem _ (List.mem_append_right _ (h))
set_option maxRecDepth 20000 in
theorem ggX4_numberUnknowns_X5_uses : GoodIn wsX4_numberUnknowns wsX5_uses := goodIn_sub (List.forall_mem_cons.mpr ⟨(gcX4_numberUnknowns__X4_numberUnknowns_r1 _ (List.mem_of_getElem? (i := 16) rfl)), List.forall_mem_append.mpr ⟨List.forall_mem_cons.mpr ⟨(gcX4_numberUnknowns__X4_numberUnknowns_r1 _ (List.mem_of_getElem? (i := 17) rfl)), fun _ h => (List.not_mem_nil h).elim⟩, gcX4_numberUnknowns__X50⟩⟩) gwX5_uses
set_option maxRecDepth 20000 in
theorem gX4_numberUnknowns_X5_uses : GoodIn wsX4_numberUnknowns (wsV RX4 53 RX5 yX5_uses wsX5_uses) := goodIn_app (goodIn_sub (List.forall_mem_cons.mpr ⟨(gcX4_numberUnknowns__X4_numberUnknowns_r1 _ (List.mem_of_getElem? (i := 12) rfl)), List.forall_mem_cons.mpr ⟨(gcX4_numberUnknowns__X4_numberUnknowns_r1 _ (List.mem_of_getElem? (i := 13) rfl)), List.forall_mem_cons.mpr ⟨(gcX4_numberUnknowns__X4_numberUnknowns_r1 _ (List.mem_of_getElem? (i := 14) rfl)), List.forall_mem_cons.mpr ⟨(gcX4_numberUnknowns__X4_numberUnknowns_r1 _ (List.mem_of_getElem? (i := 15) rfl)), fun _ h => (List.not_mem_nil h).elim⟩⟩⟩⟩) (by decide +kernel)) ggX4_numberUnknowns_X5_uses
theorem gcX4_numberUnknowns__X4_numberUnknowns_r2 : ∀ w ∈ wsX4_numberUnknowns_r2, w ∈ wsX4_numberUnknowns := fun w h => List.mem_cons_of_mem _ (List.mem_append_left _ (List.mem_append_left _ (List.mem_append_left _ (List.mem_append_right _ (h)))))
theorem gcX4_numberUnknowns__X80 : ∀ w ∈ wsX80, w ∈ wsX4_numberUnknowns := fun w h => List.mem_cons_of_mem _ (List.mem_append_left _ (List.mem_append_right _ (h)))
set_option maxRecDepth 20000 in
theorem ggX4_numberUnknowns_X5_isFixed : GoodIn wsX4_numberUnknowns wsX5_isFixed := goodIn_sub (List.forall_mem_cons.mpr ⟨(gcX4_numberUnknowns__X4_numberUnknowns_r1 _ (List.mem_of_getElem? (i := 21) rfl)), List.forall_mem_append.mpr ⟨List.forall_mem_append.mpr ⟨List.forall_mem_cons.mpr ⟨(gcX4_numberUnknowns__X4_numberUnknowns_r1 _ (List.mem_of_getElem? (i := 22) rfl)), List.forall_mem_cons.mpr ⟨(gcX4_numberUnknowns__X4_numberUnknowns_r1 _ (List.mem_of_getElem? (i := 23) rfl)), List.forall_mem_cons.mpr ⟨(gcX4_numberUnknowns__X4_numberUnknowns_r2 _ (List.mem_of_getElem? (i := 0) rfl)), fun _ h => (List.not_mem_nil h).elim⟩⟩⟩, gcX4_numberUnknowns__X50⟩, gcX4_numberUnknowns__X80⟩⟩) gwX5_isFixed
set_option maxRecDepth 20000 in
theorem gX4_numberUnknowns_X5_isFixed : GoodIn wsX4_numberUnknowns (wsV RX4 64 RX5 yX5_isFixed wsX5_isFixed) := goodIn_app (goodIn_sub (List.forall_mem_cons.mpr ⟨(gcX4_numberUnknowns__X4_numberUnknowns_r1 _ (List.mem_of_getElem? (i := 18) rfl)), List.forall_mem_cons.mpr ⟨(gcX4_numberUnknowns__X4_numberUnknowns_r1 _ (List.mem_of_getElem? (i := 19) rfl)), List.forall_mem_cons.mpr ⟨(gcX4_numberUnknowns__X4_numberUnknowns_r1 _ (List.mem_of_getElem? (i := 20) rfl)), List.forall_mem_cons.mpr ⟨(gcX4_numberUnknowns__X4_numberUnknowns_r1 _ (List.mem_of_getElem? (i := 15) rfl)), fun _ h => (List.not_mem_nil h).elim⟩⟩⟩⟩) (by decide +kernel)) ggX4_numberUnknowns_X5_isFixed
theorem gcX4_numberUnknowns__X40 : ∀ w ∈ wsX40, w ∈ wsX4_numberUnknowns := fun w h => List.mem_cons_of_mem _ (List.mem_append_left _ (List.mem_append_left _ (List.mem_append_right _ (h))))
set_option maxRecDepth 20000 in
theorem gwX4_driftOf : wsX4_driftOf.all goodWord = true := by decide +kernel
set_option maxRecDepth 20000 in
theorem ggX4_numberUnknowns_X4_driftOf : GoodIn wsX4_numberUnknowns wsX4_driftOf := goodIn_sub (List.forall_mem_cons.mpr ⟨(gcX4_numberUnknowns__X4_numberUnknowns_r2 _ (List.mem_of_getElem? (i := 5) rfl)), List.forall_mem_append.mpr ⟨List.forall_mem_append.mpr ⟨List.forall_mem_cons.mpr ⟨(gcX4_numberUnknowns__X4_numberUnknowns_r1 _ (List.mem_of_getElem? (i := 1) rfl)), List.forall_mem_cons.mpr ⟨(gcX4_numberUnknowns__X4_numberUnknowns_r2 _ (List.mem_of_getElem? (i := 6) rfl)), fun _ h => (List.not_mem_nil h).elim⟩⟩, gcX4_numberUnknowns__X40⟩, gcX4_numberUnknowns__X80⟩⟩) gwX4_driftOf
set_option maxRecDepth 20000 in
theorem gX4_numberUnknowns_X4_driftOf : GoodIn wsX4_numberUnknowns (wsV RX4 70 RX4 yX4_driftOf wsX4_driftOf) := goodIn_app (goodIn_sub (List.forall_mem_cons.mpr ⟨(gcX4_numberUnknowns__X4_numberUnknowns_r2 _ (List.mem_of_getElem? (i := 1) rfl)), List.forall_mem_cons.mpr ⟨(gcX4_numberUnknowns__X4_numberUnknowns_r2 _ (List.mem_of_getElem? (i := 2) rfl)), List.forall_mem_cons.mpr ⟨(gcX4_numberUnknowns__X4_numberUnknowns_r2 _ (List.mem_of_getElem? (i := 3) rfl)), List.forall_mem_cons.mpr ⟨(gcX4_numberUnknowns__X4_numberUnknowns_r2 _ (List.mem_of_getElem? (i := 4) rfl)), fun _ h => (List.not_mem_nil h).elim⟩⟩⟩⟩) (by decide +kernel)) ggX4_numberUnknowns_X4_driftOf
theorem dX4_numberUnknowns_0 : decode cX4_numberUnknowns 0 = .ok (.aload_n 0, 1) := by decide +kernel
theorem dX4_numberUnknowns_1 : decode cX4_numberUnknowns 1 = .ok (.getfield 9, 3) := by decide +kernel
theorem dX4_numberUnknowns_4 : decode cX4_numberUnknowns 4 = .ok (.iconst (-1), 1) := by decide +kernel
theorem dX4_numberUnknowns_5 : decode cX4_numberUnknowns 5 = .ok (.invokestatic 43, 3) := by decide +kernel
theorem dX4_numberUnknowns_8 : decode cX4_numberUnknowns 8 = .ok (.iconst 0, 1) := by decide +kernel
theorem dX4_numberUnknowns_9 : decode cX4_numberUnknowns 9 = .ok (.istore_n 1, 1) := by decide +kernel
theorem dX4_numberUnknowns_10 : decode cX4_numberUnknowns 10 = .ok (.iload_n 1, 1) := by decide +kernel
theorem dX4_numberUnknowns_11 : decode cX4_numberUnknowns 11 = .ok (.aload_n 0, 1) := by decide +kernel
theorem dX4_numberUnknowns_12 : decode cX4_numberUnknowns 12 = .ok (.getfield 24, 3) := by decide +kernel
theorem dX4_numberUnknowns_15 : decode cX4_numberUnknowns 15 = .ok (.getfield 48, 3) := by decide +kernel
theorem dX4_numberUnknowns_18 : decode cX4_numberUnknowns 18 = .ok (.iconst 3, 1) := by decide +kernel
theorem dX4_numberUnknowns_19 : decode cX4_numberUnknowns 19 = .ok (.iaload, 1) := by decide +kernel
theorem dX4_numberUnknowns_20 : decode cX4_numberUnknowns 20 = .ok (.if_icmp .ge 75, 3) := by decide +kernel
theorem dX4_numberUnknowns_23 : decode cX4_numberUnknowns 23 = .ok (.aload_n 0, 1) := by decide +kernel
theorem dX4_numberUnknowns_24 : decode cX4_numberUnknowns 24 = .ok (.getfield 28, 3) := by decide +kernel
theorem dX4_numberUnknowns_27 : decode cX4_numberUnknowns 27 = .ok (.iload_n 1, 1) := by decide +kernel
theorem dX4_numberUnknowns_28 : decode cX4_numberUnknowns 28 = .ok (.invokevirtual 53, 3) := by decide +kernel
theorem dX4_numberUnknowns_31 : decode cX4_numberUnknowns 31 = .ok (.ifCond .ne 6, 3) := by decide +kernel
theorem dX4_numberUnknowns_34 : decode cX4_numberUnknowns 34 = .ok (.goto 55, 3) := by decide +kernel
theorem dX4_numberUnknowns_37 : decode cX4_numberUnknowns 37 = .ok (.aload_n 0, 1) := by decide +kernel
theorem dX4_numberUnknowns_38 : decode cX4_numberUnknowns 38 = .ok (.getfield 9, 3) := by decide +kernel
theorem dX4_numberUnknowns_41 : decode cX4_numberUnknowns 41 = .ok (.aload_n 0, 1) := by decide +kernel
theorem dX4_numberUnknowns_42 : decode cX4_numberUnknowns 42 = .ok (.getfield 24, 3) := by decide +kernel
theorem dX4_numberUnknowns_45 : decode cX4_numberUnknowns 45 = .ok (.getfield 58, 3) := by decide +kernel
theorem dX4_numberUnknowns_48 : decode cX4_numberUnknowns 48 = .ok (.iload_n 1, 1) := by decide +kernel
theorem dX4_numberUnknowns_49 : decode cX4_numberUnknowns 49 = .ok (.iaload, 1) := by decide +kernel
theorem dX4_numberUnknowns_50 : decode cX4_numberUnknowns 50 = .ok (.iconst 0, 1) := by decide +kernel
theorem dX4_numberUnknowns_51 : decode cX4_numberUnknowns 51 = .ok (.iastore, 1) := by decide +kernel
theorem dX4_numberUnknowns_52 : decode cX4_numberUnknowns 52 = .ok (.aload_n 0, 1) := by decide +kernel
theorem dX4_numberUnknowns_53 : decode cX4_numberUnknowns 53 = .ok (.getfield 28, 3) := by decide +kernel
theorem dX4_numberUnknowns_56 : decode cX4_numberUnknowns 56 = .ok (.aload_n 0, 1) := by decide +kernel
theorem dX4_numberUnknowns_57 : decode cX4_numberUnknowns 57 = .ok (.getfield 24, 3) := by decide +kernel
theorem dX4_numberUnknowns_60 : decode cX4_numberUnknowns 60 = .ok (.getfield 61, 3) := by decide +kernel
theorem dX4_numberUnknowns_63 : decode cX4_numberUnknowns 63 = .ok (.iload_n 1, 1) := by decide +kernel
theorem dX4_numberUnknowns_64 : decode cX4_numberUnknowns 64 = .ok (.iaload, 1) := by decide +kernel
theorem dX4_numberUnknowns_65 : decode cX4_numberUnknowns 65 = .ok (.invokevirtual 64, 3) := by decide +kernel
theorem dX4_numberUnknowns_68 : decode cX4_numberUnknowns 68 = .ok (.ifCond .ne 21, 3) := by decide +kernel
theorem dX4_numberUnknowns_71 : decode cX4_numberUnknowns 71 = .ok (.aload_n 0, 1) := by decide +kernel
theorem dX4_numberUnknowns_72 : decode cX4_numberUnknowns 72 = .ok (.getfield 9, 3) := by decide +kernel
theorem dX4_numberUnknowns_75 : decode cX4_numberUnknowns 75 = .ok (.bipush 12, 2) := by decide +kernel
theorem dX4_numberUnknowns_77 : decode cX4_numberUnknowns 77 = .ok (.aload_n 0, 1) := by decide +kernel
theorem dX4_numberUnknowns_78 : decode cX4_numberUnknowns 78 = .ok (.getfield 24, 3) := by decide +kernel
theorem dX4_numberUnknowns_81 : decode cX4_numberUnknowns 81 = .ok (.getfield 61, 3) := by decide +kernel
theorem dX4_numberUnknowns_84 : decode cX4_numberUnknowns 84 = .ok (.iload_n 1, 1) := by decide +kernel
theorem dX4_numberUnknowns_85 : decode cX4_numberUnknowns 85 = .ok (.iaload, 1) := by decide +kernel
theorem dX4_numberUnknowns_86 : decode cX4_numberUnknowns 86 = .ok (.iadd, 1) := by decide +kernel
theorem dX4_numberUnknowns_87 : decode cX4_numberUnknowns 87 = .ok (.iconst 0, 1) := by decide +kernel
theorem dX4_numberUnknowns_88 : decode cX4_numberUnknowns 88 = .ok (.iastore, 1) := by decide +kernel
theorem dX4_numberUnknowns_89 : decode cX4_numberUnknowns 89 = .ok (.iinc 1 1, 3) := by decide +kernel
theorem dX4_numberUnknowns_92 : decode cX4_numberUnknowns 92 = .ok (.goto (-82), 3) := by decide +kernel
theorem dX4_numberUnknowns_95 : decode cX4_numberUnknowns 95 = .ok (.iconst 0, 1) := by decide +kernel
theorem dX4_numberUnknowns_96 : decode cX4_numberUnknowns 96 = .ok (.istore_n 1, 1) := by decide +kernel
theorem dX4_numberUnknowns_97 : decode cX4_numberUnknowns 97 = .ok (.iload_n 1, 1) := by decide +kernel
theorem dX4_numberUnknowns_98 : decode cX4_numberUnknowns 98 = .ok (.aload_n 0, 1) := by decide +kernel
theorem dX4_numberUnknowns_99 : decode cX4_numberUnknowns 99 = .ok (.getfield 24, 3) := by decide +kernel
theorem dX4_numberUnknowns_102 : decode cX4_numberUnknowns 102 = .ok (.getfield 48, 3) := by decide +kernel
theorem dX4_numberUnknowns_105 : decode cX4_numberUnknowns 105 = .ok (.iconst 1, 1) := by decide +kernel
theorem dX4_numberUnknowns_106 : decode cX4_numberUnknowns 106 = .ok (.iaload, 1) := by decide +kernel
theorem dX4_numberUnknowns_107 : decode cX4_numberUnknowns 107 = .ok (.if_icmp .ge 42, 3) := by decide +kernel
theorem dX4_numberUnknowns_110 : decode cX4_numberUnknowns 110 = .ok (.aload_n 0, 1) := by decide +kernel
theorem dX4_numberUnknowns_111 : decode cX4_numberUnknowns 111 = .ok (.getfield 24, 3) := by decide +kernel
theorem dX4_numberUnknowns_114 : decode cX4_numberUnknowns 114 = .ok (.getfield 67, 3) := by decide +kernel
theorem dX4_numberUnknowns_117 : decode cX4_numberUnknowns 117 = .ok (.iload_n 1, 1) := by decide +kernel
theorem dX4_numberUnknowns_118 : decode cX4_numberUnknowns 118 = .ok (.iaload, 1) := by decide +kernel
theorem dX4_numberUnknowns_119 : decode cX4_numberUnknowns 119 = .ok (.ifCond .ne 6, 3) := by decide +kernel
theorem dX4_numberUnknowns_122 : decode cX4_numberUnknowns 122 = .ok (.goto 21, 3) := by decide +kernel
theorem dX4_numberUnknowns_125 : decode cX4_numberUnknowns 125 = .ok (.aload_n 0, 1) := by decide +kernel
theorem dX4_numberUnknowns_126 : decode cX4_numberUnknowns 126 = .ok (.getfield 9, 3) := by decide +kernel
theorem dX4_numberUnknowns_129 : decode cX4_numberUnknowns 129 = .ok (.iload_n 1, 1) := by decide +kernel
theorem dX4_numberUnknowns_130 : decode cX4_numberUnknowns 130 = .ok (.iconst 0, 1) := by decide +kernel
theorem dX4_numberUnknowns_131 : decode cX4_numberUnknowns 131 = .ok (.iastore, 1) := by decide +kernel
theorem dX4_numberUnknowns_132 : decode cX4_numberUnknowns 132 = .ok (.aload_n 0, 1) := by decide +kernel
theorem dX4_numberUnknowns_133 : decode cX4_numberUnknowns 133 = .ok (.getfield 9, 3) := by decide +kernel
theorem dX4_numberUnknowns_136 : decode cX4_numberUnknowns 136 = .ok (.aload_n 0, 1) := by decide +kernel
theorem dX4_numberUnknowns_137 : decode cX4_numberUnknowns 137 = .ok (.iload_n 1, 1) := by decide +kernel
theorem dX4_numberUnknowns_138 : decode cX4_numberUnknowns 138 = .ok (.invokevirtual 70, 3) := by decide +kernel
theorem dX4_numberUnknowns_141 : decode cX4_numberUnknowns 141 = .ok (.iconst 0, 1) := by decide +kernel
theorem dX4_numberUnknowns_142 : decode cX4_numberUnknowns 142 = .ok (.iastore, 1) := by decide +kernel
theorem dX4_numberUnknowns_143 : decode cX4_numberUnknowns 143 = .ok (.iinc 1 1, 3) := by decide +kernel
theorem dX4_numberUnknowns_146 : decode cX4_numberUnknowns 146 = .ok (.goto (-49), 3) := by decide +kernel
theorem dX4_numberUnknowns_149 : decode cX4_numberUnknowns 149 = .ok (.aload_n 0, 1) := by decide +kernel
theorem dX4_numberUnknowns_150 : decode cX4_numberUnknowns 150 = .ok (.iconst 0, 1) := by decide +kernel
theorem dX4_numberUnknowns_151 : decode cX4_numberUnknowns 151 = .ok (.putfield 20, 3) := by decide +kernel
theorem dX4_numberUnknowns_154 : decode cX4_numberUnknowns 154 = .ok (.iconst 0, 1) := by decide +kernel
theorem dX4_numberUnknowns_155 : decode cX4_numberUnknowns 155 = .ok (.istore_n 1, 1) := by decide +kernel
theorem dX4_numberUnknowns_156 : decode cX4_numberUnknowns 156 = .ok (.iload_n 1, 1) := by decide +kernel
theorem dX4_numberUnknowns_157 : decode cX4_numberUnknowns 157 = .ok (.bipush 38, 2) := by decide +kernel
theorem dX4_numberUnknowns_159 : decode cX4_numberUnknowns 159 = .ok (.if_icmp .ge 42, 3) := by decide +kernel
theorem dX4_numberUnknowns_162 : decode cX4_numberUnknowns 162 = .ok (.aload_n 0, 1) := by decide +kernel
theorem dX4_numberUnknowns_163 : decode cX4_numberUnknowns 163 = .ok (.getfield 9, 3) := by decide +kernel
theorem dX4_numberUnknowns_166 : decode cX4_numberUnknowns 166 = .ok (.iload_n 1, 1) := by decide +kernel
theorem dX4_numberUnknowns_167 : decode cX4_numberUnknowns 167 = .ok (.iaload, 1) := by decide +kernel
theorem dX4_numberUnknowns_168 : decode cX4_numberUnknowns 168 = .ok (.iconst (-1), 1) := by decide +kernel
theorem dX4_numberUnknowns_169 : decode cX4_numberUnknowns 169 = .ok (.if_icmp .ne 6, 3) := by decide +kernel
theorem dX4_numberUnknowns_172 : decode cX4_numberUnknowns 172 = .ok (.goto 23, 3) := by decide +kernel
theorem dX4_numberUnknowns_175 : decode cX4_numberUnknowns 175 = .ok (.aload_n 0, 1) := by decide +kernel
theorem dX4_numberUnknowns_176 : decode cX4_numberUnknowns 176 = .ok (.getfield 9, 3) := by decide +kernel
theorem dX4_numberUnknowns_179 : decode cX4_numberUnknowns 179 = .ok (.iload_n 1, 1) := by decide +kernel
theorem dX4_numberUnknowns_180 : decode cX4_numberUnknowns 180 = .ok (.aload_n 0, 1) := by decide +kernel
theorem dX4_numberUnknowns_181 : decode cX4_numberUnknowns 181 = .ok (.getfield 20, 3) := by decide +kernel
theorem dX4_numberUnknowns_184 : decode cX4_numberUnknowns 184 = .ok (.iastore, 1) := by decide +kernel
theorem dX4_numberUnknowns_185 : decode cX4_numberUnknowns 185 = .ok (.aload_n 0, 1) := by decide +kernel
theorem dX4_numberUnknowns_186 : decode cX4_numberUnknowns 186 = .ok (.dup, 1) := by decide +kernel
theorem dX4_numberUnknowns_187 : decode cX4_numberUnknowns 187 = .ok (.getfield 20, 3) := by decide +kernel
theorem dX4_numberUnknowns_190 : decode cX4_numberUnknowns 190 = .ok (.iconst 1, 1) := by decide +kernel
theorem dX4_numberUnknowns_191 : decode cX4_numberUnknowns 191 = .ok (.iadd, 1) := by decide +kernel
theorem dX4_numberUnknowns_192 : decode cX4_numberUnknowns 192 = .ok (.putfield 20, 3) := by decide +kernel
theorem dX4_numberUnknowns_195 : decode cX4_numberUnknowns 195 = .ok (.iinc 1 1, 3) := by decide +kernel
theorem dX4_numberUnknowns_198 : decode cX4_numberUnknowns 198 = .ok (.goto (-42), 3) := by decide +kernel
theorem dX4_numberUnknowns_201 : decode cX4_numberUnknowns 201 = .ok (.return_, 1) := by decide +kernel
theorem dX4_driftOf_0 : decode cX4_driftOf 0 = .ok (.bipush 32, 2) := by decide +kernel
theorem dX4_driftOf_2 : decode cX4_driftOf 2 = .ok (.aload_n 0, 1) := by decide +kernel
theorem dX4_driftOf_3 : decode cX4_driftOf 3 = .ok (.getfield 24, 3) := by decide +kernel
theorem dX4_driftOf_6 : decode cX4_driftOf 6 = .ok (.getfield 74, 3) := by decide +kernel
theorem dX4_driftOf_9 : decode cX4_driftOf 9 = .ok (.iload_n 1, 1) := by decide +kernel
theorem dX4_driftOf_10 : decode cX4_driftOf 10 = .ok (.iaload, 1) := by decide +kernel
theorem dX4_driftOf_11 : decode cX4_driftOf 11 = .ok (.iadd, 1) := by decide +kernel
theorem dX4_driftOf_12 : decode cX4_driftOf 12 = .ok (.ireturn, 1) := by decide +kernel
theorem gcX4_fill__X4_fill_r1 : ∀ w ∈ wsX4_fill_r1, w ∈ wsX4_fill := fun w h => List.mem_cons_of_mem _ (List.mem_append_left _ (List.mem_append_left _ (List.mem_append_left _ (List.mem_append_left _ (h)))))
set_option maxRecDepth 20000 in
theorem ggX4_fill_J7_fill_d0a16 : GoodIn wsX4_fill wsJ7_fill_d0a16 := goodIn_sub (List.forall_mem_cons.mpr ⟨(gcX4_fill__X4_fill_r1 _ (List.mem_of_getElem? (i := 14) rfl)), fun _ h => (List.not_mem_nil h).elim⟩) gwJ7_fill_d0a16
set_option maxRecDepth 20000 in
theorem gX4_fill_J7_fill_d0a16 : GoodIn wsX4_fill (va_wsS RX4 77 yJ7_fill_d0a16 wsJ7_fill_d0a16) := goodIn_app (goodIn_sub (List.forall_mem_cons.mpr ⟨(gcX4_fill__X4_fill_r1 _ (List.mem_of_getElem? (i := 11) rfl)), List.forall_mem_cons.mpr ⟨(gcX4_fill__X4_fill_r1 _ (List.mem_of_getElem? (i := 12) rfl)), List.forall_mem_cons.mpr ⟨(gcX4_fill__X4_fill_r1 _ (List.mem_of_getElem? (i := 13) rfl)), fun _ h => (List.not_mem_nil h).elim⟩⟩⟩) (by decide +kernel)) ggX4_fill_J7_fill_d0a16
theorem gcX4_fill__X50 : ∀ w ∈ wsX50, w ∈ wsX4_fill := fun w h => List.mem_cons_of_mem _ (List.mem_append_right _ (h))
set_option maxRecDepth 20000 in
theorem ggX4_fill_X5_uses : GoodIn wsX4_fill wsX5_uses := goodIn_sub (List.forall_mem_cons.mpr ⟨(gcX4_fill__X4_fill_r1 _ (List.mem_of_getElem? (i := 19) rfl)), List.forall_mem_append.mpr ⟨List.forall_mem_cons.mpr ⟨(gcX4_fill__X4_fill_r1 _ (List.mem_of_getElem? (i := 20) rfl)), fun _ h => (List.not_mem_nil h).elim⟩, gcX4_fill__X50⟩⟩) gwX5_uses
set_option maxRecDepth 20000 in
theorem gX4_fill_X5_uses : GoodIn wsX4_fill (wsV RX4 53 RX5 yX5_uses wsX5_uses) := goodIn_app (goodIn_sub (List.forall_mem_cons.mpr ⟨(gcX4_fill__X4_fill_r1 _ (List.mem_of_getElem? (i := 15) rfl)), List.forall_mem_cons.mpr ⟨(gcX4_fill__X4_fill_r1 _ (List.mem_of_getElem? (i := 16) rfl)), List.forall_mem_cons.mpr ⟨(gcX4_fill__X4_fill_r1 _ (List.mem_of_getElem? (i := 17) rfl)), List.forall_mem_cons.mpr ⟨(gcX4_fill__X4_fill_r1 _ (List.mem_of_getElem? (i := 18) rfl)), fun _ h => (List.not_mem_nil h).elim⟩⟩⟩⟩) (by decide +kernel)) ggX4_fill_X5_uses
theorem gcX4_fill__X4_fill_r2 : ∀ w ∈ wsX4_fill_r2, w ∈ wsX4_fill := fun w h => List.mem_cons_of_mem _ (List.mem_append_left _ (List.mem_append_left _ (List.mem_append_left _ (List.mem_append_right _ (List.mem_append_left _ (h))))))
theorem gcX4_fill__X80 : ∀ w ∈ wsX80, w ∈ wsX4_fill := fun w h => List.mem_cons_of_mem _ (List.mem_append_left _ (List.mem_append_right _ (h)))
set_option maxRecDepth 20000 in
theorem ggX4_fill_X5_turned : GoodIn wsX4_fill wsX5_turned := goodIn_sub (List.forall_mem_cons.mpr ⟨(gcX4_fill__X4_fill_r2 _ (List.mem_of_getElem? (i := 0) rfl)), List.forall_mem_append.mpr ⟨List.forall_mem_append.mpr ⟨List.forall_mem_cons.mpr ⟨(gcX4_fill__X4_fill_r2 _ (List.mem_of_getElem? (i := 1) rfl)), List.forall_mem_cons.mpr ⟨(gcX4_fill__X4_fill_r2 _ (List.mem_of_getElem? (i := 2) rfl)), List.forall_mem_cons.mpr ⟨(gcX4_fill__X4_fill_r2 _ (List.mem_of_getElem? (i := 3) rfl)), List.forall_mem_cons.mpr ⟨(gcX4_fill__X4_fill_r2 _ (List.mem_of_getElem? (i := 4) rfl)), List.forall_mem_cons.mpr ⟨(gcX4_fill__X4_fill_r2 _ (List.mem_of_getElem? (i := 5) rfl)), List.forall_mem_cons.mpr ⟨(gcX4_fill__X4_fill_r2 _ (List.mem_of_getElem? (i := 6) rfl)), List.forall_mem_cons.mpr ⟨(gcX4_fill__X4_fill_r2 _ (List.mem_of_getElem? (i := 7) rfl)), List.forall_mem_cons.mpr ⟨(gcX4_fill__X4_fill_r2 _ (List.mem_of_getElem? (i := 8) rfl)), List.forall_mem_cons.mpr ⟨(gcX4_fill__X4_fill_r2 _ (List.mem_of_getElem? (i := 9) rfl)), fun _ h => (List.not_mem_nil h).elim⟩⟩⟩⟩⟩⟩⟩⟩⟩, gcX4_fill__X50⟩, gcX4_fill__X80⟩⟩) gwX5_turned
set_option maxRecDepth 20000 in
theorem gX4_fill_X5_turned : GoodIn wsX4_fill (wsV RX4 80 RX5 yX5_turned wsX5_turned) := goodIn_app (goodIn_sub (List.forall_mem_cons.mpr ⟨(gcX4_fill__X4_fill_r1 _ (List.mem_of_getElem? (i := 21) rfl)), List.forall_mem_cons.mpr ⟨(gcX4_fill__X4_fill_r1 _ (List.mem_of_getElem? (i := 22) rfl)), List.forall_mem_cons.mpr ⟨(gcX4_fill__X4_fill_r1 _ (List.mem_of_getElem? (i := 23) rfl)), List.forall_mem_cons.mpr ⟨(gcX4_fill__X4_fill_r1 _ (List.mem_of_getElem? (i := 18) rfl)), fun _ h => (List.not_mem_nil h).elim⟩⟩⟩⟩) (by decide +kernel)) ggX4_fill_X5_turned
set_option maxRecDepth 20000 in
theorem ggX4_fill_X5_isFixed : GoodIn wsX4_fill wsX5_isFixed := goodIn_sub (List.forall_mem_cons.mpr ⟨(gcX4_fill__X4_fill_r2 _ (List.mem_of_getElem? (i := 13) rfl)), List.forall_mem_append.mpr ⟨List.forall_mem_append.mpr ⟨List.forall_mem_cons.mpr ⟨(gcX4_fill__X4_fill_r2 _ (List.mem_of_getElem? (i := 1) rfl)), List.forall_mem_cons.mpr ⟨(gcX4_fill__X4_fill_r2 _ (List.mem_of_getElem? (i := 14) rfl)), List.forall_mem_cons.mpr ⟨(gcX4_fill__X4_fill_r2 _ (List.mem_of_getElem? (i := 15) rfl)), fun _ h => (List.not_mem_nil h).elim⟩⟩⟩, gcX4_fill__X50⟩, gcX4_fill__X80⟩⟩) gwX5_isFixed
set_option maxRecDepth 20000 in
theorem gX4_fill_X5_isFixed : GoodIn wsX4_fill (wsV RX4 64 RX5 yX5_isFixed wsX5_isFixed) := goodIn_app (goodIn_sub (List.forall_mem_cons.mpr ⟨(gcX4_fill__X4_fill_r2 _ (List.mem_of_getElem? (i := 10) rfl)), List.forall_mem_cons.mpr ⟨(gcX4_fill__X4_fill_r2 _ (List.mem_of_getElem? (i := 11) rfl)), List.forall_mem_cons.mpr ⟨(gcX4_fill__X4_fill_r2 _ (List.mem_of_getElem? (i := 12) rfl)), List.forall_mem_cons.mpr ⟨(gcX4_fill__X4_fill_r1 _ (List.mem_of_getElem? (i := 18) rfl)), fun _ h => (List.not_mem_nil h).elim⟩⟩⟩⟩) (by decide +kernel)) ggX4_fill_X5_isFixed
set_option maxRecDepth 20000 in
theorem ggX4_fill_X5_fixedAt : GoodIn wsX4_fill wsX5_fixedAt := goodIn_sub (List.forall_mem_cons.mpr ⟨(gcX4_fill__X4_fill_r2 _ (List.mem_of_getElem? (i := 19) rfl)), List.forall_mem_append.mpr ⟨List.forall_mem_append.mpr ⟨List.forall_mem_cons.mpr ⟨(gcX4_fill__X4_fill_r2 _ (List.mem_of_getElem? (i := 1) rfl)), List.forall_mem_cons.mpr ⟨(gcX4_fill__X4_fill_r2 _ (List.mem_of_getElem? (i := 20) rfl)), fun _ h => (List.not_mem_nil h).elim⟩⟩, gcX4_fill__X50⟩, gcX4_fill__X80⟩⟩) gwX5_fixedAt
set_option maxRecDepth 20000 in
theorem gX4_fill_X5_fixedAt : GoodIn wsX4_fill (wsV RX4 87 RX5 yX5_fixedAt wsX5_fixedAt) := goodIn_app (goodIn_sub (List.forall_mem_cons.mpr ⟨(gcX4_fill__X4_fill_r2 _ (List.mem_of_getElem? (i := 16) rfl)), List.forall_mem_cons.mpr ⟨(gcX4_fill__X4_fill_r2 _ (List.mem_of_getElem? (i := 17) rfl)), List.forall_mem_cons.mpr ⟨(gcX4_fill__X4_fill_r2 _ (List.mem_of_getElem? (i := 18) rfl)), List.forall_mem_cons.mpr ⟨(gcX4_fill__X4_fill_r1 _ (List.mem_of_getElem? (i := 18) rfl)), fun _ h => (List.not_mem_nil h).elim⟩⟩⟩⟩) (by decide +kernel)) ggX4_fill_X5_fixedAt
theorem gcX4_fill__X4_fill_r3 : ∀ w ∈ wsX4_fill_r3, w ∈ wsX4_fill := fun w h => List.mem_cons_of_mem _ (List.mem_append_left _ (List.mem_append_left _ (List.mem_append_left _ (List.mem_append_right _ (List.mem_append_right _ (h))))))
theorem gcX4_fill__X40 : ∀ w ∈ wsX40, w ∈ wsX4_fill := fun w h => List.mem_cons_of_mem _ (List.mem_append_left _ (List.mem_append_left _ (List.mem_append_right _ (h))))
set_option maxRecDepth 20000 in
theorem gwX4_addHold : wsX4_addHold.all goodWord = true := by decide +kernel
set_option maxRecDepth 20000 in
theorem ggX4_fill_X4_addHold : GoodIn wsX4_fill wsX4_addHold := goodIn_sub (List.forall_mem_cons.mpr ⟨(gcX4_fill__X4_fill_r3 _ (List.mem_of_getElem? (i := 1) rfl)), List.forall_mem_append.mpr ⟨List.forall_mem_cons.mpr ⟨(gcX4_fill__X4_fill_r3 _ (List.mem_of_getElem? (i := 2) rfl)), List.forall_mem_cons.mpr ⟨(gcX4_fill__X4_fill_r1 _ (List.mem_of_getElem? (i := 1) rfl)), List.forall_mem_cons.mpr ⟨(gcX4_fill__X4_fill_r1 _ (List.mem_of_getElem? (i := 0) rfl)), fun _ h => (List.not_mem_nil h).elim⟩⟩⟩, gcX4_fill__X40⟩⟩) gwX4_addHold
set_option maxRecDepth 20000 in
theorem gX4_fill_X4_addHold : GoodIn wsX4_fill (wsV RX4 90 RX4 yX4_addHold wsX4_addHold) := goodIn_app (goodIn_sub (List.forall_mem_cons.mpr ⟨(gcX4_fill__X4_fill_r2 _ (List.mem_of_getElem? (i := 21) rfl)), List.forall_mem_cons.mpr ⟨(gcX4_fill__X4_fill_r2 _ (List.mem_of_getElem? (i := 22) rfl)), List.forall_mem_cons.mpr ⟨(gcX4_fill__X4_fill_r2 _ (List.mem_of_getElem? (i := 23) rfl)), List.forall_mem_cons.mpr ⟨(gcX4_fill__X4_fill_r3 _ (List.mem_of_getElem? (i := 0) rfl)), fun _ h => (List.not_mem_nil h).elim⟩⟩⟩⟩) (by decide +kernel)) ggX4_fill_X4_addHold
set_option maxRecDepth 20000 in
theorem gwX4_addTerm : wsX4_addTerm.all goodWord = true := by decide +kernel
set_option maxRecDepth 20000 in
theorem ggX4_fill_X4_addTerm : GoodIn wsX4_fill wsX4_addTerm := goodIn_sub (List.forall_mem_cons.mpr ⟨(gcX4_fill__X4_fill_r3 _ (List.mem_of_getElem? (i := 6) rfl)), List.forall_mem_append.mpr ⟨List.forall_mem_cons.mpr ⟨(gcX4_fill__X4_fill_r3 _ (List.mem_of_getElem? (i := 2) rfl)), List.forall_mem_cons.mpr ⟨(gcX4_fill__X4_fill_r1 _ (List.mem_of_getElem? (i := 1) rfl)), List.forall_mem_cons.mpr ⟨(gcX4_fill__X4_fill_r2 _ (List.mem_of_getElem? (i := 21) rfl)), List.forall_mem_cons.mpr ⟨(gcX4_fill__X4_fill_r2 _ (List.mem_of_getElem? (i := 22) rfl)), List.forall_mem_cons.mpr ⟨(gcX4_fill__X4_fill_r2 _ (List.mem_of_getElem? (i := 23) rfl)), List.forall_mem_cons.mpr ⟨(gcX4_fill__X4_fill_r3 _ (List.mem_of_getElem? (i := 0) rfl)), List.forall_mem_cons.mpr ⟨(gcX4_fill__X4_fill_r3 _ (List.mem_of_getElem? (i := 1) rfl)), List.forall_mem_cons.mpr ⟨(gcX4_fill__X4_fill_r1 _ (List.mem_of_getElem? (i := 0) rfl)), fun _ h => (List.not_mem_nil h).elim⟩⟩⟩⟩⟩⟩⟩⟩, gcX4_fill__X40⟩⟩) gwX4_addTerm
set_option maxRecDepth 20000 in
theorem gX4_fill_X4_addTerm : GoodIn wsX4_fill (wsV RX4 94 RX4 yX4_addTerm wsX4_addTerm) := goodIn_app (goodIn_sub (List.forall_mem_cons.mpr ⟨(gcX4_fill__X4_fill_r3 _ (List.mem_of_getElem? (i := 3) rfl)), List.forall_mem_cons.mpr ⟨(gcX4_fill__X4_fill_r3 _ (List.mem_of_getElem? (i := 4) rfl)), List.forall_mem_cons.mpr ⟨(gcX4_fill__X4_fill_r3 _ (List.mem_of_getElem? (i := 5) rfl)), List.forall_mem_cons.mpr ⟨(gcX4_fill__X4_fill_r3 _ (List.mem_of_getElem? (i := 0) rfl)), fun _ h => (List.not_mem_nil h).elim⟩⟩⟩⟩) (by decide +kernel)) ggX4_fill_X4_addTerm
set_option maxRecDepth 20000 in
theorem ggX4_fill_X4_driftOf : GoodIn wsX4_fill wsX4_driftOf := goodIn_sub (List.forall_mem_cons.mpr ⟨(gcX4_fill__X4_fill_r3 _ (List.mem_of_getElem? (i := 10) rfl)), List.forall_mem_append.mpr ⟨List.forall_mem_append.mpr ⟨List.forall_mem_cons.mpr ⟨(gcX4_fill__X4_fill_r1 _ (List.mem_of_getElem? (i := 2) rfl)), List.forall_mem_cons.mpr ⟨(gcX4_fill__X4_fill_r3 _ (List.mem_of_getElem? (i := 11) rfl)), fun _ h => (List.not_mem_nil h).elim⟩⟩, gcX4_fill__X40⟩, gcX4_fill__X80⟩⟩) gwX4_driftOf
set_option maxRecDepth 20000 in
theorem gX4_fill_X4_driftOf : GoodIn wsX4_fill (wsV RX4 70 RX4 yX4_driftOf wsX4_driftOf) := goodIn_app (goodIn_sub (List.forall_mem_cons.mpr ⟨(gcX4_fill__X4_fill_r3 _ (List.mem_of_getElem? (i := 7) rfl)), List.forall_mem_cons.mpr ⟨(gcX4_fill__X4_fill_r3 _ (List.mem_of_getElem? (i := 8) rfl)), List.forall_mem_cons.mpr ⟨(gcX4_fill__X4_fill_r3 _ (List.mem_of_getElem? (i := 9) rfl)), List.forall_mem_cons.mpr ⟨(gcX4_fill__X4_fill_r3 _ (List.mem_of_getElem? (i := 0) rfl)), fun _ h => (List.not_mem_nil h).elim⟩⟩⟩⟩) (by decide +kernel)) ggX4_fill_X4_driftOf
set_option maxRecDepth 20000 in
theorem gwJ9_floorMod_f86c9 : wsJ9_floorMod_f86c9.all goodWord = true := by decide +kernel
set_option maxRecDepth 20000 in
theorem ggX4_fill_J9_floorMod_f86c9 : GoodIn wsX4_fill wsJ9_floorMod_f86c9 := goodIn_sub (List.forall_mem_cons.mpr ⟨(gcX4_fill__X4_fill_r3 _ (List.mem_of_getElem? (i := 15) rfl)), fun _ h => (List.not_mem_nil h).elim⟩) gwJ9_floorMod_f86c9
set_option maxRecDepth 20000 in
theorem gX4_fill_J9_floorMod_f86c9 : GoodIn wsX4_fill (va_wsS RX4 104 yJ9_floorMod_f86c9 wsJ9_floorMod_f86c9) := goodIn_app (goodIn_sub (List.forall_mem_cons.mpr ⟨(gcX4_fill__X4_fill_r3 _ (List.mem_of_getElem? (i := 12) rfl)), List.forall_mem_cons.mpr ⟨(gcX4_fill__X4_fill_r3 _ (List.mem_of_getElem? (i := 13) rfl)), List.forall_mem_cons.mpr ⟨(gcX4_fill__X4_fill_r3 _ (List.mem_of_getElem? (i := 14) rfl)), fun _ h => (List.not_mem_nil h).elim⟩⟩⟩) (by decide +kernel)) ggX4_fill_J9_floorMod_f86c9
theorem dX4_fill_0 : decode cX4_fill 0 = .ok (.iconst 0, 1) := by decide +kernel
theorem dX4_fill_1 : decode cX4_fill 1 = .ok (.istore_n 2, 1) := by decide +kernel
theorem dX4_fill_2 : decode cX4_fill 2 = .ok (.iload_n 2, 1) := by decide +kernel
theorem dX4_fill_3 : decode cX4_fill 3 = .ok (.aload_n 0, 1) := by decide +kernel
theorem dX4_fill_4 : decode cX4_fill 4 = .ok (.getfield 20, 3) := by decide +kernel
theorem dX4_fill_7 : decode cX4_fill 7 = .ok (.if_icmp .ge 19, 3) := by decide +kernel
theorem dX4_fill_10 : decode cX4_fill 10 = .ok (.aload_n 0, 1) := by decide +kernel
theorem dX4_fill_11 : decode cX4_fill 11 = .ok (.getfield 17, 3) := by decide +kernel
theorem dX4_fill_14 : decode cX4_fill 14 = .ok (.iload_n 2, 1) := by decide +kernel
theorem dX4_fill_15 : decode cX4_fill 15 = .ok (.aaload, 1) := by decide +kernel
theorem dX4_fill_16 : decode cX4_fill 16 = .ok (.lconst 0, 1) := by decide +kernel
theorem dX4_fill_17 : decode cX4_fill 17 = .ok (.invokestatic 77, 3) := by decide +kernel
theorem dX4_fill_20 : decode cX4_fill 20 = .ok (.iinc 2 1, 3) := by decide +kernel
theorem dX4_fill_23 : decode cX4_fill 23 = .ok (.goto (-21), 3) := by decide +kernel
theorem dX4_fill_26 : decode cX4_fill 26 = .ok (.iconst 0, 1) := by decide +kernel
theorem dX4_fill_27 : decode cX4_fill 27 = .ok (.istore_n 2, 1) := by decide +kernel
theorem dX4_fill_28 : decode cX4_fill 28 = .ok (.iload_n 2, 1) := by decide +kernel
theorem dX4_fill_29 : decode cX4_fill 29 = .ok (.aload_n 0, 1) := by decide +kernel
theorem dX4_fill_30 : decode cX4_fill 30 = .ok (.getfield 24, 3) := by decide +kernel
theorem dX4_fill_33 : decode cX4_fill 33 = .ok (.getfield 48, 3) := by decide +kernel
theorem dX4_fill_36 : decode cX4_fill 36 = .ok (.iconst 3, 1) := by decide +kernel
theorem dX4_fill_37 : decode cX4_fill 37 = .ok (.iaload, 1) := by decide +kernel
theorem dX4_fill_38 : decode cX4_fill 38 = .ok (.if_icmp .ge 118, 3) := by decide +kernel
theorem dX4_fill_41 : decode cX4_fill 41 = .ok (.aload_n 0, 1) := by decide +kernel
theorem dX4_fill_42 : decode cX4_fill 42 = .ok (.getfield 28, 3) := by decide +kernel
theorem dX4_fill_45 : decode cX4_fill 45 = .ok (.iload_n 2, 1) := by decide +kernel
theorem dX4_fill_46 : decode cX4_fill 46 = .ok (.invokevirtual 53, 3) := by decide +kernel
theorem dX4_fill_49 : decode cX4_fill 49 = .ok (.ifCond .ne 6, 3) := by decide +kernel
theorem dX4_fill_52 : decode cX4_fill 52 = .ok (.goto 98, 3) := by decide +kernel
theorem dX4_fill_55 : decode cX4_fill 55 = .ok (.aload_n 0, 1) := by decide +kernel
theorem dX4_fill_56 : decode cX4_fill 56 = .ok (.getfield 24, 3) := by decide +kernel
theorem dX4_fill_59 : decode cX4_fill 59 = .ok (.getfield 58, 3) := by decide +kernel
theorem dX4_fill_62 : decode cX4_fill 62 = .ok (.iload_n 2, 1) := by decide +kernel
theorem dX4_fill_63 : decode cX4_fill 63 = .ok (.iaload, 1) := by decide +kernel
theorem dX4_fill_64 : decode cX4_fill 64 = .ok (.istore_n 3, 1) := by decide +kernel
theorem dX4_fill_65 : decode cX4_fill 65 = .ok (.aload_n 0, 1) := by decide +kernel
theorem dX4_fill_66 : decode cX4_fill 66 = .ok (.getfield 24, 3) := by decide +kernel
theorem dX4_fill_69 : decode cX4_fill 69 = .ok (.getfield 61, 3) := by decide +kernel
theorem dX4_fill_72 : decode cX4_fill 72 = .ok (.iload_n 2, 1) := by decide +kernel
theorem dX4_fill_73 : decode cX4_fill 73 = .ok (.iaload, 1) := by decide +kernel
theorem dX4_fill_74 : decode cX4_fill 74 = .ok (.istore 4, 2) := by decide +kernel
theorem dX4_fill_76 : decode cX4_fill 76 = .ok (.aload_n 0, 1) := by decide +kernel
theorem dX4_fill_77 : decode cX4_fill 77 = .ok (.getfield 28, 3) := by decide +kernel
theorem dX4_fill_80 : decode cX4_fill 80 = .ok (.iload_n 2, 1) := by decide +kernel
theorem dX4_fill_81 : decode cX4_fill 81 = .ok (.iload_n 1, 1) := by decide +kernel
theorem dX4_fill_82 : decode cX4_fill 82 = .ok (.invokevirtual 80, 3) := by decide +kernel
theorem dX4_fill_85 : decode cX4_fill 85 = .ok (.istore 5, 2) := by decide +kernel
theorem dX4_fill_87 : decode cX4_fill 87 = .ok (.aload_n 0, 1) := by decide +kernel
theorem dX4_fill_88 : decode cX4_fill 88 = .ok (.getfield 28, 3) := by decide +kernel
theorem dX4_fill_91 : decode cX4_fill 91 = .ok (.iload 4, 2) := by decide +kernel
theorem dX4_fill_93 : decode cX4_fill 93 = .ok (.invokevirtual 64, 3) := by decide +kernel
theorem dX4_fill_96 : decode cX4_fill 96 = .ok (.ifCond .eq 33, 3) := by decide +kernel
theorem dX4_fill_99 : decode cX4_fill 99 = .ok (.aload_n 0, 1) := by decide +kernel
theorem dX4_fill_100 : decode cX4_fill 100 = .ok (.iload_n 3, 1) := by decide +kernel
theorem dX4_fill_101 : decode cX4_fill 101 = .ok (.aload_n 0, 1) := by decide +kernel
theorem dX4_fill_102 : decode cX4_fill 102 = .ok (.getfield 24, 3) := by decide +kernel
theorem dX4_fill_105 : decode cX4_fill 105 = .ok (.getfield 84, 3) := by decide +kernel
theorem dX4_fill_108 : decode cX4_fill 108 = .ok (.iload_n 2, 1) := by decide +kernel
theorem dX4_fill_109 : decode cX4_fill 109 = .ok (.iaload, 1) := by decide +kernel
theorem dX4_fill_110 : decode cX4_fill 110 = .ok (.aload_n 0, 1) := by decide +kernel
theorem dX4_fill_111 : decode cX4_fill 111 = .ok (.getfield 28, 3) := by decide +kernel
theorem dX4_fill_114 : decode cX4_fill 114 = .ok (.iload 4, 2) := by decide +kernel
theorem dX4_fill_116 : decode cX4_fill 116 = .ok (.iload_n 1, 1) := by decide +kernel
theorem dX4_fill_117 : decode cX4_fill 117 = .ok (.invokevirtual 87, 3) := by decide +kernel
theorem dX4_fill_120 : decode cX4_fill 120 = .ok (.iload 5, 2) := by decide +kernel
theorem dX4_fill_122 : decode cX4_fill 122 = .ok (.isub, 1) := by decide +kernel
theorem dX4_fill_123 : decode cX4_fill 123 = .ok (.invokevirtual 90, 3) := by decide +kernel
theorem dX4_fill_126 : decode cX4_fill 126 = .ok (.goto 24, 3) := by decide +kernel
theorem dX4_fill_129 : decode cX4_fill 129 = .ok (.aload_n 0, 1) := by decide +kernel
theorem dX4_fill_130 : decode cX4_fill 130 = .ok (.bipush 12, 2) := by decide +kernel
theorem dX4_fill_132 : decode cX4_fill 132 = .ok (.iload 4, 2) := by decide +kernel
theorem dX4_fill_134 : decode cX4_fill 134 = .ok (.iadd, 1) := by decide +kernel
theorem dX4_fill_135 : decode cX4_fill 135 = .ok (.iload_n 3, 1) := by decide +kernel
theorem dX4_fill_136 : decode cX4_fill 136 = .ok (.aload_n 0, 1) := by decide +kernel
theorem dX4_fill_137 : decode cX4_fill 137 = .ok (.getfield 24, 3) := by decide +kernel
theorem dX4_fill_140 : decode cX4_fill 140 = .ok (.getfield 84, 3) := by decide +kernel
theorem dX4_fill_143 : decode cX4_fill 143 = .ok (.iload_n 2, 1) := by decide +kernel
theorem dX4_fill_144 : decode cX4_fill 144 = .ok (.iaload, 1) := by decide +kernel
theorem dX4_fill_145 : decode cX4_fill 145 = .ok (.iload 5, 2) := by decide +kernel
theorem dX4_fill_147 : decode cX4_fill 147 = .ok (.invokevirtual 94, 3) := by decide +kernel
theorem dX4_fill_150 : decode cX4_fill 150 = .ok (.iinc 2 1, 3) := by decide +kernel
theorem dX4_fill_153 : decode cX4_fill 153 = .ok (.goto (-125), 3) := by decide +kernel
theorem dX4_fill_156 : decode cX4_fill 156 = .ok (.iconst 0, 1) := by decide +kernel
theorem dX4_fill_157 : decode cX4_fill 157 = .ok (.istore_n 2, 1) := by decide +kernel
theorem dX4_fill_158 : decode cX4_fill 158 = .ok (.iload_n 2, 1) := by decide +kernel
theorem dX4_fill_159 : decode cX4_fill 159 = .ok (.aload_n 0, 1) := by decide +kernel
theorem dX4_fill_160 : decode cX4_fill 160 = .ok (.getfield 24, 3) := by decide +kernel
theorem dX4_fill_163 : decode cX4_fill 163 = .ok (.getfield 48, 3) := by decide +kernel
theorem dX4_fill_166 : decode cX4_fill 166 = .ok (.iconst 1, 1) := by decide +kernel
theorem dX4_fill_167 : decode cX4_fill 167 = .ok (.iaload, 1) := by decide +kernel
theorem dX4_fill_168 : decode cX4_fill 168 = .ok (.if_icmp .ge 57, 3) := by decide +kernel
theorem dX4_fill_171 : decode cX4_fill 171 = .ok (.aload_n 0, 1) := by decide +kernel
theorem dX4_fill_172 : decode cX4_fill 172 = .ok (.getfield 24, 3) := by decide +kernel
theorem dX4_fill_175 : decode cX4_fill 175 = .ok (.getfield 67, 3) := by decide +kernel
theorem dX4_fill_178 : decode cX4_fill 178 = .ok (.iload_n 2, 1) := by decide +kernel
theorem dX4_fill_179 : decode cX4_fill 179 = .ok (.iaload, 1) := by decide +kernel
theorem dX4_fill_180 : decode cX4_fill 180 = .ok (.ifCond .ne 6, 3) := by decide +kernel
theorem dX4_fill_183 : decode cX4_fill 183 = .ok (.goto 36, 3) := by decide +kernel
theorem dX4_fill_186 : decode cX4_fill 186 = .ok (.aload_n 0, 1) := by decide +kernel
theorem dX4_fill_187 : decode cX4_fill 187 = .ok (.iload_n 2, 1) := by decide +kernel
theorem dX4_fill_188 : decode cX4_fill 188 = .ok (.aload_n 0, 1) := by decide +kernel
theorem dX4_fill_189 : decode cX4_fill 189 = .ok (.iload_n 2, 1) := by decide +kernel
theorem dX4_fill_190 : decode cX4_fill 190 = .ok (.invokevirtual 70, 3) := by decide +kernel
theorem dX4_fill_193 : decode cX4_fill 193 = .ok (.aload_n 0, 1) := by decide +kernel
theorem dX4_fill_194 : decode cX4_fill 194 = .ok (.getfield 24, 3) := by decide +kernel
theorem dX4_fill_197 : decode cX4_fill 197 = .ok (.getfield 67, 3) := by decide +kernel
theorem dX4_fill_200 : decode cX4_fill 200 = .ok (.iload_n 2, 1) := by decide +kernel
theorem dX4_fill_201 : decode cX4_fill 201 = .ok (.iaload, 1) := by decide +kernel
theorem dX4_fill_202 : decode cX4_fill 202 = .ok (.bipush 100, 2) := by decide +kernel
theorem dX4_fill_204 : decode cX4_fill 204 = .ok (.aload_n 0, 1) := by decide +kernel
theorem dX4_fill_205 : decode cX4_fill 205 = .ok (.getfield 24, 3) := by decide +kernel
theorem dX4_fill_208 : decode cX4_fill 208 = .ok (.getfield 98, 3) := by decide +kernel
theorem dX4_fill_211 : decode cX4_fill 211 = .ok (.iload_n 1, 1) := by decide +kernel
theorem dX4_fill_212 : decode cX4_fill 212 = .ok (.aaload, 1) := by decide +kernel
theorem dX4_fill_213 : decode cX4_fill 213 = .ok (.iload_n 2, 1) := by decide +kernel
theorem dX4_fill_214 : decode cX4_fill 214 = .ok (.iaload, 1) := by decide +kernel
theorem dX4_fill_215 : decode cX4_fill 215 = .ok (.imul, 1) := by decide +kernel
theorem dX4_fill_216 : decode cX4_fill 216 = .ok (.invokevirtual 94, 3) := by decide +kernel
theorem dX4_fill_219 : decode cX4_fill 219 = .ok (.iinc 2 1, 3) := by decide +kernel
theorem dX4_fill_222 : decode cX4_fill 222 = .ok (.goto (-64), 3) := by decide +kernel
theorem dX4_fill_225 : decode cX4_fill 225 = .ok (.iconst 0, 1) := by decide +kernel
theorem dX4_fill_226 : decode cX4_fill 226 = .ok (.istore_n 2, 1) := by decide +kernel
theorem dX4_fill_227 : decode cX4_fill 227 = .ok (.iload_n 2, 1) := by decide +kernel
theorem dX4_fill_228 : decode cX4_fill 228 = .ok (.aload_n 0, 1) := by decide +kernel
theorem dX4_fill_229 : decode cX4_fill 229 = .ok (.getfield 20, 3) := by decide +kernel
theorem dX4_fill_232 : decode cX4_fill 232 = .ok (.if_icmp .ge 47, 3) := by decide +kernel
theorem dX4_fill_235 : decode cX4_fill 235 = .ok (.iconst 0, 1) := by decide +kernel
theorem dX4_fill_236 : decode cX4_fill 236 = .ok (.istore_n 3, 1) := by decide +kernel
theorem dX4_fill_237 : decode cX4_fill 237 = .ok (.iload_n 3, 1) := by decide +kernel
theorem dX4_fill_238 : decode cX4_fill 238 = .ok (.aload_n 0, 1) := by decide +kernel
theorem dX4_fill_239 : decode cX4_fill 239 = .ok (.getfield 20, 3) := by decide +kernel
theorem dX4_fill_242 : decode cX4_fill 242 = .ok (.if_icmp .gt 31, 3) := by decide +kernel
theorem dX4_fill_245 : decode cX4_fill 245 = .ok (.aload_n 0, 1) := by decide +kernel
theorem dX4_fill_246 : decode cX4_fill 246 = .ok (.getfield 17, 3) := by decide +kernel
theorem dX4_fill_249 : decode cX4_fill 249 = .ok (.iload_n 2, 1) := by decide +kernel
theorem dX4_fill_250 : decode cX4_fill 250 = .ok (.aaload, 1) := by decide +kernel
theorem dX4_fill_251 : decode cX4_fill 251 = .ok (.iload_n 3, 1) := by decide +kernel
theorem dX4_fill_252 : decode cX4_fill 252 = .ok (.aload_n 0, 1) := by decide +kernel
theorem dX4_fill_253 : decode cX4_fill 253 = .ok (.getfield 17, 3) := by decide +kernel
theorem dX4_fill_256 : decode cX4_fill 256 = .ok (.iload_n 2, 1) := by decide +kernel
theorem dX4_fill_257 : decode cX4_fill 257 = .ok (.aaload, 1) := by decide +kernel
theorem dX4_fill_258 : decode cX4_fill 258 = .ok (.iload_n 3, 1) := by decide +kernel
theorem dX4_fill_259 : decode cX4_fill 259 = .ok (.laload, 1) := by decide +kernel
theorem dX4_fill_260 : decode cX4_fill 260 = .ok (.ldc2_w 102, 3) := by decide +kernel
theorem dX4_fill_263 : decode cX4_fill 263 = .ok (.invokestatic 104, 3) := by decide +kernel
theorem dX4_fill_266 : decode cX4_fill 266 = .ok (.lastore, 1) := by decide +kernel
theorem dX4_fill_267 : decode cX4_fill 267 = .ok (.iinc 3 1, 3) := by decide +kernel
theorem dX4_fill_270 : decode cX4_fill 270 = .ok (.goto (-33), 3) := by decide +kernel
theorem dX4_fill_273 : decode cX4_fill 273 = .ok (.iinc 2 1, 3) := by decide +kernel
theorem dX4_fill_276 : decode cX4_fill 276 = .ok (.goto (-49), 3) := by decide +kernel
theorem dX4_fill_279 : decode cX4_fill 279 = .ok (.return_, 1) := by decide +kernel
theorem dX4_addHold_0 : decode cX4_addHold 0 = .ok (.aload_n 0, 1) := by decide +kernel
theorem dX4_addHold_1 : decode cX4_addHold 1 = .ok (.getfield 9, 3) := by decide +kernel
theorem dX4_addHold_4 : decode cX4_addHold 4 = .ok (.iload_n 1, 1) := by decide +kernel
theorem dX4_addHold_5 : decode cX4_addHold 5 = .ok (.iaload, 1) := by decide +kernel
theorem dX4_addHold_6 : decode cX4_addHold 6 = .ok (.istore 4, 2) := by decide +kernel
theorem dX4_addHold_8 : decode cX4_addHold 8 = .ok (.iload 4, 2) := by decide +kernel
theorem dX4_addHold_10 : decode cX4_addHold 10 = .ok (.iconst (-1), 1) := by decide +kernel
theorem dX4_addHold_11 : decode cX4_addHold 11 = .ok (.if_icmp .ne 4, 3) := by decide +kernel
theorem dX4_addHold_14 : decode cX4_addHold 14 = .ok (.return_, 1) := by decide +kernel
theorem dX4_addHold_15 : decode cX4_addHold 15 = .ok (.aload_n 0, 1) := by decide +kernel
theorem dX4_addHold_16 : decode cX4_addHold 16 = .ok (.getfield 17, 3) := by decide +kernel
theorem dX4_addHold_19 : decode cX4_addHold 19 = .ok (.iload 4, 2) := by decide +kernel
theorem dX4_addHold_21 : decode cX4_addHold 21 = .ok (.aaload, 1) := by decide +kernel
theorem dX4_addHold_22 : decode cX4_addHold 22 = .ok (.iload 4, 2) := by decide +kernel
theorem dX4_addHold_24 : decode cX4_addHold 24 = .ok (.dup2, 1) := by decide +kernel
theorem dX4_addHold_25 : decode cX4_addHold 25 = .ok (.laload, 1) := by decide +kernel
theorem dX4_addHold_26 : decode cX4_addHold 26 = .ok (.iload_n 2, 1) := by decide +kernel
theorem dX4_addHold_27 : decode cX4_addHold 27 = .ok (.i2l, 1) := by decide +kernel
theorem dX4_addHold_28 : decode cX4_addHold 28 = .ok (.ladd, 1) := by decide +kernel
theorem dX4_addHold_29 : decode cX4_addHold 29 = .ok (.lastore, 1) := by decide +kernel
theorem dX4_addHold_30 : decode cX4_addHold 30 = .ok (.aload_n 0, 1) := by decide +kernel
theorem dX4_addHold_31 : decode cX4_addHold 31 = .ok (.getfield 17, 3) := by decide +kernel
theorem dX4_addHold_34 : decode cX4_addHold 34 = .ok (.iload 4, 2) := by decide +kernel
theorem dX4_addHold_36 : decode cX4_addHold 36 = .ok (.aaload, 1) := by decide +kernel
theorem dX4_addHold_37 : decode cX4_addHold 37 = .ok (.aload_n 0, 1) := by decide +kernel
theorem dX4_addHold_38 : decode cX4_addHold 38 = .ok (.getfield 20, 3) := by decide +kernel
theorem dX4_addHold_41 : decode cX4_addHold 41 = .ok (.dup2, 1) := by decide +kernel
theorem dX4_addHold_42 : decode cX4_addHold 42 = .ok (.laload, 1) := by decide +kernel
theorem dX4_addHold_43 : decode cX4_addHold 43 = .ok (.iload_n 2, 1) := by decide +kernel
theorem dX4_addHold_44 : decode cX4_addHold 44 = .ok (.i2l, 1) := by decide +kernel
theorem dX4_addHold_45 : decode cX4_addHold 45 = .ok (.iload_n 3, 1) := by decide +kernel
theorem dX4_addHold_46 : decode cX4_addHold 46 = .ok (.i2l, 1) := by decide +kernel
theorem dX4_addHold_47 : decode cX4_addHold 47 = .ok (.lmul, 1) := by decide +kernel
theorem dX4_addHold_48 : decode cX4_addHold 48 = .ok (.ladd, 1) := by decide +kernel
theorem dX4_addHold_49 : decode cX4_addHold 49 = .ok (.lastore, 1) := by decide +kernel
theorem dX4_addHold_50 : decode cX4_addHold 50 = .ok (.return_, 1) := by decide +kernel
theorem gcX4_addTerm__X40 : ∀ w ∈ wsX40, w ∈ wsX4_addTerm := fun w h => List.mem_cons_of_mem _ (List.mem_append_right _ (h))
set_option maxRecDepth 20000 in
theorem ggX4_addTerm_X4_addHold : GoodIn wsX4_addTerm wsX4_addHold := goodIn_sub (List.forall_mem_cons.mpr ⟨(List.mem_of_getElem? (i := 7) rfl), List.forall_mem_append.mpr ⟨List.forall_mem_cons.mpr ⟨(List.mem_of_getElem? (i := 1) rfl), List.forall_mem_cons.mpr ⟨(List.mem_of_getElem? (i := 2) rfl), List.forall_mem_cons.mpr ⟨(List.mem_of_getElem? (i := 8) rfl), fun _ h => (List.not_mem_nil h).elim⟩⟩⟩, gcX4_addTerm__X40⟩⟩) gwX4_addHold
set_option maxRecDepth 20000 in
theorem gX4_addTerm_X4_addHold : GoodIn wsX4_addTerm (wsV RX4 90 RX4 yX4_addHold wsX4_addHold) := goodIn_app (goodIn_sub (List.forall_mem_cons.mpr ⟨(List.mem_of_getElem? (i := 3) rfl), List.forall_mem_cons.mpr ⟨(List.mem_of_getElem? (i := 4) rfl), List.forall_mem_cons.mpr ⟨(List.mem_of_getElem? (i := 5) rfl), List.forall_mem_cons.mpr ⟨(List.mem_of_getElem? (i := 6) rfl), fun _ h => (List.not_mem_nil h).elim⟩⟩⟩⟩) (by decide +kernel)) ggX4_addTerm_X4_addHold
theorem dX4_addTerm_0 : decode cX4_addTerm 0 = .ok (.aload_n 0, 1) := by decide +kernel
theorem dX4_addTerm_1 : decode cX4_addTerm 1 = .ok (.getfield 9, 3) := by decide +kernel
theorem dX4_addTerm_4 : decode cX4_addTerm 4 = .ok (.iload_n 1, 1) := by decide +kernel
theorem dX4_addTerm_5 : decode cX4_addTerm 5 = .ok (.iaload, 1) := by decide +kernel
theorem dX4_addTerm_6 : decode cX4_addTerm 6 = .ok (.istore 5, 2) := by decide +kernel
theorem dX4_addTerm_8 : decode cX4_addTerm 8 = .ok (.aload_n 0, 1) := by decide +kernel
theorem dX4_addTerm_9 : decode cX4_addTerm 9 = .ok (.getfield 9, 3) := by decide +kernel
theorem dX4_addTerm_12 : decode cX4_addTerm 12 = .ok (.iload_n 2, 1) := by decide +kernel
theorem dX4_addTerm_13 : decode cX4_addTerm 13 = .ok (.iaload, 1) := by decide +kernel
theorem dX4_addTerm_14 : decode cX4_addTerm 14 = .ok (.istore 6, 2) := by decide +kernel
theorem dX4_addTerm_16 : decode cX4_addTerm 16 = .ok (.iload 5, 2) := by decide +kernel
theorem dX4_addTerm_18 : decode cX4_addTerm 18 = .ok (.iconst (-1), 1) := by decide +kernel
theorem dX4_addTerm_19 : decode cX4_addTerm 19 = .ok (.if_icmp .eq 9, 3) := by decide +kernel
theorem dX4_addTerm_22 : decode cX4_addTerm 22 = .ok (.iload 6, 2) := by decide +kernel
theorem dX4_addTerm_24 : decode cX4_addTerm 24 = .ok (.iconst (-1), 1) := by decide +kernel
theorem dX4_addTerm_25 : decode cX4_addTerm 25 = .ok (.if_icmp .ne 4, 3) := by decide +kernel
theorem dX4_addTerm_28 : decode cX4_addTerm 28 = .ok (.return_, 1) := by decide +kernel
theorem dX4_addTerm_29 : decode cX4_addTerm 29 = .ok (.aload_n 0, 1) := by decide +kernel
theorem dX4_addTerm_30 : decode cX4_addTerm 30 = .ok (.iload_n 1, 1) := by decide +kernel
theorem dX4_addTerm_31 : decode cX4_addTerm 31 = .ok (.iload_n 3, 1) := by decide +kernel
theorem dX4_addTerm_32 : decode cX4_addTerm 32 = .ok (.iload 4, 2) := by decide +kernel
theorem dX4_addTerm_34 : decode cX4_addTerm 34 = .ok (.invokevirtual 90, 3) := by decide +kernel
theorem dX4_addTerm_37 : decode cX4_addTerm 37 = .ok (.aload_n 0, 1) := by decide +kernel
theorem dX4_addTerm_38 : decode cX4_addTerm 38 = .ok (.iload_n 2, 1) := by decide +kernel
theorem dX4_addTerm_39 : decode cX4_addTerm 39 = .ok (.iload_n 3, 1) := by decide +kernel
theorem dX4_addTerm_40 : decode cX4_addTerm 40 = .ok (.iload 4, 2) := by decide +kernel
theorem dX4_addTerm_42 : decode cX4_addTerm 42 = .ok (.ineg, 1) := by decide +kernel
theorem dX4_addTerm_43 : decode cX4_addTerm 43 = .ok (.invokevirtual 90, 3) := by decide +kernel
theorem dX4_addTerm_46 : decode cX4_addTerm 46 = .ok (.aload_n 0, 1) := by decide +kernel
theorem dX4_addTerm_47 : decode cX4_addTerm 47 = .ok (.getfield 17, 3) := by decide +kernel
theorem dX4_addTerm_50 : decode cX4_addTerm 50 = .ok (.iload 5, 2) := by decide +kernel
theorem dX4_addTerm_52 : decode cX4_addTerm 52 = .ok (.aaload, 1) := by decide +kernel
theorem dX4_addTerm_53 : decode cX4_addTerm 53 = .ok (.iload 6, 2) := by decide +kernel
theorem dX4_addTerm_55 : decode cX4_addTerm 55 = .ok (.dup2, 1) := by decide +kernel
theorem dX4_addTerm_56 : decode cX4_addTerm 56 = .ok (.laload, 1) := by decide +kernel
theorem dX4_addTerm_57 : decode cX4_addTerm 57 = .ok (.iload_n 3, 1) := by decide +kernel
theorem dX4_addTerm_58 : decode cX4_addTerm 58 = .ok (.i2l, 1) := by decide +kernel
theorem dX4_addTerm_59 : decode cX4_addTerm 59 = .ok (.lsub, 1) := by decide +kernel
theorem dX4_addTerm_60 : decode cX4_addTerm 60 = .ok (.lastore, 1) := by decide +kernel
theorem dX4_addTerm_61 : decode cX4_addTerm 61 = .ok (.aload_n 0, 1) := by decide +kernel
theorem dX4_addTerm_62 : decode cX4_addTerm 62 = .ok (.getfield 17, 3) := by decide +kernel
theorem dX4_addTerm_65 : decode cX4_addTerm 65 = .ok (.iload 6, 2) := by decide +kernel
theorem dX4_addTerm_67 : decode cX4_addTerm 67 = .ok (.aaload, 1) := by decide +kernel
theorem dX4_addTerm_68 : decode cX4_addTerm 68 = .ok (.iload 5, 2) := by decide +kernel
theorem dX4_addTerm_70 : decode cX4_addTerm 70 = .ok (.dup2, 1) := by decide +kernel
theorem dX4_addTerm_71 : decode cX4_addTerm 71 = .ok (.laload, 1) := by decide +kernel
theorem dX4_addTerm_72 : decode cX4_addTerm 72 = .ok (.iload_n 3, 1) := by decide +kernel
theorem dX4_addTerm_73 : decode cX4_addTerm 73 = .ok (.i2l, 1) := by decide +kernel
theorem dX4_addTerm_74 : decode cX4_addTerm 74 = .ok (.lsub, 1) := by decide +kernel
theorem dX4_addTerm_75 : decode cX4_addTerm 75 = .ok (.lastore, 1) := by decide +kernel
theorem dX4_addTerm_76 : decode cX4_addTerm 76 = .ok (.return_, 1) := by decide +kernel
theorem gcX4_eliminate__X40 : ∀ w ∈ wsX40, w ∈ wsX4_eliminate := fun w h => List.mem_cons_of_mem _ (List.mem_append_right _ (h))
set_option maxRecDepth 20000 in
theorem gwX4_swapLines : wsX4_swapLines.all goodWord = true := by decide +kernel
set_option maxRecDepth 20000 in
theorem ggX4_eliminate_X4_swapLines : GoodIn wsX4_eliminate wsX4_swapLines := goodIn_sub (List.forall_mem_cons.mpr ⟨(List.mem_of_getElem? (i := 8) rfl), List.forall_mem_append.mpr ⟨List.forall_mem_cons.mpr ⟨(List.mem_of_getElem? (i := 1) rfl), List.forall_mem_cons.mpr ⟨(List.mem_of_getElem? (i := 2) rfl), fun _ h => (List.not_mem_nil h).elim⟩⟩, gcX4_eliminate__X40⟩⟩) gwX4_swapLines
set_option maxRecDepth 20000 in
theorem gX4_eliminate_X4_swapLines : GoodIn wsX4_eliminate (wsV RX4 110 RX4 yX4_swapLines wsX4_swapLines) := goodIn_app (goodIn_sub (List.forall_mem_cons.mpr ⟨(List.mem_of_getElem? (i := 4) rfl), List.forall_mem_cons.mpr ⟨(List.mem_of_getElem? (i := 5) rfl), List.forall_mem_cons.mpr ⟨(List.mem_of_getElem? (i := 6) rfl), List.forall_mem_cons.mpr ⟨(List.mem_of_getElem? (i := 7) rfl), fun _ h => (List.not_mem_nil h).elim⟩⟩⟩⟩) (by decide +kernel)) ggX4_eliminate_X4_swapLines
set_option maxRecDepth 20000 in
theorem gwX4_inverse : wsX4_inverse.all goodWord = true := by decide +kernel
set_option maxRecDepth 20000 in
theorem ggX4_eliminate_X4_inverse : GoodIn wsX4_eliminate wsX4_inverse := goodIn_sub (List.forall_mem_cons.mpr ⟨(List.mem_of_getElem? (i := 11) rfl), List.forall_mem_cons.mpr ⟨(List.mem_of_getElem? (i := 12) rfl), List.forall_mem_cons.mpr ⟨(List.mem_of_getElem? (i := 3) rfl), fun _ h => (List.not_mem_nil h).elim⟩⟩⟩) gwX4_inverse
set_option maxRecDepth 20000 in
theorem gX4_eliminate_X4_inverse : GoodIn wsX4_eliminate (va_wsS RX4 114 yX4_inverse wsX4_inverse) := goodIn_app (goodIn_sub (List.forall_mem_cons.mpr ⟨(List.mem_of_getElem? (i := 9) rfl), List.forall_mem_cons.mpr ⟨(List.mem_of_getElem? (i := 10) rfl), List.forall_mem_cons.mpr ⟨(List.mem_of_getElem? (i := 7) rfl), fun _ h => (List.not_mem_nil h).elim⟩⟩⟩) (by decide +kernel)) ggX4_eliminate_X4_inverse
set_option maxRecDepth 20000 in
theorem gwX4_subtractLine : wsX4_subtractLine.all goodWord = true := by decide +kernel
set_option maxRecDepth 20000 in
theorem ggX4_eliminate_X4_subtractLine : GoodIn wsX4_eliminate wsX4_subtractLine := goodIn_sub (List.forall_mem_cons.mpr ⟨(List.mem_of_getElem? (i := 16) rfl), List.forall_mem_append.mpr ⟨List.forall_mem_cons.mpr ⟨(List.mem_of_getElem? (i := 3) rfl), List.forall_mem_cons.mpr ⟨(List.mem_of_getElem? (i := 2) rfl), List.forall_mem_cons.mpr ⟨(List.mem_of_getElem? (i := 1) rfl), fun _ h => (List.not_mem_nil h).elim⟩⟩⟩, gcX4_eliminate__X40⟩⟩) gwX4_subtractLine
set_option maxRecDepth 20000 in
theorem gX4_eliminate_X4_subtractLine : GoodIn wsX4_eliminate (wsV RX4 118 RX4 yX4_subtractLine wsX4_subtractLine) := goodIn_app (goodIn_sub (List.forall_mem_cons.mpr ⟨(List.mem_of_getElem? (i := 13) rfl), List.forall_mem_cons.mpr ⟨(List.mem_of_getElem? (i := 14) rfl), List.forall_mem_cons.mpr ⟨(List.mem_of_getElem? (i := 15) rfl), List.forall_mem_cons.mpr ⟨(List.mem_of_getElem? (i := 7) rfl), fun _ h => (List.not_mem_nil h).elim⟩⟩⟩⟩) (by decide +kernel)) ggX4_eliminate_X4_subtractLine
theorem dX4_eliminate_0 : decode cX4_eliminate 0 = .ok (.iload_n 1, 1) := by decide +kernel
theorem dX4_eliminate_1 : decode cX4_eliminate 1 = .ok (.istore_n 2, 1) := by decide +kernel
theorem dX4_eliminate_2 : decode cX4_eliminate 2 = .ok (.iload_n 2, 1) := by decide +kernel
theorem dX4_eliminate_3 : decode cX4_eliminate 3 = .ok (.aload_n 0, 1) := by decide +kernel
theorem dX4_eliminate_4 : decode cX4_eliminate 4 = .ok (.getfield 20, 3) := by decide +kernel
theorem dX4_eliminate_7 : decode cX4_eliminate 7 = .ok (.if_icmp .ge 22, 3) := by decide +kernel
theorem dX4_eliminate_10 : decode cX4_eliminate 10 = .ok (.aload_n 0, 1) := by decide +kernel
theorem dX4_eliminate_11 : decode cX4_eliminate 11 = .ok (.getfield 17, 3) := by decide +kernel
theorem dX4_eliminate_14 : decode cX4_eliminate 14 = .ok (.iload_n 2, 1) := by decide +kernel
theorem dX4_eliminate_15 : decode cX4_eliminate 15 = .ok (.aaload, 1) := by decide +kernel
theorem dX4_eliminate_16 : decode cX4_eliminate 16 = .ok (.iload_n 1, 1) := by decide +kernel
theorem dX4_eliminate_17 : decode cX4_eliminate 17 = .ok (.laload, 1) := by decide +kernel
theorem dX4_eliminate_18 : decode cX4_eliminate 18 = .ok (.lconst 0, 1) := by decide +kernel
theorem dX4_eliminate_19 : decode cX4_eliminate 19 = .ok (.lcmp, 1) := by decide +kernel
theorem dX4_eliminate_20 : decode cX4_eliminate 20 = .ok (.ifCond .ne 9, 3) := by decide +kernel
theorem dX4_eliminate_23 : decode cX4_eliminate 23 = .ok (.iinc 2 1, 3) := by decide +kernel
theorem dX4_eliminate_26 : decode cX4_eliminate 26 = .ok (.goto (-24), 3) := by decide +kernel
theorem dX4_eliminate_29 : decode cX4_eliminate 29 = .ok (.iload_n 2, 1) := by decide +kernel
theorem dX4_eliminate_30 : decode cX4_eliminate 30 = .ok (.aload_n 0, 1) := by decide +kernel
theorem dX4_eliminate_31 : decode cX4_eliminate 31 = .ok (.getfield 20, 3) := by decide +kernel
theorem dX4_eliminate_34 : decode cX4_eliminate 34 = .ok (.if_icmp .lt 5, 3) := by decide +kernel
theorem dX4_eliminate_37 : decode cX4_eliminate 37 = .ok (.iconst 0, 1) := by decide +kernel
theorem dX4_eliminate_38 : decode cX4_eliminate 38 = .ok (.ireturn, 1) := by decide +kernel
theorem dX4_eliminate_39 : decode cX4_eliminate 39 = .ok (.iload_n 2, 1) := by decide +kernel
theorem dX4_eliminate_40 : decode cX4_eliminate 40 = .ok (.iload_n 1, 1) := by decide +kernel
theorem dX4_eliminate_41 : decode cX4_eliminate 41 = .ok (.if_icmp .eq 9, 3) := by decide +kernel
theorem dX4_eliminate_44 : decode cX4_eliminate 44 = .ok (.aload_n 0, 1) := by decide +kernel
theorem dX4_eliminate_45 : decode cX4_eliminate 45 = .ok (.iload_n 2, 1) := by decide +kernel
theorem dX4_eliminate_46 : decode cX4_eliminate 46 = .ok (.iload_n 1, 1) := by decide +kernel
theorem dX4_eliminate_47 : decode cX4_eliminate 47 = .ok (.invokevirtual 110, 3) := by decide +kernel
theorem dX4_eliminate_50 : decode cX4_eliminate 50 = .ok (.aload_n 0, 1) := by decide +kernel
theorem dX4_eliminate_51 : decode cX4_eliminate 51 = .ok (.getfield 17, 3) := by decide +kernel
theorem dX4_eliminate_54 : decode cX4_eliminate 54 = .ok (.iload_n 1, 1) := by decide +kernel
theorem dX4_eliminate_55 : decode cX4_eliminate 55 = .ok (.aaload, 1) := by decide +kernel
theorem dX4_eliminate_56 : decode cX4_eliminate 56 = .ok (.iload_n 1, 1) := by decide +kernel
theorem dX4_eliminate_57 : decode cX4_eliminate 57 = .ok (.laload, 1) := by decide +kernel
theorem dX4_eliminate_58 : decode cX4_eliminate 58 = .ok (.invokestatic 114, 3) := by decide +kernel
theorem dX4_eliminate_61 : decode cX4_eliminate 61 = .ok (.lstore_n 3, 1) := by decide +kernel
theorem dX4_eliminate_62 : decode cX4_eliminate 62 = .ok (.iload_n 1, 1) := by decide +kernel
theorem dX4_eliminate_63 : decode cX4_eliminate 63 = .ok (.istore 5, 2) := by decide +kernel
theorem dX4_eliminate_65 : decode cX4_eliminate 65 = .ok (.iload 5, 2) := by decide +kernel
theorem dX4_eliminate_67 : decode cX4_eliminate 67 = .ok (.aload_n 0, 1) := by decide +kernel
theorem dX4_eliminate_68 : decode cX4_eliminate 68 = .ok (.getfield 20, 3) := by decide +kernel
theorem dX4_eliminate_71 : decode cX4_eliminate 71 = .ok (.if_icmp .gt 33, 3) := by decide +kernel
theorem dX4_eliminate_74 : decode cX4_eliminate 74 = .ok (.aload_n 0, 1) := by decide +kernel
theorem dX4_eliminate_75 : decode cX4_eliminate 75 = .ok (.getfield 17, 3) := by decide +kernel
theorem dX4_eliminate_78 : decode cX4_eliminate 78 = .ok (.iload_n 1, 1) := by decide +kernel
theorem dX4_eliminate_79 : decode cX4_eliminate 79 = .ok (.aaload, 1) := by decide +kernel
theorem dX4_eliminate_80 : decode cX4_eliminate 80 = .ok (.iload 5, 2) := by decide +kernel
theorem dX4_eliminate_82 : decode cX4_eliminate 82 = .ok (.aload_n 0, 1) := by decide +kernel
theorem dX4_eliminate_83 : decode cX4_eliminate 83 = .ok (.getfield 17, 3) := by decide +kernel
theorem dX4_eliminate_86 : decode cX4_eliminate 86 = .ok (.iload_n 1, 1) := by decide +kernel
theorem dX4_eliminate_87 : decode cX4_eliminate 87 = .ok (.aaload, 1) := by decide +kernel
theorem dX4_eliminate_88 : decode cX4_eliminate 88 = .ok (.iload 5, 2) := by decide +kernel
theorem dX4_eliminate_90 : decode cX4_eliminate 90 = .ok (.laload, 1) := by decide +kernel
theorem dX4_eliminate_91 : decode cX4_eliminate 91 = .ok (.lload_n 3, 1) := by decide +kernel
theorem dX4_eliminate_92 : decode cX4_eliminate 92 = .ok (.lmul, 1) := by decide +kernel
theorem dX4_eliminate_93 : decode cX4_eliminate 93 = .ok (.ldc2_w 102, 3) := by decide +kernel
theorem dX4_eliminate_96 : decode cX4_eliminate 96 = .ok (.lrem, 1) := by decide +kernel
theorem dX4_eliminate_97 : decode cX4_eliminate 97 = .ok (.lastore, 1) := by decide +kernel
theorem dX4_eliminate_98 : decode cX4_eliminate 98 = .ok (.iinc 5 1, 3) := by decide +kernel
theorem dX4_eliminate_101 : decode cX4_eliminate 101 = .ok (.goto (-36), 3) := by decide +kernel
theorem dX4_eliminate_104 : decode cX4_eliminate 104 = .ok (.iconst 0, 1) := by decide +kernel
theorem dX4_eliminate_105 : decode cX4_eliminate 105 = .ok (.istore 5, 2) := by decide +kernel
theorem dX4_eliminate_107 : decode cX4_eliminate 107 = .ok (.iload 5, 2) := by decide +kernel
theorem dX4_eliminate_109 : decode cX4_eliminate 109 = .ok (.aload_n 0, 1) := by decide +kernel
theorem dX4_eliminate_110 : decode cX4_eliminate 110 = .ok (.getfield 20, 3) := by decide +kernel
theorem dX4_eliminate_113 : decode cX4_eliminate 113 = .ok (.if_icmp .ge 36, 3) := by decide +kernel
theorem dX4_eliminate_116 : decode cX4_eliminate 116 = .ok (.iload 5, 2) := by decide +kernel
theorem dX4_eliminate_118 : decode cX4_eliminate 118 = .ok (.iload_n 1, 1) := by decide +kernel
theorem dX4_eliminate_119 : decode cX4_eliminate 119 = .ok (.if_icmp .eq 24, 3) := by decide +kernel
theorem dX4_eliminate_122 : decode cX4_eliminate 122 = .ok (.aload_n 0, 1) := by decide +kernel
theorem dX4_eliminate_123 : decode cX4_eliminate 123 = .ok (.getfield 17, 3) := by decide +kernel
theorem dX4_eliminate_126 : decode cX4_eliminate 126 = .ok (.iload 5, 2) := by decide +kernel
theorem dX4_eliminate_128 : decode cX4_eliminate 128 = .ok (.aaload, 1) := by decide +kernel
theorem dX4_eliminate_129 : decode cX4_eliminate 129 = .ok (.iload_n 1, 1) := by decide +kernel
theorem dX4_eliminate_130 : decode cX4_eliminate 130 = .ok (.laload, 1) := by decide +kernel
theorem dX4_eliminate_131 : decode cX4_eliminate 131 = .ok (.lconst 0, 1) := by decide +kernel
theorem dX4_eliminate_132 : decode cX4_eliminate 132 = .ok (.lcmp, 1) := by decide +kernel
theorem dX4_eliminate_133 : decode cX4_eliminate 133 = .ok (.ifCond .eq 10, 3) := by decide +kernel
theorem dX4_eliminate_136 : decode cX4_eliminate 136 = .ok (.aload_n 0, 1) := by decide +kernel
theorem dX4_eliminate_137 : decode cX4_eliminate 137 = .ok (.iload 5, 2) := by decide +kernel
theorem dX4_eliminate_139 : decode cX4_eliminate 139 = .ok (.iload_n 1, 1) := by decide +kernel
theorem dX4_eliminate_140 : decode cX4_eliminate 140 = .ok (.invokevirtual 118, 3) := by decide +kernel
theorem dX4_eliminate_143 : decode cX4_eliminate 143 = .ok (.iinc 5 1, 3) := by decide +kernel
theorem dX4_eliminate_146 : decode cX4_eliminate 146 = .ok (.goto (-39), 3) := by decide +kernel
theorem dX4_eliminate_149 : decode cX4_eliminate 149 = .ok (.iconst 1, 1) := by decide +kernel
theorem dX4_eliminate_150 : decode cX4_eliminate 150 = .ok (.ireturn, 1) := by decide +kernel
theorem dX4_swapLines_0 : decode cX4_swapLines 0 = .ok (.iconst 0, 1) := by decide +kernel
theorem dX4_swapLines_1 : decode cX4_swapLines 1 = .ok (.istore_n 3, 1) := by decide +kernel
theorem dX4_swapLines_2 : decode cX4_swapLines 2 = .ok (.iload_n 3, 1) := by decide +kernel
theorem dX4_swapLines_3 : decode cX4_swapLines 3 = .ok (.aload_n 0, 1) := by decide +kernel
theorem dX4_swapLines_4 : decode cX4_swapLines 4 = .ok (.getfield 20, 3) := by decide +kernel
theorem dX4_swapLines_7 : decode cX4_swapLines 7 = .ok (.if_icmp .gt 45, 3) := by decide +kernel
theorem dX4_swapLines_10 : decode cX4_swapLines 10 = .ok (.aload_n 0, 1) := by decide +kernel
theorem dX4_swapLines_11 : decode cX4_swapLines 11 = .ok (.getfield 17, 3) := by decide +kernel
theorem dX4_swapLines_14 : decode cX4_swapLines 14 = .ok (.iload_n 1, 1) := by decide +kernel
theorem dX4_swapLines_15 : decode cX4_swapLines 15 = .ok (.aaload, 1) := by decide +kernel
theorem dX4_swapLines_16 : decode cX4_swapLines 16 = .ok (.iload_n 3, 1) := by decide +kernel
theorem dX4_swapLines_17 : decode cX4_swapLines 17 = .ok (.laload, 1) := by decide +kernel
theorem dX4_swapLines_18 : decode cX4_swapLines 18 = .ok (.lstore 4, 2) := by decide +kernel
theorem dX4_swapLines_20 : decode cX4_swapLines 20 = .ok (.aload_n 0, 1) := by decide +kernel
theorem dX4_swapLines_21 : decode cX4_swapLines 21 = .ok (.getfield 17, 3) := by decide +kernel
theorem dX4_swapLines_24 : decode cX4_swapLines 24 = .ok (.iload_n 1, 1) := by decide +kernel
theorem dX4_swapLines_25 : decode cX4_swapLines 25 = .ok (.aaload, 1) := by decide +kernel
theorem dX4_swapLines_26 : decode cX4_swapLines 26 = .ok (.iload_n 3, 1) := by decide +kernel
theorem dX4_swapLines_27 : decode cX4_swapLines 27 = .ok (.aload_n 0, 1) := by decide +kernel
theorem dX4_swapLines_28 : decode cX4_swapLines 28 = .ok (.getfield 17, 3) := by decide +kernel
theorem dX4_swapLines_31 : decode cX4_swapLines 31 = .ok (.iload_n 2, 1) := by decide +kernel
theorem dX4_swapLines_32 : decode cX4_swapLines 32 = .ok (.aaload, 1) := by decide +kernel
theorem dX4_swapLines_33 : decode cX4_swapLines 33 = .ok (.iload_n 3, 1) := by decide +kernel
theorem dX4_swapLines_34 : decode cX4_swapLines 34 = .ok (.laload, 1) := by decide +kernel
theorem dX4_swapLines_35 : decode cX4_swapLines 35 = .ok (.lastore, 1) := by decide +kernel
theorem dX4_swapLines_36 : decode cX4_swapLines 36 = .ok (.aload_n 0, 1) := by decide +kernel
theorem dX4_swapLines_37 : decode cX4_swapLines 37 = .ok (.getfield 17, 3) := by decide +kernel
theorem dX4_swapLines_40 : decode cX4_swapLines 40 = .ok (.iload_n 2, 1) := by decide +kernel
theorem dX4_swapLines_41 : decode cX4_swapLines 41 = .ok (.aaload, 1) := by decide +kernel
theorem dX4_swapLines_42 : decode cX4_swapLines 42 = .ok (.iload_n 3, 1) := by decide +kernel
theorem dX4_swapLines_43 : decode cX4_swapLines 43 = .ok (.lload 4, 2) := by decide +kernel
theorem dX4_swapLines_45 : decode cX4_swapLines 45 = .ok (.lastore, 1) := by decide +kernel
theorem dX4_swapLines_46 : decode cX4_swapLines 46 = .ok (.iinc 3 1, 3) := by decide +kernel
theorem dX4_swapLines_49 : decode cX4_swapLines 49 = .ok (.goto (-47), 3) := by decide +kernel
theorem dX4_swapLines_52 : decode cX4_swapLines 52 = .ok (.return_, 1) := by decide +kernel
theorem dX4_subtractLine_0 : decode cX4_subtractLine 0 = .ok (.ldc2_w 102, 3) := by decide +kernel
theorem dX4_subtractLine_3 : decode cX4_subtractLine 3 = .ok (.aload_n 0, 1) := by decide +kernel
theorem dX4_subtractLine_4 : decode cX4_subtractLine 4 = .ok (.getfield 17, 3) := by decide +kernel
theorem dX4_subtractLine_7 : decode cX4_subtractLine 7 = .ok (.iload_n 1, 1) := by decide +kernel
theorem dX4_subtractLine_8 : decode cX4_subtractLine 8 = .ok (.aaload, 1) := by decide +kernel
theorem dX4_subtractLine_9 : decode cX4_subtractLine 9 = .ok (.iload_n 2, 1) := by decide +kernel
theorem dX4_subtractLine_10 : decode cX4_subtractLine 10 = .ok (.laload, 1) := by decide +kernel
theorem dX4_subtractLine_11 : decode cX4_subtractLine 11 = .ok (.lsub, 1) := by decide +kernel
theorem dX4_subtractLine_12 : decode cX4_subtractLine 12 = .ok (.lstore_n 3, 1) := by decide +kernel
theorem dX4_subtractLine_13 : decode cX4_subtractLine 13 = .ok (.iload_n 2, 1) := by decide +kernel
theorem dX4_subtractLine_14 : decode cX4_subtractLine 14 = .ok (.istore 5, 2) := by decide +kernel
theorem dX4_subtractLine_16 : decode cX4_subtractLine 16 = .ok (.iload 5, 2) := by decide +kernel
theorem dX4_subtractLine_18 : decode cX4_subtractLine 18 = .ok (.aload_n 0, 1) := by decide +kernel
theorem dX4_subtractLine_19 : decode cX4_subtractLine 19 = .ok (.getfield 20, 3) := by decide +kernel
theorem dX4_subtractLine_22 : decode cX4_subtractLine 22 = .ok (.if_icmp .gt 43, 3) := by decide +kernel
theorem dX4_subtractLine_25 : decode cX4_subtractLine 25 = .ok (.aload_n 0, 1) := by decide +kernel
theorem dX4_subtractLine_26 : decode cX4_subtractLine 26 = .ok (.getfield 17, 3) := by decide +kernel
theorem dX4_subtractLine_29 : decode cX4_subtractLine 29 = .ok (.iload_n 1, 1) := by decide +kernel
theorem dX4_subtractLine_30 : decode cX4_subtractLine 30 = .ok (.aaload, 1) := by decide +kernel
theorem dX4_subtractLine_31 : decode cX4_subtractLine 31 = .ok (.iload 5, 2) := by decide +kernel
theorem dX4_subtractLine_33 : decode cX4_subtractLine 33 = .ok (.aload_n 0, 1) := by decide +kernel
theorem dX4_subtractLine_34 : decode cX4_subtractLine 34 = .ok (.getfield 17, 3) := by decide +kernel
theorem dX4_subtractLine_37 : decode cX4_subtractLine 37 = .ok (.iload_n 1, 1) := by decide +kernel
theorem dX4_subtractLine_38 : decode cX4_subtractLine 38 = .ok (.aaload, 1) := by decide +kernel
theorem dX4_subtractLine_39 : decode cX4_subtractLine 39 = .ok (.iload 5, 2) := by decide +kernel
theorem dX4_subtractLine_41 : decode cX4_subtractLine 41 = .ok (.laload, 1) := by decide +kernel
theorem dX4_subtractLine_42 : decode cX4_subtractLine 42 = .ok (.lload_n 3, 1) := by decide +kernel
theorem dX4_subtractLine_43 : decode cX4_subtractLine 43 = .ok (.aload_n 0, 1) := by decide +kernel
theorem dX4_subtractLine_44 : decode cX4_subtractLine 44 = .ok (.getfield 17, 3) := by decide +kernel
theorem dX4_subtractLine_47 : decode cX4_subtractLine 47 = .ok (.iload_n 2, 1) := by decide +kernel
theorem dX4_subtractLine_48 : decode cX4_subtractLine 48 = .ok (.aaload, 1) := by decide +kernel
theorem dX4_subtractLine_49 : decode cX4_subtractLine 49 = .ok (.iload 5, 2) := by decide +kernel
theorem dX4_subtractLine_51 : decode cX4_subtractLine 51 = .ok (.laload, 1) := by decide +kernel
theorem dX4_subtractLine_52 : decode cX4_subtractLine 52 = .ok (.lmul, 1) := by decide +kernel
theorem dX4_subtractLine_53 : decode cX4_subtractLine 53 = .ok (.ladd, 1) := by decide +kernel
theorem dX4_subtractLine_54 : decode cX4_subtractLine 54 = .ok (.ldc2_w 102, 3) := by decide +kernel
theorem dX4_subtractLine_57 : decode cX4_subtractLine 57 = .ok (.lrem, 1) := by decide +kernel
theorem dX4_subtractLine_58 : decode cX4_subtractLine 58 = .ok (.lastore, 1) := by decide +kernel
theorem dX4_subtractLine_59 : decode cX4_subtractLine 59 = .ok (.iinc 5 1, 3) := by decide +kernel
theorem dX4_subtractLine_62 : decode cX4_subtractLine 62 = .ok (.goto (-46), 3) := by decide +kernel
theorem dX4_subtractLine_65 : decode cX4_subtractLine 65 = .ok (.return_, 1) := by decide +kernel
theorem dX4_inverse_0 : decode cX4_inverse 0 = .ok (.lload_n 0, 1) := by decide +kernel
theorem dX4_inverse_1 : decode cX4_inverse 1 = .ok (.lstore_n 2, 1) := by decide +kernel
theorem dX4_inverse_2 : decode cX4_inverse 2 = .ok (.lconst 1, 1) := by decide +kernel
theorem dX4_inverse_3 : decode cX4_inverse 3 = .ok (.lstore 4, 2) := by decide +kernel
theorem dX4_inverse_5 : decode cX4_inverse 5 = .ok (.ldc2_w 121, 3) := by decide +kernel
theorem dX4_inverse_8 : decode cX4_inverse 8 = .ok (.lstore 6, 2) := by decide +kernel
theorem dX4_inverse_10 : decode cX4_inverse 10 = .ok (.lload 6, 2) := by decide +kernel
theorem dX4_inverse_12 : decode cX4_inverse 12 = .ok (.lconst 0, 1) := by decide +kernel
theorem dX4_inverse_13 : decode cX4_inverse 13 = .ok (.lcmp, 1) := by decide +kernel
theorem dX4_inverse_14 : decode cX4_inverse 14 = .ok (.ifCond .le 39, 3) := by decide +kernel
theorem dX4_inverse_17 : decode cX4_inverse 17 = .ok (.lload 6, 2) := by decide +kernel
theorem dX4_inverse_19 : decode cX4_inverse 19 = .ok (.lconst 1, 1) := by decide +kernel
theorem dX4_inverse_20 : decode cX4_inverse 20 = .ok (.land, 1) := by decide +kernel
theorem dX4_inverse_21 : decode cX4_inverse 21 = .ok (.lconst 1, 1) := by decide +kernel
theorem dX4_inverse_22 : decode cX4_inverse 22 = .ok (.lcmp, 1) := by decide +kernel
theorem dX4_inverse_23 : decode cX4_inverse 23 = .ok (.ifCond .ne 13, 3) := by decide +kernel
theorem dX4_inverse_26 : decode cX4_inverse 26 = .ok (.lload 4, 2) := by decide +kernel
theorem dX4_inverse_28 : decode cX4_inverse 28 = .ok (.lload_n 2, 1) := by decide +kernel
theorem dX4_inverse_29 : decode cX4_inverse 29 = .ok (.lmul, 1) := by decide +kernel
theorem dX4_inverse_30 : decode cX4_inverse 30 = .ok (.ldc2_w 102, 3) := by decide +kernel
theorem dX4_inverse_33 : decode cX4_inverse 33 = .ok (.lrem, 1) := by decide +kernel
theorem dX4_inverse_34 : decode cX4_inverse 34 = .ok (.lstore 4, 2) := by decide +kernel
theorem dX4_inverse_36 : decode cX4_inverse 36 = .ok (.lload_n 2, 1) := by decide +kernel
theorem dX4_inverse_37 : decode cX4_inverse 37 = .ok (.lload_n 2, 1) := by decide +kernel
theorem dX4_inverse_38 : decode cX4_inverse 38 = .ok (.lmul, 1) := by decide +kernel
theorem dX4_inverse_39 : decode cX4_inverse 39 = .ok (.ldc2_w 102, 3) := by decide +kernel
theorem dX4_inverse_42 : decode cX4_inverse 42 = .ok (.lrem, 1) := by decide +kernel
theorem dX4_inverse_43 : decode cX4_inverse 43 = .ok (.lstore_n 2, 1) := by decide +kernel
theorem dX4_inverse_44 : decode cX4_inverse 44 = .ok (.lload 6, 2) := by decide +kernel
theorem dX4_inverse_46 : decode cX4_inverse 46 = .ok (.iconst 1, 1) := by decide +kernel
theorem dX4_inverse_47 : decode cX4_inverse 47 = .ok (.lshr, 1) := by decide +kernel
theorem dX4_inverse_48 : decode cX4_inverse 48 = .ok (.lstore 6, 2) := by decide +kernel
theorem dX4_inverse_50 : decode cX4_inverse 50 = .ok (.goto (-40), 3) := by decide +kernel
theorem dX4_inverse_53 : decode cX4_inverse 53 = .ok (.lload 4, 2) := by decide +kernel
theorem dX4_inverse_55 : decode cX4_inverse 55 = .ok (.lreturn, 1) := by decide +kernel
theorem dX5_init_0 : decode cX5_init 0 = .ok (.aload_n 0, 1) := by decide +kernel
theorem dX5_init_1 : decode cX5_init 1 = .ok (.invokespecial 3, 3) := by decide +kernel
theorem dX5_init_4 : decode cX5_init 4 = .ok (.aload_n 0, 1) := by decide +kernel
theorem dX5_init_5 : decode cX5_init 5 = .ok (.iconst 3, 1) := by decide +kernel
theorem dX5_init_6 : decode cX5_init 6 = .ok (.putfield 9, 3) := by decide +kernel
theorem dX5_init_9 : decode cX5_init 9 = .ok (.aload_n 0, 1) := by decide +kernel
theorem dX5_init_10 : decode cX5_init 10 = .ok (.bipush 12, 2) := by decide +kernel
theorem dX5_init_12 : decode cX5_init 12 = .ok (.newarray .int, 2) := by decide +kernel
theorem dX5_init_14 : decode cX5_init 14 = .ok (.putfield 15, 3) := by decide +kernel
theorem dX5_init_17 : decode cX5_init 17 = .ok (.aload_n 0, 1) := by decide +kernel
theorem dX5_init_18 : decode cX5_init 18 = .ok (.iconst 2, 1) := by decide +kernel
theorem dX5_init_19 : decode cX5_init 19 = .ok (.bipush 12, 2) := by decide +kernel
theorem dX5_init_21 : decode cX5_init 21 = .ok (.multianewarray 19 2, 4) := by decide +kernel
theorem dX5_init_25 : decode cX5_init 25 = .ok (.putfield 21, 3) := by decide +kernel
theorem dX5_init_28 : decode cX5_init 28 = .ok (.aload_n 0, 1) := by decide +kernel
theorem dX5_init_29 : decode cX5_init 29 = .ok (.iconst 2, 1) := by decide +kernel
theorem dX5_init_30 : decode cX5_init 30 = .ok (.bipush 20, 2) := by decide +kernel
theorem dX5_init_32 : decode cX5_init 32 = .ok (.multianewarray 19 2, 4) := by decide +kernel
theorem dX5_init_36 : decode cX5_init 36 = .ok (.putfield 24, 3) := by decide +kernel
theorem dX5_init_39 : decode cX5_init 39 = .ok (.aload_n 0, 1) := by decide +kernel
theorem dX5_init_40 : decode cX5_init 40 = .ok (.iconst 2, 1) := by decide +kernel
theorem dX5_init_41 : decode cX5_init 41 = .ok (.bipush 6, 2) := by decide +kernel
theorem dX5_init_43 : decode cX5_init 43 = .ok (.multianewarray 19 2, 4) := by decide +kernel
theorem dX5_init_47 : decode cX5_init 47 = .ok (.putfield 27, 3) := by decide +kernel
theorem dX5_init_50 : decode cX5_init 50 = .ok (.aload_n 0, 1) := by decide +kernel
theorem dX5_init_51 : decode cX5_init 51 = .ok (.bipush 60, 2) := by decide +kernel
theorem dX5_init_53 : decode cX5_init 53 = .ok (.newarray .int, 2) := by decide +kernel
theorem dX5_init_55 : decode cX5_init 55 = .ok (.putfield 30, 3) := by decide +kernel
theorem dX5_init_58 : decode cX5_init 58 = .ok (.aload_n 0, 1) := by decide +kernel
theorem dX5_init_59 : decode cX5_init 59 = .ok (.aload_n 1, 1) := by decide +kernel
theorem dX5_init_60 : decode cX5_init 60 = .ok (.putfield 33, 3) := by decide +kernel
theorem dX5_init_63 : decode cX5_init 63 = .ok (.return_, 1) := by decide +kernel
set_option maxRecDepth 20000 in
theorem gwX9_copyAll : wsX9_copyAll.all goodWord = true := by decide +kernel
set_option maxRecDepth 20000 in
theorem ggX5_takeFrom_X9_copyAll : GoodIn wsX5_takeFrom wsX9_copyAll := goodIn_sub (List.forall_mem_cons.mpr ⟨(List.mem_of_getElem? (i := 9) rfl), List.forall_mem_cons.mpr ⟨(List.mem_of_getElem? (i := 10) rfl), List.forall_mem_cons.mpr ⟨(List.mem_of_getElem? (i := 11) rfl), List.forall_mem_cons.mpr ⟨(List.mem_of_getElem? (i := 12) rfl), List.forall_mem_cons.mpr ⟨(List.mem_of_getElem? (i := 13) rfl), List.forall_mem_cons.mpr ⟨(List.mem_of_getElem? (i := 14) rfl), List.forall_mem_cons.mpr ⟨(List.mem_of_getElem? (i := 15) rfl), List.forall_mem_cons.mpr ⟨(List.mem_of_getElem? (i := 16) rfl), List.forall_mem_cons.mpr ⟨(List.mem_of_getElem? (i := 17) rfl), fun _ h => (List.not_mem_nil h).elim⟩⟩⟩⟩⟩⟩⟩⟩⟩) gwX9_copyAll
set_option maxRecDepth 20000 in
theorem gX5_takeFrom_X9_copyAll_n37 : GoodIn wsX5_takeFrom (wsX9_copyAll) := ggX5_takeFrom_X9_copyAll
theorem dX5_takeFrom_0 : decode cX5_takeFrom 0 = .ok (.aload_n 0, 1) := by decide +kernel
theorem dX5_takeFrom_1 : decode cX5_takeFrom 1 = .ok (.aload_n 1, 1) := by decide +kernel
theorem dX5_takeFrom_2 : decode cX5_takeFrom 2 = .ok (.getfield 9, 3) := by decide +kernel
theorem dX5_takeFrom_5 : decode cX5_takeFrom 5 = .ok (.putfield 9, 3) := by decide +kernel
theorem dX5_takeFrom_8 : decode cX5_takeFrom 8 = .ok (.aload_n 1, 1) := by decide +kernel
theorem dX5_takeFrom_9 : decode cX5_takeFrom 9 = .ok (.getfield 15, 3) := by decide +kernel
theorem dX5_takeFrom_12 : decode cX5_takeFrom 12 = .ok (.aload_n 0, 1) := by decide +kernel
theorem dX5_takeFrom_13 : decode cX5_takeFrom 13 = .ok (.getfield 15, 3) := by decide +kernel
theorem dX5_takeFrom_16 : decode cX5_takeFrom 16 = .ok (.invokestatic 37, 3) := by decide +kernel
theorem dX5_takeFrom_19 : decode cX5_takeFrom 19 = .ok (.aload_n 1, 1) := by decide +kernel
theorem dX5_takeFrom_20 : decode cX5_takeFrom 20 = .ok (.getfield 30, 3) := by decide +kernel
theorem dX5_takeFrom_23 : decode cX5_takeFrom 23 = .ok (.aload_n 0, 1) := by decide +kernel
theorem dX5_takeFrom_24 : decode cX5_takeFrom 24 = .ok (.getfield 30, 3) := by decide +kernel
theorem dX5_takeFrom_27 : decode cX5_takeFrom 27 = .ok (.invokestatic 37, 3) := by decide +kernel
theorem dX5_takeFrom_30 : decode cX5_takeFrom 30 = .ok (.iconst 0, 1) := by decide +kernel
theorem dX5_takeFrom_31 : decode cX5_takeFrom 31 = .ok (.istore_n 2, 1) := by decide +kernel
theorem dX5_takeFrom_32 : decode cX5_takeFrom 32 = .ok (.iload_n 2, 1) := by decide +kernel
theorem dX5_takeFrom_33 : decode cX5_takeFrom 33 = .ok (.iconst 2, 1) := by decide +kernel
theorem dX5_takeFrom_34 : decode cX5_takeFrom 34 = .ok (.if_icmp .ge 54, 3) := by decide +kernel
theorem dX5_takeFrom_37 : decode cX5_takeFrom 37 = .ok (.aload_n 1, 1) := by decide +kernel
theorem dX5_takeFrom_38 : decode cX5_takeFrom 38 = .ok (.getfield 21, 3) := by decide +kernel
theorem dX5_takeFrom_41 : decode cX5_takeFrom 41 = .ok (.iload_n 2, 1) := by decide +kernel
theorem dX5_takeFrom_42 : decode cX5_takeFrom 42 = .ok (.aaload, 1) := by decide +kernel
theorem dX5_takeFrom_43 : decode cX5_takeFrom 43 = .ok (.aload_n 0, 1) := by decide +kernel
theorem dX5_takeFrom_44 : decode cX5_takeFrom 44 = .ok (.getfield 21, 3) := by decide +kernel
theorem dX5_takeFrom_47 : decode cX5_takeFrom 47 = .ok (.iload_n 2, 1) := by decide +kernel
theorem dX5_takeFrom_48 : decode cX5_takeFrom 48 = .ok (.aaload, 1) := by decide +kernel
theorem dX5_takeFrom_49 : decode cX5_takeFrom 49 = .ok (.invokestatic 37, 3) := by decide +kernel
theorem dX5_takeFrom_52 : decode cX5_takeFrom 52 = .ok (.aload_n 1, 1) := by decide +kernel
theorem dX5_takeFrom_53 : decode cX5_takeFrom 53 = .ok (.getfield 24, 3) := by decide +kernel
theorem dX5_takeFrom_56 : decode cX5_takeFrom 56 = .ok (.iload_n 2, 1) := by decide +kernel
theorem dX5_takeFrom_57 : decode cX5_takeFrom 57 = .ok (.aaload, 1) := by decide +kernel
theorem dX5_takeFrom_58 : decode cX5_takeFrom 58 = .ok (.aload_n 0, 1) := by decide +kernel
theorem dX5_takeFrom_59 : decode cX5_takeFrom 59 = .ok (.getfield 24, 3) := by decide +kernel
theorem dX5_takeFrom_62 : decode cX5_takeFrom 62 = .ok (.iload_n 2, 1) := by decide +kernel
theorem dX5_takeFrom_63 : decode cX5_takeFrom 63 = .ok (.aaload, 1) := by decide +kernel
theorem dX5_takeFrom_64 : decode cX5_takeFrom 64 = .ok (.invokestatic 37, 3) := by decide +kernel
theorem dX5_takeFrom_67 : decode cX5_takeFrom 67 = .ok (.aload_n 1, 1) := by decide +kernel
theorem dX5_takeFrom_68 : decode cX5_takeFrom 68 = .ok (.getfield 27, 3) := by decide +kernel
theorem dX5_takeFrom_71 : decode cX5_takeFrom 71 = .ok (.iload_n 2, 1) := by decide +kernel
theorem dX5_takeFrom_72 : decode cX5_takeFrom 72 = .ok (.aaload, 1) := by decide +kernel
theorem dX5_takeFrom_73 : decode cX5_takeFrom 73 = .ok (.aload_n 0, 1) := by decide +kernel
theorem dX5_takeFrom_74 : decode cX5_takeFrom 74 = .ok (.getfield 27, 3) := by decide +kernel
theorem dX5_takeFrom_77 : decode cX5_takeFrom 77 = .ok (.iload_n 2, 1) := by decide +kernel
theorem dX5_takeFrom_78 : decode cX5_takeFrom 78 = .ok (.aaload, 1) := by decide +kernel
theorem dX5_takeFrom_79 : decode cX5_takeFrom 79 = .ok (.invokestatic 37, 3) := by decide +kernel
theorem dX5_takeFrom_82 : decode cX5_takeFrom 82 = .ok (.iinc 2 1, 3) := by decide +kernel
theorem dX5_takeFrom_85 : decode cX5_takeFrom 85 = .ok (.goto (-53), 3) := by decide +kernel
theorem dX5_takeFrom_88 : decode cX5_takeFrom 88 = .ok (.return_, 1) := by decide +kernel
theorem dX5_uses_0 : decode cX5_uses 0 = .ok (.aload_n 0, 1) := by decide +kernel
theorem dX5_uses_1 : decode cX5_uses 1 = .ok (.getfield 30, 3) := by decide +kernel
theorem dX5_uses_4 : decode cX5_uses 4 = .ok (.iload_n 1, 1) := by decide +kernel
theorem dX5_uses_5 : decode cX5_uses 5 = .ok (.iaload, 1) := by decide +kernel
theorem dX5_uses_6 : decode cX5_uses 6 = .ok (.ifCond .ne 7, 3) := by decide +kernel
theorem dX5_uses_9 : decode cX5_uses 9 = .ok (.iconst 1, 1) := by decide +kernel
theorem dX5_uses_10 : decode cX5_uses 10 = .ok (.goto 4, 3) := by decide +kernel
theorem dX5_uses_13 : decode cX5_uses 13 = .ok (.iconst 0, 1) := by decide +kernel
theorem dX5_uses_14 : decode cX5_uses 14 = .ok (.ireturn, 1) := by decide +kernel
theorem gcX5_countRows__X50 : ∀ w ∈ wsX50, w ∈ wsX5_countRows := fun w h => List.mem_cons_of_mem _ (List.mem_append_left _ (List.mem_append_right _ (h)))
set_option maxRecDepth 20000 in
theorem ggX5_countRows_X5_uses : GoodIn wsX5_countRows wsX5_uses := goodIn_sub (List.forall_mem_cons.mpr ⟨(List.mem_of_getElem? (i := 7) rfl), List.forall_mem_append.mpr ⟨List.forall_mem_cons.mpr ⟨(List.mem_of_getElem? (i := 8) rfl), fun _ h => (List.not_mem_nil h).elim⟩, gcX5_countRows__X50⟩⟩) gwX5_uses
set_option maxRecDepth 20000 in
theorem gX5_countRows_X5_uses : GoodIn wsX5_countRows (wsV RX5 46 RX5 yX5_uses wsX5_uses) := goodIn_app (goodIn_sub (List.forall_mem_cons.mpr ⟨(List.mem_of_getElem? (i := 3) rfl), List.forall_mem_cons.mpr ⟨(List.mem_of_getElem? (i := 4) rfl), List.forall_mem_cons.mpr ⟨(List.mem_of_getElem? (i := 5) rfl), List.forall_mem_cons.mpr ⟨(List.mem_of_getElem? (i := 6) rfl), fun _ h => (List.not_mem_nil h).elim⟩⟩⟩⟩) (by decide +kernel)) ggX5_countRows_X5_uses
theorem dX5_countRows_0 : decode cX5_countRows 0 = .ok (.iconst 0, 1) := by decide +kernel
theorem dX5_countRows_1 : decode cX5_countRows 1 = .ok (.istore_n 3, 1) := by decide +kernel
theorem dX5_countRows_2 : decode cX5_countRows 2 = .ok (.iconst 0, 1) := by decide +kernel
theorem dX5_countRows_3 : decode cX5_countRows 3 = .ok (.istore 4, 2) := by decide +kernel
theorem dX5_countRows_5 : decode cX5_countRows 5 = .ok (.iload 4, 2) := by decide +kernel
theorem dX5_countRows_7 : decode cX5_countRows 7 = .ok (.aload_n 0, 1) := by decide +kernel
theorem dX5_countRows_8 : decode cX5_countRows 8 = .ok (.getfield 33, 3) := by decide +kernel
theorem dX5_countRows_11 : decode cX5_countRows 11 = .ok (.getfield 41, 3) := by decide +kernel
theorem dX5_countRows_14 : decode cX5_countRows 14 = .ok (.iconst 3, 1) := by decide +kernel
theorem dX5_countRows_15 : decode cX5_countRows 15 = .ok (.iaload, 1) := by decide +kernel
theorem dX5_countRows_16 : decode cX5_countRows 16 = .ok (.if_icmp .ge 29, 3) := by decide +kernel
theorem dX5_countRows_19 : decode cX5_countRows 19 = .ok (.aload_n 1, 1) := by decide +kernel
theorem dX5_countRows_20 : decode cX5_countRows 20 = .ok (.iload 4, 2) := by decide +kernel
theorem dX5_countRows_22 : decode cX5_countRows 22 = .ok (.iaload, 1) := by decide +kernel
theorem dX5_countRows_23 : decode cX5_countRows 23 = .ok (.iload_n 2, 1) := by decide +kernel
theorem dX5_countRows_24 : decode cX5_countRows 24 = .ok (.if_icmp .ne 15, 3) := by decide +kernel
theorem dX5_countRows_27 : decode cX5_countRows 27 = .ok (.aload_n 0, 1) := by decide +kernel
theorem dX5_countRows_28 : decode cX5_countRows 28 = .ok (.iload 4, 2) := by decide +kernel
theorem dX5_countRows_30 : decode cX5_countRows 30 = .ok (.invokevirtual 46, 3) := by decide +kernel
theorem dX5_countRows_33 : decode cX5_countRows 33 = .ok (.ifCond .eq 6, 3) := by decide +kernel
theorem dX5_countRows_36 : decode cX5_countRows 36 = .ok (.iinc 3 1, 3) := by decide +kernel
theorem dX5_countRows_39 : decode cX5_countRows 39 = .ok (.iinc 4 1, 3) := by decide +kernel
theorem dX5_countRows_42 : decode cX5_countRows 42 = .ok (.goto (-37), 3) := by decide +kernel
theorem dX5_countRows_45 : decode cX5_countRows 45 = .ok (.iload_n 3, 1) := by decide +kernel
theorem dX5_countRows_46 : decode cX5_countRows 46 = .ok (.ireturn, 1) := by decide +kernel
theorem dX5_isFixed_0 : decode cX5_isFixed 0 = .ok (.aload_n 0, 1) := by decide +kernel
theorem dX5_isFixed_1 : decode cX5_isFixed 1 = .ok (.getfield 33, 3) := by decide +kernel
theorem dX5_isFixed_4 : decode cX5_isFixed 4 = .ok (.getfield 50, 3) := by decide +kernel
theorem dX5_isFixed_7 : decode cX5_isFixed 7 = .ok (.iload_n 1, 1) := by decide +kernel
theorem dX5_isFixed_8 : decode cX5_isFixed 8 = .ok (.iaload, 1) := by decide +kernel
theorem dX5_isFixed_9 : decode cX5_isFixed 9 = .ok (.aload_n 0, 1) := by decide +kernel
theorem dX5_isFixed_10 : decode cX5_isFixed 10 = .ok (.getfield 9, 3) := by decide +kernel
theorem dX5_isFixed_13 : decode cX5_isFixed 13 = .ok (.iand, 1) := by decide +kernel
theorem dX5_isFixed_14 : decode cX5_isFixed 14 = .ok (.ifCond .eq 7, 3) := by decide +kernel
theorem dX5_isFixed_17 : decode cX5_isFixed 17 = .ok (.iconst 1, 1) := by decide +kernel
theorem dX5_isFixed_18 : decode cX5_isFixed 18 = .ok (.goto 4, 3) := by decide +kernel
theorem dX5_isFixed_21 : decode cX5_isFixed 21 = .ok (.iconst 0, 1) := by decide +kernel
theorem dX5_isFixed_22 : decode cX5_isFixed 22 = .ok (.ireturn, 1) := by decide +kernel
theorem gcX5_countFixed__X50 : ∀ w ∈ wsX50, w ∈ wsX5_countFixed := fun w h => List.mem_cons_of_mem _ (List.mem_append_left _ (List.mem_append_right _ (h)))
theorem gcX5_countFixed__X80 : ∀ w ∈ wsX80, w ∈ wsX5_countFixed := fun w h => List.mem_cons_of_mem _ (List.mem_append_right _ (h))
set_option maxRecDepth 20000 in
theorem ggX5_countFixed_X5_isFixed : GoodIn wsX5_countFixed wsX5_isFixed := goodIn_sub (List.forall_mem_cons.mpr ⟨(List.mem_of_getElem? (i := 7) rfl), List.forall_mem_append.mpr ⟨List.forall_mem_append.mpr ⟨List.forall_mem_cons.mpr ⟨(List.mem_of_getElem? (i := 1) rfl), List.forall_mem_cons.mpr ⟨(List.mem_of_getElem? (i := 8) rfl), List.forall_mem_cons.mpr ⟨(List.mem_of_getElem? (i := 9) rfl), fun _ h => (List.not_mem_nil h).elim⟩⟩⟩, gcX5_countFixed__X50⟩, gcX5_countFixed__X80⟩⟩) gwX5_isFixed
set_option maxRecDepth 20000 in
theorem gX5_countFixed_X5_isFixed : GoodIn wsX5_countFixed (wsV RX5 53 RX5 yX5_isFixed wsX5_isFixed) := goodIn_app (goodIn_sub (List.forall_mem_cons.mpr ⟨(List.mem_of_getElem? (i := 3) rfl), List.forall_mem_cons.mpr ⟨(List.mem_of_getElem? (i := 4) rfl), List.forall_mem_cons.mpr ⟨(List.mem_of_getElem? (i := 5) rfl), List.forall_mem_cons.mpr ⟨(List.mem_of_getElem? (i := 6) rfl), fun _ h => (List.not_mem_nil h).elim⟩⟩⟩⟩) (by decide +kernel)) ggX5_countFixed_X5_isFixed
theorem dX5_countFixed_0 : decode cX5_countFixed 0 = .ok (.iconst 0, 1) := by decide +kernel
theorem dX5_countFixed_1 : decode cX5_countFixed 1 = .ok (.istore_n 1, 1) := by decide +kernel
theorem dX5_countFixed_2 : decode cX5_countFixed 2 = .ok (.iconst 0, 1) := by decide +kernel
theorem dX5_countFixed_3 : decode cX5_countFixed 3 = .ok (.istore_n 2, 1) := by decide +kernel
theorem dX5_countFixed_4 : decode cX5_countFixed 4 = .ok (.iload_n 2, 1) := by decide +kernel
theorem dX5_countFixed_5 : decode cX5_countFixed 5 = .ok (.aload_n 0, 1) := by decide +kernel
theorem dX5_countFixed_6 : decode cX5_countFixed 6 = .ok (.getfield 33, 3) := by decide +kernel
theorem dX5_countFixed_9 : decode cX5_countFixed 9 = .ok (.getfield 41, 3) := by decide +kernel
theorem dX5_countFixed_12 : decode cX5_countFixed 12 = .ok (.iconst 2, 1) := by decide +kernel
theorem dX5_countFixed_13 : decode cX5_countFixed 13 = .ok (.iaload, 1) := by decide +kernel
theorem dX5_countFixed_14 : decode cX5_countFixed 14 = .ok (.if_icmp .ge 20, 3) := by decide +kernel
theorem dX5_countFixed_17 : decode cX5_countFixed 17 = .ok (.aload_n 0, 1) := by decide +kernel
theorem dX5_countFixed_18 : decode cX5_countFixed 18 = .ok (.iload_n 2, 1) := by decide +kernel
theorem dX5_countFixed_19 : decode cX5_countFixed 19 = .ok (.invokevirtual 53, 3) := by decide +kernel
theorem dX5_countFixed_22 : decode cX5_countFixed 22 = .ok (.ifCond .eq 6, 3) := by decide +kernel
theorem dX5_countFixed_25 : decode cX5_countFixed 25 = .ok (.iinc 1 1, 3) := by decide +kernel
theorem dX5_countFixed_28 : decode cX5_countFixed 28 = .ok (.iinc 2 1, 3) := by decide +kernel
theorem dX5_countFixed_31 : decode cX5_countFixed 31 = .ok (.goto (-27), 3) := by decide +kernel
theorem dX5_countFixed_34 : decode cX5_countFixed 34 = .ok (.iload_n 1, 1) := by decide +kernel
theorem dX5_countFixed_35 : decode cX5_countFixed 35 = .ok (.ireturn, 1) := by decide +kernel
theorem dX5_fixedAt_0 : decode cX5_fixedAt 0 = .ok (.bipush 100, 2) := by decide +kernel
theorem dX5_fixedAt_2 : decode cX5_fixedAt 2 = .ok (.aload_n 0, 1) := by decide +kernel
theorem dX5_fixedAt_3 : decode cX5_fixedAt 3 = .ok (.getfield 33, 3) := by decide +kernel
theorem dX5_fixedAt_6 : decode cX5_fixedAt 6 = .ok (.getfield 56, 3) := by decide +kernel
theorem dX5_fixedAt_9 : decode cX5_fixedAt 9 = .ok (.iload_n 2, 1) := by decide +kernel
theorem dX5_fixedAt_10 : decode cX5_fixedAt 10 = .ok (.aaload, 1) := by decide +kernel
theorem dX5_fixedAt_11 : decode cX5_fixedAt 11 = .ok (.iload_n 1, 1) := by decide +kernel
theorem dX5_fixedAt_12 : decode cX5_fixedAt 12 = .ok (.iaload, 1) := by decide +kernel
theorem dX5_fixedAt_13 : decode cX5_fixedAt 13 = .ok (.imul, 1) := by decide +kernel
theorem dX5_fixedAt_14 : decode cX5_fixedAt 14 = .ok (.ireturn, 1) := by decide +kernel
theorem gcX5_placeFixed__X50 : ∀ w ∈ wsX50, w ∈ wsX5_placeFixed := fun w h => List.mem_cons_of_mem _ (List.mem_append_left _ (List.mem_append_right _ (h)))
theorem gcX5_placeFixed__X80 : ∀ w ∈ wsX80, w ∈ wsX5_placeFixed := fun w h => List.mem_cons_of_mem _ (List.mem_append_right _ (h))
set_option maxRecDepth 20000 in
theorem ggX5_placeFixed_X5_isFixed : GoodIn wsX5_placeFixed wsX5_isFixed := goodIn_sub (List.forall_mem_cons.mpr ⟨(List.mem_of_getElem? (i := 8) rfl), List.forall_mem_append.mpr ⟨List.forall_mem_append.mpr ⟨List.forall_mem_cons.mpr ⟨(List.mem_of_getElem? (i := 1) rfl), List.forall_mem_cons.mpr ⟨(List.mem_of_getElem? (i := 9) rfl), List.forall_mem_cons.mpr ⟨(List.mem_of_getElem? (i := 10) rfl), fun _ h => (List.not_mem_nil h).elim⟩⟩⟩, gcX5_placeFixed__X50⟩, gcX5_placeFixed__X80⟩⟩) gwX5_isFixed
set_option maxRecDepth 20000 in
theorem gX5_placeFixed_X5_isFixed : GoodIn wsX5_placeFixed (wsV RX5 53 RX5 yX5_isFixed wsX5_isFixed) := goodIn_app (goodIn_sub (List.forall_mem_cons.mpr ⟨(List.mem_of_getElem? (i := 4) rfl), List.forall_mem_cons.mpr ⟨(List.mem_of_getElem? (i := 5) rfl), List.forall_mem_cons.mpr ⟨(List.mem_of_getElem? (i := 6) rfl), List.forall_mem_cons.mpr ⟨(List.mem_of_getElem? (i := 7) rfl), fun _ h => (List.not_mem_nil h).elim⟩⟩⟩⟩) (by decide +kernel)) ggX5_placeFixed_X5_isFixed
set_option maxRecDepth 20000 in
theorem ggX5_placeFixed_X5_fixedAt : GoodIn wsX5_placeFixed wsX5_fixedAt := goodIn_sub (List.forall_mem_cons.mpr ⟨(List.mem_of_getElem? (i := 14) rfl), List.forall_mem_append.mpr ⟨List.forall_mem_append.mpr ⟨List.forall_mem_cons.mpr ⟨(List.mem_of_getElem? (i := 1) rfl), List.forall_mem_cons.mpr ⟨(List.mem_of_getElem? (i := 15) rfl), fun _ h => (List.not_mem_nil h).elim⟩⟩, gcX5_placeFixed__X50⟩, gcX5_placeFixed__X80⟩⟩) gwX5_fixedAt
set_option maxRecDepth 20000 in
theorem gX5_placeFixed_X5_fixedAt : GoodIn wsX5_placeFixed (wsV RX5 59 RX5 yX5_fixedAt wsX5_fixedAt) := goodIn_app (goodIn_sub (List.forall_mem_cons.mpr ⟨(List.mem_of_getElem? (i := 11) rfl), List.forall_mem_cons.mpr ⟨(List.mem_of_getElem? (i := 12) rfl), List.forall_mem_cons.mpr ⟨(List.mem_of_getElem? (i := 13) rfl), List.forall_mem_cons.mpr ⟨(List.mem_of_getElem? (i := 7) rfl), fun _ h => (List.not_mem_nil h).elim⟩⟩⟩⟩) (by decide +kernel)) ggX5_placeFixed_X5_fixedAt
theorem dX5_placeFixed_0 : decode cX5_placeFixed 0 = .ok (.iconst 0, 1) := by decide +kernel
theorem dX5_placeFixed_1 : decode cX5_placeFixed 1 = .ok (.istore_n 1, 1) := by decide +kernel
theorem dX5_placeFixed_2 : decode cX5_placeFixed 2 = .ok (.iload_n 1, 1) := by decide +kernel
theorem dX5_placeFixed_3 : decode cX5_placeFixed 3 = .ok (.aload_n 0, 1) := by decide +kernel
theorem dX5_placeFixed_4 : decode cX5_placeFixed 4 = .ok (.getfield 33, 3) := by decide +kernel
theorem dX5_placeFixed_7 : decode cX5_placeFixed 7 = .ok (.getfield 41, 3) := by decide +kernel
theorem dX5_placeFixed_10 : decode cX5_placeFixed 10 = .ok (.iconst 2, 1) := by decide +kernel
theorem dX5_placeFixed_11 : decode cX5_placeFixed 11 = .ok (.iaload, 1) := by decide +kernel
theorem dX5_placeFixed_12 : decode cX5_placeFixed 12 = .ok (.if_icmp .ge 48, 3) := by decide +kernel
theorem dX5_placeFixed_15 : decode cX5_placeFixed 15 = .ok (.aload_n 0, 1) := by decide +kernel
theorem dX5_placeFixed_16 : decode cX5_placeFixed 16 = .ok (.iload_n 1, 1) := by decide +kernel
theorem dX5_placeFixed_17 : decode cX5_placeFixed 17 = .ok (.invokevirtual 53, 3) := by decide +kernel
theorem dX5_placeFixed_20 : decode cX5_placeFixed 20 = .ok (.ifCond .ne 6, 3) := by decide +kernel
theorem dX5_placeFixed_23 : decode cX5_placeFixed 23 = .ok (.goto 31, 3) := by decide +kernel
theorem dX5_placeFixed_26 : decode cX5_placeFixed 26 = .ok (.aload_n 0, 1) := by decide +kernel
theorem dX5_placeFixed_27 : decode cX5_placeFixed 27 = .ok (.getfield 24, 3) := by decide +kernel
theorem dX5_placeFixed_30 : decode cX5_placeFixed 30 = .ok (.iconst 0, 1) := by decide +kernel
theorem dX5_placeFixed_31 : decode cX5_placeFixed 31 = .ok (.aaload, 1) := by decide +kernel
theorem dX5_placeFixed_32 : decode cX5_placeFixed 32 = .ok (.iload_n 1, 1) := by decide +kernel
theorem dX5_placeFixed_33 : decode cX5_placeFixed 33 = .ok (.aload_n 0, 1) := by decide +kernel
theorem dX5_placeFixed_34 : decode cX5_placeFixed 34 = .ok (.iload_n 1, 1) := by decide +kernel
theorem dX5_placeFixed_35 : decode cX5_placeFixed 35 = .ok (.iconst 0, 1) := by decide +kernel
theorem dX5_placeFixed_36 : decode cX5_placeFixed 36 = .ok (.invokevirtual 59, 3) := by decide +kernel
theorem dX5_placeFixed_39 : decode cX5_placeFixed 39 = .ok (.iastore, 1) := by decide +kernel
theorem dX5_placeFixed_40 : decode cX5_placeFixed 40 = .ok (.aload_n 0, 1) := by decide +kernel
theorem dX5_placeFixed_41 : decode cX5_placeFixed 41 = .ok (.getfield 24, 3) := by decide +kernel
theorem dX5_placeFixed_44 : decode cX5_placeFixed 44 = .ok (.iconst 1, 1) := by decide +kernel
theorem dX5_placeFixed_45 : decode cX5_placeFixed 45 = .ok (.aaload, 1) := by decide +kernel
theorem dX5_placeFixed_46 : decode cX5_placeFixed 46 = .ok (.iload_n 1, 1) := by decide +kernel
theorem dX5_placeFixed_47 : decode cX5_placeFixed 47 = .ok (.aload_n 0, 1) := by decide +kernel
theorem dX5_placeFixed_48 : decode cX5_placeFixed 48 = .ok (.iload_n 1, 1) := by decide +kernel
theorem dX5_placeFixed_49 : decode cX5_placeFixed 49 = .ok (.iconst 1, 1) := by decide +kernel
theorem dX5_placeFixed_50 : decode cX5_placeFixed 50 = .ok (.invokevirtual 59, 3) := by decide +kernel
theorem dX5_placeFixed_53 : decode cX5_placeFixed 53 = .ok (.iastore, 1) := by decide +kernel
theorem dX5_placeFixed_54 : decode cX5_placeFixed 54 = .ok (.iinc 1 1, 3) := by decide +kernel
theorem dX5_placeFixed_57 : decode cX5_placeFixed 57 = .ok (.goto (-55), 3) := by decide +kernel
theorem dX5_placeFixed_60 : decode cX5_placeFixed 60 = .ok (.return_, 1) := by decide +kernel
theorem gcX5_turned__X80 : ∀ w ∈ wsX80, w ∈ wsX5_turned := fun w h => List.mem_cons_of_mem _ (List.mem_append_right _ (h))
set_option maxRecDepth 20000 in
theorem gwX8_turnedBy : wsX8_turnedBy.all goodWord = true := by decide +kernel
set_option maxRecDepth 20000 in
theorem ggX5_turned_X8_turnedBy : GoodIn wsX5_turned wsX8_turnedBy := goodIn_sub (List.forall_mem_cons.mpr ⟨(List.mem_of_getElem? (i := 8) rfl), List.forall_mem_append.mpr ⟨List.forall_mem_cons.mpr ⟨(List.mem_of_getElem? (i := 9) rfl), fun _ h => (List.not_mem_nil h).elim⟩, gcX5_turned__X80⟩⟩) gwX8_turnedBy
set_option maxRecDepth 20000 in
theorem gX5_turned_X8_turnedBy : GoodIn wsX5_turned (wsV RX5 66 RX8 yX8_turnedBy wsX8_turnedBy) := goodIn_app (goodIn_sub (List.forall_mem_cons.mpr ⟨(List.mem_of_getElem? (i := 4) rfl), List.forall_mem_cons.mpr ⟨(List.mem_of_getElem? (i := 5) rfl), List.forall_mem_cons.mpr ⟨(List.mem_of_getElem? (i := 6) rfl), List.forall_mem_cons.mpr ⟨(List.mem_of_getElem? (i := 7) rfl), fun _ h => (List.not_mem_nil h).elim⟩⟩⟩⟩) (by decide +kernel)) ggX5_turned_X8_turnedBy
theorem dX5_turned_0 : decode cX5_turned 0 = .ok (.aload_n 0, 1) := by decide +kernel
theorem dX5_turned_1 : decode cX5_turned 1 = .ok (.getfield 33, 3) := by decide +kernel
theorem dX5_turned_4 : decode cX5_turned 4 = .ok (.aload_n 0, 1) := by decide +kernel
theorem dX5_turned_5 : decode cX5_turned 5 = .ok (.getfield 15, 3) := by decide +kernel
theorem dX5_turned_8 : decode cX5_turned 8 = .ok (.aload_n 0, 1) := by decide +kernel
theorem dX5_turned_9 : decode cX5_turned 9 = .ok (.getfield 33, 3) := by decide +kernel
theorem dX5_turned_12 : decode cX5_turned 12 = .ok (.getfield 63, 3) := by decide +kernel
theorem dX5_turned_15 : decode cX5_turned 15 = .ok (.iload_n 1, 1) := by decide +kernel
theorem dX5_turned_16 : decode cX5_turned 16 = .ok (.iaload, 1) := by decide +kernel
theorem dX5_turned_17 : decode cX5_turned 17 = .ok (.iaload, 1) := by decide +kernel
theorem dX5_turned_18 : decode cX5_turned 18 = .ok (.iload_n 1, 1) := by decide +kernel
theorem dX5_turned_19 : decode cX5_turned 19 = .ok (.iload_n 2, 1) := by decide +kernel
theorem dX5_turned_20 : decode cX5_turned 20 = .ok (.invokevirtual 66, 3) := by decide +kernel
theorem dX5_turned_23 : decode cX5_turned 23 = .ok (.ireturn, 1) := by decide +kernel
theorem gcX5_putAt__X80 : ∀ w ∈ wsX80, w ∈ wsX5_putAt := fun w h => List.mem_cons_of_mem _ (List.mem_append_right _ (h))
set_option maxRecDepth 20000 in
theorem ggX5_putAt_X8_turnedBy : GoodIn wsX5_putAt wsX8_turnedBy := goodIn_sub (List.forall_mem_cons.mpr ⟨(List.mem_of_getElem? (i := 9) rfl), List.forall_mem_append.mpr ⟨List.forall_mem_cons.mpr ⟨(List.mem_of_getElem? (i := 10) rfl), fun _ h => (List.not_mem_nil h).elim⟩, gcX5_putAt__X80⟩⟩) gwX8_turnedBy
set_option maxRecDepth 20000 in
theorem gX5_putAt_X8_turnedBy : GoodIn wsX5_putAt (wsV RX5 66 RX8 yX8_turnedBy wsX8_turnedBy) := goodIn_app (goodIn_sub (List.forall_mem_cons.mpr ⟨(List.mem_of_getElem? (i := 5) rfl), List.forall_mem_cons.mpr ⟨(List.mem_of_getElem? (i := 6) rfl), List.forall_mem_cons.mpr ⟨(List.mem_of_getElem? (i := 7) rfl), List.forall_mem_cons.mpr ⟨(List.mem_of_getElem? (i := 8) rfl), fun _ h => (List.not_mem_nil h).elim⟩⟩⟩⟩) (by decide +kernel)) ggX5_putAt_X8_turnedBy
theorem dX5_putAt_0 : decode cX5_putAt 0 = .ok (.aload_n 0, 1) := by decide +kernel
theorem dX5_putAt_1 : decode cX5_putAt 1 = .ok (.getfield 33, 3) := by decide +kernel
theorem dX5_putAt_4 : decode cX5_putAt 4 = .ok (.getfield 63, 3) := by decide +kernel
theorem dX5_putAt_7 : decode cX5_putAt 7 = .ok (.iload_n 1, 1) := by decide +kernel
theorem dX5_putAt_8 : decode cX5_putAt 8 = .ok (.iaload, 1) := by decide +kernel
theorem dX5_putAt_9 : decode cX5_putAt 9 = .ok (.istore_n 3, 1) := by decide +kernel
theorem dX5_putAt_10 : decode cX5_putAt 10 = .ok (.aload_n 0, 1) := by decide +kernel
theorem dX5_putAt_11 : decode cX5_putAt 11 = .ok (.getfield 21, 3) := by decide +kernel
theorem dX5_putAt_14 : decode cX5_putAt 14 = .ok (.iload_n 2, 1) := by decide +kernel
theorem dX5_putAt_15 : decode cX5_putAt 15 = .ok (.aaload, 1) := by decide +kernel
theorem dX5_putAt_16 : decode cX5_putAt 16 = .ok (.iload_n 3, 1) := by decide +kernel
theorem dX5_putAt_17 : decode cX5_putAt 17 = .ok (.iaload, 1) := by decide +kernel
theorem dX5_putAt_18 : decode cX5_putAt 18 = .ok (.aload_n 0, 1) := by decide +kernel
theorem dX5_putAt_19 : decode cX5_putAt 19 = .ok (.getfield 33, 3) := by decide +kernel
theorem dX5_putAt_22 : decode cX5_putAt 22 = .ok (.aload_n 0, 1) := by decide +kernel
theorem dX5_putAt_23 : decode cX5_putAt 23 = .ok (.getfield 15, 3) := by decide +kernel
theorem dX5_putAt_26 : decode cX5_putAt 26 = .ok (.iload_n 3, 1) := by decide +kernel
theorem dX5_putAt_27 : decode cX5_putAt 27 = .ok (.iaload, 1) := by decide +kernel
theorem dX5_putAt_28 : decode cX5_putAt 28 = .ok (.iload_n 1, 1) := by decide +kernel
theorem dX5_putAt_29 : decode cX5_putAt 29 = .ok (.iload_n 2, 1) := by decide +kernel
theorem dX5_putAt_30 : decode cX5_putAt 30 = .ok (.invokevirtual 66, 3) := by decide +kernel
theorem dX5_putAt_33 : decode cX5_putAt 33 = .ok (.iadd, 1) := by decide +kernel
theorem dX5_putAt_34 : decode cX5_putAt 34 = .ok (.ireturn, 1) := by decide +kernel
theorem gcX5_miss__X50 : ∀ w ∈ wsX50, w ∈ wsX5_miss := fun w h => List.mem_cons_of_mem _ (List.mem_append_left _ (List.mem_append_right _ (h)))
theorem gcX5_miss__X80 : ∀ w ∈ wsX80, w ∈ wsX5_miss := fun w h => List.mem_cons_of_mem _ (List.mem_append_right _ (h))
set_option maxRecDepth 20000 in
theorem gwX5_putAt : wsX5_putAt.all goodWord = true := by decide +kernel
set_option maxRecDepth 20000 in
theorem ggX5_miss_X5_putAt : GoodIn wsX5_miss wsX5_putAt := goodIn_sub (List.forall_mem_cons.mpr ⟨(List.mem_of_getElem? (i := 8) rfl), List.forall_mem_append.mpr ⟨List.forall_mem_append.mpr ⟨List.forall_mem_cons.mpr ⟨(List.mem_of_getElem? (i := 2) rfl), List.forall_mem_cons.mpr ⟨(List.mem_of_getElem? (i := 9) rfl), List.forall_mem_cons.mpr ⟨(List.mem_of_getElem? (i := 10) rfl), List.forall_mem_cons.mpr ⟨(List.mem_of_getElem? (i := 11) rfl), List.forall_mem_cons.mpr ⟨(List.mem_of_getElem? (i := 12) rfl), List.forall_mem_cons.mpr ⟨(List.mem_of_getElem? (i := 13) rfl), List.forall_mem_cons.mpr ⟨(List.mem_of_getElem? (i := 14) rfl), List.forall_mem_cons.mpr ⟨(List.mem_of_getElem? (i := 15) rfl), List.forall_mem_cons.mpr ⟨(List.mem_of_getElem? (i := 16) rfl), List.forall_mem_cons.mpr ⟨(List.mem_of_getElem? (i := 17) rfl), fun _ h => (List.not_mem_nil h).elim⟩⟩⟩⟩⟩⟩⟩⟩⟩⟩, gcX5_miss__X50⟩, gcX5_miss__X80⟩⟩) gwX5_putAt
set_option maxRecDepth 20000 in
theorem gX5_miss_X5_putAt : GoodIn wsX5_miss (wsV RX5 73 RX5 yX5_putAt wsX5_putAt) := goodIn_app (goodIn_sub (List.forall_mem_cons.mpr ⟨(List.mem_of_getElem? (i := 4) rfl), List.forall_mem_cons.mpr ⟨(List.mem_of_getElem? (i := 5) rfl), List.forall_mem_cons.mpr ⟨(List.mem_of_getElem? (i := 6) rfl), List.forall_mem_cons.mpr ⟨(List.mem_of_getElem? (i := 7) rfl), fun _ h => (List.not_mem_nil h).elim⟩⟩⟩⟩) (by decide +kernel)) ggX5_miss_X5_putAt
theorem dX5_miss_0 : decode cX5_miss 0 = .ok (.aload_n 0, 1) := by decide +kernel
theorem dX5_miss_1 : decode cX5_miss 1 = .ok (.getfield 24, 3) := by decide +kernel
theorem dX5_miss_4 : decode cX5_miss 4 = .ok (.iload_n 2, 1) := by decide +kernel
theorem dX5_miss_5 : decode cX5_miss 5 = .ok (.aaload, 1) := by decide +kernel
theorem dX5_miss_6 : decode cX5_miss 6 = .ok (.aload_n 0, 1) := by decide +kernel
theorem dX5_miss_7 : decode cX5_miss 7 = .ok (.getfield 33, 3) := by decide +kernel
theorem dX5_miss_10 : decode cX5_miss 10 = .ok (.getfield 70, 3) := by decide +kernel
theorem dX5_miss_13 : decode cX5_miss 13 = .ok (.iload_n 1, 1) := by decide +kernel
theorem dX5_miss_14 : decode cX5_miss 14 = .ok (.iaload, 1) := by decide +kernel
theorem dX5_miss_15 : decode cX5_miss 15 = .ok (.iaload, 1) := by decide +kernel
theorem dX5_miss_16 : decode cX5_miss 16 = .ok (.aload_n 0, 1) := by decide +kernel
theorem dX5_miss_17 : decode cX5_miss 17 = .ok (.iload_n 1, 1) := by decide +kernel
theorem dX5_miss_18 : decode cX5_miss 18 = .ok (.iload_n 2, 1) := by decide +kernel
theorem dX5_miss_19 : decode cX5_miss 19 = .ok (.invokevirtual 73, 3) := by decide +kernel
theorem dX5_miss_22 : decode cX5_miss 22 = .ok (.isub, 1) := by decide +kernel
theorem dX5_miss_23 : decode cX5_miss 23 = .ok (.ireturn, 1) := by decide +kernel
theorem dX5_centreAt_0 : decode cX5_centreAt 0 = .ok (.aload_n 0, 1) := by decide +kernel
theorem dX5_centreAt_1 : decode cX5_centreAt 1 = .ok (.getfield 27, 3) := by decide +kernel
theorem dX5_centreAt_4 : decode cX5_centreAt 4 = .ok (.iload_n 2, 1) := by decide +kernel
theorem dX5_centreAt_5 : decode cX5_centreAt 5 = .ok (.aaload, 1) := by decide +kernel
theorem dX5_centreAt_6 : decode cX5_centreAt 6 = .ok (.aload_n 0, 1) := by decide +kernel
theorem dX5_centreAt_7 : decode cX5_centreAt 7 = .ok (.getfield 33, 3) := by decide +kernel
theorem dX5_centreAt_10 : decode cX5_centreAt 10 = .ok (.getfield 76, 3) := by decide +kernel
theorem dX5_centreAt_13 : decode cX5_centreAt 13 = .ok (.iload_n 1, 1) := by decide +kernel
theorem dX5_centreAt_14 : decode cX5_centreAt 14 = .ok (.iaload, 1) := by decide +kernel
theorem dX5_centreAt_15 : decode cX5_centreAt 15 = .ok (.iaload, 1) := by decide +kernel
theorem dX5_centreAt_16 : decode cX5_centreAt 16 = .ok (.bipush 100, 2) := by decide +kernel
theorem dX5_centreAt_18 : decode cX5_centreAt 18 = .ok (.aload_n 0, 1) := by decide +kernel
theorem dX5_centreAt_19 : decode cX5_centreAt 19 = .ok (.getfield 33, 3) := by decide +kernel
theorem dX5_centreAt_22 : decode cX5_centreAt 22 = .ok (.getfield 79, 3) := by decide +kernel
theorem dX5_centreAt_25 : decode cX5_centreAt 25 = .ok (.iload_n 2, 1) := by decide +kernel
theorem dX5_centreAt_26 : decode cX5_centreAt 26 = .ok (.aaload, 1) := by decide +kernel
theorem dX5_centreAt_27 : decode cX5_centreAt 27 = .ok (.iload_n 1, 1) := by decide +kernel
theorem dX5_centreAt_28 : decode cX5_centreAt 28 = .ok (.iaload, 1) := by decide +kernel
theorem dX5_centreAt_29 : decode cX5_centreAt 29 = .ok (.imul, 1) := by decide +kernel
theorem dX5_centreAt_30 : decode cX5_centreAt 30 = .ok (.iadd, 1) := by decide +kernel
theorem dX5_centreAt_31 : decode cX5_centreAt 31 = .ok (.ireturn, 1) := by decide +kernel
theorem gcX5_doubtOf__X50 : ∀ w ∈ wsX50, w ∈ wsX5_doubtOf := fun w h => List.mem_cons_of_mem _ (List.mem_append_left _ (List.mem_append_right _ (h)))
theorem gcX5_doubtOf__X80 : ∀ w ∈ wsX80, w ∈ wsX5_doubtOf := fun w h => List.mem_cons_of_mem _ (List.mem_append_right _ (h))
set_option maxRecDepth 20000 in
theorem gwX5_miss : wsX5_miss.all goodWord = true := by decide +kernel
set_option maxRecDepth 20000 in
theorem ggX5_doubtOf_X5_miss : GoodIn wsX5_doubtOf wsX5_miss := goodIn_sub (List.forall_mem_cons.mpr ⟨(List.mem_of_getElem? (i := 7) rfl), List.forall_mem_append.mpr ⟨List.forall_mem_append.mpr ⟨List.forall_mem_cons.mpr ⟨(List.mem_of_getElem? (i := 8) rfl), List.forall_mem_cons.mpr ⟨(List.mem_of_getElem? (i := 1) rfl), List.forall_mem_cons.mpr ⟨(List.mem_of_getElem? (i := 9) rfl), List.forall_mem_cons.mpr ⟨(List.mem_of_getElem? (i := 10) rfl), List.forall_mem_cons.mpr ⟨(List.mem_of_getElem? (i := 11) rfl), List.forall_mem_cons.mpr ⟨(List.mem_of_getElem? (i := 12) rfl), List.forall_mem_cons.mpr ⟨(List.mem_of_getElem? (i := 6) rfl), List.forall_mem_cons.mpr ⟨(List.mem_of_getElem? (i := 13) rfl), List.forall_mem_cons.mpr ⟨(List.mem_of_getElem? (i := 14) rfl), List.forall_mem_cons.mpr ⟨(List.mem_of_getElem? (i := 15) rfl), List.forall_mem_cons.mpr ⟨(List.mem_of_getElem? (i := 16) rfl), List.forall_mem_cons.mpr ⟨(List.mem_of_getElem? (i := 17) rfl), List.forall_mem_cons.mpr ⟨(List.mem_of_getElem? (i := 18) rfl), List.forall_mem_cons.mpr ⟨(List.mem_of_getElem? (i := 19) rfl), List.forall_mem_cons.mpr ⟨(List.mem_of_getElem? (i := 20) rfl), List.forall_mem_cons.mpr ⟨(List.mem_of_getElem? (i := 21) rfl), List.forall_mem_cons.mpr ⟨(List.mem_of_getElem? (i := 22) rfl), fun _ h => (List.not_mem_nil h).elim⟩⟩⟩⟩⟩⟩⟩⟩⟩⟩⟩⟩⟩⟩⟩⟩⟩, gcX5_doubtOf__X50⟩, gcX5_doubtOf__X80⟩⟩) gwX5_miss
set_option maxRecDepth 20000 in
theorem gX5_doubtOf_X5_miss : GoodIn wsX5_doubtOf (wsV RX5 82 RX5 yX5_miss wsX5_miss) := goodIn_app (goodIn_sub (List.forall_mem_cons.mpr ⟨(List.mem_of_getElem? (i := 3) rfl), List.forall_mem_cons.mpr ⟨(List.mem_of_getElem? (i := 4) rfl), List.forall_mem_cons.mpr ⟨(List.mem_of_getElem? (i := 5) rfl), List.forall_mem_cons.mpr ⟨(List.mem_of_getElem? (i := 6) rfl), fun _ h => (List.not_mem_nil h).elim⟩⟩⟩⟩) (by decide +kernel)) ggX5_doubtOf_X5_miss
theorem dX5_doubtOf_0 : decode cX5_doubtOf 0 = .ok (.aload_n 0, 1) := by decide +kernel
theorem dX5_doubtOf_1 : decode cX5_doubtOf 1 = .ok (.iload_n 1, 1) := by decide +kernel
theorem dX5_doubtOf_2 : decode cX5_doubtOf 2 = .ok (.iconst 0, 1) := by decide +kernel
theorem dX5_doubtOf_3 : decode cX5_doubtOf 3 = .ok (.invokevirtual 82, 3) := by decide +kernel
theorem dX5_doubtOf_6 : decode cX5_doubtOf 6 = .ok (.i2l, 1) := by decide +kernel
theorem dX5_doubtOf_7 : decode cX5_doubtOf 7 = .ok (.lstore_n 2, 1) := by decide +kernel
theorem dX5_doubtOf_8 : decode cX5_doubtOf 8 = .ok (.aload_n 0, 1) := by decide +kernel
theorem dX5_doubtOf_9 : decode cX5_doubtOf 9 = .ok (.iload_n 1, 1) := by decide +kernel
theorem dX5_doubtOf_10 : decode cX5_doubtOf 10 = .ok (.iconst 1, 1) := by decide +kernel
theorem dX5_doubtOf_11 : decode cX5_doubtOf 11 = .ok (.invokevirtual 82, 3) := by decide +kernel
theorem dX5_doubtOf_14 : decode cX5_doubtOf 14 = .ok (.i2l, 1) := by decide +kernel
theorem dX5_doubtOf_15 : decode cX5_doubtOf 15 = .ok (.lstore 4, 2) := by decide +kernel
theorem dX5_doubtOf_17 : decode cX5_doubtOf 17 = .ok (.aload_n 0, 1) := by decide +kernel
theorem dX5_doubtOf_18 : decode cX5_doubtOf 18 = .ok (.getfield 33, 3) := by decide +kernel
theorem dX5_doubtOf_21 : decode cX5_doubtOf 21 = .ok (.getfield 85, 3) := by decide +kernel
theorem dX5_doubtOf_24 : decode cX5_doubtOf 24 = .ok (.iload_n 1, 1) := by decide +kernel
theorem dX5_doubtOf_25 : decode cX5_doubtOf 25 = .ok (.iaload, 1) := by decide +kernel
theorem dX5_doubtOf_26 : decode cX5_doubtOf 26 = .ok (.i2l, 1) := by decide +kernel
theorem dX5_doubtOf_27 : decode cX5_doubtOf 27 = .ok (.lload_n 2, 1) := by decide +kernel
theorem dX5_doubtOf_28 : decode cX5_doubtOf 28 = .ok (.lload_n 2, 1) := by decide +kernel
theorem dX5_doubtOf_29 : decode cX5_doubtOf 29 = .ok (.lmul, 1) := by decide +kernel
theorem dX5_doubtOf_30 : decode cX5_doubtOf 30 = .ok (.lload 4, 2) := by decide +kernel
theorem dX5_doubtOf_32 : decode cX5_doubtOf 32 = .ok (.lload 4, 2) := by decide +kernel
theorem dX5_doubtOf_34 : decode cX5_doubtOf 34 = .ok (.lmul, 1) := by decide +kernel
theorem dX5_doubtOf_35 : decode cX5_doubtOf 35 = .ok (.ladd, 1) := by decide +kernel
theorem dX5_doubtOf_36 : decode cX5_doubtOf 36 = .ok (.lmul, 1) := by decide +kernel
theorem dX5_doubtOf_37 : decode cX5_doubtOf 37 = .ok (.lreturn, 1) := by decide +kernel
theorem gcX5_squares__X5_squares_r1 : ∀ w ∈ wsX5_squares_r1, w ∈ wsX5_squares := fun w h => List.mem_cons_of_mem _ (List.mem_append_left _ (List.mem_append_left _ (List.mem_append_left _ (h))))
theorem gcX5_squares__X50 : ∀ w ∈ wsX50, w ∈ wsX5_squares := fun w h => List.mem_cons_of_mem _ (List.mem_append_left _ (List.mem_append_right _ (h)))
set_option maxRecDepth 20000 in
theorem ggX5_squares_X5_uses : GoodIn wsX5_squares wsX5_uses := goodIn_sub (List.forall_mem_cons.mpr ⟨(gcX5_squares__X5_squares_r1 _ (List.mem_of_getElem? (i := 8) rfl)), List.forall_mem_append.mpr ⟨List.forall_mem_cons.mpr ⟨(gcX5_squares__X5_squares_r1 _ (List.mem_of_getElem? (i := 9) rfl)), fun _ h => (List.not_mem_nil h).elim⟩, gcX5_squares__X50⟩⟩) gwX5_uses
set_option maxRecDepth 20000 in
theorem gX5_squares_X5_uses : GoodIn wsX5_squares (wsV RX5 46 RX5 yX5_uses wsX5_uses) := goodIn_app (goodIn_sub (List.forall_mem_cons.mpr ⟨(gcX5_squares__X5_squares_r1 _ (List.mem_of_getElem? (i := 4) rfl)), List.forall_mem_cons.mpr ⟨(gcX5_squares__X5_squares_r1 _ (List.mem_of_getElem? (i := 5) rfl)), List.forall_mem_cons.mpr ⟨(gcX5_squares__X5_squares_r1 _ (List.mem_of_getElem? (i := 6) rfl)), List.forall_mem_cons.mpr ⟨(gcX5_squares__X5_squares_r1 _ (List.mem_of_getElem? (i := 7) rfl)), fun _ h => (List.not_mem_nil h).elim⟩⟩⟩⟩) (by decide +kernel)) ggX5_squares_X5_uses
theorem gcX5_squares__X5_squares_r2 : ∀ w ∈ wsX5_squares_r2, w ∈ wsX5_squares := fun w h => List.mem_cons_of_mem _ (List.mem_append_left _ (List.mem_append_left _ (List.mem_append_right _ (h))))
theorem gcX5_squares__X80 : ∀ w ∈ wsX80, w ∈ wsX5_squares := fun w h => List.mem_cons_of_mem _ (List.mem_append_right _ (h))
set_option maxRecDepth 20000 in
theorem gwX5_doubtOf : wsX5_doubtOf.all goodWord = true := by decide +kernel
set_option maxRecDepth 20000 in
theorem ggX5_squares_X5_doubtOf : GoodIn wsX5_squares wsX5_doubtOf := goodIn_sub (List.forall_mem_cons.mpr ⟨(gcX5_squares__X5_squares_r1 _ (List.mem_of_getElem? (i := 13) rfl)), List.forall_mem_append.mpr ⟨List.forall_mem_append.mpr ⟨List.forall_mem_cons.mpr ⟨(gcX5_squares__X5_squares_r1 _ (List.mem_of_getElem? (i := 0) rfl)), List.forall_mem_cons.mpr ⟨(gcX5_squares__X5_squares_r1 _ (List.mem_of_getElem? (i := 14) rfl)), List.forall_mem_cons.mpr ⟨(gcX5_squares__X5_squares_r1 _ (List.mem_of_getElem? (i := 15) rfl)), List.forall_mem_cons.mpr ⟨(gcX5_squares__X5_squares_r1 _ (List.mem_of_getElem? (i := 16) rfl)), List.forall_mem_cons.mpr ⟨(gcX5_squares__X5_squares_r1 _ (List.mem_of_getElem? (i := 17) rfl)), List.forall_mem_cons.mpr ⟨(gcX5_squares__X5_squares_r1 _ (List.mem_of_getElem? (i := 7) rfl)), List.forall_mem_cons.mpr ⟨(gcX5_squares__X5_squares_r1 _ (List.mem_of_getElem? (i := 18) rfl)), List.forall_mem_cons.mpr ⟨(gcX5_squares__X5_squares_r1 _ (List.mem_of_getElem? (i := 19) rfl)), List.forall_mem_cons.mpr ⟨(gcX5_squares__X5_squares_r1 _ (List.mem_of_getElem? (i := 20) rfl)), List.forall_mem_cons.mpr ⟨(gcX5_squares__X5_squares_r1 _ (List.mem_of_getElem? (i := 21) rfl)), List.forall_mem_cons.mpr ⟨(gcX5_squares__X5_squares_r1 _ (List.mem_of_getElem? (i := 22) rfl)), List.forall_mem_cons.mpr ⟨(gcX5_squares__X5_squares_r1 _ (List.mem_of_getElem? (i := 23) rfl)), List.forall_mem_cons.mpr ⟨(gcX5_squares__X5_squares_r2 _ (List.mem_of_getElem? (i := 0) rfl)), List.forall_mem_cons.mpr ⟨(gcX5_squares__X5_squares_r2 _ (List.mem_of_getElem? (i := 1) rfl)), List.forall_mem_cons.mpr ⟨(gcX5_squares__X5_squares_r1 _ (List.mem_of_getElem? (i := 2) rfl)), List.forall_mem_cons.mpr ⟨(gcX5_squares__X5_squares_r2 _ (List.mem_of_getElem? (i := 2) rfl)), List.forall_mem_cons.mpr ⟨(gcX5_squares__X5_squares_r2 _ (List.mem_of_getElem? (i := 3) rfl)), List.forall_mem_cons.mpr ⟨(gcX5_squares__X5_squares_r2 _ (List.mem_of_getElem? (i := 4) rfl)), List.forall_mem_cons.mpr ⟨(gcX5_squares__X5_squares_r2 _ (List.mem_of_getElem? (i := 5) rfl)), List.forall_mem_cons.mpr ⟨(gcX5_squares__X5_squares_r2 _ (List.mem_of_getElem? (i := 6) rfl)), List.forall_mem_cons.mpr ⟨(gcX5_squares__X5_squares_r2 _ (List.mem_of_getElem? (i := 7) rfl)), List.forall_mem_cons.mpr ⟨(gcX5_squares__X5_squares_r2 _ (List.mem_of_getElem? (i := 8) rfl)), fun _ h => (List.not_mem_nil h).elim⟩⟩⟩⟩⟩⟩⟩⟩⟩⟩⟩⟩⟩⟩⟩⟩⟩⟩⟩⟩⟩⟩, gcX5_squares__X50⟩, gcX5_squares__X80⟩⟩) gwX5_doubtOf
set_option maxRecDepth 20000 in
theorem gX5_squares_X5_doubtOf : GoodIn wsX5_squares (wsV RX5 88 RX5 yX5_doubtOf wsX5_doubtOf) := goodIn_app (goodIn_sub (List.forall_mem_cons.mpr ⟨(gcX5_squares__X5_squares_r1 _ (List.mem_of_getElem? (i := 10) rfl)), List.forall_mem_cons.mpr ⟨(gcX5_squares__X5_squares_r1 _ (List.mem_of_getElem? (i := 11) rfl)), List.forall_mem_cons.mpr ⟨(gcX5_squares__X5_squares_r1 _ (List.mem_of_getElem? (i := 12) rfl)), List.forall_mem_cons.mpr ⟨(gcX5_squares__X5_squares_r1 _ (List.mem_of_getElem? (i := 7) rfl)), fun _ h => (List.not_mem_nil h).elim⟩⟩⟩⟩) (by decide +kernel)) ggX5_squares_X5_doubtOf
set_option maxRecDepth 20000 in
theorem ggX5_squares_X5_centreAt : GoodIn wsX5_squares wsX5_centreAt := goodIn_sub (List.forall_mem_cons.mpr ⟨(gcX5_squares__X5_squares_r2 _ (List.mem_of_getElem? (i := 12) rfl)), List.forall_mem_append.mpr ⟨List.forall_mem_append.mpr ⟨List.forall_mem_cons.mpr ⟨(gcX5_squares__X5_squares_r2 _ (List.mem_of_getElem? (i := 13) rfl)), List.forall_mem_cons.mpr ⟨(gcX5_squares__X5_squares_r1 _ (List.mem_of_getElem? (i := 0) rfl)), List.forall_mem_cons.mpr ⟨(gcX5_squares__X5_squares_r2 _ (List.mem_of_getElem? (i := 14) rfl)), List.forall_mem_cons.mpr ⟨(gcX5_squares__X5_squares_r2 _ (List.mem_of_getElem? (i := 15) rfl)), fun _ h => (List.not_mem_nil h).elim⟩⟩⟩⟩, gcX5_squares__X50⟩, gcX5_squares__X80⟩⟩) gwX5_centreAt
set_option maxRecDepth 20000 in
theorem gX5_squares_X5_centreAt : GoodIn wsX5_squares (wsV RX5 92 RX5 yX5_centreAt wsX5_centreAt) := goodIn_app (goodIn_sub (List.forall_mem_cons.mpr ⟨(gcX5_squares__X5_squares_r2 _ (List.mem_of_getElem? (i := 9) rfl)), List.forall_mem_cons.mpr ⟨(gcX5_squares__X5_squares_r2 _ (List.mem_of_getElem? (i := 10) rfl)), List.forall_mem_cons.mpr ⟨(gcX5_squares__X5_squares_r2 _ (List.mem_of_getElem? (i := 11) rfl)), List.forall_mem_cons.mpr ⟨(gcX5_squares__X5_squares_r1 _ (List.mem_of_getElem? (i := 7) rfl)), fun _ h => (List.not_mem_nil h).elim⟩⟩⟩⟩) (by decide +kernel)) ggX5_squares_X5_centreAt
theorem dX5_squares_0 : decode cX5_squares 0 = .ok (.lconst 0, 1) := by decide +kernel
theorem dX5_squares_1 : decode cX5_squares 1 = .ok (.lstore_n 1, 1) := by decide +kernel
theorem dX5_squares_2 : decode cX5_squares 2 = .ok (.iconst 0, 1) := by decide +kernel
theorem dX5_squares_3 : decode cX5_squares 3 = .ok (.istore_n 3, 1) := by decide +kernel
theorem dX5_squares_4 : decode cX5_squares 4 = .ok (.iload_n 3, 1) := by decide +kernel
theorem dX5_squares_5 : decode cX5_squares 5 = .ok (.aload_n 0, 1) := by decide +kernel
theorem dX5_squares_6 : decode cX5_squares 6 = .ok (.getfield 33, 3) := by decide +kernel
theorem dX5_squares_9 : decode cX5_squares 9 = .ok (.getfield 41, 3) := by decide +kernel
theorem dX5_squares_12 : decode cX5_squares 12 = .ok (.iconst 3, 1) := by decide +kernel
theorem dX5_squares_13 : decode cX5_squares 13 = .ok (.iaload, 1) := by decide +kernel
theorem dX5_squares_14 : decode cX5_squares 14 = .ok (.if_icmp .ge 25, 3) := by decide +kernel
theorem dX5_squares_17 : decode cX5_squares 17 = .ok (.aload_n 0, 1) := by decide +kernel
theorem dX5_squares_18 : decode cX5_squares 18 = .ok (.iload_n 3, 1) := by decide +kernel
theorem dX5_squares_19 : decode cX5_squares 19 = .ok (.invokevirtual 46, 3) := by decide +kernel
theorem dX5_squares_22 : decode cX5_squares 22 = .ok (.ifCond .eq 11, 3) := by decide +kernel
theorem dX5_squares_25 : decode cX5_squares 25 = .ok (.lload_n 1, 1) := by decide +kernel
theorem dX5_squares_26 : decode cX5_squares 26 = .ok (.aload_n 0, 1) := by decide +kernel
theorem dX5_squares_27 : decode cX5_squares 27 = .ok (.iload_n 3, 1) := by decide +kernel
theorem dX5_squares_28 : decode cX5_squares 28 = .ok (.invokevirtual 88, 3) := by decide +kernel
theorem dX5_squares_31 : decode cX5_squares 31 = .ok (.ladd, 1) := by decide +kernel
theorem dX5_squares_32 : decode cX5_squares 32 = .ok (.lstore_n 1, 1) := by decide +kernel
theorem dX5_squares_33 : decode cX5_squares 33 = .ok (.iinc 3 1, 3) := by decide +kernel
theorem dX5_squares_36 : decode cX5_squares 36 = .ok (.goto (-32), 3) := by decide +kernel
theorem dX5_squares_39 : decode cX5_squares 39 = .ok (.iconst 0, 1) := by decide +kernel
theorem dX5_squares_40 : decode cX5_squares 40 = .ok (.istore_n 3, 1) := by decide +kernel
theorem dX5_squares_41 : decode cX5_squares 41 = .ok (.iload_n 3, 1) := by decide +kernel
theorem dX5_squares_42 : decode cX5_squares 42 = .ok (.aload_n 0, 1) := by decide +kernel
theorem dX5_squares_43 : decode cX5_squares 43 = .ok (.getfield 33, 3) := by decide +kernel
theorem dX5_squares_46 : decode cX5_squares 46 = .ok (.getfield 41, 3) := by decide +kernel
theorem dX5_squares_49 : decode cX5_squares 49 = .ok (.iconst 1, 1) := by decide +kernel
theorem dX5_squares_50 : decode cX5_squares 50 = .ok (.iaload, 1) := by decide +kernel
theorem dX5_squares_51 : decode cX5_squares 51 = .ok (.if_icmp .ge 70, 3) := by decide +kernel
theorem dX5_squares_54 : decode cX5_squares 54 = .ok (.aload_n 0, 1) := by decide +kernel
theorem dX5_squares_55 : decode cX5_squares 55 = .ok (.getfield 21, 3) := by decide +kernel
theorem dX5_squares_58 : decode cX5_squares 58 = .ok (.iconst 0, 1) := by decide +kernel
theorem dX5_squares_59 : decode cX5_squares 59 = .ok (.aaload, 1) := by decide +kernel
theorem dX5_squares_60 : decode cX5_squares 60 = .ok (.iload_n 3, 1) := by decide +kernel
theorem dX5_squares_61 : decode cX5_squares 61 = .ok (.iaload, 1) := by decide +kernel
theorem dX5_squares_62 : decode cX5_squares 62 = .ok (.aload_n 0, 1) := by decide +kernel
theorem dX5_squares_63 : decode cX5_squares 63 = .ok (.iload_n 3, 1) := by decide +kernel
theorem dX5_squares_64 : decode cX5_squares 64 = .ok (.iconst 0, 1) := by decide +kernel
theorem dX5_squares_65 : decode cX5_squares 65 = .ok (.invokevirtual 92, 3) := by decide +kernel
theorem dX5_squares_68 : decode cX5_squares 68 = .ok (.isub, 1) := by decide +kernel
theorem dX5_squares_69 : decode cX5_squares 69 = .ok (.i2l, 1) := by decide +kernel
theorem dX5_squares_70 : decode cX5_squares 70 = .ok (.lstore 4, 2) := by decide +kernel
theorem dX5_squares_72 : decode cX5_squares 72 = .ok (.aload_n 0, 1) := by decide +kernel
theorem dX5_squares_73 : decode cX5_squares 73 = .ok (.getfield 21, 3) := by decide +kernel
theorem dX5_squares_76 : decode cX5_squares 76 = .ok (.iconst 1, 1) := by decide +kernel
theorem dX5_squares_77 : decode cX5_squares 77 = .ok (.aaload, 1) := by decide +kernel
theorem dX5_squares_78 : decode cX5_squares 78 = .ok (.iload_n 3, 1) := by decide +kernel
theorem dX5_squares_79 : decode cX5_squares 79 = .ok (.iaload, 1) := by decide +kernel
theorem dX5_squares_80 : decode cX5_squares 80 = .ok (.aload_n 0, 1) := by decide +kernel
theorem dX5_squares_81 : decode cX5_squares 81 = .ok (.iload_n 3, 1) := by decide +kernel
theorem dX5_squares_82 : decode cX5_squares 82 = .ok (.iconst 1, 1) := by decide +kernel
theorem dX5_squares_83 : decode cX5_squares 83 = .ok (.invokevirtual 92, 3) := by decide +kernel
theorem dX5_squares_86 : decode cX5_squares 86 = .ok (.isub, 1) := by decide +kernel
theorem dX5_squares_87 : decode cX5_squares 87 = .ok (.i2l, 1) := by decide +kernel
theorem dX5_squares_88 : decode cX5_squares 88 = .ok (.lstore 6, 2) := by decide +kernel
theorem dX5_squares_90 : decode cX5_squares 90 = .ok (.lload_n 1, 1) := by decide +kernel
theorem dX5_squares_91 : decode cX5_squares 91 = .ok (.aload_n 0, 1) := by decide +kernel
theorem dX5_squares_92 : decode cX5_squares 92 = .ok (.getfield 33, 3) := by decide +kernel
theorem dX5_squares_95 : decode cX5_squares 95 = .ok (.getfield 94, 3) := by decide +kernel
theorem dX5_squares_98 : decode cX5_squares 98 = .ok (.iload_n 3, 1) := by decide +kernel
theorem dX5_squares_99 : decode cX5_squares 99 = .ok (.iaload, 1) := by decide +kernel
theorem dX5_squares_100 : decode cX5_squares 100 = .ok (.i2l, 1) := by decide +kernel
theorem dX5_squares_101 : decode cX5_squares 101 = .ok (.lload 4, 2) := by decide +kernel
theorem dX5_squares_103 : decode cX5_squares 103 = .ok (.lload 4, 2) := by decide +kernel
theorem dX5_squares_105 : decode cX5_squares 105 = .ok (.lmul, 1) := by decide +kernel
theorem dX5_squares_106 : decode cX5_squares 106 = .ok (.lload 6, 2) := by decide +kernel
theorem dX5_squares_108 : decode cX5_squares 108 = .ok (.lload 6, 2) := by decide +kernel
theorem dX5_squares_110 : decode cX5_squares 110 = .ok (.lmul, 1) := by decide +kernel
theorem dX5_squares_111 : decode cX5_squares 111 = .ok (.ladd, 1) := by decide +kernel
theorem dX5_squares_112 : decode cX5_squares 112 = .ok (.lmul, 1) := by decide +kernel
theorem dX5_squares_113 : decode cX5_squares 113 = .ok (.ladd, 1) := by decide +kernel
theorem dX5_squares_114 : decode cX5_squares 114 = .ok (.lstore_n 1, 1) := by decide +kernel
theorem dX5_squares_115 : decode cX5_squares 115 = .ok (.iinc 3 1, 3) := by decide +kernel
theorem dX5_squares_118 : decode cX5_squares 118 = .ok (.goto (-77), 3) := by decide +kernel
theorem dX5_squares_121 : decode cX5_squares 121 = .ok (.lload_n 1, 1) := by decide +kernel
theorem dX5_squares_122 : decode cX5_squares 122 = .ok (.lreturn, 1) := by decide +kernel
theorem dX6_init_0 : decode cX6_init 0 = .ok (.aload_n 0, 1) := by decide +kernel
theorem dX6_init_1 : decode cX6_init 1 = .ok (.invokespecial 3, 3) := by decide +kernel
theorem dX6_init_4 : decode cX6_init 4 = .ok (.aload_n 0, 1) := by decide +kernel
theorem dX6_init_5 : decode cX6_init 5 = .ok (.bipush 12, 2) := by decide +kernel
theorem dX6_init_7 : decode cX6_init 7 = .ok (.newarray .int, 2) := by decide +kernel
theorem dX6_init_9 : decode cX6_init 9 = .ok (.putfield 9, 3) := by decide +kernel
theorem dX6_init_12 : decode cX6_init 12 = .ok (.aload_n 0, 1) := by decide +kernel
theorem dX6_init_13 : decode cX6_init 13 = .ok (.bipush 20, 2) := by decide +kernel
theorem dX6_init_15 : decode cX6_init 15 = .ok (.newarray .int, 2) := by decide +kernel
theorem dX6_init_17 : decode cX6_init 17 = .ok (.putfield 15, 3) := by decide +kernel
theorem dX6_init_20 : decode cX6_init 20 = .ok (.aload_n 0, 1) := by decide +kernel
theorem dX6_init_21 : decode cX6_init 21 = .ok (.bipush 20, 2) := by decide +kernel
theorem dX6_init_23 : decode cX6_init 23 = .ok (.newarray .int, 2) := by decide +kernel
theorem dX6_init_25 : decode cX6_init 25 = .ok (.putfield 18, 3) := by decide +kernel
theorem dX6_init_28 : decode cX6_init 28 = .ok (.aload_n 0, 1) := by decide +kernel
theorem dX6_init_29 : decode cX6_init 29 = .ok (.iconst 2, 1) := by decide +kernel
theorem dX6_init_30 : decode cX6_init 30 = .ok (.bipush 20, 2) := by decide +kernel
theorem dX6_init_32 : decode cX6_init 32 = .ok (.multianewarray 21 2, 4) := by decide +kernel
theorem dX6_init_36 : decode cX6_init 36 = .ok (.putfield 23, 3) := by decide +kernel
theorem dX6_init_39 : decode cX6_init 39 = .ok (.aload_n 0, 1) := by decide +kernel
theorem dX6_init_40 : decode cX6_init 40 = .ok (.aload_n 1, 1) := by decide +kernel
theorem dX6_init_41 : decode cX6_init 41 = .ok (.putfield 26, 3) := by decide +kernel
theorem dX6_init_44 : decode cX6_init 44 = .ok (.aload_n 0, 1) := by decide +kernel
theorem dX6_init_45 : decode cX6_init 45 = .ok (.aload_n 2, 1) := by decide +kernel
theorem dX6_init_46 : decode cX6_init 46 = .ok (.putfield 30, 3) := by decide +kernel
theorem dX6_init_49 : decode cX6_init 49 = .ok (.return_, 1) := by decide +kernel
theorem gcX6_begin__X6_begin_r1 : ∀ w ∈ wsX6_begin_r1, w ∈ wsX6_begin := fun w h => List.mem_cons_of_mem _ (List.mem_append_left _ (List.mem_append_left _ (List.mem_append_left _ (List.mem_append_left _ (h)))))
theorem gcX6_begin__X60 : ∀ w ∈ wsX60, w ∈ wsX6_begin := fun w h => List.mem_cons_of_mem _ (List.mem_append_left _ (List.mem_append_left _ (List.mem_append_right _ (h))))
theorem gcX6_begin__X50 : ∀ w ∈ wsX50, w ∈ wsX6_begin := fun w h => List.mem_cons_of_mem _ (List.mem_append_right _ (h))
theorem gcX6_begin__X80 : ∀ w ∈ wsX80, w ∈ wsX6_begin := fun w h => List.mem_cons_of_mem _ (List.mem_append_left _ (List.mem_append_right _ (h)))
set_option maxRecDepth 20000 in
theorem gwX6_reset : wsX6_reset.all goodWord = true := by decide +kernel
set_option maxRecDepth 20000 in
theorem ggX6_begin_X6_reset : GoodIn wsX6_begin wsX6_reset := goodIn_sub (List.forall_mem_cons.mpr ⟨(gcX6_begin__X6_begin_r1 _ (List.mem_of_getElem? (i := 7) rfl)), List.forall_mem_append.mpr ⟨List.forall_mem_append.mpr ⟨List.forall_mem_append.mpr ⟨List.forall_mem_cons.mpr ⟨(gcX6_begin__X6_begin_r1 _ (List.mem_of_getElem? (i := 2) rfl)), List.forall_mem_cons.mpr ⟨(gcX6_begin__X6_begin_r1 _ (List.mem_of_getElem? (i := 8) rfl)), List.forall_mem_cons.mpr ⟨(gcX6_begin__X6_begin_r1 _ (List.mem_of_getElem? (i := 9) rfl)), List.forall_mem_cons.mpr ⟨(gcX6_begin__X6_begin_r1 _ (List.mem_of_getElem? (i := 10) rfl)), List.forall_mem_cons.mpr ⟨(gcX6_begin__X6_begin_r1 _ (List.mem_of_getElem? (i := 11) rfl)), List.forall_mem_cons.mpr ⟨(gcX6_begin__X6_begin_r1 _ (List.mem_of_getElem? (i := 0) rfl)), List.forall_mem_cons.mpr ⟨(gcX6_begin__X6_begin_r1 _ (List.mem_of_getElem? (i := 1) rfl)), List.forall_mem_cons.mpr ⟨(gcX6_begin__X6_begin_r1 _ (List.mem_of_getElem? (i := 12) rfl)), List.forall_mem_cons.mpr ⟨(gcX6_begin__X6_begin_r1 _ (List.mem_of_getElem? (i := 13) rfl)), List.forall_mem_cons.mpr ⟨(gcX6_begin__X6_begin_r1 _ (List.mem_of_getElem? (i := 14) rfl)), List.forall_mem_cons.mpr ⟨(gcX6_begin__X6_begin_r1 _ (List.mem_of_getElem? (i := 15) rfl)), List.forall_mem_cons.mpr ⟨(gcX6_begin__X6_begin_r1 _ (List.mem_of_getElem? (i := 16) rfl)), List.forall_mem_cons.mpr ⟨(gcX6_begin__X6_begin_r1 _ (List.mem_of_getElem? (i := 17) rfl)), fun _ h => (List.not_mem_nil h).elim⟩⟩⟩⟩⟩⟩⟩⟩⟩⟩⟩⟩⟩, gcX6_begin__X60⟩, gcX6_begin__X50⟩, gcX6_begin__X80⟩⟩) gwX6_reset
set_option maxRecDepth 20000 in
theorem gX6_begin_X6_reset : GoodIn wsX6_begin (wsV RX6 34 RX6 yX6_reset wsX6_reset) := goodIn_app (goodIn_sub (List.forall_mem_cons.mpr ⟨(gcX6_begin__X6_begin_r1 _ (List.mem_of_getElem? (i := 3) rfl)), List.forall_mem_cons.mpr ⟨(gcX6_begin__X6_begin_r1 _ (List.mem_of_getElem? (i := 4) rfl)), List.forall_mem_cons.mpr ⟨(gcX6_begin__X6_begin_r1 _ (List.mem_of_getElem? (i := 5) rfl)), List.forall_mem_cons.mpr ⟨(gcX6_begin__X6_begin_r1 _ (List.mem_of_getElem? (i := 6) rfl)), fun _ h => (List.not_mem_nil h).elim⟩⟩⟩⟩) (by decide +kernel)) ggX6_begin_X6_reset
theorem gcX6_begin__X6_begin_r2 : ∀ w ∈ wsX6_begin_r2, w ∈ wsX6_begin := fun w h => List.mem_cons_of_mem _ (List.mem_append_left _ (List.mem_append_left _ (List.mem_append_left _ (List.mem_append_right _ (List.mem_append_left _ (h))))))
set_option maxRecDepth 20000 in
theorem gmX6_begin__X6_findLinked_r1 : ∀ w ∈ wsX6_findLinked_r1, w ∈ wsX6_begin := List.forall_mem_cons.mpr ⟨(gcX6_begin__X6_begin_r1 _ (List.mem_of_getElem? (i := 0) rfl)), List.forall_mem_cons.mpr ⟨(gcX6_begin__X6_begin_r1 _ (List.mem_of_getElem? (i := 1) rfl)), List.forall_mem_cons.mpr ⟨(gcX6_begin__X6_begin_r1 _ (List.mem_of_getElem? (i := 2) rfl)), List.forall_mem_cons.mpr ⟨(gcX6_begin__X6_begin_r1 _ (List.mem_of_getElem? (i := 13) rfl)), List.forall_mem_cons.mpr ⟨(gcX6_begin__X6_begin_r1 _ (List.mem_of_getElem? (i := 22) rfl)), List.forall_mem_cons.mpr ⟨(gcX6_begin__X6_begin_r1 _ (List.mem_of_getElem? (i := 23) rfl)), List.forall_mem_cons.mpr ⟨(gcX6_begin__X6_begin_r2 _ (List.mem_of_getElem? (i := 0) rfl)), List.forall_mem_cons.mpr ⟨(gcX6_begin__X6_begin_r1 _ (List.mem_of_getElem? (i := 6) rfl)), List.forall_mem_cons.mpr ⟨(gcX6_begin__X6_begin_r2 _ (List.mem_of_getElem? (i := 1) rfl)), List.forall_mem_cons.mpr ⟨(gcX6_begin__X6_begin_r2 _ (List.mem_of_getElem? (i := 2) rfl)), List.forall_mem_cons.mpr ⟨(gcX6_begin__X6_begin_r1 _ (List.mem_of_getElem? (i := 8) rfl)), List.forall_mem_cons.mpr ⟨(gcX6_begin__X6_begin_r2 _ (List.mem_of_getElem? (i := 3) rfl)), List.forall_mem_cons.mpr ⟨(gcX6_begin__X6_begin_r2 _ (List.mem_of_getElem? (i := 4) rfl)), List.forall_mem_cons.mpr ⟨(gcX6_begin__X6_begin_r2 _ (List.mem_of_getElem? (i := 5) rfl)), List.forall_mem_cons.mpr ⟨(gcX6_begin__X6_begin_r1 _ (List.mem_of_getElem? (i := 14) rfl)), List.forall_mem_cons.mpr ⟨(gcX6_begin__X6_begin_r1 _ (List.mem_of_getElem? (i := 15) rfl)), List.forall_mem_cons.mpr ⟨(gcX6_begin__X6_begin_r1 _ (List.mem_of_getElem? (i := 16) rfl)), List.forall_mem_cons.mpr ⟨(gcX6_begin__X6_begin_r1 _ (List.mem_of_getElem? (i := 17) rfl)), List.forall_mem_cons.mpr ⟨(gcX6_begin__X6_begin_r2 _ (List.mem_of_getElem? (i := 6) rfl)), List.forall_mem_cons.mpr ⟨(gcX6_begin__X6_begin_r2 _ (List.mem_of_getElem? (i := 7) rfl)), List.forall_mem_cons.mpr ⟨(gcX6_begin__X6_begin_r2 _ (List.mem_of_getElem? (i := 8) rfl)), List.forall_mem_cons.mpr ⟨(gcX6_begin__X6_begin_r2 _ (List.mem_of_getElem? (i := 9) rfl)), List.forall_mem_cons.mpr ⟨(gcX6_begin__X6_begin_r2 _ (List.mem_of_getElem? (i := 10) rfl)), List.forall_mem_cons.mpr ⟨(gcX6_begin__X6_begin_r2 _ (List.mem_of_getElem? (i := 11) rfl)), fun _ h => (List.not_mem_nil h).elim⟩⟩⟩⟩⟩⟩⟩⟩⟩⟩⟩⟩⟩⟩⟩⟩⟩⟩⟩⟩⟩⟩⟩⟩
theorem gcX6_begin__X6_begin_r3 : ∀ w ∈ wsX6_begin_r3, w ∈ wsX6_begin := fun w h => List.mem_cons_of_mem _ (List.mem_append_left _ (List.mem_append_left _ (List.mem_append_left _ (List.mem_append_right _ (List.mem_append_right _ (List.mem_append_left _ (h)))))))
set_option maxRecDepth 20000 in
theorem gmX6_begin__X6_findLinked_r2 : ∀ w ∈ wsX6_findLinked_r2, w ∈ wsX6_begin := List.forall_mem_cons.mpr ⟨(gcX6_begin__X6_begin_r2 _ (List.mem_of_getElem? (i := 12) rfl)), List.forall_mem_cons.mpr ⟨(gcX6_begin__X6_begin_r2 _ (List.mem_of_getElem? (i := 13) rfl)), List.forall_mem_cons.mpr ⟨(gcX6_begin__X6_begin_r2 _ (List.mem_of_getElem? (i := 14) rfl)), List.forall_mem_cons.mpr ⟨(gcX6_begin__X6_begin_r2 _ (List.mem_of_getElem? (i := 15) rfl)), List.forall_mem_cons.mpr ⟨(gcX6_begin__X6_begin_r2 _ (List.mem_of_getElem? (i := 16) rfl)), List.forall_mem_cons.mpr ⟨(gcX6_begin__X6_begin_r2 _ (List.mem_of_getElem? (i := 17) rfl)), List.forall_mem_cons.mpr ⟨(gcX6_begin__X6_begin_r2 _ (List.mem_of_getElem? (i := 18) rfl)), List.forall_mem_cons.mpr ⟨(gcX6_begin__X6_begin_r2 _ (List.mem_of_getElem? (i := 19) rfl)), List.forall_mem_cons.mpr ⟨(gcX6_begin__X6_begin_r2 _ (List.mem_of_getElem? (i := 20) rfl)), List.forall_mem_cons.mpr ⟨(gcX6_begin__X6_begin_r2 _ (List.mem_of_getElem? (i := 21) rfl)), List.forall_mem_cons.mpr ⟨(gcX6_begin__X6_begin_r2 _ (List.mem_of_getElem? (i := 22) rfl)), List.forall_mem_cons.mpr ⟨(gcX6_begin__X6_begin_r2 _ (List.mem_of_getElem? (i := 23) rfl)), List.forall_mem_cons.mpr ⟨(gcX6_begin__X6_begin_r3 _ (List.mem_of_getElem? (i := 0) rfl)), List.forall_mem_cons.mpr ⟨(gcX6_begin__X6_begin_r3 _ (List.mem_of_getElem? (i := 1) rfl)), List.forall_mem_cons.mpr ⟨(gcX6_begin__X6_begin_r3 _ (List.mem_of_getElem? (i := 2) rfl)), List.forall_mem_cons.mpr ⟨(gcX6_begin__X6_begin_r3 _ (List.mem_of_getElem? (i := 3) rfl)), List.forall_mem_cons.mpr ⟨(gcX6_begin__X6_begin_r3 _ (List.mem_of_getElem? (i := 4) rfl)), List.forall_mem_cons.mpr ⟨(gcX6_begin__X6_begin_r3 _ (List.mem_of_getElem? (i := 5) rfl)), List.forall_mem_cons.mpr ⟨(gcX6_begin__X6_begin_r3 _ (List.mem_of_getElem? (i := 6) rfl)), fun _ h => (List.not_mem_nil h).elim⟩⟩⟩⟩⟩⟩⟩⟩⟩⟩⟩⟩⟩⟩⟩⟩⟩⟩⟩
set_option maxRecDepth 20000 in
theorem gwX6_findLinked : wsX6_findLinked.all goodWord = true := by decide +kernel
set_option maxRecDepth 20000 in
theorem ggX6_begin_X6_findLinked : GoodIn wsX6_begin wsX6_findLinked := goodIn_sub (List.forall_mem_cons.mpr ⟨(gcX6_begin__X6_begin_r1 _ (List.mem_of_getElem? (i := 21) rfl)), List.forall_mem_append.mpr ⟨List.forall_mem_append.mpr ⟨List.forall_mem_append.mpr ⟨List.forall_mem_append.mpr ⟨gmX6_begin__X6_findLinked_r1, gmX6_begin__X6_findLinked_r2⟩, gcX6_begin__X60⟩, gcX6_begin__X80⟩, gcX6_begin__X50⟩⟩) gwX6_findLinked
set_option maxRecDepth 20000 in
theorem gX6_begin_X6_findLinked : GoodIn wsX6_begin (wsV RX6 42 RX6 yX6_findLinked wsX6_findLinked) := goodIn_app (goodIn_sub (List.forall_mem_cons.mpr ⟨(gcX6_begin__X6_begin_r1 _ (List.mem_of_getElem? (i := 18) rfl)), List.forall_mem_cons.mpr ⟨(gcX6_begin__X6_begin_r1 _ (List.mem_of_getElem? (i := 19) rfl)), List.forall_mem_cons.mpr ⟨(gcX6_begin__X6_begin_r1 _ (List.mem_of_getElem? (i := 20) rfl)), List.forall_mem_cons.mpr ⟨(gcX6_begin__X6_begin_r1 _ (List.mem_of_getElem? (i := 6) rfl)), fun _ h => (List.not_mem_nil h).elim⟩⟩⟩⟩) (by decide +kernel)) ggX6_begin_X6_findLinked
set_option maxRecDepth 20000 in
theorem gwX6_findUnstarted : wsX6_findUnstarted.all goodWord = true := by decide +kernel
set_option maxRecDepth 20000 in
theorem ggX6_begin_X6_findUnstarted : GoodIn wsX6_begin wsX6_findUnstarted := goodIn_sub (List.forall_mem_cons.mpr ⟨(gcX6_begin__X6_begin_r3 _ (List.mem_of_getElem? (i := 10) rfl)), List.forall_mem_append.mpr ⟨List.forall_mem_append.mpr ⟨List.forall_mem_cons.mpr ⟨(gcX6_begin__X6_begin_r1 _ (List.mem_of_getElem? (i := 0) rfl)), List.forall_mem_cons.mpr ⟨(gcX6_begin__X6_begin_r1 _ (List.mem_of_getElem? (i := 1) rfl)), List.forall_mem_cons.mpr ⟨(gcX6_begin__X6_begin_r1 _ (List.mem_of_getElem? (i := 2) rfl)), fun _ h => (List.not_mem_nil h).elim⟩⟩⟩, gcX6_begin__X60⟩, gcX6_begin__X80⟩⟩) gwX6_findUnstarted
set_option maxRecDepth 20000 in
theorem gX6_begin_X6_findUnstarted : GoodIn wsX6_begin (wsV RX6 46 RX6 yX6_findUnstarted wsX6_findUnstarted) := goodIn_app (goodIn_sub (List.forall_mem_cons.mpr ⟨(gcX6_begin__X6_begin_r3 _ (List.mem_of_getElem? (i := 7) rfl)), List.forall_mem_cons.mpr ⟨(gcX6_begin__X6_begin_r3 _ (List.mem_of_getElem? (i := 8) rfl)), List.forall_mem_cons.mpr ⟨(gcX6_begin__X6_begin_r3 _ (List.mem_of_getElem? (i := 9) rfl)), List.forall_mem_cons.mpr ⟨(gcX6_begin__X6_begin_r1 _ (List.mem_of_getElem? (i := 6) rfl)), fun _ h => (List.not_mem_nil h).elim⟩⟩⟩⟩) (by decide +kernel)) ggX6_begin_X6_findUnstarted
theorem gcX6_begin__X6_begin_r4 : ∀ w ∈ wsX6_begin_r4, w ∈ wsX6_begin := fun w h => List.mem_cons_of_mem _ (List.mem_append_left _ (List.mem_append_left _ (List.mem_append_left _ (List.mem_append_right _ (List.mem_append_right _ (List.mem_append_right _ (List.mem_append_left _ (h))))))))
set_option maxRecDepth 20000 in
theorem gmX6_begin__X6_startLinked_r1 : ∀ w ∈ wsX6_startLinked_r1, w ∈ wsX6_begin := List.forall_mem_cons.mpr ⟨(gcX6_begin__X6_begin_r1 _ (List.mem_of_getElem? (i := 0) rfl)), List.forall_mem_cons.mpr ⟨(gcX6_begin__X6_begin_r1 _ (List.mem_of_getElem? (i := 13) rfl)), List.forall_mem_cons.mpr ⟨(gcX6_begin__X6_begin_r1 _ (List.mem_of_getElem? (i := 8) rfl)), List.forall_mem_cons.mpr ⟨(gcX6_begin__X6_begin_r1 _ (List.mem_of_getElem? (i := 12) rfl)), List.forall_mem_cons.mpr ⟨(gcX6_begin__X6_begin_r1 _ (List.mem_of_getElem? (i := 9) rfl)), List.forall_mem_cons.mpr ⟨(gcX6_begin__X6_begin_r2 _ (List.mem_of_getElem? (i := 5) rfl)), List.forall_mem_cons.mpr ⟨(gcX6_begin__X6_begin_r3 _ (List.mem_of_getElem? (i := 6) rfl)), List.forall_mem_cons.mpr ⟨(gcX6_begin__X6_begin_r3 _ (List.mem_of_getElem? (i := 15) rfl)), List.forall_mem_cons.mpr ⟨(gcX6_begin__X6_begin_r3 _ (List.mem_of_getElem? (i := 16) rfl)), List.forall_mem_cons.mpr ⟨(gcX6_begin__X6_begin_r3 _ (List.mem_of_getElem? (i := 17) rfl)), List.forall_mem_cons.mpr ⟨(gcX6_begin__X6_begin_r1 _ (List.mem_of_getElem? (i := 6) rfl)), List.forall_mem_cons.mpr ⟨(gcX6_begin__X6_begin_r3 _ (List.mem_of_getElem? (i := 18) rfl)), List.forall_mem_cons.mpr ⟨(gcX6_begin__X6_begin_r1 _ (List.mem_of_getElem? (i := 1) rfl)), List.forall_mem_cons.mpr ⟨(gcX6_begin__X6_begin_r3 _ (List.mem_of_getElem? (i := 19) rfl)), List.forall_mem_cons.mpr ⟨(gcX6_begin__X6_begin_r3 _ (List.mem_of_getElem? (i := 20) rfl)), List.forall_mem_cons.mpr ⟨(gcX6_begin__X6_begin_r3 _ (List.mem_of_getElem? (i := 21) rfl)), List.forall_mem_cons.mpr ⟨(gcX6_begin__X6_begin_r3 _ (List.mem_of_getElem? (i := 22) rfl)), List.forall_mem_cons.mpr ⟨(gcX6_begin__X6_begin_r3 _ (List.mem_of_getElem? (i := 23) rfl)), List.forall_mem_cons.mpr ⟨(gcX6_begin__X6_begin_r4 _ (List.mem_of_getElem? (i := 0) rfl)), List.forall_mem_cons.mpr ⟨(gcX6_begin__X6_begin_r4 _ (List.mem_of_getElem? (i := 1) rfl)), List.forall_mem_cons.mpr ⟨(gcX6_begin__X6_begin_r4 _ (List.mem_of_getElem? (i := 2) rfl)), List.forall_mem_cons.mpr ⟨(gcX6_begin__X6_begin_r4 _ (List.mem_of_getElem? (i := 3) rfl)), List.forall_mem_cons.mpr ⟨(gcX6_begin__X6_begin_r4 _ (List.mem_of_getElem? (i := 4) rfl)), List.forall_mem_cons.mpr ⟨(gcX6_begin__X6_begin_r4 _ (List.mem_of_getElem? (i := 5) rfl)), fun _ h => (List.not_mem_nil h).elim⟩⟩⟩⟩⟩⟩⟩⟩⟩⟩⟩⟩⟩⟩⟩⟩⟩⟩⟩⟩⟩⟩⟩⟩
set_option maxRecDepth 20000 in
theorem gmX6_begin__X6_startLinked_r2 : ∀ w ∈ wsX6_startLinked_r2, w ∈ wsX6_begin := List.forall_mem_cons.mpr ⟨(gcX6_begin__X6_begin_r4 _ (List.mem_of_getElem? (i := 6) rfl)), List.forall_mem_cons.mpr ⟨(gcX6_begin__X6_begin_r4 _ (List.mem_of_getElem? (i := 7) rfl)), List.forall_mem_cons.mpr ⟨(gcX6_begin__X6_begin_r2 _ (List.mem_of_getElem? (i := 21) rfl)), List.forall_mem_cons.mpr ⟨(gcX6_begin__X6_begin_r2 _ (List.mem_of_getElem? (i := 22) rfl)), List.forall_mem_cons.mpr ⟨(gcX6_begin__X6_begin_r2 _ (List.mem_of_getElem? (i := 23) rfl)), List.forall_mem_cons.mpr ⟨(gcX6_begin__X6_begin_r3 _ (List.mem_of_getElem? (i := 0) rfl)), List.forall_mem_cons.mpr ⟨(gcX6_begin__X6_begin_r3 _ (List.mem_of_getElem? (i := 1) rfl)), List.forall_mem_cons.mpr ⟨(gcX6_begin__X6_begin_r4 _ (List.mem_of_getElem? (i := 8) rfl)), List.forall_mem_cons.mpr ⟨(gcX6_begin__X6_begin_r4 _ (List.mem_of_getElem? (i := 9) rfl)), List.forall_mem_cons.mpr ⟨(gcX6_begin__X6_begin_r4 _ (List.mem_of_getElem? (i := 10) rfl)), List.forall_mem_cons.mpr ⟨(gcX6_begin__X6_begin_r2 _ (List.mem_of_getElem? (i := 9) rfl)), List.forall_mem_cons.mpr ⟨(gcX6_begin__X6_begin_r4 _ (List.mem_of_getElem? (i := 11) rfl)), List.forall_mem_cons.mpr ⟨(gcX6_begin__X6_begin_r2 _ (List.mem_of_getElem? (i := 16) rfl)), List.forall_mem_cons.mpr ⟨(gcX6_begin__X6_begin_r2 _ (List.mem_of_getElem? (i := 19) rfl)), List.forall_mem_cons.mpr ⟨(gcX6_begin__X6_begin_r2 _ (List.mem_of_getElem? (i := 17) rfl)), List.forall_mem_cons.mpr ⟨(gcX6_begin__X6_begin_r2 _ (List.mem_of_getElem? (i := 20) rfl)), fun _ h => (List.not_mem_nil h).elim⟩⟩⟩⟩⟩⟩⟩⟩⟩⟩⟩⟩⟩⟩⟩⟩
set_option maxRecDepth 20000 in
theorem gwX6_startLinked : wsX6_startLinked.all goodWord = true := by decide +kernel
set_option maxRecDepth 20000 in
theorem ggX6_begin_X6_startLinked : GoodIn wsX6_begin wsX6_startLinked := goodIn_sub (List.forall_mem_cons.mpr ⟨(gcX6_begin__X6_begin_r3 _ (List.mem_of_getElem? (i := 14) rfl)), List.forall_mem_append.mpr ⟨List.forall_mem_append.mpr ⟨List.forall_mem_append.mpr ⟨List.forall_mem_append.mpr ⟨gmX6_begin__X6_startLinked_r1, gmX6_begin__X6_startLinked_r2⟩, gcX6_begin__X60⟩, gcX6_begin__X80⟩, gcX6_begin__X50⟩⟩) gwX6_startLinked
set_option maxRecDepth 20000 in
theorem gX6_begin_X6_startLinked : GoodIn wsX6_begin (wsV RX6 49 RX6 yX6_startLinked wsX6_startLinked) := goodIn_app (goodIn_sub (List.forall_mem_cons.mpr ⟨(gcX6_begin__X6_begin_r3 _ (List.mem_of_getElem? (i := 11) rfl)), List.forall_mem_cons.mpr ⟨(gcX6_begin__X6_begin_r3 _ (List.mem_of_getElem? (i := 12) rfl)), List.forall_mem_cons.mpr ⟨(gcX6_begin__X6_begin_r3 _ (List.mem_of_getElem? (i := 13) rfl)), List.forall_mem_cons.mpr ⟨(gcX6_begin__X6_begin_r1 _ (List.mem_of_getElem? (i := 6) rfl)), fun _ h => (List.not_mem_nil h).elim⟩⟩⟩⟩) (by decide +kernel)) ggX6_begin_X6_startLinked
set_option maxRecDepth 20000 in
theorem gmX6_begin__X6_putPoints_r1 : ∀ w ∈ wsX6_putPoints_r1, w ∈ wsX6_begin := List.forall_mem_cons.mpr ⟨(gcX6_begin__X6_begin_r1 _ (List.mem_of_getElem? (i := 0) rfl)), List.forall_mem_cons.mpr ⟨(gcX6_begin__X6_begin_r1 _ (List.mem_of_getElem? (i := 1) rfl)), List.forall_mem_cons.mpr ⟨(gcX6_begin__X6_begin_r1 _ (List.mem_of_getElem? (i := 8) rfl)), List.forall_mem_cons.mpr ⟨(gcX6_begin__X6_begin_r1 _ (List.mem_of_getElem? (i := 10) rfl)), List.forall_mem_cons.mpr ⟨(gcX6_begin__X6_begin_r2 _ (List.mem_of_getElem? (i := 4) rfl)), List.forall_mem_cons.mpr ⟨(gcX6_begin__X6_begin_r2 _ (List.mem_of_getElem? (i := 6) rfl)), List.forall_mem_cons.mpr ⟨(gcX6_begin__X6_begin_r2 _ (List.mem_of_getElem? (i := 7) rfl)), List.forall_mem_cons.mpr ⟨(gcX6_begin__X6_begin_r2 _ (List.mem_of_getElem? (i := 8) rfl)), List.forall_mem_cons.mpr ⟨(gcX6_begin__X6_begin_r2 _ (List.mem_of_getElem? (i := 9) rfl)), List.forall_mem_cons.mpr ⟨(gcX6_begin__X6_begin_r2 _ (List.mem_of_getElem? (i := 10) rfl)), List.forall_mem_cons.mpr ⟨(gcX6_begin__X6_begin_r2 _ (List.mem_of_getElem? (i := 11) rfl)), List.forall_mem_cons.mpr ⟨(gcX6_begin__X6_begin_r2 _ (List.mem_of_getElem? (i := 12) rfl)), List.forall_mem_cons.mpr ⟨(gcX6_begin__X6_begin_r2 _ (List.mem_of_getElem? (i := 13) rfl)), List.forall_mem_cons.mpr ⟨(gcX6_begin__X6_begin_r2 _ (List.mem_of_getElem? (i := 14) rfl)), List.forall_mem_cons.mpr ⟨(gcX6_begin__X6_begin_r2 _ (List.mem_of_getElem? (i := 15) rfl)), List.forall_mem_cons.mpr ⟨(gcX6_begin__X6_begin_r2 _ (List.mem_of_getElem? (i := 16) rfl)), List.forall_mem_cons.mpr ⟨(gcX6_begin__X6_begin_r2 _ (List.mem_of_getElem? (i := 17) rfl)), List.forall_mem_cons.mpr ⟨(gcX6_begin__X6_begin_r2 _ (List.mem_of_getElem? (i := 18) rfl)), List.forall_mem_cons.mpr ⟨(gcX6_begin__X6_begin_r2 _ (List.mem_of_getElem? (i := 19) rfl)), List.forall_mem_cons.mpr ⟨(gcX6_begin__X6_begin_r2 _ (List.mem_of_getElem? (i := 20) rfl)), List.forall_mem_cons.mpr ⟨(gcX6_begin__X6_begin_r2 _ (List.mem_of_getElem? (i := 21) rfl)), List.forall_mem_cons.mpr ⟨(gcX6_begin__X6_begin_r2 _ (List.mem_of_getElem? (i := 22) rfl)), List.forall_mem_cons.mpr ⟨(gcX6_begin__X6_begin_r2 _ (List.mem_of_getElem? (i := 23) rfl)), List.forall_mem_cons.mpr ⟨(gcX6_begin__X6_begin_r3 _ (List.mem_of_getElem? (i := 0) rfl)), fun _ h => (List.not_mem_nil h).elim⟩⟩⟩⟩⟩⟩⟩⟩⟩⟩⟩⟩⟩⟩⟩⟩⟩⟩⟩⟩⟩⟩⟩⟩
theorem gcX6_begin__X6_begin_r5 : ∀ w ∈ wsX6_begin_r5, w ∈ wsX6_begin := fun w h => List.mem_cons_of_mem _ (List.mem_append_left _ (List.mem_append_left _ (List.mem_append_left _ (List.mem_append_right _ (List.mem_append_right _ (List.mem_append_right _ (List.mem_append_right _ (h))))))))
set_option maxRecDepth 20000 in
theorem gmX6_begin__X6_putPoints_r2 : ∀ w ∈ wsX6_putPoints_r2, w ∈ wsX6_begin := List.forall_mem_cons.mpr ⟨(gcX6_begin__X6_begin_r3 _ (List.mem_of_getElem? (i := 1) rfl)), List.forall_mem_cons.mpr ⟨(gcX6_begin__X6_begin_r4 _ (List.mem_of_getElem? (i := 16) rfl)), List.forall_mem_cons.mpr ⟨(gcX6_begin__X6_begin_r4 _ (List.mem_of_getElem? (i := 17) rfl)), List.forall_mem_cons.mpr ⟨(gcX6_begin__X6_begin_r4 _ (List.mem_of_getElem? (i := 18) rfl)), List.forall_mem_cons.mpr ⟨(gcX6_begin__X6_begin_r4 _ (List.mem_of_getElem? (i := 19) rfl)), List.forall_mem_cons.mpr ⟨(gcX6_begin__X6_begin_r4 _ (List.mem_of_getElem? (i := 20) rfl)), List.forall_mem_cons.mpr ⟨(gcX6_begin__X6_begin_r4 _ (List.mem_of_getElem? (i := 21) rfl)), List.forall_mem_cons.mpr ⟨(gcX6_begin__X6_begin_r4 _ (List.mem_of_getElem? (i := 22) rfl)), List.forall_mem_cons.mpr ⟨(gcX6_begin__X6_begin_r4 _ (List.mem_of_getElem? (i := 23) rfl)), List.forall_mem_cons.mpr ⟨(gcX6_begin__X6_begin_r5 _ (List.mem_of_getElem? (i := 0) rfl)), List.forall_mem_cons.mpr ⟨(gcX6_begin__X6_begin_r5 _ (List.mem_of_getElem? (i := 1) rfl)), List.forall_mem_cons.mpr ⟨(gcX6_begin__X6_begin_r5 _ (List.mem_of_getElem? (i := 2) rfl)), List.forall_mem_cons.mpr ⟨(gcX6_begin__X6_begin_r5 _ (List.mem_of_getElem? (i := 3) rfl)), List.forall_mem_cons.mpr ⟨(gcX6_begin__X6_begin_r5 _ (List.mem_of_getElem? (i := 4) rfl)), List.forall_mem_cons.mpr ⟨(gcX6_begin__X6_begin_r5 _ (List.mem_of_getElem? (i := 5) rfl)), List.forall_mem_cons.mpr ⟨(gcX6_begin__X6_begin_r5 _ (List.mem_of_getElem? (i := 6) rfl)), List.forall_mem_cons.mpr ⟨(gcX6_begin__X6_begin_r5 _ (List.mem_of_getElem? (i := 7) rfl)), List.forall_mem_cons.mpr ⟨(gcX6_begin__X6_begin_r5 _ (List.mem_of_getElem? (i := 8) rfl)), fun _ h => (List.not_mem_nil h).elim⟩⟩⟩⟩⟩⟩⟩⟩⟩⟩⟩⟩⟩⟩⟩⟩⟩⟩
set_option maxRecDepth 20000 in
theorem gwX6_putPoints : wsX6_putPoints.all goodWord = true := by decide +kernel
set_option maxRecDepth 20000 in
theorem ggX6_begin_X6_putPoints : GoodIn wsX6_begin wsX6_putPoints := goodIn_sub (List.forall_mem_cons.mpr ⟨(gcX6_begin__X6_begin_r4 _ (List.mem_of_getElem? (i := 15) rfl)), List.forall_mem_append.mpr ⟨List.forall_mem_append.mpr ⟨List.forall_mem_append.mpr ⟨List.forall_mem_append.mpr ⟨gmX6_begin__X6_putPoints_r1, gmX6_begin__X6_putPoints_r2⟩, gcX6_begin__X60⟩, gcX6_begin__X80⟩, gcX6_begin__X50⟩⟩) gwX6_putPoints
set_option maxRecDepth 20000 in
theorem gX6_begin_X6_putPoints : GoodIn wsX6_begin (wsV RX6 53 RX6 yX6_putPoints wsX6_putPoints) := goodIn_app (goodIn_sub (List.forall_mem_cons.mpr ⟨(gcX6_begin__X6_begin_r4 _ (List.mem_of_getElem? (i := 12) rfl)), List.forall_mem_cons.mpr ⟨(gcX6_begin__X6_begin_r4 _ (List.mem_of_getElem? (i := 13) rfl)), List.forall_mem_cons.mpr ⟨(gcX6_begin__X6_begin_r4 _ (List.mem_of_getElem? (i := 14) rfl)), List.forall_mem_cons.mpr ⟨(gcX6_begin__X6_begin_r1 _ (List.mem_of_getElem? (i := 6) rfl)), fun _ h => (List.not_mem_nil h).elim⟩⟩⟩⟩) (by decide +kernel)) ggX6_begin_X6_putPoints
theorem dX6_begin_0 : decode cX6_begin 0 = .ok (.aload_n 0, 1) := by decide +kernel
theorem dX6_begin_1 : decode cX6_begin 1 = .ok (.invokevirtual 34, 3) := by decide +kernel
theorem dX6_begin_4 : decode cX6_begin 4 = .ok (.iconst 0, 1) := by decide +kernel
theorem dX6_begin_5 : decode cX6_begin 5 = .ok (.istore_n 1, 1) := by decide +kernel
theorem dX6_begin_6 : decode cX6_begin 6 = .ok (.iconst 0, 1) := by decide +kernel
theorem dX6_begin_7 : decode cX6_begin 7 = .ok (.istore_n 2, 1) := by decide +kernel
theorem dX6_begin_8 : decode cX6_begin 8 = .ok (.iload_n 2, 1) := by decide +kernel
theorem dX6_begin_9 : decode cX6_begin 9 = .ok (.aload_n 0, 1) := by decide +kernel
theorem dX6_begin_10 : decode cX6_begin 10 = .ok (.getfield 26, 3) := by decide +kernel
theorem dX6_begin_13 : decode cX6_begin 13 = .ok (.getfield 37, 3) := by decide +kernel
theorem dX6_begin_16 : decode cX6_begin 16 = .ok (.iconst 1, 1) := by decide +kernel
theorem dX6_begin_17 : decode cX6_begin 17 = .ok (.iaload, 1) := by decide +kernel
theorem dX6_begin_18 : decode cX6_begin 18 = .ok (.if_icmp .ge 47, 3) := by decide +kernel
theorem dX6_begin_21 : decode cX6_begin 21 = .ok (.aload_n 0, 1) := by decide +kernel
theorem dX6_begin_22 : decode cX6_begin 22 = .ok (.invokevirtual 42, 3) := by decide +kernel
theorem dX6_begin_25 : decode cX6_begin 25 = .ok (.istore_n 3, 1) := by decide +kernel
theorem dX6_begin_26 : decode cX6_begin 26 = .ok (.iload_n 3, 1) := by decide +kernel
theorem dX6_begin_27 : decode cX6_begin 27 = .ok (.iconst (-1), 1) := by decide +kernel
theorem dX6_begin_28 : decode cX6_begin 28 = .ok (.if_icmp .ne 14, 3) := by decide +kernel
theorem dX6_begin_31 : decode cX6_begin 31 = .ok (.aload_n 0, 1) := by decide +kernel
theorem dX6_begin_32 : decode cX6_begin 32 = .ok (.invokevirtual 46, 3) := by decide +kernel
theorem dX6_begin_35 : decode cX6_begin 35 = .ok (.istore_n 3, 1) := by decide +kernel
theorem dX6_begin_36 : decode cX6_begin 36 = .ok (.iinc 1 1, 3) := by decide +kernel
theorem dX6_begin_39 : decode cX6_begin 39 = .ok (.goto 8, 3) := by decide +kernel
theorem dX6_begin_42 : decode cX6_begin 42 = .ok (.aload_n 0, 1) := by decide +kernel
theorem dX6_begin_43 : decode cX6_begin 43 = .ok (.iload_n 3, 1) := by decide +kernel
theorem dX6_begin_44 : decode cX6_begin 44 = .ok (.invokevirtual 49, 3) := by decide +kernel
theorem dX6_begin_47 : decode cX6_begin 47 = .ok (.iload_n 3, 1) := by decide +kernel
theorem dX6_begin_48 : decode cX6_begin 48 = .ok (.iconst (-1), 1) := by decide +kernel
theorem dX6_begin_49 : decode cX6_begin 49 = .ok (.if_icmp .eq 10, 3) := by decide +kernel
theorem dX6_begin_52 : decode cX6_begin 52 = .ok (.aload_n 0, 1) := by decide +kernel
theorem dX6_begin_53 : decode cX6_begin 53 = .ok (.getfield 9, 3) := by decide +kernel
theorem dX6_begin_56 : decode cX6_begin 56 = .ok (.iload_n 3, 1) := by decide +kernel
theorem dX6_begin_57 : decode cX6_begin 57 = .ok (.iconst 1, 1) := by decide +kernel
theorem dX6_begin_58 : decode cX6_begin 58 = .ok (.iastore, 1) := by decide +kernel
theorem dX6_begin_59 : decode cX6_begin 59 = .ok (.iinc 2 1, 3) := by decide +kernel
theorem dX6_begin_62 : decode cX6_begin 62 = .ok (.goto (-54), 3) := by decide +kernel
theorem dX6_begin_65 : decode cX6_begin 65 = .ok (.aload_n 0, 1) := by decide +kernel
theorem dX6_begin_66 : decode cX6_begin 66 = .ok (.invokevirtual 53, 3) := by decide +kernel
theorem dX6_begin_69 : decode cX6_begin 69 = .ok (.iload_n 1, 1) := by decide +kernel
theorem dX6_begin_70 : decode cX6_begin 70 = .ok (.ireturn, 1) := by decide +kernel
set_option maxRecDepth 20000 in
theorem ggX6_reset_J7_fill_53178 : GoodIn wsX6_reset wsJ7_fill_53178 := goodIn_sub (List.forall_mem_cons.mpr ⟨(List.mem_of_getElem? (i := 13) rfl), fun _ h => (List.not_mem_nil h).elim⟩) gwJ7_fill_53178
set_option maxRecDepth 20000 in
theorem gX6_reset_J7_fill_53178 : GoodIn wsX6_reset (va_wsS RX6 56 yJ7_fill_53178 wsJ7_fill_53178) := goodIn_app (goodIn_sub (List.forall_mem_cons.mpr ⟨(List.mem_of_getElem? (i := 10) rfl), List.forall_mem_cons.mpr ⟨(List.mem_of_getElem? (i := 11) rfl), List.forall_mem_cons.mpr ⟨(List.mem_of_getElem? (i := 12) rfl), fun _ h => (List.not_mem_nil h).elim⟩⟩⟩) (by decide +kernel)) ggX6_reset_J7_fill_53178
theorem dX6_reset_0 : decode cX6_reset 0 = .ok (.aload_n 0, 1) := by decide +kernel
theorem dX6_reset_1 : decode cX6_reset 1 = .ok (.getfield 9, 3) := by decide +kernel
theorem dX6_reset_4 : decode cX6_reset 4 = .ok (.iconst 0, 1) := by decide +kernel
theorem dX6_reset_5 : decode cX6_reset 5 = .ok (.invokestatic 56, 3) := by decide +kernel
theorem dX6_reset_8 : decode cX6_reset 8 = .ok (.iconst 0, 1) := by decide +kernel
theorem dX6_reset_9 : decode cX6_reset 9 = .ok (.istore_n 1, 1) := by decide +kernel
theorem dX6_reset_10 : decode cX6_reset 10 = .ok (.iload_n 1, 1) := by decide +kernel
theorem dX6_reset_11 : decode cX6_reset 11 = .ok (.iconst 2, 1) := by decide +kernel
theorem dX6_reset_12 : decode cX6_reset 12 = .ok (.if_icmp .ge 48, 3) := by decide +kernel
theorem dX6_reset_15 : decode cX6_reset 15 = .ok (.aload_n 0, 1) := by decide +kernel
theorem dX6_reset_16 : decode cX6_reset 16 = .ok (.getfield 30, 3) := by decide +kernel
theorem dX6_reset_19 : decode cX6_reset 19 = .ok (.getfield 62, 3) := by decide +kernel
theorem dX6_reset_22 : decode cX6_reset 22 = .ok (.iload_n 1, 1) := by decide +kernel
theorem dX6_reset_23 : decode cX6_reset 23 = .ok (.aaload, 1) := by decide +kernel
theorem dX6_reset_24 : decode cX6_reset 24 = .ok (.iconst 0, 1) := by decide +kernel
theorem dX6_reset_25 : decode cX6_reset 25 = .ok (.invokestatic 56, 3) := by decide +kernel
theorem dX6_reset_28 : decode cX6_reset 28 = .ok (.aload_n 0, 1) := by decide +kernel
theorem dX6_reset_29 : decode cX6_reset 29 = .ok (.getfield 30, 3) := by decide +kernel
theorem dX6_reset_32 : decode cX6_reset 32 = .ok (.getfield 67, 3) := by decide +kernel
theorem dX6_reset_35 : decode cX6_reset 35 = .ok (.iload_n 1, 1) := by decide +kernel
theorem dX6_reset_36 : decode cX6_reset 36 = .ok (.aaload, 1) := by decide +kernel
theorem dX6_reset_37 : decode cX6_reset 37 = .ok (.iconst 0, 1) := by decide +kernel
theorem dX6_reset_38 : decode cX6_reset 38 = .ok (.invokestatic 56, 3) := by decide +kernel
theorem dX6_reset_41 : decode cX6_reset 41 = .ok (.aload_n 0, 1) := by decide +kernel
theorem dX6_reset_42 : decode cX6_reset 42 = .ok (.getfield 30, 3) := by decide +kernel
theorem dX6_reset_45 : decode cX6_reset 45 = .ok (.getfield 70, 3) := by decide +kernel
theorem dX6_reset_48 : decode cX6_reset 48 = .ok (.iload_n 1, 1) := by decide +kernel
theorem dX6_reset_49 : decode cX6_reset 49 = .ok (.aaload, 1) := by decide +kernel
theorem dX6_reset_50 : decode cX6_reset 50 = .ok (.iconst 0, 1) := by decide +kernel
theorem dX6_reset_51 : decode cX6_reset 51 = .ok (.invokestatic 56, 3) := by decide +kernel
theorem dX6_reset_54 : decode cX6_reset 54 = .ok (.iinc 1 1, 3) := by decide +kernel
theorem dX6_reset_57 : decode cX6_reset 57 = .ok (.goto (-47), 3) := by decide +kernel
theorem dX6_reset_60 : decode cX6_reset 60 = .ok (.iconst 0, 1) := by decide +kernel
theorem dX6_reset_61 : decode cX6_reset 61 = .ok (.istore_n 1, 1) := by decide +kernel
theorem dX6_reset_62 : decode cX6_reset 62 = .ok (.iload_n 1, 1) := by decide +kernel
theorem dX6_reset_63 : decode cX6_reset 63 = .ok (.aload_n 0, 1) := by decide +kernel
theorem dX6_reset_64 : decode cX6_reset 64 = .ok (.getfield 26, 3) := by decide +kernel
theorem dX6_reset_67 : decode cX6_reset 67 = .ok (.getfield 37, 3) := by decide +kernel
theorem dX6_reset_70 : decode cX6_reset 70 = .ok (.iconst 1, 1) := by decide +kernel
theorem dX6_reset_71 : decode cX6_reset 71 = .ok (.iaload, 1) := by decide +kernel
theorem dX6_reset_72 : decode cX6_reset 72 = .ok (.if_icmp .ge 44, 3) := by decide +kernel
theorem dX6_reset_75 : decode cX6_reset 75 = .ok (.aload_n 0, 1) := by decide +kernel
theorem dX6_reset_76 : decode cX6_reset 76 = .ok (.getfield 30, 3) := by decide +kernel
theorem dX6_reset_79 : decode cX6_reset 79 = .ok (.getfield 73, 3) := by decide +kernel
theorem dX6_reset_82 : decode cX6_reset 82 = .ok (.iload_n 1, 1) := by decide +kernel
theorem dX6_reset_83 : decode cX6_reset 83 = .ok (.aload_n 0, 1) := by decide +kernel
theorem dX6_reset_84 : decode cX6_reset 84 = .ok (.getfield 26, 3) := by decide +kernel
theorem dX6_reset_87 : decode cX6_reset 87 = .ok (.getfield 76, 3) := by decide +kernel
theorem dX6_reset_90 : decode cX6_reset 90 = .ok (.iload_n 1, 1) := by decide +kernel
theorem dX6_reset_91 : decode cX6_reset 91 = .ok (.iaload, 1) := by decide +kernel
theorem dX6_reset_92 : decode cX6_reset 92 = .ok (.iconst 4, 1) := by decide +kernel
theorem dX6_reset_93 : decode cX6_reset 93 = .ok (.if_icmp .ne 7, 3) := by decide +kernel
theorem dX6_reset_96 : decode cX6_reset 96 = .ok (.iconst 0, 1) := by decide +kernel
theorem dX6_reset_97 : decode cX6_reset 97 = .ok (.goto 12, 3) := by decide +kernel
theorem dX6_reset_100 : decode cX6_reset 100 = .ok (.aload_n 0, 1) := by decide +kernel
theorem dX6_reset_101 : decode cX6_reset 101 = .ok (.getfield 26, 3) := by decide +kernel
theorem dX6_reset_104 : decode cX6_reset 104 = .ok (.getfield 76, 3) := by decide +kernel
theorem dX6_reset_107 : decode cX6_reset 107 = .ok (.iload_n 1, 1) := by decide +kernel
theorem dX6_reset_108 : decode cX6_reset 108 = .ok (.iaload, 1) := by decide +kernel
theorem dX6_reset_109 : decode cX6_reset 109 = .ok (.iastore, 1) := by decide +kernel
theorem dX6_reset_110 : decode cX6_reset 110 = .ok (.iinc 1 1, 3) := by decide +kernel
theorem dX6_reset_113 : decode cX6_reset 113 = .ok (.goto (-51), 3) := by decide +kernel
theorem dX6_reset_116 : decode cX6_reset 116 = .ok (.return_, 1) := by decide +kernel
theorem gcX6_findLinked__X6_findLinked_r1 : ∀ w ∈ wsX6_findLinked_r1, w ∈ wsX6_findLinked := fun w h => List.mem_cons_of_mem _ (List.mem_append_left _ (List.mem_append_left _ (List.mem_append_left _ (List.mem_append_left _ (h)))))
theorem gcX6_findLinked__X6_findLinked_r2 : ∀ w ∈ wsX6_findLinked_r2, w ∈ wsX6_findLinked := fun w h => List.mem_cons_of_mem _ (List.mem_append_left _ (List.mem_append_left _ (List.mem_append_left _ (List.mem_append_right _ (h)))))
set_option maxRecDepth 20000 in
theorem gmX6_findLinked__X6_gatherStarted_r1 : ∀ w ∈ wsX6_gatherStarted_r1, w ∈ wsX6_findLinked := List.forall_mem_cons.mpr ⟨(gcX6_findLinked__X6_findLinked_r1 _ (List.mem_of_getElem? (i := 9) rfl)), List.forall_mem_cons.mpr ⟨(gcX6_findLinked__X6_findLinked_r1 _ (List.mem_of_getElem? (i := 0) rfl)), List.forall_mem_cons.mpr ⟨(gcX6_findLinked__X6_findLinked_r1 _ (List.mem_of_getElem? (i := 1) rfl)), List.forall_mem_cons.mpr ⟨(gcX6_findLinked__X6_findLinked_r1 _ (List.mem_of_getElem? (i := 10) rfl)), List.forall_mem_cons.mpr ⟨(gcX6_findLinked__X6_findLinked_r1 _ (List.mem_of_getElem? (i := 2) rfl)), List.forall_mem_cons.mpr ⟨(gcX6_findLinked__X6_findLinked_r1 _ (List.mem_of_getElem? (i := 11) rfl)), List.forall_mem_cons.mpr ⟨(gcX6_findLinked__X6_findLinked_r1 _ (List.mem_of_getElem? (i := 12) rfl)), List.forall_mem_cons.mpr ⟨(gcX6_findLinked__X6_findLinked_r1 _ (List.mem_of_getElem? (i := 13) rfl)), List.forall_mem_cons.mpr ⟨(gcX6_findLinked__X6_findLinked_r1 _ (List.mem_of_getElem? (i := 14) rfl)), List.forall_mem_cons.mpr ⟨(gcX6_findLinked__X6_findLinked_r1 _ (List.mem_of_getElem? (i := 15) rfl)), List.forall_mem_cons.mpr ⟨(gcX6_findLinked__X6_findLinked_r1 _ (List.mem_of_getElem? (i := 16) rfl)), List.forall_mem_cons.mpr ⟨(gcX6_findLinked__X6_findLinked_r1 _ (List.mem_of_getElem? (i := 17) rfl)), List.forall_mem_cons.mpr ⟨(gcX6_findLinked__X6_findLinked_r1 _ (List.mem_of_getElem? (i := 18) rfl)), List.forall_mem_cons.mpr ⟨(gcX6_findLinked__X6_findLinked_r1 _ (List.mem_of_getElem? (i := 19) rfl)), List.forall_mem_cons.mpr ⟨(gcX6_findLinked__X6_findLinked_r1 _ (List.mem_of_getElem? (i := 20) rfl)), List.forall_mem_cons.mpr ⟨(gcX6_findLinked__X6_findLinked_r1 _ (List.mem_of_getElem? (i := 21) rfl)), List.forall_mem_cons.mpr ⟨(gcX6_findLinked__X6_findLinked_r1 _ (List.mem_of_getElem? (i := 22) rfl)), List.forall_mem_cons.mpr ⟨(gcX6_findLinked__X6_findLinked_r1 _ (List.mem_of_getElem? (i := 23) rfl)), List.forall_mem_cons.mpr ⟨(gcX6_findLinked__X6_findLinked_r2 _ (List.mem_of_getElem? (i := 0) rfl)), List.forall_mem_cons.mpr ⟨(gcX6_findLinked__X6_findLinked_r2 _ (List.mem_of_getElem? (i := 1) rfl)), List.forall_mem_cons.mpr ⟨(gcX6_findLinked__X6_findLinked_r2 _ (List.mem_of_getElem? (i := 2) rfl)), List.forall_mem_cons.mpr ⟨(gcX6_findLinked__X6_findLinked_r2 _ (List.mem_of_getElem? (i := 3) rfl)), List.forall_mem_cons.mpr ⟨(gcX6_findLinked__X6_findLinked_r2 _ (List.mem_of_getElem? (i := 4) rfl)), List.forall_mem_cons.mpr ⟨(gcX6_findLinked__X6_findLinked_r2 _ (List.mem_of_getElem? (i := 5) rfl)), fun _ h => (List.not_mem_nil h).elim⟩⟩⟩⟩⟩⟩⟩⟩⟩⟩⟩⟩⟩⟩⟩⟩⟩⟩⟩⟩⟩⟩⟩⟩
set_option maxRecDepth 20000 in
theorem gmX6_findLinked__X6_gatherStarted_r2 : ∀ w ∈ wsX6_gatherStarted_r2, w ∈ wsX6_findLinked := List.forall_mem_cons.mpr ⟨(gcX6_findLinked__X6_findLinked_r2 _ (List.mem_of_getElem? (i := 6) rfl)), List.forall_mem_cons.mpr ⟨(gcX6_findLinked__X6_findLinked_r2 _ (List.mem_of_getElem? (i := 7) rfl)), List.forall_mem_cons.mpr ⟨(gcX6_findLinked__X6_findLinked_r2 _ (List.mem_of_getElem? (i := 8) rfl)), List.forall_mem_cons.mpr ⟨(gcX6_findLinked__X6_findLinked_r2 _ (List.mem_of_getElem? (i := 9) rfl)), List.forall_mem_cons.mpr ⟨(gcX6_findLinked__X6_findLinked_r2 _ (List.mem_of_getElem? (i := 10) rfl)), List.forall_mem_cons.mpr ⟨(gcX6_findLinked__X6_findLinked_r2 _ (List.mem_of_getElem? (i := 11) rfl)), List.forall_mem_cons.mpr ⟨(gcX6_findLinked__X6_findLinked_r2 _ (List.mem_of_getElem? (i := 12) rfl)), List.forall_mem_cons.mpr ⟨(gcX6_findLinked__X6_findLinked_r2 _ (List.mem_of_getElem? (i := 13) rfl)), fun _ h => (List.not_mem_nil h).elim⟩⟩⟩⟩⟩⟩⟩⟩
theorem gcX6_findLinked__X60 : ∀ w ∈ wsX60, w ∈ wsX6_findLinked := fun w h => List.mem_cons_of_mem _ (List.mem_append_left _ (List.mem_append_left _ (List.mem_append_right _ (h))))
theorem gcX6_findLinked__X80 : ∀ w ∈ wsX80, w ∈ wsX6_findLinked := fun w h => List.mem_cons_of_mem _ (List.mem_append_left _ (List.mem_append_right _ (h)))
theorem gcX6_findLinked__X50 : ∀ w ∈ wsX50, w ∈ wsX6_findLinked := fun w h => List.mem_cons_of_mem _ (List.mem_append_right _ (h))
set_option maxRecDepth 20000 in
theorem gwX6_gatherStarted : wsX6_gatherStarted.all goodWord = true := by decide +kernel
set_option maxRecDepth 20000 in
theorem ggX6_findLinked_X6_gatherStarted : GoodIn wsX6_findLinked wsX6_gatherStarted := goodIn_sub (List.forall_mem_cons.mpr ⟨(gcX6_findLinked__X6_findLinked_r1 _ (List.mem_of_getElem? (i := 8) rfl)), List.forall_mem_append.mpr ⟨List.forall_mem_append.mpr ⟨List.forall_mem_append.mpr ⟨List.forall_mem_append.mpr ⟨gmX6_findLinked__X6_gatherStarted_r1, gmX6_findLinked__X6_gatherStarted_r2⟩, gcX6_findLinked__X60⟩, gcX6_findLinked__X80⟩, gcX6_findLinked__X50⟩⟩) gwX6_gatherStarted
set_option maxRecDepth 20000 in
theorem gX6_findLinked_X6_gatherStarted : GoodIn wsX6_findLinked (wsV RX6 77 RX6 yX6_gatherStarted wsX6_gatherStarted) := goodIn_app (goodIn_sub (List.forall_mem_cons.mpr ⟨(gcX6_findLinked__X6_findLinked_r1 _ (List.mem_of_getElem? (i := 4) rfl)), List.forall_mem_cons.mpr ⟨(gcX6_findLinked__X6_findLinked_r1 _ (List.mem_of_getElem? (i := 5) rfl)), List.forall_mem_cons.mpr ⟨(gcX6_findLinked__X6_findLinked_r1 _ (List.mem_of_getElem? (i := 6) rfl)), List.forall_mem_cons.mpr ⟨(gcX6_findLinked__X6_findLinked_r1 _ (List.mem_of_getElem? (i := 7) rfl)), fun _ h => (List.not_mem_nil h).elim⟩⟩⟩⟩) (by decide +kernel)) ggX6_findLinked_X6_gatherStarted
set_option maxRecDepth 20000 in
theorem gwX6_gatherOwn : wsX6_gatherOwn.all goodWord = true := by decide +kernel
set_option maxRecDepth 20000 in
theorem ggX6_findLinked_X6_gatherOwn : GoodIn wsX6_findLinked wsX6_gatherOwn := goodIn_sub (List.forall_mem_cons.mpr ⟨(gcX6_findLinked__X6_findLinked_r2 _ (List.mem_of_getElem? (i := 17) rfl)), List.forall_mem_append.mpr ⟨List.forall_mem_append.mpr ⟨List.forall_mem_append.mpr ⟨List.forall_mem_cons.mpr ⟨(gcX6_findLinked__X6_findLinked_r2 _ (List.mem_of_getElem? (i := 18) rfl)), List.forall_mem_cons.mpr ⟨(gcX6_findLinked__X6_findLinked_r1 _ (List.mem_of_getElem? (i := 0) rfl)), List.forall_mem_cons.mpr ⟨(gcX6_findLinked__X6_findLinked_r1 _ (List.mem_of_getElem? (i := 1) rfl)), List.forall_mem_cons.mpr ⟨(gcX6_findLinked__X6_findLinked_r1 _ (List.mem_of_getElem? (i := 12) rfl)), List.forall_mem_cons.mpr ⟨(gcX6_findLinked__X6_findLinked_r1 _ (List.mem_of_getElem? (i := 10) rfl)), List.forall_mem_cons.mpr ⟨(gcX6_findLinked__X6_findLinked_r1 _ (List.mem_of_getElem? (i := 11) rfl)), List.forall_mem_cons.mpr ⟨(gcX6_findLinked__X6_findLinked_r1 _ (List.mem_of_getElem? (i := 9) rfl)), List.forall_mem_cons.mpr ⟨(gcX6_findLinked__X6_findLinked_r1 _ (List.mem_of_getElem? (i := 14) rfl)), List.forall_mem_cons.mpr ⟨(gcX6_findLinked__X6_findLinked_r1 _ (List.mem_of_getElem? (i := 15) rfl)), List.forall_mem_cons.mpr ⟨(gcX6_findLinked__X6_findLinked_r1 _ (List.mem_of_getElem? (i := 16) rfl)), List.forall_mem_cons.mpr ⟨(gcX6_findLinked__X6_findLinked_r1 _ (List.mem_of_getElem? (i := 17) rfl)), List.forall_mem_cons.mpr ⟨(gcX6_findLinked__X6_findLinked_r1 _ (List.mem_of_getElem? (i := 18) rfl)), List.forall_mem_cons.mpr ⟨(gcX6_findLinked__X6_findLinked_r1 _ (List.mem_of_getElem? (i := 19) rfl)), List.forall_mem_cons.mpr ⟨(gcX6_findLinked__X6_findLinked_r1 _ (List.mem_of_getElem? (i := 20) rfl)), List.forall_mem_cons.mpr ⟨(gcX6_findLinked__X6_findLinked_r1 _ (List.mem_of_getElem? (i := 21) rfl)), List.forall_mem_cons.mpr ⟨(gcX6_findLinked__X6_findLinked_r1 _ (List.mem_of_getElem? (i := 22) rfl)), List.forall_mem_cons.mpr ⟨(gcX6_findLinked__X6_findLinked_r1 _ (List.mem_of_getElem? (i := 23) rfl)), fun _ h => (List.not_mem_nil h).elim⟩⟩⟩⟩⟩⟩⟩⟩⟩⟩⟩⟩⟩⟩⟩⟩⟩, gcX6_findLinked__X60⟩, gcX6_findLinked__X80⟩, gcX6_findLinked__X50⟩⟩) gwX6_gatherOwn
set_option maxRecDepth 20000 in
theorem gX6_findLinked_X6_gatherOwn : GoodIn wsX6_findLinked (wsV RX6 80 RX6 yX6_gatherOwn wsX6_gatherOwn) := goodIn_app (goodIn_sub (List.forall_mem_cons.mpr ⟨(gcX6_findLinked__X6_findLinked_r2 _ (List.mem_of_getElem? (i := 14) rfl)), List.forall_mem_cons.mpr ⟨(gcX6_findLinked__X6_findLinked_r2 _ (List.mem_of_getElem? (i := 15) rfl)), List.forall_mem_cons.mpr ⟨(gcX6_findLinked__X6_findLinked_r2 _ (List.mem_of_getElem? (i := 16) rfl)), List.forall_mem_cons.mpr ⟨(gcX6_findLinked__X6_findLinked_r1 _ (List.mem_of_getElem? (i := 7) rfl)), fun _ h => (List.not_mem_nil h).elim⟩⟩⟩⟩) (by decide +kernel)) ggX6_findLinked_X6_gatherOwn
theorem dX6_findLinked_0 : decode cX6_findLinked 0 = .ok (.aload_n 0, 1) := by decide +kernel
theorem dX6_findLinked_1 : decode cX6_findLinked 1 = .ok (.invokevirtual 77, 3) := by decide +kernel
theorem dX6_findLinked_4 : decode cX6_findLinked 4 = .ok (.iconst 0, 1) := by decide +kernel
theorem dX6_findLinked_5 : decode cX6_findLinked 5 = .ok (.istore_n 1, 1) := by decide +kernel
theorem dX6_findLinked_6 : decode cX6_findLinked 6 = .ok (.iload_n 1, 1) := by decide +kernel
theorem dX6_findLinked_7 : decode cX6_findLinked 7 = .ok (.aload_n 0, 1) := by decide +kernel
theorem dX6_findLinked_8 : decode cX6_findLinked 8 = .ok (.getfield 26, 3) := by decide +kernel
theorem dX6_findLinked_11 : decode cX6_findLinked 11 = .ok (.getfield 37, 3) := by decide +kernel
theorem dX6_findLinked_14 : decode cX6_findLinked 14 = .ok (.iconst 1, 1) := by decide +kernel
theorem dX6_findLinked_15 : decode cX6_findLinked 15 = .ok (.iaload, 1) := by decide +kernel
theorem dX6_findLinked_16 : decode cX6_findLinked 16 = .ok (.if_icmp .ge 52, 3) := by decide +kernel
theorem dX6_findLinked_19 : decode cX6_findLinked 19 = .ok (.aload_n 0, 1) := by decide +kernel
theorem dX6_findLinked_20 : decode cX6_findLinked 20 = .ok (.getfield 9, 3) := by decide +kernel
theorem dX6_findLinked_23 : decode cX6_findLinked 23 = .ok (.iload_n 1, 1) := by decide +kernel
theorem dX6_findLinked_24 : decode cX6_findLinked 24 = .ok (.iaload, 1) := by decide +kernel
theorem dX6_findLinked_25 : decode cX6_findLinked 25 = .ok (.iconst 1, 1) := by decide +kernel
theorem dX6_findLinked_26 : decode cX6_findLinked 26 = .ok (.if_icmp .ne 6, 3) := by decide +kernel
theorem dX6_findLinked_29 : decode cX6_findLinked 29 = .ok (.goto 33, 3) := by decide +kernel
theorem dX6_findLinked_32 : decode cX6_findLinked 32 = .ok (.aload_n 0, 1) := by decide +kernel
theorem dX6_findLinked_33 : decode cX6_findLinked 33 = .ok (.iload_n 1, 1) := by decide +kernel
theorem dX6_findLinked_34 : decode cX6_findLinked 34 = .ok (.invokevirtual 80, 3) := by decide +kernel
theorem dX6_findLinked_37 : decode cX6_findLinked 37 = .ok (.istore_n 2, 1) := by decide +kernel
theorem dX6_findLinked_38 : decode cX6_findLinked 38 = .ok (.iload_n 2, 1) := by decide +kernel
theorem dX6_findLinked_39 : decode cX6_findLinked 39 = .ok (.aload_n 0, 1) := by decide +kernel
theorem dX6_findLinked_40 : decode cX6_findLinked 40 = .ok (.getfield 26, 3) := by decide +kernel
theorem dX6_findLinked_43 : decode cX6_findLinked 43 = .ok (.getfield 76, 3) := by decide +kernel
theorem dX6_findLinked_46 : decode cX6_findLinked 46 = .ok (.iload_n 1, 1) := by decide +kernel
theorem dX6_findLinked_47 : decode cX6_findLinked 47 = .ok (.iaload, 1) := by decide +kernel
theorem dX6_findLinked_48 : decode cX6_findLinked 48 = .ok (.iconst 4, 1) := by decide +kernel
theorem dX6_findLinked_49 : decode cX6_findLinked 49 = .ok (.if_icmp .ne 7, 3) := by decide +kernel
theorem dX6_findLinked_52 : decode cX6_findLinked 52 = .ok (.iconst 2, 1) := by decide +kernel
theorem dX6_findLinked_53 : decode cX6_findLinked 53 = .ok (.goto 4, 3) := by decide +kernel
theorem dX6_findLinked_56 : decode cX6_findLinked 56 = .ok (.iconst 1, 1) := by decide +kernel
theorem dX6_findLinked_57 : decode cX6_findLinked 57 = .ok (.if_icmp .lt 5, 3) := by decide +kernel
theorem dX6_findLinked_60 : decode cX6_findLinked 60 = .ok (.iload_n 1, 1) := by decide +kernel
theorem dX6_findLinked_61 : decode cX6_findLinked 61 = .ok (.ireturn, 1) := by decide +kernel
theorem dX6_findLinked_62 : decode cX6_findLinked 62 = .ok (.iinc 1 1, 3) := by decide +kernel
theorem dX6_findLinked_65 : decode cX6_findLinked 65 = .ok (.goto (-59), 3) := by decide +kernel
theorem dX6_findLinked_68 : decode cX6_findLinked 68 = .ok (.iconst (-1), 1) := by decide +kernel
theorem dX6_findLinked_69 : decode cX6_findLinked 69 = .ok (.ireturn, 1) := by decide +kernel
theorem gcX6_gatherStarted__X6_gatherStarted_r1 : ∀ w ∈ wsX6_gatherStarted_r1, w ∈ wsX6_gatherStarted := fun w h => List.mem_cons_of_mem _ (List.mem_append_left _ (List.mem_append_left _ (List.mem_append_left _ (List.mem_append_left _ (h)))))
set_option maxRecDepth 20000 in
theorem ggX6_gatherStarted_J7_fill_53178 : GoodIn wsX6_gatherStarted wsJ7_fill_53178 := goodIn_sub (List.forall_mem_cons.mpr ⟨(gcX6_gatherStarted__X6_gatherStarted_r1 _ (List.mem_of_getElem? (i := 11) rfl)), fun _ h => (List.not_mem_nil h).elim⟩) gwJ7_fill_53178
set_option maxRecDepth 20000 in
theorem gX6_gatherStarted_J7_fill_53178 : GoodIn wsX6_gatherStarted (va_wsS RX6 56 yJ7_fill_53178 wsJ7_fill_53178) := goodIn_app (goodIn_sub (List.forall_mem_cons.mpr ⟨(gcX6_gatherStarted__X6_gatherStarted_r1 _ (List.mem_of_getElem? (i := 8) rfl)), List.forall_mem_cons.mpr ⟨(gcX6_gatherStarted__X6_gatherStarted_r1 _ (List.mem_of_getElem? (i := 9) rfl)), List.forall_mem_cons.mpr ⟨(gcX6_gatherStarted__X6_gatherStarted_r1 _ (List.mem_of_getElem? (i := 10) rfl)), fun _ h => (List.not_mem_nil h).elim⟩⟩⟩) (by decide +kernel)) ggX6_gatherStarted_J7_fill_53178
theorem gcX6_gatherStarted__X50 : ∀ w ∈ wsX50, w ∈ wsX6_gatherStarted := fun w h => List.mem_cons_of_mem _ (List.mem_append_right _ (h))
set_option maxRecDepth 20000 in
theorem ggX6_gatherStarted_X5_uses : GoodIn wsX6_gatherStarted wsX5_uses := goodIn_sub (List.forall_mem_cons.mpr ⟨(gcX6_gatherStarted__X6_gatherStarted_r1 _ (List.mem_of_getElem? (i := 16) rfl)), List.forall_mem_append.mpr ⟨List.forall_mem_cons.mpr ⟨(gcX6_gatherStarted__X6_gatherStarted_r1 _ (List.mem_of_getElem? (i := 17) rfl)), fun _ h => (List.not_mem_nil h).elim⟩, gcX6_gatherStarted__X50⟩⟩) gwX5_uses
set_option maxRecDepth 20000 in
theorem gX6_gatherStarted_X5_uses : GoodIn wsX6_gatherStarted (wsV RX6 84 RX5 yX5_uses wsX5_uses) := goodIn_app (goodIn_sub (List.forall_mem_cons.mpr ⟨(gcX6_gatherStarted__X6_gatherStarted_r1 _ (List.mem_of_getElem? (i := 12) rfl)), List.forall_mem_cons.mpr ⟨(gcX6_gatherStarted__X6_gatherStarted_r1 _ (List.mem_of_getElem? (i := 13) rfl)), List.forall_mem_cons.mpr ⟨(gcX6_gatherStarted__X6_gatherStarted_r1 _ (List.mem_of_getElem? (i := 14) rfl)), List.forall_mem_cons.mpr ⟨(gcX6_gatherStarted__X6_gatherStarted_r1 _ (List.mem_of_getElem? (i := 15) rfl)), fun _ h => (List.not_mem_nil h).elim⟩⟩⟩⟩) (by decide +kernel)) ggX6_gatherStarted_X5_uses
theorem gcX6_gatherStarted__X6_gatherStarted_r2 : ∀ w ∈ wsX6_gatherStarted_r2, w ∈ wsX6_gatherStarted := fun w h => List.mem_cons_of_mem _ (List.mem_append_left _ (List.mem_append_left _ (List.mem_append_left _ (List.mem_append_right _ (h)))))
theorem gcX6_gatherStarted__X80 : ∀ w ∈ wsX80, w ∈ wsX6_gatherStarted := fun w h => List.mem_cons_of_mem _ (List.mem_append_left _ (List.mem_append_right _ (h)))
set_option maxRecDepth 20000 in
theorem ggX6_gatherStarted_X5_putAt : GoodIn wsX6_gatherStarted wsX5_putAt := goodIn_sub (List.forall_mem_cons.mpr ⟨(gcX6_gatherStarted__X6_gatherStarted_r1 _ (List.mem_of_getElem? (i := 21) rfl)), List.forall_mem_append.mpr ⟨List.forall_mem_append.mpr ⟨List.forall_mem_cons.mpr ⟨(gcX6_gatherStarted__X6_gatherStarted_r1 _ (List.mem_of_getElem? (i := 22) rfl)), List.forall_mem_cons.mpr ⟨(gcX6_gatherStarted__X6_gatherStarted_r1 _ (List.mem_of_getElem? (i := 23) rfl)), List.forall_mem_cons.mpr ⟨(gcX6_gatherStarted__X6_gatherStarted_r2 _ (List.mem_of_getElem? (i := 0) rfl)), List.forall_mem_cons.mpr ⟨(gcX6_gatherStarted__X6_gatherStarted_r2 _ (List.mem_of_getElem? (i := 1) rfl)), List.forall_mem_cons.mpr ⟨(gcX6_gatherStarted__X6_gatherStarted_r2 _ (List.mem_of_getElem? (i := 2) rfl)), List.forall_mem_cons.mpr ⟨(gcX6_gatherStarted__X6_gatherStarted_r2 _ (List.mem_of_getElem? (i := 3) rfl)), List.forall_mem_cons.mpr ⟨(gcX6_gatherStarted__X6_gatherStarted_r2 _ (List.mem_of_getElem? (i := 4) rfl)), List.forall_mem_cons.mpr ⟨(gcX6_gatherStarted__X6_gatherStarted_r2 _ (List.mem_of_getElem? (i := 5) rfl)), List.forall_mem_cons.mpr ⟨(gcX6_gatherStarted__X6_gatherStarted_r2 _ (List.mem_of_getElem? (i := 6) rfl)), List.forall_mem_cons.mpr ⟨(gcX6_gatherStarted__X6_gatherStarted_r2 _ (List.mem_of_getElem? (i := 7) rfl)), fun _ h => (List.not_mem_nil h).elim⟩⟩⟩⟩⟩⟩⟩⟩⟩⟩, gcX6_gatherStarted__X50⟩, gcX6_gatherStarted__X80⟩⟩) gwX5_putAt
