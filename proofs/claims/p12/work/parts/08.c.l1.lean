theorem hlX9_alters : yX9_alters.cls = RX9 ∧ yX9_alters.cls ≠ "java/lang/invoke/MethodHandle" ∧ yX9_alters.cls ≠ "java/lang/invoke/VarHandle" ∧ (parseMethodDescriptor yX9_alters.desc).map (fun d => d.parameters.length) = some 4 := by decide +kernel
theorem hlX9_blind : yX9_blind.cls = RX9 ∧ yX9_blind.cls ≠ "java/lang/invoke/MethodHandle" ∧ yX9_blind.cls ≠ "java/lang/invoke/VarHandle" ∧ (parseMethodDescriptor yX9_blind.desc).map (fun d => d.parameters.length) = some 0 := by decide +kernel
theorem hlX9_block : yX9_block.cls = RX9 ∧ yX9_block.cls ≠ "java/lang/invoke/MethodHandle" ∧ yX9_block.cls ≠ "java/lang/invoke/VarHandle" ∧ (parseMethodDescriptor yX9_block.desc).map (fun d => d.parameters.length) = some 0 := by decide +kernel
theorem hlX9_clean : yX9_clean.cls = RX9 ∧ yX9_clean.cls ≠ "java/lang/invoke/MethodHandle" ∧ yX9_clean.cls ≠ "java/lang/invoke/VarHandle" ∧ (parseMethodDescriptor yX9_clean.desc).map (fun d => d.parameters.length) = some 1 := by decide +kernel
theorem hlX9_differ : yX9_differ.cls = RX9 ∧ yX9_differ.cls ≠ "java/lang/invoke/MethodHandle" ∧ yX9_differ.cls ≠ "java/lang/invoke/VarHandle" ∧ (parseMethodDescriptor yX9_differ.desc).map (fun d => d.parameters.length) = some 2 := by decide +kernel
theorem hlX9_doubt : yX9_doubt.cls = RX9 ∧ yX9_doubt.cls ≠ "java/lang/invoke/MethodHandle" ∧ yX9_doubt.cls ≠ "java/lang/invoke/VarHandle" ∧ (parseMethodDescriptor yX9_doubt.desc).map (fun d => d.parameters.length) = some 1 := by decide +kernel
theorem hlX9_drift : yX9_drift.cls = RX9 ∧ yX9_drift.cls ≠ "java/lang/invoke/MethodHandle" ∧ yX9_drift.cls ≠ "java/lang/invoke/VarHandle" ∧ (parseMethodDescriptor yX9_drift.desc).map (fun d => d.parameters.length) = some 2 := by decide +kernel
theorem hlX9_drop : yX9_drop.cls = RX9 ∧ yX9_drop.cls ≠ "java/lang/invoke/MethodHandle" ∧ yX9_drop.cls ≠ "java/lang/invoke/VarHandle" ∧ (parseMethodDescriptor yX9_drop.desc).map (fun d => d.parameters.length) = some 2 := by decide +kernel
theorem hlX9_end : yX9_end.cls = RX9 ∧ yX9_end.cls ≠ "java/lang/invoke/MethodHandle" ∧ yX9_end.cls ≠ "java/lang/invoke/VarHandle" ∧ (parseMethodDescriptor yX9_end.desc).map (fun d => d.parameters.length) = some 1 := by decide +kernel
theorem hlX9_fault : yX9_fault.cls = RX9 ∧ yX9_fault.cls ≠ "java/lang/invoke/MethodHandle" ∧ yX9_fault.cls ≠ "java/lang/invoke/VarHandle" ∧ (parseMethodDescriptor yX9_fault.desc).map (fun d => d.parameters.length) = some 1 := by decide +kernel
theorem hlX9_feed : yX9_feed.cls = RX9 ∧ yX9_feed.cls ≠ "java/lang/invoke/MethodHandle" ∧ yX9_feed.cls ≠ "java/lang/invoke/VarHandle" ∧ (parseMethodDescriptor yX9_feed.desc).map (fun d => d.parameters.length) = some 5 := by decide +kernel
theorem hlX9_gap : yX9_gap.cls = RX9 ∧ yX9_gap.cls ≠ "java/lang/invoke/MethodHandle" ∧ yX9_gap.cls ≠ "java/lang/invoke/VarHandle" ∧ (parseMethodDescriptor yX9_gap.desc).map (fun d => d.parameters.length) = some 1 := by decide +kernel
theorem hlX9_hang : yX9_hang.cls = RX9 ∧ yX9_hang.cls ≠ "java/lang/invoke/MethodHandle" ∧ yX9_hang.cls ≠ "java/lang/invoke/VarHandle" ∧ (parseMethodDescriptor yX9_hang.desc).map (fun d => d.parameters.length) = some 2 := by decide +kernel
theorem hlX9_has : yX9_has.cls = RX9 ∧ yX9_has.cls ≠ "java/lang/invoke/MethodHandle" ∧ yX9_has.cls ≠ "java/lang/invoke/VarHandle" ∧ (parseMethodDescriptor yX9_has.desc).map (fun d => d.parameters.length) = some 1 := by decide +kernel
theorem hlX9_image : yX9_image.cls = RX9 ∧ yX9_image.cls ≠ "java/lang/invoke/MethodHandle" ∧ yX9_image.cls ≠ "java/lang/invoke/VarHandle" ∧ (parseMethodDescriptor yX9_image.desc).map (fun d => d.parameters.length) = some 0 := by decide +kernel
theorem hlX9_letter : yX9_letter.cls = RX9 ∧ yX9_letter.cls ≠ "java/lang/invoke/MethodHandle" ∧ yX9_letter.cls ≠ "java/lang/invoke/VarHandle" ∧ (parseMethodDescriptor yX9_letter.desc).map (fun d => d.parameters.length) = some 3 := by decide +kernel
theorem hlX9_loop : yX9_loop.cls = RX9 ∧ yX9_loop.cls ≠ "java/lang/invoke/MethodHandle" ∧ yX9_loop.cls ≠ "java/lang/invoke/VarHandle" ∧ (parseMethodDescriptor yX9_loop.desc).map (fun d => d.parameters.length) = some 4 := by decide +kernel
theorem hlX9_measure : yX9_measure.cls = RX9 ∧ yX9_measure.cls ≠ "java/lang/invoke/MethodHandle" ∧ yX9_measure.cls ≠ "java/lang/invoke/VarHandle" ∧ (parseMethodDescriptor yX9_measure.desc).map (fun d => d.parameters.length) = some 3 := by decide +kernel
theorem hlX9_needs : yX9_needs.cls = RX9 ∧ yX9_needs.cls ≠ "java/lang/invoke/MethodHandle" ∧ yX9_needs.cls ≠ "java/lang/invoke/VarHandle" ∧ (parseMethodDescriptor yX9_needs.desc).map (fun d => d.parameters.length) = some 1 := by decide +kernel
theorem hlX9_octet : yX9_octet.cls = RX9 ∧ yX9_octet.cls ≠ "java/lang/invoke/MethodHandle" ∧ yX9_octet.cls ≠ "java/lang/invoke/VarHandle" ∧ (parseMethodDescriptor yX9_octet.desc).map (fun d => d.parameters.length) = some 1 := by decide +kernel
theorem hlX9_on : yX9_on.cls = RX9 ∧ yX9_on.cls ≠ "java/lang/invoke/MethodHandle" ∧ yX9_on.cls ≠ "java/lang/invoke/VarHandle" ∧ (parseMethodDescriptor yX9_on.desc).map (fun d => d.parameters.length) = some 0 := by decide +kernel
theorem hlX9_parts : yX9_parts.cls = RX9 ∧ yX9_parts.cls ≠ "java/lang/invoke/MethodHandle" ∧ yX9_parts.cls ≠ "java/lang/invoke/VarHandle" ∧ (parseMethodDescriptor yX9_parts.desc).map (fun d => d.parameters.length) = some 0 := by decide +kernel
theorem hlX9_picture : yX9_picture.cls = RX9 ∧ yX9_picture.cls ≠ "java/lang/invoke/MethodHandle" ∧ yX9_picture.cls ≠ "java/lang/invoke/VarHandle" ∧ (parseMethodDescriptor yX9_picture.desc).map (fun d => d.parameters.length) = some 2 := by decide +kernel
theorem hlX9_plan : yX9_plan.cls = RX9 ∧ yX9_plan.cls ≠ "java/lang/invoke/MethodHandle" ∧ yX9_plan.cls ≠ "java/lang/invoke/VarHandle" ∧ (parseMethodDescriptor yX9_plan.desc).map (fun d => d.parameters.length) = some 1 := by decide +kernel
theorem hlX9_point : yX9_point.cls = RX9 ∧ yX9_point.cls ≠ "java/lang/invoke/MethodHandle" ∧ yX9_point.cls ≠ "java/lang/invoke/VarHandle" ∧ (parseMethodDescriptor yX9_point.desc).map (fun d => d.parameters.length) = some 2 := by decide +kernel
theorem hlX9_rounds : yX9_rounds.cls = RX9 ∧ yX9_rounds.cls ≠ "java/lang/invoke/MethodHandle" ∧ yX9_rounds.cls ≠ "java/lang/invoke/VarHandle" ∧ (parseMethodDescriptor yX9_rounds.desc).map (fun d => d.parameters.length) = some 1 := by decide +kernel
theorem hlX9_row : yX9_row.cls = RX9 ∧ yX9_row.cls ≠ "java/lang/invoke/MethodHandle" ∧ yX9_row.cls ≠ "java/lang/invoke/VarHandle" ∧ (parseMethodDescriptor yX9_row.desc).map (fun d => d.parameters.length) = some 2 := by decide +kernel
theorem hlX9_sets : yX9_sets.cls = RX9 ∧ yX9_sets.cls ≠ "java/lang/invoke/MethodHandle" ∧ yX9_sets.cls ≠ "java/lang/invoke/VarHandle" ∧ (parseMethodDescriptor yX9_sets.desc).map (fun d => d.parameters.length) = some 1 := by decide +kernel
theorem hlX9_slips : yX9_slips.cls = RX9 ∧ yX9_slips.cls ≠ "java/lang/invoke/MethodHandle" ∧ yX9_slips.cls ≠ "java/lang/invoke/VarHandle" ∧ (parseMethodDescriptor yX9_slips.desc).map (fun d => d.parameters.length) = some 3 := by decide +kernel
theorem hlX9_start : yX9_start.cls = RX9 ∧ yX9_start.cls ≠ "java/lang/invoke/MethodHandle" ∧ yX9_start.cls ≠ "java/lang/invoke/VarHandle" ∧ (parseMethodDescriptor yX9_start.desc).map (fun d => d.parameters.length) = some 0 := by decide +kernel
theorem hlX9_sum : yX9_sum.cls = RX9 ∧ yX9_sum.cls ≠ "java/lang/invoke/MethodHandle" ∧ yX9_sum.cls ≠ "java/lang/invoke/VarHandle" ∧ (parseMethodDescriptor yX9_sum.desc).map (fun d => d.parameters.length) = some 0 := by decide +kernel
theorem hlX9_tie : yX9_tie.cls = RX9 ∧ yX9_tie.cls ≠ "java/lang/invoke/MethodHandle" ∧ yX9_tie.cls ≠ "java/lang/invoke/VarHandle" ∧ (parseMethodDescriptor yX9_tie.desc).map (fun d => d.parameters.length) = some 3 := by decide +kernel
theorem hlX9_tree : yX9_tree.cls = RX9 ∧ yX9_tree.cls ≠ "java/lang/invoke/MethodHandle" ∧ yX9_tree.cls ≠ "java/lang/invoke/VarHandle" ∧ (parseMethodDescriptor yX9_tree.desc).map (fun d => d.parameters.length) = some 1 := by decide +kernel
theorem hlX9_whole : yX9_whole.cls = RX9 ∧ yX9_whole.cls ≠ "java/lang/invoke/MethodHandle" ∧ yX9_whole.cls ≠ "java/lang/invoke/VarHandle" ∧ (parseMethodDescriptor yX9_whole.desc).map (fun d => d.parameters.length) = some 3 := by decide +kernel
theorem hlX9_worst : yX9_worst.cls = RX9 ∧ yX9_worst.cls ≠ "java/lang/invoke/MethodHandle" ∧ yX9_worst.cls ≠ "java/lang/invoke/VarHandle" ∧ (parseMethodDescriptor yX9_worst.desc).map (fun d => d.parameters.length) = some 0 := by decide +kernel
theorem hlX10_alters : yX10_alters.cls = RX10 ∧ yX10_alters.cls ≠ "java/lang/invoke/MethodHandle" ∧ yX10_alters.cls ≠ "java/lang/invoke/VarHandle" ∧ (parseMethodDescriptor yX10_alters.desc).map (fun d => d.parameters.length) = some 4 := by decide +kernel
theorem hlX10_blind : yX10_blind.cls = RX10 ∧ yX10_blind.cls ≠ "java/lang/invoke/MethodHandle" ∧ yX10_blind.cls ≠ "java/lang/invoke/VarHandle" ∧ (parseMethodDescriptor yX10_blind.desc).map (fun d => d.parameters.length) = some 0 := by decide +kernel
theorem hlX10_block : yX10_block.cls = RX10 ∧ yX10_block.cls ≠ "java/lang/invoke/MethodHandle" ∧ yX10_block.cls ≠ "java/lang/invoke/VarHandle" ∧ (parseMethodDescriptor yX10_block.desc).map (fun d => d.parameters.length) = some 0 := by decide +kernel
theorem hlX10_clean : yX10_clean.cls = RX10 ∧ yX10_clean.cls ≠ "java/lang/invoke/MethodHandle" ∧ yX10_clean.cls ≠ "java/lang/invoke/VarHandle" ∧ (parseMethodDescriptor yX10_clean.desc).map (fun d => d.parameters.length) = some 1 := by decide +kernel
theorem hlX10_differ : yX10_differ.cls = RX10 ∧ yX10_differ.cls ≠ "java/lang/invoke/MethodHandle" ∧ yX10_differ.cls ≠ "java/lang/invoke/VarHandle" ∧ (parseMethodDescriptor yX10_differ.desc).map (fun d => d.parameters.length) = some 2 := by decide +kernel
theorem hlX10_doubt : yX10_doubt.cls = RX10 ∧ yX10_doubt.cls ≠ "java/lang/invoke/MethodHandle" ∧ yX10_doubt.cls ≠ "java/lang/invoke/VarHandle" ∧ (parseMethodDescriptor yX10_doubt.desc).map (fun d => d.parameters.length) = some 1 := by decide +kernel
theorem hlX10_drift : yX10_drift.cls = RX10 ∧ yX10_drift.cls ≠ "java/lang/invoke/MethodHandle" ∧ yX10_drift.cls ≠ "java/lang/invoke/VarHandle" ∧ (parseMethodDescriptor yX10_drift.desc).map (fun d => d.parameters.length) = some 2 := by decide +kernel
theorem hlX10_drop : yX10_drop.cls = RX10 ∧ yX10_drop.cls ≠ "java/lang/invoke/MethodHandle" ∧ yX10_drop.cls ≠ "java/lang/invoke/VarHandle" ∧ (parseMethodDescriptor yX10_drop.desc).map (fun d => d.parameters.length) = some 2 := by decide +kernel
theorem hlX10_end : yX10_end.cls = RX10 ∧ yX10_end.cls ≠ "java/lang/invoke/MethodHandle" ∧ yX10_end.cls ≠ "java/lang/invoke/VarHandle" ∧ (parseMethodDescriptor yX10_end.desc).map (fun d => d.parameters.length) = some 1 := by decide +kernel
theorem hlX10_fault : yX10_fault.cls = RX10 ∧ yX10_fault.cls ≠ "java/lang/invoke/MethodHandle" ∧ yX10_fault.cls ≠ "java/lang/invoke/VarHandle" ∧ (parseMethodDescriptor yX10_fault.desc).map (fun d => d.parameters.length) = some 1 := by decide +kernel
theorem hlX10_feed : yX10_feed.cls = RX10 ∧ yX10_feed.cls ≠ "java/lang/invoke/MethodHandle" ∧ yX10_feed.cls ≠ "java/lang/invoke/VarHandle" ∧ (parseMethodDescriptor yX10_feed.desc).map (fun d => d.parameters.length) = some 5 := by decide +kernel
theorem hlX10_gap : yX10_gap.cls = RX10 ∧ yX10_gap.cls ≠ "java/lang/invoke/MethodHandle" ∧ yX10_gap.cls ≠ "java/lang/invoke/VarHandle" ∧ (parseMethodDescriptor yX10_gap.desc).map (fun d => d.parameters.length) = some 1 := by decide +kernel
theorem hlX10_hang : yX10_hang.cls = RX10 ∧ yX10_hang.cls ≠ "java/lang/invoke/MethodHandle" ∧ yX10_hang.cls ≠ "java/lang/invoke/VarHandle" ∧ (parseMethodDescriptor yX10_hang.desc).map (fun d => d.parameters.length) = some 2 := by decide +kernel
theorem hlX10_has : yX10_has.cls = RX10 ∧ yX10_has.cls ≠ "java/lang/invoke/MethodHandle" ∧ yX10_has.cls ≠ "java/lang/invoke/VarHandle" ∧ (parseMethodDescriptor yX10_has.desc).map (fun d => d.parameters.length) = some 1 := by decide +kernel
theorem hlX10_image : yX10_image.cls = RX10 ∧ yX10_image.cls ≠ "java/lang/invoke/MethodHandle" ∧ yX10_image.cls ≠ "java/lang/invoke/VarHandle" ∧ (parseMethodDescriptor yX10_image.desc).map (fun d => d.parameters.length) = some 0 := by decide +kernel
theorem hlX10_letter : yX10_letter.cls = RX10 ∧ yX10_letter.cls ≠ "java/lang/invoke/MethodHandle" ∧ yX10_letter.cls ≠ "java/lang/invoke/VarHandle" ∧ (parseMethodDescriptor yX10_letter.desc).map (fun d => d.parameters.length) = some 3 := by decide +kernel
theorem hlX10_loop : yX10_loop.cls = RX10 ∧ yX10_loop.cls ≠ "java/lang/invoke/MethodHandle" ∧ yX10_loop.cls ≠ "java/lang/invoke/VarHandle" ∧ (parseMethodDescriptor yX10_loop.desc).map (fun d => d.parameters.length) = some 4 := by decide +kernel
theorem hlX10_measure : yX10_measure.cls = RX10 ∧ yX10_measure.cls ≠ "java/lang/invoke/MethodHandle" ∧ yX10_measure.cls ≠ "java/lang/invoke/VarHandle" ∧ (parseMethodDescriptor yX10_measure.desc).map (fun d => d.parameters.length) = some 3 := by decide +kernel
theorem hlX10_needs : yX10_needs.cls = RX10 ∧ yX10_needs.cls ≠ "java/lang/invoke/MethodHandle" ∧ yX10_needs.cls ≠ "java/lang/invoke/VarHandle" ∧ (parseMethodDescriptor yX10_needs.desc).map (fun d => d.parameters.length) = some 1 := by decide +kernel
theorem hlX10_octet : yX10_octet.cls = RX10 ∧ yX10_octet.cls ≠ "java/lang/invoke/MethodHandle" ∧ yX10_octet.cls ≠ "java/lang/invoke/VarHandle" ∧ (parseMethodDescriptor yX10_octet.desc).map (fun d => d.parameters.length) = some 1 := by decide +kernel
theorem hlX10_on : yX10_on.cls = RX10 ∧ yX10_on.cls ≠ "java/lang/invoke/MethodHandle" ∧ yX10_on.cls ≠ "java/lang/invoke/VarHandle" ∧ (parseMethodDescriptor yX10_on.desc).map (fun d => d.parameters.length) = some 0 := by decide +kernel
theorem hlX10_parts : yX10_parts.cls = RX10 ∧ yX10_parts.cls ≠ "java/lang/invoke/MethodHandle" ∧ yX10_parts.cls ≠ "java/lang/invoke/VarHandle" ∧ (parseMethodDescriptor yX10_parts.desc).map (fun d => d.parameters.length) = some 0 := by decide +kernel
theorem hlX10_picture : yX10_picture.cls = RX10 ∧ yX10_picture.cls ≠ "java/lang/invoke/MethodHandle" ∧ yX10_picture.cls ≠ "java/lang/invoke/VarHandle" ∧ (parseMethodDescriptor yX10_picture.desc).map (fun d => d.parameters.length) = some 2 := by decide +kernel
theorem hlX10_plan : yX10_plan.cls = RX10 ∧ yX10_plan.cls ≠ "java/lang/invoke/MethodHandle" ∧ yX10_plan.cls ≠ "java/lang/invoke/VarHandle" ∧ (parseMethodDescriptor yX10_plan.desc).map (fun d => d.parameters.length) = some 1 := by decide +kernel
theorem hlX10_point : yX10_point.cls = RX10 ∧ yX10_point.cls ≠ "java/lang/invoke/MethodHandle" ∧ yX10_point.cls ≠ "java/lang/invoke/VarHandle" ∧ (parseMethodDescriptor yX10_point.desc).map (fun d => d.parameters.length) = some 2 := by decide +kernel
theorem hlX10_rounds : yX10_rounds.cls = RX10 ∧ yX10_rounds.cls ≠ "java/lang/invoke/MethodHandle" ∧ yX10_rounds.cls ≠ "java/lang/invoke/VarHandle" ∧ (parseMethodDescriptor yX10_rounds.desc).map (fun d => d.parameters.length) = some 1 := by decide +kernel
theorem hlX10_row : yX10_row.cls = RX10 ∧ yX10_row.cls ≠ "java/lang/invoke/MethodHandle" ∧ yX10_row.cls ≠ "java/lang/invoke/VarHandle" ∧ (parseMethodDescriptor yX10_row.desc).map (fun d => d.parameters.length) = some 2 := by decide +kernel
theorem hlX10_sets : yX10_sets.cls = RX10 ∧ yX10_sets.cls ≠ "java/lang/invoke/MethodHandle" ∧ yX10_sets.cls ≠ "java/lang/invoke/VarHandle" ∧ (parseMethodDescriptor yX10_sets.desc).map (fun d => d.parameters.length) = some 1 := by decide +kernel
theorem hlX10_slips : yX10_slips.cls = RX10 ∧ yX10_slips.cls ≠ "java/lang/invoke/MethodHandle" ∧ yX10_slips.cls ≠ "java/lang/invoke/VarHandle" ∧ (parseMethodDescriptor yX10_slips.desc).map (fun d => d.parameters.length) = some 3 := by decide +kernel
theorem hlX10_start : yX10_start.cls = RX10 ∧ yX10_start.cls ≠ "java/lang/invoke/MethodHandle" ∧ yX10_start.cls ≠ "java/lang/invoke/VarHandle" ∧ (parseMethodDescriptor yX10_start.desc).map (fun d => d.parameters.length) = some 0 := by decide +kernel
theorem hlX10_sum : yX10_sum.cls = RX10 ∧ yX10_sum.cls ≠ "java/lang/invoke/MethodHandle" ∧ yX10_sum.cls ≠ "java/lang/invoke/VarHandle" ∧ (parseMethodDescriptor yX10_sum.desc).map (fun d => d.parameters.length) = some 0 := by decide +kernel
theorem hlX10_tie : yX10_tie.cls = RX10 ∧ yX10_tie.cls ≠ "java/lang/invoke/MethodHandle" ∧ yX10_tie.cls ≠ "java/lang/invoke/VarHandle" ∧ (parseMethodDescriptor yX10_tie.desc).map (fun d => d.parameters.length) = some 3 := by decide +kernel
theorem hlX10_tree : yX10_tree.cls = RX10 ∧ yX10_tree.cls ≠ "java/lang/invoke/MethodHandle" ∧ yX10_tree.cls ≠ "java/lang/invoke/VarHandle" ∧ (parseMethodDescriptor yX10_tree.desc).map (fun d => d.parameters.length) = some 1 := by decide +kernel
theorem hlX10_whole : yX10_whole.cls = RX10 ∧ yX10_whole.cls ≠ "java/lang/invoke/MethodHandle" ∧ yX10_whole.cls ≠ "java/lang/invoke/VarHandle" ∧ (parseMethodDescriptor yX10_whole.desc).map (fun d => d.parameters.length) = some 3 := by decide +kernel
theorem hlX10_worst : yX10_worst.cls = RX10 ∧ yX10_worst.cls ≠ "java/lang/invoke/MethodHandle" ∧ yX10_worst.cls ≠ "java/lang/invoke/VarHandle" ∧ (parseMethodDescriptor yX10_worst.desc).map (fun d => d.parameters.length) = some 0 := by decide +kernel
theorem l_val {o v : Int32} {k : Int} (h : o.toInt = k) (hv : v.toInt = k) : o = v := Int32.toInt_inj.mp (h.trans hv.symm)
theorem l_sub6 {L : Nat} (hL : L ≤ 3072) : (Int32.ofNat L - 6).toInt = (L : Int) - 6 := by
  have e : (Int32.ofNat L).toInt = L := Int32.toInt_ofNat_of_lt (by omega)
  rw [Int32.toInt_sub, e]
  have z : (6 : Int32).toInt = 6 := by decide
  rw [z]
  apply Int.bmod_eq_of_le <;> omega
theorem l_add6 {i : Int32} (h : 0 ≤ i.toInt ∧ i.toInt ≤ 4000) : (i + 6).toInt = i.toInt + 6 := by
  have z : (6 : Int32).toInt = 6 := by decide
  rw [Int32.toInt_add, z]
  apply Int.bmod_eq_of_le <;> omega
set_option maxRecDepth 100000 in
set_option maxHeartbeats 4000000 in
theorem lk_0 {M : gM} {Q : State → Prop} {GC GM : gG} {ex : gEx} {b0 b L ce sl : Nat} {xs : Nat → Int32} {σC σM : gS} (X : lX M GC GM ex b0 b L xs ce sl) {i : Int32} (h0 : 0 ≤ i.toInt) (h1 : i.toInt + 6 ≤ L) {oc : Int32 × gS} {om : Int32 × gS} (hC : fX9_feed σC (xs (i + 1).toNatClampNeg) (xs (i + 2).toNatClampNeg) (xs (i + 3).toNatClampNeg) (xs (i + 4).toNatClampNeg) (xs (i + 5).toNatClampNeg) = some oc) (hM : fX10_feed σM (xs (i + 1).toNatClampNeg) (xs (i + 2).toNatClampNeg) (xs (i + 3).toNatClampNeg) (xs (i + 4).toNatClampNeg) (xs (i + 5).toNatClampNeg) = some om) (kk : LL M Q GC GM b0 ce sl oc.2 om.2 1229 [(3, .int i), (2, .ref (GM.2.1 0)), (1, .ref (GC.2.1 0)), (0, .ref b)] []) : LL M Q GC GM b0 ce sl σC σM 188 [(3, .int i), (2, .ref (GM.2.1 0)), (1, .ref (GC.2.1 0)), (0, .ref b)] [] := by
  refine ll_aload_n X (j := 2) dL_law_188 rfl rfl ?_
  refine ll_aload_n X (j := 3) dL_law_189 rfl rfl ?_
  refine ll_iload_n X (j := 0) dL_law_190 rfl rfl ?_
  refine ll_iconst X (v := 1) dL_law_191 (by decide) ?_
  refine ll_iadd X dL_law_192 ?_
  refine ll_sld X (l_in X.2.2.2.2.2.2.2.1 h0 h1 (by decide) (by decide)) dL_law_193 ?_
  refine ll_aload_n X (j := 3) dL_law_194 rfl rfl ?_
  refine ll_iload_n X (j := 0) dL_law_195 rfl rfl ?_
  refine ll_iconst X (v := 2) dL_law_196 (by decide) ?_
  refine ll_iadd X dL_law_197 ?_
  refine ll_sld X (l_in X.2.2.2.2.2.2.2.1 h0 h1 (by decide) (by decide)) dL_law_198 ?_
  refine ll_aload_n X (j := 3) dL_law_199 rfl rfl ?_
  refine ll_iload_n X (j := 0) dL_law_200 rfl rfl ?_
  refine ll_iconst X (v := 3) dL_law_201 (by decide) ?_
  refine ll_iadd X dL_law_202 ?_
  refine ll_sld X (l_in X.2.2.2.2.2.2.2.1 h0 h1 (by decide) (by decide)) dL_law_203 ?_
  refine ll_aload_n X (j := 3) dL_law_204 rfl rfl ?_
  refine ll_iload_n X (j := 0) dL_law_205 rfl rfl ?_
  refine ll_iconst X (v := 4) dL_law_206 (by decide) ?_
  refine ll_iadd X dL_law_207 ?_
  refine ll_sld X (l_in X.2.2.2.2.2.2.2.1 h0 h1 (by decide) (by decide)) dL_law_208 ?_
  refine ll_aload_n X (j := 3) dL_law_209 rfl rfl ?_
  refine ll_iload_n X (j := 0) dL_law_210 rfl rfl ?_
  refine ll_iconst X (v := 5) dL_law_211 (by decide) ?_
  refine ll_iadd X dL_law_212 ?_
  refine ll_sld X (l_in X.2.2.2.2.2.2.2.1 h0 h1 (by decide) (by decide)) dL_law_213 ?_
  refine llC_i X (As := [.int (xs (i + 1).toNatClampNeg), .int (xs (i + 2).toNatClampNeg), .int (xs (i + 3).toNatClampNeg), .int (xs (i + 4).toNatClampNeg), .int (xs (i + 5).toNatClampNeg)]) (rest := []) dL_law_214 (kX9_feed (mL M) GC X.2.1.2.2.2.2.1 X.2.1.2.1 X.2.1.2.2.1 σC (xs (i + 1).toNatClampNeg) (xs (i + 2).toNatClampNeg) (xs (i + 3).toNatClampNeg) (xs (i + 4).toNatClampNeg) (xs (i + 5).toNatClampNeg) oc hC) rfl shzC_0 clzC_9 gL_law_X9_feed hlX9_feed ⟨rfl, rfl⟩ ⟨Nat.le_of_ble_eq_true rfl, Nat.le_of_ble_eq_true rfl⟩ rfl rfl (Nat.le_of_ble_eq_true rfl) ?_
  refine ll_pop X dL_law_217 ?_
  refine ll_aload_n X (j := 1) dL_law_218 rfl rfl ?_
  refine ll_aload_n X (j := 3) dL_law_219 rfl rfl ?_
  refine ll_iload_n X (j := 0) dL_law_220 rfl rfl ?_
  refine ll_iconst X (v := 1) dL_law_221 (by decide) ?_
  refine ll_iadd X dL_law_222 ?_
  refine ll_sld X (l_in X.2.2.2.2.2.2.2.1 h0 h1 (by decide) (by decide)) dL_law_223 ?_
  refine ll_aload_n X (j := 3) dL_law_224 rfl rfl ?_
  refine ll_iload_n X (j := 0) dL_law_225 rfl rfl ?_
  refine ll_iconst X (v := 2) dL_law_226 (by decide) ?_
  refine ll_iadd X dL_law_227 ?_
  refine ll_sld X (l_in X.2.2.2.2.2.2.2.1 h0 h1 (by decide) (by decide)) dL_law_228 ?_
  refine ll_aload_n X (j := 3) dL_law_229 rfl rfl ?_
  refine ll_iload_n X (j := 0) dL_law_230 rfl rfl ?_
  refine ll_iconst X (v := 3) dL_law_231 (by decide) ?_
  refine ll_iadd X dL_law_232 ?_
  refine ll_sld X (l_in X.2.2.2.2.2.2.2.1 h0 h1 (by decide) (by decide)) dL_law_233 ?_
  refine ll_aload_n X (j := 3) dL_law_234 rfl rfl ?_
  refine ll_iload_n X (j := 0) dL_law_235 rfl rfl ?_
  refine ll_iconst X (v := 4) dL_law_236 (by decide) ?_
  refine ll_iadd X dL_law_237 ?_
  refine ll_sld X (l_in X.2.2.2.2.2.2.2.1 h0 h1 (by decide) (by decide)) dL_law_238 ?_
  refine ll_aload_n X (j := 3) dL_law_239 rfl rfl ?_
  refine ll_iload_n X (j := 0) dL_law_240 rfl rfl ?_
  refine ll_iconst X (v := 5) dL_law_241 (by decide) ?_
  refine ll_iadd X dL_law_242 ?_
  refine ll_sld X (l_in X.2.2.2.2.2.2.2.1 h0 h1 (by decide) (by decide)) dL_law_243 ?_
  refine llM_i X (As := [.int (xs (i + 1).toNatClampNeg), .int (xs (i + 2).toNatClampNeg), .int (xs (i + 3).toNatClampNeg), .int (xs (i + 4).toNatClampNeg), .int (xs (i + 5).toNatClampNeg)]) (rest := []) dL_law_244 (kX10_feed (mL M) GM X.2.2.1.2.1 X.2.2.1.2.2.1 σM (xs (i + 1).toNatClampNeg) (xs (i + 2).toNatClampNeg) (xs (i + 3).toNatClampNeg) (xs (i + 4).toNatClampNeg) (xs (i + 5).toNatClampNeg) om hM) rfl shzM_0 clzM_10 gL_law_X10_feed hlX10_feed ⟨rfl, rfl⟩ ⟨Nat.le_of_ble_eq_true rfl, Nat.le_of_ble_eq_true rfl⟩ rfl rfl (Nat.le_of_ble_eq_true rfl) ?_
  refine ll_pop X dL_law_247 ?_
  exact ll_goto X dL_law_248 (by decide) kk
set_option maxRecDepth 100000 in
set_option maxHeartbeats 4000000 in
theorem lk_1 {M : gM} {Q : State → Prop} {GC GM : gG} {ex : gEx} {b0 b L ce sl : Nat} {xs : Nat → Int32} {σC σM : gS} (X : lX M GC GM ex b0 b L xs ce sl) {i : Int32} (h0 : 0 ≤ i.toInt) (h1 : i.toInt + 6 ≤ L) {oc : Int32 × gS} {om : Int32 × gS} (hC : fX9_end σC (xs (i + 1).toNatClampNeg) = some oc) (hM : fX10_end σM (xs (i + 1).toNatClampNeg) = some om) (kk : LL M Q GC GM b0 ce sl oc.2 om.2 1229 [(3, .int i), (2, .ref (GM.2.1 0)), (1, .ref (GC.2.1 0)), (0, .ref b)] []) : LL M Q GC GM b0 ce sl σC σM 251 [(3, .int i), (2, .ref (GM.2.1 0)), (1, .ref (GC.2.1 0)), (0, .ref b)] [] := by
  refine ll_aload_n X (j := 2) dL_law_251 rfl rfl ?_
  refine ll_aload_n X (j := 3) dL_law_252 rfl rfl ?_
  refine ll_iload_n X (j := 0) dL_law_253 rfl rfl ?_
  refine ll_iconst X (v := 1) dL_law_254 (by decide) ?_
  refine ll_iadd X dL_law_255 ?_
  refine ll_sld X (l_in X.2.2.2.2.2.2.2.1 h0 h1 (by decide) (by decide)) dL_law_256 ?_
  refine llC_i X (As := [.int (xs (i + 1).toNatClampNeg)]) (rest := []) dL_law_257 (kX9_end (mL M) GC X.2.1.2.2.2.2.1 X.2.1.2.1 X.2.1.2.2.1 σC (xs (i + 1).toNatClampNeg) oc hC) rfl shzC_0 clzC_9 gL_law_X9_end hlX9_end ⟨rfl, rfl⟩ ⟨Nat.le_of_ble_eq_true rfl, Nat.le_of_ble_eq_true rfl⟩ rfl rfl (Nat.le_of_ble_eq_true rfl) ?_
  refine ll_pop X dL_law_260 ?_
  refine ll_aload_n X (j := 1) dL_law_261 rfl rfl ?_
  refine ll_aload_n X (j := 3) dL_law_262 rfl rfl ?_
  refine ll_iload_n X (j := 0) dL_law_263 rfl rfl ?_
  refine ll_iconst X (v := 1) dL_law_264 (by decide) ?_
  refine ll_iadd X dL_law_265 ?_
  refine ll_sld X (l_in X.2.2.2.2.2.2.2.1 h0 h1 (by decide) (by decide)) dL_law_266 ?_
  refine llM_i X (As := [.int (xs (i + 1).toNatClampNeg)]) (rest := []) dL_law_267 (kX10_end (mL M) GM X.2.2.1.2.1 X.2.2.1.2.2.1 σM (xs (i + 1).toNatClampNeg) om hM) rfl shzM_0 clzM_10 gL_law_X10_end hlX10_end ⟨rfl, rfl⟩ ⟨Nat.le_of_ble_eq_true rfl, Nat.le_of_ble_eq_true rfl⟩ rfl rfl (Nat.le_of_ble_eq_true rfl) ?_
  refine ll_pop X dL_law_270 ?_
  exact ll_goto X dL_law_271 (by decide) kk
set_option maxRecDepth 100000 in
set_option maxHeartbeats 4000000 in
theorem lk_2 {M : gM} {Q : State → Prop} {GC GM : gG} {ex : gEx} {b0 b L ce sl : Nat} {xs : Nat → Int32} {σC σM : gS} (X : lX M GC GM ex b0 b L xs ce sl) {i : Int32} (h0 : 0 ≤ i.toInt) (h1 : i.toInt + 6 ≤ L) {oc : Int32 × gS} {om : Int32 × gS} (hC : fX9_block σC  = some oc) (hM : fX10_block σM  = some om) (kk : LL M Q GC GM b0 ce sl oc.2 om.2 1229 [(3, .int i), (2, .ref (GM.2.1 0)), (1, .ref (GC.2.1 0)), (0, .ref b)] []) : LL M Q GC GM b0 ce sl σC σM 274 [(3, .int i), (2, .ref (GM.2.1 0)), (1, .ref (GC.2.1 0)), (0, .ref b)] [] := by
  refine ll_aload_n X (j := 2) dL_law_274 rfl rfl ?_
  refine llC_i X (As := []) (rest := []) dL_law_275 (kX9_block (mL M) GC X.2.1.2.2.2.2.1 X.2.1.2.1 X.2.1.2.2.1 σC  oc hC) rfl shzC_0 clzC_9 gL_law_X9_block hlX9_block ⟨rfl, rfl⟩ ⟨Nat.le_of_ble_eq_true rfl, Nat.le_of_ble_eq_true rfl⟩ rfl rfl (Nat.le_of_ble_eq_true rfl) ?_
  refine ll_pop X dL_law_278 ?_
  refine ll_aload_n X (j := 1) dL_law_279 rfl rfl ?_
  refine llM_i X (As := []) (rest := []) dL_law_280 (kX10_block (mL M) GM X.2.2.1.2.1 X.2.2.1.2.2.1 σM  om hM) rfl shzM_0 clzM_10 gL_law_X10_block hlX10_block ⟨rfl, rfl⟩ ⟨Nat.le_of_ble_eq_true rfl, Nat.le_of_ble_eq_true rfl⟩ rfl rfl (Nat.le_of_ble_eq_true rfl) ?_
  refine ll_pop X dL_law_283 ?_
  exact ll_goto X dL_law_284 (by decide) kk
set_option maxRecDepth 100000 in
set_option maxHeartbeats 4000000 in
theorem lk_3 {M : gM} {Q : State → Prop} {GC GM : gG} {ex : gEx} {b0 b L ce sl : Nat} {xs : Nat → Int32} {σC σM : gS} (X : lX M GC GM ex b0 b L xs ce sl) {i : Int32} (h0 : 0 ≤ i.toInt) (h1 : i.toInt + 6 ≤ L) {oc : Int32} {om : Int32} (hC : fX9_fault σC (xs (i + 1).toNatClampNeg) = some oc) (hM : fX10_fault σM (xs (i + 1).toNatClampNeg) = some om) (kk : LL M Q GC GM b0 ce sl σC σM 1229 [(3, .int i), (2, .ref (GM.2.1 0)), (1, .ref (GC.2.1 0)), (0, .ref b)] []) : LL M Q GC GM b0 ce sl σC σM 287 [(3, .int i), (2, .ref (GM.2.1 0)), (1, .ref (GC.2.1 0)), (0, .ref b)] [] := by
  refine ll_aload_n X (j := 2) dL_law_287 rfl rfl ?_
  refine ll_aload_n X (j := 3) dL_law_288 rfl rfl ?_
  refine ll_iload_n X (j := 0) dL_law_289 rfl rfl ?_
  refine ll_iconst X (v := 1) dL_law_290 (by decide) ?_
  refine ll_iadd X dL_law_291 ?_
  refine ll_sld X (l_in X.2.2.2.2.2.2.2.1 h0 h1 (by decide) (by decide)) dL_law_292 ?_
  refine llC_i X (As := [.int (xs (i + 1).toNatClampNeg)]) (rest := []) dL_law_293 (kX9_fault (mL M) GC X.2.1.2.2.2.2.1 X.2.1.2.1 X.2.1.2.2.1 σC (xs (i + 1).toNatClampNeg) oc hC) rfl shzC_0 clzC_9 gL_law_X9_fault hlX9_fault ⟨rfl, rfl⟩ ⟨Nat.le_of_ble_eq_true rfl, Nat.le_of_ble_eq_true rfl⟩ rfl rfl (Nat.le_of_ble_eq_true rfl) ?_
  refine ll_pop X dL_law_296 ?_
  refine ll_aload_n X (j := 1) dL_law_297 rfl rfl ?_
  refine ll_aload_n X (j := 3) dL_law_298 rfl rfl ?_
  refine ll_iload_n X (j := 0) dL_law_299 rfl rfl ?_
  refine ll_iconst X (v := 1) dL_law_300 (by decide) ?_
  refine ll_iadd X dL_law_301 ?_
  refine ll_sld X (l_in X.2.2.2.2.2.2.2.1 h0 h1 (by decide) (by decide)) dL_law_302 ?_
  refine llM_i X (As := [.int (xs (i + 1).toNatClampNeg)]) (rest := []) dL_law_303 (kX10_fault (mL M) GM X.2.2.1.2.1 X.2.2.1.2.2.1 σM (xs (i + 1).toNatClampNeg) om hM) rfl shzM_0 clzM_10 gL_law_X10_fault hlX10_fault ⟨rfl, rfl⟩ ⟨Nat.le_of_ble_eq_true rfl, Nat.le_of_ble_eq_true rfl⟩ rfl rfl (Nat.le_of_ble_eq_true rfl) ?_
  refine ll_pop X dL_law_306 ?_
  exact ll_goto X dL_law_307 (by decide) kk
set_option maxRecDepth 100000 in
set_option maxHeartbeats 4000000 in
theorem lk_4 {M : gM} {Q : State → Prop} {GC GM : gG} {ex : gEx} {b0 b L ce sl : Nat} {xs : Nat → Int32} {σC σM : gS} (X : lX M GC GM ex b0 b L xs ce sl) {i : Int32} (h0 : 0 ≤ i.toInt) (h1 : i.toInt + 6 ≤ L) {oc : Int32} {om : Int32} (hC : fX9_has σC (xs (i + 1).toNatClampNeg) = some oc) (hM : fX10_has σM (xs (i + 1).toNatClampNeg) = some om) (kk : LL M Q GC GM b0 ce sl σC σM 1229 [(3, .int i), (2, .ref (GM.2.1 0)), (1, .ref (GC.2.1 0)), (0, .ref b)] []) : LL M Q GC GM b0 ce sl σC σM 310 [(3, .int i), (2, .ref (GM.2.1 0)), (1, .ref (GC.2.1 0)), (0, .ref b)] [] := by
  refine ll_aload_n X (j := 2) dL_law_310 rfl rfl ?_
  refine ll_aload_n X (j := 3) dL_law_311 rfl rfl ?_
  refine ll_iload_n X (j := 0) dL_law_312 rfl rfl ?_
  refine ll_iconst X (v := 1) dL_law_313 (by decide) ?_
  refine ll_iadd X dL_law_314 ?_
  refine ll_sld X (l_in X.2.2.2.2.2.2.2.1 h0 h1 (by decide) (by decide)) dL_law_315 ?_
  refine llC_i X (As := [.int (xs (i + 1).toNatClampNeg)]) (rest := []) dL_law_316 (kX9_has (mL M) GC X.2.1.2.2.2.2.1 X.2.1.2.1 X.2.1.2.2.1 σC (xs (i + 1).toNatClampNeg) oc hC) rfl shzC_0 clzC_9 gL_law_X9_has hlX9_has ⟨rfl, rfl⟩ ⟨Nat.le_of_ble_eq_true rfl, Nat.le_of_ble_eq_true rfl⟩ rfl rfl (Nat.le_of_ble_eq_true rfl) ?_
  refine ll_pop X dL_law_319 ?_
  refine ll_aload_n X (j := 1) dL_law_320 rfl rfl ?_
  refine ll_aload_n X (j := 3) dL_law_321 rfl rfl ?_
  refine ll_iload_n X (j := 0) dL_law_322 rfl rfl ?_
  refine ll_iconst X (v := 1) dL_law_323 (by decide) ?_
  refine ll_iadd X dL_law_324 ?_
  refine ll_sld X (l_in X.2.2.2.2.2.2.2.1 h0 h1 (by decide) (by decide)) dL_law_325 ?_
  refine llM_i X (As := [.int (xs (i + 1).toNatClampNeg)]) (rest := []) dL_law_326 (kX10_has (mL M) GM X.2.2.1.2.1 X.2.2.1.2.2.1 σM (xs (i + 1).toNatClampNeg) om hM) rfl shzM_0 clzM_10 gL_law_X10_has hlX10_has ⟨rfl, rfl⟩ ⟨Nat.le_of_ble_eq_true rfl, Nat.le_of_ble_eq_true rfl⟩ rfl rfl (Nat.le_of_ble_eq_true rfl) ?_
  refine ll_pop X dL_law_329 ?_
  exact ll_goto X dL_law_330 (by decide) kk
set_option maxRecDepth 100000 in
set_option maxHeartbeats 4000000 in
theorem lk_5 {M : gM} {Q : State → Prop} {GC GM : gG} {ex : gEx} {b0 b L ce sl : Nat} {xs : Nat → Int32} {σC σM : gS} (X : lX M GC GM ex b0 b L xs ce sl) {i : Int32} (h0 : 0 ≤ i.toInt) (h1 : i.toInt + 6 ≤ L) {oc : Int32} {om : Int32} (hC : fX9_letter σC (xs (i + 1).toNatClampNeg) (xs (i + 2).toNatClampNeg) (xs (i + 3).toNatClampNeg) = some oc) (hM : fX10_letter σM (xs (i + 1).toNatClampNeg) (xs (i + 2).toNatClampNeg) (xs (i + 3).toNatClampNeg) = some om) (kk : LL M Q GC GM b0 ce sl σC σM 1229 [(3, .int i), (2, .ref (GM.2.1 0)), (1, .ref (GC.2.1 0)), (0, .ref b)] []) : LL M Q GC GM b0 ce sl σC σM 333 [(3, .int i), (2, .ref (GM.2.1 0)), (1, .ref (GC.2.1 0)), (0, .ref b)] [] := by
  refine ll_aload_n X (j := 2) dL_law_333 rfl rfl ?_
  refine ll_aload_n X (j := 3) dL_law_334 rfl rfl ?_
  refine ll_iload_n X (j := 0) dL_law_335 rfl rfl ?_
  refine ll_iconst X (v := 1) dL_law_336 (by decide) ?_
  refine ll_iadd X dL_law_337 ?_
  refine ll_sld X (l_in X.2.2.2.2.2.2.2.1 h0 h1 (by decide) (by decide)) dL_law_338 ?_
  refine ll_aload_n X (j := 3) dL_law_339 rfl rfl ?_
  refine ll_iload_n X (j := 0) dL_law_340 rfl rfl ?_
  refine ll_iconst X (v := 2) dL_law_341 (by decide) ?_
  refine ll_iadd X dL_law_342 ?_
  refine ll_sld X (l_in X.2.2.2.2.2.2.2.1 h0 h1 (by decide) (by decide)) dL_law_343 ?_
  refine ll_aload_n X (j := 3) dL_law_344 rfl rfl ?_
  refine ll_iload_n X (j := 0) dL_law_345 rfl rfl ?_
  refine ll_iconst X (v := 3) dL_law_346 (by decide) ?_
  refine ll_iadd X dL_law_347 ?_
  refine ll_sld X (l_in X.2.2.2.2.2.2.2.1 h0 h1 (by decide) (by decide)) dL_law_348 ?_
  refine llC_i X (As := [.int (xs (i + 1).toNatClampNeg), .int (xs (i + 2).toNatClampNeg), .int (xs (i + 3).toNatClampNeg)]) (rest := []) dL_law_349 (kX9_letter (mL M) GC X.2.1.2.2.2.2.1 X.2.1.2.1 X.2.1.2.2.1 σC (xs (i + 1).toNatClampNeg) (xs (i + 2).toNatClampNeg) (xs (i + 3).toNatClampNeg) oc hC) rfl shzC_0 clzC_9 gL_law_X9_letter hlX9_letter ⟨rfl, rfl⟩ ⟨Nat.le_of_ble_eq_true rfl, Nat.le_of_ble_eq_true rfl⟩ rfl rfl (Nat.le_of_ble_eq_true rfl) ?_
  refine ll_pop X dL_law_352 ?_
  refine ll_aload_n X (j := 1) dL_law_353 rfl rfl ?_
  refine ll_aload_n X (j := 3) dL_law_354 rfl rfl ?_
  refine ll_iload_n X (j := 0) dL_law_355 rfl rfl ?_
  refine ll_iconst X (v := 1) dL_law_356 (by decide) ?_
  refine ll_iadd X dL_law_357 ?_
  refine ll_sld X (l_in X.2.2.2.2.2.2.2.1 h0 h1 (by decide) (by decide)) dL_law_358 ?_
  refine ll_aload_n X (j := 3) dL_law_359 rfl rfl ?_
  refine ll_iload_n X (j := 0) dL_law_360 rfl rfl ?_
  refine ll_iconst X (v := 2) dL_law_361 (by decide) ?_
  refine ll_iadd X dL_law_362 ?_
  refine ll_sld X (l_in X.2.2.2.2.2.2.2.1 h0 h1 (by decide) (by decide)) dL_law_363 ?_
  refine ll_aload_n X (j := 3) dL_law_364 rfl rfl ?_
  refine ll_iload_n X (j := 0) dL_law_365 rfl rfl ?_
  refine ll_iconst X (v := 3) dL_law_366 (by decide) ?_
  refine ll_iadd X dL_law_367 ?_
  refine ll_sld X (l_in X.2.2.2.2.2.2.2.1 h0 h1 (by decide) (by decide)) dL_law_368 ?_
  refine llM_i X (As := [.int (xs (i + 1).toNatClampNeg), .int (xs (i + 2).toNatClampNeg), .int (xs (i + 3).toNatClampNeg)]) (rest := []) dL_law_369 (kX10_letter (mL M) GM X.2.2.1.2.1 X.2.2.1.2.2.1 σM (xs (i + 1).toNatClampNeg) (xs (i + 2).toNatClampNeg) (xs (i + 3).toNatClampNeg) om hM) rfl shzM_0 clzM_10 gL_law_X10_letter hlX10_letter ⟨rfl, rfl⟩ ⟨Nat.le_of_ble_eq_true rfl, Nat.le_of_ble_eq_true rfl⟩ rfl rfl (Nat.le_of_ble_eq_true rfl) ?_
  refine ll_pop X dL_law_372 ?_
  exact ll_goto X dL_law_373 (by decide) kk
set_option maxRecDepth 100000 in
set_option maxHeartbeats 4000000 in
theorem lk_6 {M : gM} {Q : State → Prop} {GC GM : gG} {ex : gEx} {b0 b L ce sl : Nat} {xs : Nat → Int32} {σC σM : gS} (X : lX M GC GM ex b0 b L xs ce sl) {i : Int32} (h0 : 0 ≤ i.toInt) (h1 : i.toInt + 6 ≤ L) {oc : Int32 × gS} {om : Int32 × gS} (hC : fX9_picture σC (xs (i + 1).toNatClampNeg) (xs (i + 2).toNatClampNeg) = some oc) (hM : fX10_picture σM (xs (i + 1).toNatClampNeg) (xs (i + 2).toNatClampNeg) = some om) (kk : LL M Q GC GM b0 ce sl oc.2 om.2 1229 [(3, .int i), (2, .ref (GM.2.1 0)), (1, .ref (GC.2.1 0)), (0, .ref b)] []) : LL M Q GC GM b0 ce sl σC σM 376 [(3, .int i), (2, .ref (GM.2.1 0)), (1, .ref (GC.2.1 0)), (0, .ref b)] [] := by
  refine ll_aload_n X (j := 2) dL_law_376 rfl rfl ?_
  refine ll_aload_n X (j := 3) dL_law_377 rfl rfl ?_
  refine ll_iload_n X (j := 0) dL_law_378 rfl rfl ?_
  refine ll_iconst X (v := 1) dL_law_379 (by decide) ?_
  refine ll_iadd X dL_law_380 ?_
  refine ll_sld X (l_in X.2.2.2.2.2.2.2.1 h0 h1 (by decide) (by decide)) dL_law_381 ?_
  refine ll_aload_n X (j := 3) dL_law_382 rfl rfl ?_
  refine ll_iload_n X (j := 0) dL_law_383 rfl rfl ?_
  refine ll_iconst X (v := 2) dL_law_384 (by decide) ?_
  refine ll_iadd X dL_law_385 ?_
  refine ll_sld X (l_in X.2.2.2.2.2.2.2.1 h0 h1 (by decide) (by decide)) dL_law_386 ?_
  refine llC_i X (As := [.int (xs (i + 1).toNatClampNeg), .int (xs (i + 2).toNatClampNeg)]) (rest := []) dL_law_387 (kX9_picture (mL M) GC X.2.1.2.2.2.2.1 X.2.1.2.1 X.2.1.2.2.1 σC (xs (i + 1).toNatClampNeg) (xs (i + 2).toNatClampNeg) oc hC) rfl shzC_0 clzC_9 gL_law_X9_picture hlX9_picture ⟨rfl, rfl⟩ ⟨Nat.le_of_ble_eq_true rfl, Nat.le_of_ble_eq_true rfl⟩ rfl rfl (Nat.le_of_ble_eq_true rfl) ?_
  refine ll_pop X dL_law_390 ?_
  refine ll_aload_n X (j := 1) dL_law_391 rfl rfl ?_
  refine ll_aload_n X (j := 3) dL_law_392 rfl rfl ?_
  refine ll_iload_n X (j := 0) dL_law_393 rfl rfl ?_
  refine ll_iconst X (v := 1) dL_law_394 (by decide) ?_
  refine ll_iadd X dL_law_395 ?_
  refine ll_sld X (l_in X.2.2.2.2.2.2.2.1 h0 h1 (by decide) (by decide)) dL_law_396 ?_
  refine ll_aload_n X (j := 3) dL_law_397 rfl rfl ?_
  refine ll_iload_n X (j := 0) dL_law_398 rfl rfl ?_
  refine ll_iconst X (v := 2) dL_law_399 (by decide) ?_
  refine ll_iadd X dL_law_400 ?_
  refine ll_sld X (l_in X.2.2.2.2.2.2.2.1 h0 h1 (by decide) (by decide)) dL_law_401 ?_
  refine llM_i X (As := [.int (xs (i + 1).toNatClampNeg), .int (xs (i + 2).toNatClampNeg)]) (rest := []) dL_law_402 (kX10_picture (mL M) GM X.2.2.1.2.1 X.2.2.1.2.2.1 σM (xs (i + 1).toNatClampNeg) (xs (i + 2).toNatClampNeg) om hM) rfl shzM_0 clzM_10 gL_law_X10_picture hlX10_picture ⟨rfl, rfl⟩ ⟨Nat.le_of_ble_eq_true rfl, Nat.le_of_ble_eq_true rfl⟩ rfl rfl (Nat.le_of_ble_eq_true rfl) ?_
  refine ll_pop X dL_law_405 ?_
  exact ll_goto X dL_law_406 (by decide) kk
set_option maxRecDepth 100000 in
set_option maxHeartbeats 4000000 in
theorem lk_7 {M : gM} {Q : State → Prop} {GC GM : gG} {ex : gEx} {b0 b L ce sl : Nat} {xs : Nat → Int32} {σC σM : gS} (X : lX M GC GM ex b0 b L xs ce sl) {i : Int32} (h0 : 0 ≤ i.toInt) (h1 : i.toInt + 6 ≤ L) {oc : Int32 × gS} {om : Int32 × gS} (hC : fX9_point σC (xs (i + 1).toNatClampNeg) (xs (i + 2).toNatClampNeg) = some oc) (hM : fX10_point σM (xs (i + 1).toNatClampNeg) (xs (i + 2).toNatClampNeg) = some om) (kk : LL M Q GC GM b0 ce sl oc.2 om.2 1229 [(3, .int i), (2, .ref (GM.2.1 0)), (1, .ref (GC.2.1 0)), (0, .ref b)] []) : LL M Q GC GM b0 ce sl σC σM 409 [(3, .int i), (2, .ref (GM.2.1 0)), (1, .ref (GC.2.1 0)), (0, .ref b)] [] := by
  refine ll_aload_n X (j := 2) dL_law_409 rfl rfl ?_
  refine ll_aload_n X (j := 3) dL_law_410 rfl rfl ?_
  refine ll_iload_n X (j := 0) dL_law_411 rfl rfl ?_
  refine ll_iconst X (v := 1) dL_law_412 (by decide) ?_
  refine ll_iadd X dL_law_413 ?_
  refine ll_sld X (l_in X.2.2.2.2.2.2.2.1 h0 h1 (by decide) (by decide)) dL_law_414 ?_
  refine ll_aload_n X (j := 3) dL_law_415 rfl rfl ?_
  refine ll_iload_n X (j := 0) dL_law_416 rfl rfl ?_
  refine ll_iconst X (v := 2) dL_law_417 (by decide) ?_
  refine ll_iadd X dL_law_418 ?_
  refine ll_sld X (l_in X.2.2.2.2.2.2.2.1 h0 h1 (by decide) (by decide)) dL_law_419 ?_
  refine llC_i X (As := [.int (xs (i + 1).toNatClampNeg), .int (xs (i + 2).toNatClampNeg)]) (rest := []) dL_law_420 (kX9_point (mL M) GC X.2.1.2.2.2.2.1 X.2.1.2.1 X.2.1.2.2.1 σC (xs (i + 1).toNatClampNeg) (xs (i + 2).toNatClampNeg) oc hC) rfl shzC_0 clzC_9 gL_law_X9_point hlX9_point ⟨rfl, rfl⟩ ⟨Nat.le_of_ble_eq_true rfl, Nat.le_of_ble_eq_true rfl⟩ rfl rfl (Nat.le_of_ble_eq_true rfl) ?_
  refine ll_pop X dL_law_423 ?_
  refine ll_aload_n X (j := 1) dL_law_424 rfl rfl ?_
  refine ll_aload_n X (j := 3) dL_law_425 rfl rfl ?_
  refine ll_iload_n X (j := 0) dL_law_426 rfl rfl ?_
  refine ll_iconst X (v := 1) dL_law_427 (by decide) ?_
  refine ll_iadd X dL_law_428 ?_
  refine ll_sld X (l_in X.2.2.2.2.2.2.2.1 h0 h1 (by decide) (by decide)) dL_law_429 ?_
  refine ll_aload_n X (j := 3) dL_law_430 rfl rfl ?_
  refine ll_iload_n X (j := 0) dL_law_431 rfl rfl ?_
  refine ll_iconst X (v := 2) dL_law_432 (by decide) ?_
  refine ll_iadd X dL_law_433 ?_
  refine ll_sld X (l_in X.2.2.2.2.2.2.2.1 h0 h1 (by decide) (by decide)) dL_law_434 ?_
  refine llM_i X (As := [.int (xs (i + 1).toNatClampNeg), .int (xs (i + 2).toNatClampNeg)]) (rest := []) dL_law_435 (kX10_point (mL M) GM X.2.2.1.2.1 X.2.2.1.2.2.1 σM (xs (i + 1).toNatClampNeg) (xs (i + 2).toNatClampNeg) om hM) rfl shzM_0 clzM_10 gL_law_X10_point hlX10_point ⟨rfl, rfl⟩ ⟨Nat.le_of_ble_eq_true rfl, Nat.le_of_ble_eq_true rfl⟩ rfl rfl (Nat.le_of_ble_eq_true rfl) ?_
  refine ll_pop X dL_law_438 ?_
  exact ll_goto X dL_law_439 (by decide) kk
set_option maxRecDepth 100000 in
set_option maxHeartbeats 4000000 in
theorem lk_8 {M : gM} {Q : State → Prop} {GC GM : gG} {ex : gEx} {b0 b L ce sl : Nat} {xs : Nat → Int32} {σC σM : gS} (X : lX M GC GM ex b0 b L xs ce sl) {i : Int32} (h0 : 0 ≤ i.toInt) (h1 : i.toInt + 6 ≤ L) {oc : Int32 × gS} {om : Int32 × gS} (hC : fX9_row σC (xs (i + 1).toNatClampNeg) (xs (i + 2).toNatClampNeg) = some oc) (hM : fX10_row σM (xs (i + 1).toNatClampNeg) (xs (i + 2).toNatClampNeg) = some om) (kk : LL M Q GC GM b0 ce sl oc.2 om.2 1229 [(3, .int i), (2, .ref (GM.2.1 0)), (1, .ref (GC.2.1 0)), (0, .ref b)] []) : LL M Q GC GM b0 ce sl σC σM 442 [(3, .int i), (2, .ref (GM.2.1 0)), (1, .ref (GC.2.1 0)), (0, .ref b)] [] := by
  refine ll_aload_n X (j := 2) dL_law_442 rfl rfl ?_
  refine ll_aload_n X (j := 3) dL_law_443 rfl rfl ?_
  refine ll_iload_n X (j := 0) dL_law_444 rfl rfl ?_
  refine ll_iconst X (v := 1) dL_law_445 (by decide) ?_
  refine ll_iadd X dL_law_446 ?_
  refine ll_sld X (l_in X.2.2.2.2.2.2.2.1 h0 h1 (by decide) (by decide)) dL_law_447 ?_
  refine ll_aload_n X (j := 3) dL_law_448 rfl rfl ?_
  refine ll_iload_n X (j := 0) dL_law_449 rfl rfl ?_
  refine ll_iconst X (v := 2) dL_law_450 (by decide) ?_
  refine ll_iadd X dL_law_451 ?_
  refine ll_sld X (l_in X.2.2.2.2.2.2.2.1 h0 h1 (by decide) (by decide)) dL_law_452 ?_
  refine llC_i X (As := [.int (xs (i + 1).toNatClampNeg), .int (xs (i + 2).toNatClampNeg)]) (rest := []) dL_law_453 (kX9_row (mL M) GC X.2.1.2.2.2.2.1 X.2.1.2.1 X.2.1.2.2.1 σC (xs (i + 1).toNatClampNeg) (xs (i + 2).toNatClampNeg) oc hC) rfl shzC_0 clzC_9 gL_law_X9_row hlX9_row ⟨rfl, rfl⟩ ⟨Nat.le_of_ble_eq_true rfl, Nat.le_of_ble_eq_true rfl⟩ rfl rfl (Nat.le_of_ble_eq_true rfl) ?_
  refine ll_pop X dL_law_456 ?_
  refine ll_aload_n X (j := 1) dL_law_457 rfl rfl ?_
  refine ll_aload_n X (j := 3) dL_law_458 rfl rfl ?_
  refine ll_iload_n X (j := 0) dL_law_459 rfl rfl ?_
  refine ll_iconst X (v := 1) dL_law_460 (by decide) ?_
  refine ll_iadd X dL_law_461 ?_
  refine ll_sld X (l_in X.2.2.2.2.2.2.2.1 h0 h1 (by decide) (by decide)) dL_law_462 ?_
  refine ll_aload_n X (j := 3) dL_law_463 rfl rfl ?_
  refine ll_iload_n X (j := 0) dL_law_464 rfl rfl ?_
  refine ll_iconst X (v := 2) dL_law_465 (by decide) ?_
  refine ll_iadd X dL_law_466 ?_
  refine ll_sld X (l_in X.2.2.2.2.2.2.2.1 h0 h1 (by decide) (by decide)) dL_law_467 ?_
  refine llM_i X (As := [.int (xs (i + 1).toNatClampNeg), .int (xs (i + 2).toNatClampNeg)]) (rest := []) dL_law_468 (kX10_row (mL M) GM X.2.2.1.2.1 X.2.2.1.2.2.1 σM (xs (i + 1).toNatClampNeg) (xs (i + 2).toNatClampNeg) om hM) rfl shzM_0 clzM_10 gL_law_X10_row hlX10_row ⟨rfl, rfl⟩ ⟨Nat.le_of_ble_eq_true rfl, Nat.le_of_ble_eq_true rfl⟩ rfl rfl (Nat.le_of_ble_eq_true rfl) ?_
  refine ll_pop X dL_law_471 ?_
  exact ll_goto X dL_law_472 (by decide) kk
set_option maxRecDepth 100000 in
set_option maxHeartbeats 4000000 in
theorem lk_9 {M : gM} {Q : State → Prop} {GC GM : gG} {ex : gEx} {b0 b L ce sl : Nat} {xs : Nat → Int32} {σC σM : gS} (X : lX M GC GM ex b0 b L xs ce sl) {i : Int32} (h0 : 0 ≤ i.toInt) (h1 : i.toInt + 6 ≤ L) {oc : Int32} {om : Int32} (hC : fX9_drift σC (xs (i + 1).toNatClampNeg) (xs (i + 2).toNatClampNeg) = some oc) (hM : fX10_drift σM (xs (i + 1).toNatClampNeg) (xs (i + 2).toNatClampNeg) = some om) (kk : LL M Q GC GM b0 ce sl σC σM 1229 [(3, .int i), (2, .ref (GM.2.1 0)), (1, .ref (GC.2.1 0)), (0, .ref b)] []) : LL M Q GC GM b0 ce sl σC σM 475 [(3, .int i), (2, .ref (GM.2.1 0)), (1, .ref (GC.2.1 0)), (0, .ref b)] [] := by
  refine ll_aload_n X (j := 2) dL_law_475 rfl rfl ?_
  refine ll_aload_n X (j := 3) dL_law_476 rfl rfl ?_
  refine ll_iload_n X (j := 0) dL_law_477 rfl rfl ?_
  refine ll_iconst X (v := 1) dL_law_478 (by decide) ?_
  refine ll_iadd X dL_law_479 ?_
  refine ll_sld X (l_in X.2.2.2.2.2.2.2.1 h0 h1 (by decide) (by decide)) dL_law_480 ?_
  refine ll_aload_n X (j := 3) dL_law_481 rfl rfl ?_
  refine ll_iload_n X (j := 0) dL_law_482 rfl rfl ?_
  refine ll_iconst X (v := 2) dL_law_483 (by decide) ?_
  refine ll_iadd X dL_law_484 ?_
  refine ll_sld X (l_in X.2.2.2.2.2.2.2.1 h0 h1 (by decide) (by decide)) dL_law_485 ?_
  refine llC_i X (As := [.int (xs (i + 1).toNatClampNeg), .int (xs (i + 2).toNatClampNeg)]) (rest := []) dL_law_486 (kX9_drift (mL M) GC X.2.1.2.2.2.2.1 X.2.1.2.1 X.2.1.2.2.1 σC (xs (i + 1).toNatClampNeg) (xs (i + 2).toNatClampNeg) oc hC) rfl shzC_0 clzC_9 gL_law_X9_drift hlX9_drift ⟨rfl, rfl⟩ ⟨Nat.le_of_ble_eq_true rfl, Nat.le_of_ble_eq_true rfl⟩ rfl rfl (Nat.le_of_ble_eq_true rfl) ?_
  refine ll_pop X dL_law_489 ?_
  refine ll_aload_n X (j := 1) dL_law_490 rfl rfl ?_
  refine ll_aload_n X (j := 3) dL_law_491 rfl rfl ?_
  refine ll_iload_n X (j := 0) dL_law_492 rfl rfl ?_
  refine ll_iconst X (v := 1) dL_law_493 (by decide) ?_
  refine ll_iadd X dL_law_494 ?_
  refine ll_sld X (l_in X.2.2.2.2.2.2.2.1 h0 h1 (by decide) (by decide)) dL_law_495 ?_
  refine ll_aload_n X (j := 3) dL_law_496 rfl rfl ?_
  refine ll_iload_n X (j := 0) dL_law_497 rfl rfl ?_
  refine ll_iconst X (v := 2) dL_law_498 (by decide) ?_
  refine ll_iadd X dL_law_499 ?_
  refine ll_sld X (l_in X.2.2.2.2.2.2.2.1 h0 h1 (by decide) (by decide)) dL_law_500 ?_
  refine llM_i X (As := [.int (xs (i + 1).toNatClampNeg), .int (xs (i + 2).toNatClampNeg)]) (rest := []) dL_law_501 (kX10_drift (mL M) GM X.2.2.1.2.1 X.2.2.1.2.2.1 σM (xs (i + 1).toNatClampNeg) (xs (i + 2).toNatClampNeg) om hM) rfl shzM_0 clzM_10 gL_law_X10_drift hlX10_drift ⟨rfl, rfl⟩ ⟨Nat.le_of_ble_eq_true rfl, Nat.le_of_ble_eq_true rfl⟩ rfl rfl (Nat.le_of_ble_eq_true rfl) ?_
  refine ll_pop X dL_law_504 ?_
  exact ll_goto X dL_law_505 (by decide) kk
set_option maxRecDepth 100000 in
set_option maxHeartbeats 4000000 in
theorem lk_10 {M : gM} {Q : State → Prop} {GC GM : gG} {ex : gEx} {b0 b L ce sl : Nat} {xs : Nat → Int32} {σC σM : gS} (X : lX M GC GM ex b0 b L xs ce sl) {i : Int32} (h0 : 0 ≤ i.toInt) (h1 : i.toInt + 6 ≤ L) {oc : Int32 × gS} {om : Int32 × gS} (hC : fX9_start σC  = some oc) (hM : fX10_start σM  = some om) (he : oc.1 = om.1) (kk : LL M Q GC GM b0 ce sl oc.2 om.2 1229 [(3, .int i), (2, .ref (GM.2.1 0)), (1, .ref (GC.2.1 0)), (0, .ref b)] []) : LL M Q GC GM b0 ce sl σC σM 508 [(3, .int i), (2, .ref (GM.2.1 0)), (1, .ref (GC.2.1 0)), (0, .ref b)] [] := by
  refine ll_aload_n X (j := 2) dL_law_508 rfl rfl ?_
  refine llC_i X (As := []) (rest := []) dL_law_509 (kX9_start (mL M) GC X.2.1.2.2.2.2.1 X.2.1.2.1 X.2.1.2.2.1 σC  oc hC) rfl shzC_0 clzC_9 gL_law_X9_start hlX9_start ⟨rfl, rfl⟩ ⟨Nat.le_of_ble_eq_true rfl, Nat.le_of_ble_eq_true rfl⟩ rfl rfl (Nat.le_of_ble_eq_true rfl) ?_
  refine ll_aload_n X (j := 1) dL_law_512 rfl rfl ?_
  refine llM_i X (As := []) (rest := [.int (oc.1)]) dL_law_513 (kX10_start (mL M) GM X.2.2.1.2.1 X.2.2.1.2.2.1 σM  om hM) rfl shzM_0 clzM_10 gL_law_X10_start hlX10_start ⟨rfl, rfl⟩ ⟨Nat.le_of_ble_eq_true rfl, Nat.le_of_ble_eq_true rfl⟩ rfl rfl (Nat.le_of_ble_eq_true rfl) ?_
  exact ll_icmp_eqT X dL_law_516 (by decide) he kk
set_option maxRecDepth 100000 in
set_option maxHeartbeats 4000000 in
theorem lk_11 {M : gM} {Q : State → Prop} {GC GM : gG} {ex : gEx} {b0 b L ce sl : Nat} {xs : Nat → Int32} {σC σM : gS} (X : lX M GC GM ex b0 b L xs ce sl) {i : Int32} (h0 : 0 ≤ i.toInt) (h1 : i.toInt + 6 ≤ L) {oc : Int32 × gS} {om : Int32 × gS} (hC : fX9_rounds σC (xs (i + 1).toNatClampNeg) = some oc) (hM : fX10_rounds σM (xs (i + 1).toNatClampNeg) = some om) (kk : LL M Q GC GM b0 ce sl oc.2 om.2 1229 [(3, .int i), (2, .ref (GM.2.1 0)), (1, .ref (GC.2.1 0)), (0, .ref b)] []) : LL M Q GC GM b0 ce sl σC σM 521 [(3, .int i), (2, .ref (GM.2.1 0)), (1, .ref (GC.2.1 0)), (0, .ref b)] [] := by
  refine ll_aload_n X (j := 2) dL_law_521 rfl rfl ?_
  refine ll_aload_n X (j := 3) dL_law_522 rfl rfl ?_
  refine ll_iload_n X (j := 0) dL_law_523 rfl rfl ?_
  refine ll_iconst X (v := 1) dL_law_524 (by decide) ?_
  refine ll_iadd X dL_law_525 ?_
  refine ll_sld X (l_in X.2.2.2.2.2.2.2.1 h0 h1 (by decide) (by decide)) dL_law_526 ?_
  refine llC_i X (As := [.int (xs (i + 1).toNatClampNeg)]) (rest := []) dL_law_527 (kX9_rounds (mL M) GC X.2.1.2.2.2.2.1 X.2.1.2.1 X.2.1.2.2.1 σC (xs (i + 1).toNatClampNeg) oc hC) rfl shzC_0 clzC_9 gL_law_X9_rounds hlX9_rounds ⟨rfl, rfl⟩ ⟨Nat.le_of_ble_eq_true rfl, Nat.le_of_ble_eq_true rfl⟩ rfl rfl (Nat.le_of_ble_eq_true rfl) ?_
  refine ll_pop X dL_law_530 ?_
  refine ll_aload_n X (j := 1) dL_law_531 rfl rfl ?_
  refine ll_aload_n X (j := 3) dL_law_532 rfl rfl ?_
  refine ll_iload_n X (j := 0) dL_law_533 rfl rfl ?_
  refine ll_iconst X (v := 1) dL_law_534 (by decide) ?_
  refine ll_iadd X dL_law_535 ?_
  refine ll_sld X (l_in X.2.2.2.2.2.2.2.1 h0 h1 (by decide) (by decide)) dL_law_536 ?_
  refine llM_i X (As := [.int (xs (i + 1).toNatClampNeg)]) (rest := []) dL_law_537 (kX10_rounds (mL M) GM X.2.2.1.2.1 X.2.2.1.2.2.1 σM (xs (i + 1).toNatClampNeg) om hM) rfl shzM_0 clzM_10 gL_law_X10_rounds hlX10_rounds ⟨rfl, rfl⟩ ⟨Nat.le_of_ble_eq_true rfl, Nat.le_of_ble_eq_true rfl⟩ rfl rfl (Nat.le_of_ble_eq_true rfl) ?_
  refine ll_pop X dL_law_540 ?_
  exact ll_goto X dL_law_541 (by decide) kk
set_option maxRecDepth 100000 in
set_option maxHeartbeats 4000000 in
theorem lk_12 {M : gM} {Q : State → Prop} {GC GM : gG} {ex : gEx} {b0 b L ce sl : Nat} {xs : Nat → Int32} {σC σM : gS} (X : lX M GC GM ex b0 b L xs ce sl) {i : Int32} (h0 : 0 ≤ i.toInt) (h1 : i.toInt + 6 ≤ L) {oc : Int64} {om : Int64} (hC : fX9_sum σC  = some oc) (hM : fX10_sum σM  = some om) (kk : LL M Q GC GM b0 ce sl σC σM 1229 [(3, .int i), (2, .ref (GM.2.1 0)), (1, .ref (GC.2.1 0)), (0, .ref b)] []) : LL M Q GC GM b0 ce sl σC σM 544 [(3, .int i), (2, .ref (GM.2.1 0)), (1, .ref (GC.2.1 0)), (0, .ref b)] [] := by
  refine ll_aload_n X (j := 2) dL_law_544 rfl rfl ?_
  refine llC_l X (As := []) (rest := []) dL_law_545 (kX9_sum (mL M) GC X.2.1.2.2.2.2.1 X.2.1.2.1 X.2.1.2.2.1 σC  oc hC) rfl shzC_0 clzC_9 gL_law_X9_sum hlX9_sum ⟨rfl, rfl⟩ ⟨Nat.le_of_ble_eq_true rfl, Nat.le_of_ble_eq_true rfl⟩ rfl rfl (Nat.le_of_ble_eq_true rfl) ?_
  refine ll_pop2 X dL_law_548 ?_
  refine ll_aload_n X (j := 1) dL_law_549 rfl rfl ?_
  refine llM_l X (As := []) (rest := []) dL_law_550 (kX10_sum (mL M) GM X.2.2.1.2.1 X.2.2.1.2.2.1 σM  om hM) rfl shzM_0 clzM_10 gL_law_X10_sum hlX10_sum ⟨rfl, rfl⟩ ⟨Nat.le_of_ble_eq_true rfl, Nat.le_of_ble_eq_true rfl⟩ rfl rfl (Nat.le_of_ble_eq_true rfl) ?_
  refine ll_pop2 X dL_law_553 ?_
  exact ll_goto X dL_law_554 (by decide) kk
set_option maxRecDepth 100000 in
set_option maxHeartbeats 4000000 in
theorem lk_13 {M : gM} {Q : State → Prop} {GC GM : gG} {ex : gEx} {b0 b L ce sl : Nat} {xs : Nat → Int32} {σC σM : gS} (X : lX M GC GM ex b0 b L xs ce sl) {i : Int32} (h0 : 0 ≤ i.toInt) (h1 : i.toInt + 6 ≤ L) {oc : Int32 × gS} {om : Int32 × gS} (hC : fX9_whole σC (xs (i + 1).toNatClampNeg) (xs (i + 2).toNatClampNeg) (xs (i + 3).toNatClampNeg) = some oc) (hM : fX10_whole σM (xs (i + 1).toNatClampNeg) (xs (i + 2).toNatClampNeg) (xs (i + 3).toNatClampNeg) = some om) (kk : LL M Q GC GM b0 ce sl oc.2 om.2 1229 [(3, .int i), (2, .ref (GM.2.1 0)), (1, .ref (GC.2.1 0)), (0, .ref b)] []) : LL M Q GC GM b0 ce sl σC σM 557 [(3, .int i), (2, .ref (GM.2.1 0)), (1, .ref (GC.2.1 0)), (0, .ref b)] [] := by
  refine ll_aload_n X (j := 2) dL_law_557 rfl rfl ?_
  refine ll_aload_n X (j := 3) dL_law_558 rfl rfl ?_
  refine ll_iload_n X (j := 0) dL_law_559 rfl rfl ?_
  refine ll_iconst X (v := 1) dL_law_560 (by decide) ?_
  refine ll_iadd X dL_law_561 ?_
  refine ll_sld X (l_in X.2.2.2.2.2.2.2.1 h0 h1 (by decide) (by decide)) dL_law_562 ?_
  refine ll_aload_n X (j := 3) dL_law_563 rfl rfl ?_
  refine ll_iload_n X (j := 0) dL_law_564 rfl rfl ?_
  refine ll_iconst X (v := 2) dL_law_565 (by decide) ?_
  refine ll_iadd X dL_law_566 ?_
  refine ll_sld X (l_in X.2.2.2.2.2.2.2.1 h0 h1 (by decide) (by decide)) dL_law_567 ?_
  refine ll_aload_n X (j := 3) dL_law_568 rfl rfl ?_
  refine ll_iload_n X (j := 0) dL_law_569 rfl rfl ?_
  refine ll_iconst X (v := 3) dL_law_570 (by decide) ?_
  refine ll_iadd X dL_law_571 ?_
  refine ll_sld X (l_in X.2.2.2.2.2.2.2.1 h0 h1 (by decide) (by decide)) dL_law_572 ?_
  refine llC_i X (As := [.int (xs (i + 1).toNatClampNeg), .int (xs (i + 2).toNatClampNeg), .int (xs (i + 3).toNatClampNeg)]) (rest := []) dL_law_573 (kX9_whole (mL M) GC X.2.1.2.2.2.2.1 X.2.1.2.1 X.2.1.2.2.1 σC (xs (i + 1).toNatClampNeg) (xs (i + 2).toNatClampNeg) (xs (i + 3).toNatClampNeg) oc hC) rfl shzC_0 clzC_9 gL_law_X9_whole hlX9_whole ⟨rfl, rfl⟩ ⟨Nat.le_of_ble_eq_true rfl, Nat.le_of_ble_eq_true rfl⟩ rfl rfl (Nat.le_of_ble_eq_true rfl) ?_
  refine ll_pop X dL_law_576 ?_
  refine ll_aload_n X (j := 1) dL_law_577 rfl rfl ?_
  refine ll_aload_n X (j := 3) dL_law_578 rfl rfl ?_
  refine ll_iload_n X (j := 0) dL_law_579 rfl rfl ?_
  refine ll_iconst X (v := 1) dL_law_580 (by decide) ?_
  refine ll_iadd X dL_law_581 ?_
  refine ll_sld X (l_in X.2.2.2.2.2.2.2.1 h0 h1 (by decide) (by decide)) dL_law_582 ?_
  refine ll_aload_n X (j := 3) dL_law_583 rfl rfl ?_
  refine ll_iload_n X (j := 0) dL_law_584 rfl rfl ?_
  refine ll_iconst X (v := 2) dL_law_585 (by decide) ?_
  refine ll_iadd X dL_law_586 ?_
  refine ll_sld X (l_in X.2.2.2.2.2.2.2.1 h0 h1 (by decide) (by decide)) dL_law_587 ?_
  refine ll_aload_n X (j := 3) dL_law_588 rfl rfl ?_
  refine ll_iload_n X (j := 0) dL_law_589 rfl rfl ?_
  refine ll_iconst X (v := 3) dL_law_590 (by decide) ?_
  refine ll_iadd X dL_law_591 ?_
  refine ll_sld X (l_in X.2.2.2.2.2.2.2.1 h0 h1 (by decide) (by decide)) dL_law_592 ?_
  refine llM_i X (As := [.int (xs (i + 1).toNatClampNeg), .int (xs (i + 2).toNatClampNeg), .int (xs (i + 3).toNatClampNeg)]) (rest := []) dL_law_593 (kX10_whole (mL M) GM X.2.2.1.2.1 X.2.2.1.2.2.1 σM (xs (i + 1).toNatClampNeg) (xs (i + 2).toNatClampNeg) (xs (i + 3).toNatClampNeg) om hM) rfl shzM_0 clzM_10 gL_law_X10_whole hlX10_whole ⟨rfl, rfl⟩ ⟨Nat.le_of_ble_eq_true rfl, Nat.le_of_ble_eq_true rfl⟩ rfl rfl (Nat.le_of_ble_eq_true rfl) ?_
  refine ll_pop X dL_law_596 ?_
  exact ll_goto X dL_law_597 (by decide) kk
set_option maxRecDepth 100000 in
set_option maxHeartbeats 4000000 in
theorem lk_14 {M : gM} {Q : State → Prop} {GC GM : gG} {ex : gEx} {b0 b L ce sl : Nat} {xs : Nat → Int32} {σC σM : gS} (X : lX M GC GM ex b0 b L xs ce sl) {i : Int32} (h0 : 0 ≤ i.toInt) (h1 : i.toInt + 6 ≤ L) {oc : Int32 × gS} {om : Int32 × gS} (hC : fX9_sets σC (xs (i + 1).toNatClampNeg) = some oc) (hM : fX10_sets σM (xs (i + 1).toNatClampNeg) = some om) (kk : LL M Q GC GM b0 ce sl oc.2 om.2 1229 [(3, .int i), (2, .ref (GM.2.1 0)), (1, .ref (GC.2.1 0)), (0, .ref b)] []) : LL M Q GC GM b0 ce sl σC σM 600 [(3, .int i), (2, .ref (GM.2.1 0)), (1, .ref (GC.2.1 0)), (0, .ref b)] [] := by
  refine ll_aload_n X (j := 2) dL_law_600 rfl rfl ?_
  refine ll_aload_n X (j := 3) dL_law_601 rfl rfl ?_
  refine ll_iload_n X (j := 0) dL_law_602 rfl rfl ?_
  refine ll_iconst X (v := 1) dL_law_603 (by decide) ?_
  refine ll_iadd X dL_law_604 ?_
  refine ll_sld X (l_in X.2.2.2.2.2.2.2.1 h0 h1 (by decide) (by decide)) dL_law_605 ?_
  refine llC_i X (As := [.int (xs (i + 1).toNatClampNeg)]) (rest := []) dL_law_606 (kX9_sets (mL M) GC X.2.1.2.2.2.2.1 X.2.1.2.1 X.2.1.2.2.1 σC (xs (i + 1).toNatClampNeg) oc hC) rfl shzC_0 clzC_9 gL_law_X9_sets hlX9_sets ⟨rfl, rfl⟩ ⟨Nat.le_of_ble_eq_true rfl, Nat.le_of_ble_eq_true rfl⟩ rfl rfl (Nat.le_of_ble_eq_true rfl) ?_
  refine ll_pop X dL_law_609 ?_
  refine ll_aload_n X (j := 1) dL_law_610 rfl rfl ?_
  refine ll_aload_n X (j := 3) dL_law_611 rfl rfl ?_
  refine ll_iload_n X (j := 0) dL_law_612 rfl rfl ?_
  refine ll_iconst X (v := 1) dL_law_613 (by decide) ?_
  refine ll_iadd X dL_law_614 ?_
  refine ll_sld X (l_in X.2.2.2.2.2.2.2.1 h0 h1 (by decide) (by decide)) dL_law_615 ?_
  refine llM_i X (As := [.int (xs (i + 1).toNatClampNeg)]) (rest := []) dL_law_616 (kX10_sets (mL M) GM X.2.2.1.2.1 X.2.2.1.2.2.1 σM (xs (i + 1).toNatClampNeg) om hM) rfl shzM_0 clzM_10 gL_law_X10_sets hlX10_sets ⟨rfl, rfl⟩ ⟨Nat.le_of_ble_eq_true rfl, Nat.le_of_ble_eq_true rfl⟩ rfl rfl (Nat.le_of_ble_eq_true rfl) ?_
  refine ll_pop X dL_law_619 ?_
  exact ll_goto X dL_law_620 (by decide) kk
set_option maxRecDepth 100000 in
set_option maxHeartbeats 4000000 in
theorem lk_15 {M : gM} {Q : State → Prop} {GC GM : gG} {ex : gEx} {b0 b L ce sl : Nat} {xs : Nat → Int32} {σC σM : gS} (X : lX M GC GM ex b0 b L xs ce sl) {i : Int32} (h0 : 0 ≤ i.toInt) (h1 : i.toInt + 6 ≤ L) {oc : Int32 × gS} {om : Int32 × gS} (hC : fX9_parts σC  = some oc) (hM : fX10_parts σM  = some om) (kk : LL M Q GC GM b0 ce sl oc.2 om.2 1229 [(3, .int i), (2, .ref (GM.2.1 0)), (1, .ref (GC.2.1 0)), (0, .ref b)] []) : LL M Q GC GM b0 ce sl σC σM 623 [(3, .int i), (2, .ref (GM.2.1 0)), (1, .ref (GC.2.1 0)), (0, .ref b)] [] := by
  refine ll_aload_n X (j := 2) dL_law_623 rfl rfl ?_
  refine llC_i X (As := []) (rest := []) dL_law_624 (kX9_parts (mL M) GC X.2.1.2.2.2.2.1 X.2.1.2.1 X.2.1.2.2.1 σC  oc hC) rfl shzC_0 clzC_9 gL_law_X9_parts hlX9_parts ⟨rfl, rfl⟩ ⟨Nat.le_of_ble_eq_true rfl, Nat.le_of_ble_eq_true rfl⟩ rfl rfl (Nat.le_of_ble_eq_true rfl) ?_
  refine ll_pop X dL_law_627 ?_
  refine ll_aload_n X (j := 1) dL_law_628 rfl rfl ?_
  refine llM_i X (As := []) (rest := []) dL_law_629 (kX10_parts (mL M) GM X.2.2.1.2.1 X.2.2.1.2.2.1 σM  om hM) rfl shzM_0 clzM_10 gL_law_X10_parts hlX10_parts ⟨rfl, rfl⟩ ⟨Nat.le_of_ble_eq_true rfl, Nat.le_of_ble_eq_true rfl⟩ rfl rfl (Nat.le_of_ble_eq_true rfl) ?_
  refine ll_pop X dL_law_632 ?_
  exact ll_goto X dL_law_633 (by decide) kk
set_option maxRecDepth 100000 in
set_option maxHeartbeats 4000000 in
theorem lk_16 {M : gM} {Q : State → Prop} {GC GM : gG} {ex : gEx} {b0 b L ce sl : Nat} {xs : Nat → Int32} {σC σM : gS} (X : lX M GC GM ex b0 b L xs ce sl) {i : Int32} (h0 : 0 ≤ i.toInt) (h1 : i.toInt + 6 ≤ L) {oc : Int32 × gS} {om : Int32 × gS} (hC : fX9_hang σC (xs (i + 1).toNatClampNeg) (xs (i + 2).toNatClampNeg) = some oc) (hM : fX10_hang σM (xs (i + 1).toNatClampNeg) (xs (i + 2).toNatClampNeg) = some om) (kk : LL M Q GC GM b0 ce sl oc.2 om.2 1229 [(3, .int i), (2, .ref (GM.2.1 0)), (1, .ref (GC.2.1 0)), (0, .ref b)] []) : LL M Q GC GM b0 ce sl σC σM 636 [(3, .int i), (2, .ref (GM.2.1 0)), (1, .ref (GC.2.1 0)), (0, .ref b)] [] := by
  refine ll_aload_n X (j := 2) dL_law_636 rfl rfl ?_
  refine ll_aload_n X (j := 3) dL_law_637 rfl rfl ?_
  refine ll_iload_n X (j := 0) dL_law_638 rfl rfl ?_
  refine ll_iconst X (v := 1) dL_law_639 (by decide) ?_
  refine ll_iadd X dL_law_640 ?_
  refine ll_sld X (l_in X.2.2.2.2.2.2.2.1 h0 h1 (by decide) (by decide)) dL_law_641 ?_
  refine ll_aload_n X (j := 3) dL_law_642 rfl rfl ?_
  refine ll_iload_n X (j := 0) dL_law_643 rfl rfl ?_
  refine ll_iconst X (v := 2) dL_law_644 (by decide) ?_
  refine ll_iadd X dL_law_645 ?_
  refine ll_sld X (l_in X.2.2.2.2.2.2.2.1 h0 h1 (by decide) (by decide)) dL_law_646 ?_
  refine llC_i X (As := [.int (xs (i + 1).toNatClampNeg), .int (xs (i + 2).toNatClampNeg)]) (rest := []) dL_law_647 (kX9_hang (mL M) GC X.2.1.2.2.2.2.1 X.2.1.2.1 X.2.1.2.2.1 σC (xs (i + 1).toNatClampNeg) (xs (i + 2).toNatClampNeg) oc hC) rfl shzC_0 clzC_9 gL_law_X9_hang hlX9_hang ⟨rfl, rfl⟩ ⟨Nat.le_of_ble_eq_true rfl, Nat.le_of_ble_eq_true rfl⟩ rfl rfl (Nat.le_of_ble_eq_true rfl) ?_
  refine ll_pop X dL_law_650 ?_
  refine ll_aload_n X (j := 1) dL_law_651 rfl rfl ?_
  refine ll_aload_n X (j := 3) dL_law_652 rfl rfl ?_
  refine ll_iload_n X (j := 0) dL_law_653 rfl rfl ?_
  refine ll_iconst X (v := 1) dL_law_654 (by decide) ?_
  refine ll_iadd X dL_law_655 ?_
  refine ll_sld X (l_in X.2.2.2.2.2.2.2.1 h0 h1 (by decide) (by decide)) dL_law_656 ?_
  refine ll_aload_n X (j := 3) dL_law_657 rfl rfl ?_
  refine ll_iload_n X (j := 0) dL_law_658 rfl rfl ?_
  refine ll_iconst X (v := 2) dL_law_659 (by decide) ?_
  refine ll_iadd X dL_law_660 ?_
  refine ll_sld X (l_in X.2.2.2.2.2.2.2.1 h0 h1 (by decide) (by decide)) dL_law_661 ?_
  refine llM_i X (As := [.int (xs (i + 1).toNatClampNeg), .int (xs (i + 2).toNatClampNeg)]) (rest := []) dL_law_662 (kX10_hang (mL M) GM X.2.2.1.2.1 X.2.2.1.2.2.1 σM (xs (i + 1).toNatClampNeg) (xs (i + 2).toNatClampNeg) om hM) rfl shzM_0 clzM_10 gL_law_X10_hang hlX10_hang ⟨rfl, rfl⟩ ⟨Nat.le_of_ble_eq_true rfl, Nat.le_of_ble_eq_true rfl⟩ rfl rfl (Nat.le_of_ble_eq_true rfl) ?_
  refine ll_pop X dL_law_665 ?_
  exact ll_goto X dL_law_666 (by decide) kk
set_option maxRecDepth 100000 in
set_option maxHeartbeats 4000000 in
theorem lk_17 {M : gM} {Q : State → Prop} {GC GM : gG} {ex : gEx} {b0 b L ce sl : Nat} {xs : Nat → Int32} {σC σM : gS} (X : lX M GC GM ex b0 b L xs ce sl) {i : Int32} (h0 : 0 ≤ i.toInt) (h1 : i.toInt + 6 ≤ L) {oc : Int32 × gS} {om : Int32 × gS} (hC : fX9_blind σC  = some oc) (hM : fX10_blind σM  = some om) (kk : LL M Q GC GM b0 ce sl oc.2 om.2 1229 [(3, .int i), (2, .ref (GM.2.1 0)), (1, .ref (GC.2.1 0)), (0, .ref b)] []) : LL M Q GC GM b0 ce sl σC σM 669 [(3, .int i), (2, .ref (GM.2.1 0)), (1, .ref (GC.2.1 0)), (0, .ref b)] [] := by
  refine ll_aload_n X (j := 2) dL_law_669 rfl rfl ?_
  refine llC_i X (As := []) (rest := []) dL_law_670 (kX9_blind (mL M) GC X.2.1.2.2.2.2.1 X.2.1.2.1 X.2.1.2.2.1 σC  oc hC) rfl shzC_0 clzC_9 gL_law_X9_blind hlX9_blind ⟨rfl, rfl⟩ ⟨Nat.le_of_ble_eq_true rfl, Nat.le_of_ble_eq_true rfl⟩ rfl rfl (Nat.le_of_ble_eq_true rfl) ?_
  refine ll_pop X dL_law_673 ?_
  refine ll_aload_n X (j := 1) dL_law_674 rfl rfl ?_
  refine llM_i X (As := []) (rest := []) dL_law_675 (kX10_blind (mL M) GM X.2.2.1.2.1 X.2.2.1.2.2.1 σM  om hM) rfl shzM_0 clzM_10 gL_law_X10_blind hlX10_blind ⟨rfl, rfl⟩ ⟨Nat.le_of_ble_eq_true rfl, Nat.le_of_ble_eq_true rfl⟩ rfl rfl (Nat.le_of_ble_eq_true rfl) ?_
  refine ll_pop X dL_law_678 ?_
  exact ll_goto X dL_law_679 (by decide) kk
set_option maxRecDepth 100000 in
set_option maxHeartbeats 4000000 in
theorem lk_18 {M : gM} {Q : State → Prop} {GC GM : gG} {ex : gEx} {b0 b L ce sl : Nat} {xs : Nat → Int32} {σC σM : gS} (X : lX M GC GM ex b0 b L xs ce sl) {i : Int32} (h0 : 0 ≤ i.toInt) (h1 : i.toInt + 6 ≤ L) {oc : Int32 × gS} {om : Int32 × gS} (hC : fX9_needs σC (xs (i + 1).toNatClampNeg) = some oc) (hM : fX10_needs σM (xs (i + 1).toNatClampNeg) = some om) (kk : LL M Q GC GM b0 ce sl oc.2 om.2 1229 [(3, .int i), (2, .ref (GM.2.1 0)), (1, .ref (GC.2.1 0)), (0, .ref b)] []) : LL M Q GC GM b0 ce sl σC σM 682 [(3, .int i), (2, .ref (GM.2.1 0)), (1, .ref (GC.2.1 0)), (0, .ref b)] [] := by
  refine ll_aload_n X (j := 2) dL_law_682 rfl rfl ?_
  refine ll_aload_n X (j := 3) dL_law_683 rfl rfl ?_
  refine ll_iload_n X (j := 0) dL_law_684 rfl rfl ?_
  refine ll_iconst X (v := 1) dL_law_685 (by decide) ?_
  refine ll_iadd X dL_law_686 ?_
  refine ll_sld X (l_in X.2.2.2.2.2.2.2.1 h0 h1 (by decide) (by decide)) dL_law_687 ?_
  refine llC_i X (As := [.int (xs (i + 1).toNatClampNeg)]) (rest := []) dL_law_688 (kX9_needs (mL M) GC X.2.1.2.2.2.2.1 X.2.1.2.1 X.2.1.2.2.1 σC (xs (i + 1).toNatClampNeg) oc hC) rfl shzC_0 clzC_9 gL_law_X9_needs hlX9_needs ⟨rfl, rfl⟩ ⟨Nat.le_of_ble_eq_true rfl, Nat.le_of_ble_eq_true rfl⟩ rfl rfl (Nat.le_of_ble_eq_true rfl) ?_
  refine ll_pop X dL_law_691 ?_
  refine ll_aload_n X (j := 1) dL_law_692 rfl rfl ?_
  refine ll_aload_n X (j := 3) dL_law_693 rfl rfl ?_
  refine ll_iload_n X (j := 0) dL_law_694 rfl rfl ?_
  refine ll_iconst X (v := 1) dL_law_695 (by decide) ?_
  refine ll_iadd X dL_law_696 ?_
  refine ll_sld X (l_in X.2.2.2.2.2.2.2.1 h0 h1 (by decide) (by decide)) dL_law_697 ?_
  refine llM_i X (As := [.int (xs (i + 1).toNatClampNeg)]) (rest := []) dL_law_698 (kX10_needs (mL M) GM X.2.2.1.2.1 X.2.2.1.2.2.1 σM (xs (i + 1).toNatClampNeg) om hM) rfl shzM_0 clzM_10 gL_law_X10_needs hlX10_needs ⟨rfl, rfl⟩ ⟨Nat.le_of_ble_eq_true rfl, Nat.le_of_ble_eq_true rfl⟩ rfl rfl (Nat.le_of_ble_eq_true rfl) ?_
  refine ll_pop X dL_law_701 ?_
  exact ll_goto X dL_law_702 (by decide) kk
set_option maxRecDepth 100000 in
set_option maxHeartbeats 4000000 in
theorem lk_19 {M : gM} {Q : State → Prop} {GC GM : gG} {ex : gEx} {b0 b L ce sl : Nat} {xs : Nat → Int32} {σC σM : gS} (X : lX M GC GM ex b0 b L xs ce sl) {i : Int32} (h0 : 0 ≤ i.toInt) (h1 : i.toInt + 6 ≤ L) {oc : Int64} {om : Int64} (hC : fX9_doubt σC (xs (i + 1).toNatClampNeg) = some oc) (hM : fX10_doubt σM (xs (i + 1).toNatClampNeg) = some om) (kk : LL M Q GC GM b0 ce sl σC σM 1229 [(3, .int i), (2, .ref (GM.2.1 0)), (1, .ref (GC.2.1 0)), (0, .ref b)] []) : LL M Q GC GM b0 ce sl σC σM 705 [(3, .int i), (2, .ref (GM.2.1 0)), (1, .ref (GC.2.1 0)), (0, .ref b)] [] := by
  refine ll_aload_n X (j := 2) dL_law_705 rfl rfl ?_
  refine ll_aload_n X (j := 3) dL_law_706 rfl rfl ?_
  refine ll_iload_n X (j := 0) dL_law_707 rfl rfl ?_
  refine ll_iconst X (v := 1) dL_law_708 (by decide) ?_
  refine ll_iadd X dL_law_709 ?_
  refine ll_sld X (l_in X.2.2.2.2.2.2.2.1 h0 h1 (by decide) (by decide)) dL_law_710 ?_
  refine llC_l X (As := [.int (xs (i + 1).toNatClampNeg)]) (rest := []) dL_law_711 (kX9_doubt (mL M) GC X.2.1.2.2.2.2.1 X.2.1.2.1 X.2.1.2.2.1 σC (xs (i + 1).toNatClampNeg) oc hC) rfl shzC_0 clzC_9 gL_law_X9_doubt hlX9_doubt ⟨rfl, rfl⟩ ⟨Nat.le_of_ble_eq_true rfl, Nat.le_of_ble_eq_true rfl⟩ rfl rfl (Nat.le_of_ble_eq_true rfl) ?_
  refine ll_pop2 X dL_law_714 ?_
  refine ll_aload_n X (j := 1) dL_law_715 rfl rfl ?_
  refine ll_aload_n X (j := 3) dL_law_716 rfl rfl ?_
  refine ll_iload_n X (j := 0) dL_law_717 rfl rfl ?_
  refine ll_iconst X (v := 1) dL_law_718 (by decide) ?_
  refine ll_iadd X dL_law_719 ?_
  refine ll_sld X (l_in X.2.2.2.2.2.2.2.1 h0 h1 (by decide) (by decide)) dL_law_720 ?_
  refine llM_l X (As := [.int (xs (i + 1).toNatClampNeg)]) (rest := []) dL_law_721 (kX10_doubt (mL M) GM X.2.2.1.2.1 X.2.2.1.2.2.1 σM (xs (i + 1).toNatClampNeg) om hM) rfl shzM_0 clzM_10 gL_law_X10_doubt hlX10_doubt ⟨rfl, rfl⟩ ⟨Nat.le_of_ble_eq_true rfl, Nat.le_of_ble_eq_true rfl⟩ rfl rfl (Nat.le_of_ble_eq_true rfl) ?_
  refine ll_pop2 X dL_law_724 ?_
  exact ll_goto X dL_law_725 (by decide) kk
set_option maxRecDepth 100000 in
set_option maxHeartbeats 4000000 in
theorem lk_20 {M : gM} {Q : State → Prop} {GC GM : gG} {ex : gEx} {b0 b L ce sl : Nat} {xs : Nat → Int32} {σC σM : gS} (X : lX M GC GM ex b0 b L xs ce sl) {i : Int32} (h0 : 0 ≤ i.toInt) (h1 : i.toInt + 6 ≤ L) {oc : Int32 × gS} {om : Int32 × gS} (hC : fX9_worst σC  = some oc) (hM : fX10_worst σM  = some om) (kk : LL M Q GC GM b0 ce sl oc.2 om.2 1229 [(3, .int i), (2, .ref (GM.2.1 0)), (1, .ref (GC.2.1 0)), (0, .ref b)] []) : LL M Q GC GM b0 ce sl σC σM 728 [(3, .int i), (2, .ref (GM.2.1 0)), (1, .ref (GC.2.1 0)), (0, .ref b)] [] := by
  refine ll_aload_n X (j := 2) dL_law_728 rfl rfl ?_
  refine llC_i X (As := []) (rest := []) dL_law_729 (kX9_worst (mL M) GC X.2.1.2.2.2.2.1 X.2.1.2.1 X.2.1.2.2.1 σC  oc hC) rfl shzC_0 clzC_9 gL_law_X9_worst hlX9_worst ⟨rfl, rfl⟩ ⟨Nat.le_of_ble_eq_true rfl, Nat.le_of_ble_eq_true rfl⟩ rfl rfl (Nat.le_of_ble_eq_true rfl) ?_
  refine ll_pop X dL_law_732 ?_
  refine ll_aload_n X (j := 1) dL_law_733 rfl rfl ?_
  refine llM_i X (As := []) (rest := []) dL_law_734 (kX10_worst (mL M) GM X.2.2.1.2.1 X.2.2.1.2.2.1 σM  om hM) rfl shzM_0 clzM_10 gL_law_X10_worst hlX10_worst ⟨rfl, rfl⟩ ⟨Nat.le_of_ble_eq_true rfl, Nat.le_of_ble_eq_true rfl⟩ rfl rfl (Nat.le_of_ble_eq_true rfl) ?_
  refine ll_pop X dL_law_737 ?_
  exact ll_goto X dL_law_738 (by decide) kk
set_option maxRecDepth 100000 in
set_option maxHeartbeats 4000000 in
theorem lk_21 {M : gM} {Q : State → Prop} {GC GM : gG} {ex : gEx} {b0 b L ce sl : Nat} {xs : Nat → Int32} {σC σM : gS} (X : lX M GC GM ex b0 b L xs ce sl) {i : Int32} (h0 : 0 ≤ i.toInt) (h1 : i.toInt + 6 ≤ L) {oc : Int32 × gS} {om : Int32 × gS} (hC : fX9_drop σC (xs (i + 1).toNatClampNeg) ((if xs (i + 2).toNatClampNeg = 0 then (0 : Int32) else 1)) = some oc) (hM : fX10_drop σM (xs (i + 1).toNatClampNeg) ((if xs (i + 2).toNatClampNeg = 0 then (0 : Int32) else 1)) = some om) (kk : LL M Q GC GM b0 ce sl oc.2 om.2 1229 [(3, .int i), (2, .ref (GM.2.1 0)), (1, .ref (GC.2.1 0)), (0, .ref b)] []) : LL M Q GC GM b0 ce sl σC σM 741 [(3, .int i), (2, .ref (GM.2.1 0)), (1, .ref (GC.2.1 0)), (0, .ref b)] [] := by
  refine ll_aload_n X (j := 2) dL_law_741 rfl rfl ?_
  refine ll_aload_n X (j := 3) dL_law_742 rfl rfl ?_
  refine ll_iload_n X (j := 0) dL_law_743 rfl rfl ?_
  refine ll_iconst X (v := 1) dL_law_744 (by decide) ?_
  refine ll_iadd X dL_law_745 ?_
  refine ll_sld X (l_in X.2.2.2.2.2.2.2.1 h0 h1 (by decide) (by decide)) dL_law_746 ?_
  refine ll_aload_n X (j := 3) dL_law_747 rfl rfl ?_
  refine ll_iload_n X (j := 0) dL_law_748 rfl rfl ?_
  refine ll_iconst X (v := 2) dL_law_749 (by decide) ?_
  refine ll_iadd X dL_law_750 ?_
  refine ll_sld X (l_in X.2.2.2.2.2.2.2.1 h0 h1 (by decide) (by decide)) dL_law_751 ?_
  refine ll_bool X (t1 := 759) (t2 := 760) dL_law_752 (by decide) dL_law_755 dL_law_756 (by decide) dL_law_759 rfl ?_
  refine llC_i X (As := [.int (xs (i + 1).toNatClampNeg), .int ((if xs (i + 2).toNatClampNeg = 0 then (0 : Int32) else 1))]) (rest := []) dL_law_760 (kX9_drop (mL M) GC X.2.1.2.2.2.2.1 X.2.1.2.1 X.2.1.2.2.1 σC (xs (i + 1).toNatClampNeg) ((if xs (i + 2).toNatClampNeg = 0 then (0 : Int32) else 1)) oc hC) rfl shzC_0 clzC_9 gL_law_X9_drop hlX9_drop ⟨rfl, rfl⟩ ⟨Nat.le_of_ble_eq_true rfl, Nat.le_of_ble_eq_true rfl⟩ rfl rfl (Nat.le_of_ble_eq_true rfl) ?_
  refine ll_pop X dL_law_763 ?_
  refine ll_aload_n X (j := 1) dL_law_764 rfl rfl ?_
  refine ll_aload_n X (j := 3) dL_law_765 rfl rfl ?_
  refine ll_iload_n X (j := 0) dL_law_766 rfl rfl ?_
  refine ll_iconst X (v := 1) dL_law_767 (by decide) ?_
  refine ll_iadd X dL_law_768 ?_
  refine ll_sld X (l_in X.2.2.2.2.2.2.2.1 h0 h1 (by decide) (by decide)) dL_law_769 ?_
  refine ll_aload_n X (j := 3) dL_law_770 rfl rfl ?_
  refine ll_iload_n X (j := 0) dL_law_771 rfl rfl ?_
  refine ll_iconst X (v := 2) dL_law_772 (by decide) ?_
  refine ll_iadd X dL_law_773 ?_
  refine ll_sld X (l_in X.2.2.2.2.2.2.2.1 h0 h1 (by decide) (by decide)) dL_law_774 ?_
  refine ll_bool X (t1 := 782) (t2 := 783) dL_law_775 (by decide) dL_law_778 dL_law_779 (by decide) dL_law_782 rfl ?_
  refine llM_i X (As := [.int (xs (i + 1).toNatClampNeg), .int ((if xs (i + 2).toNatClampNeg = 0 then (0 : Int32) else 1))]) (rest := []) dL_law_783 (kX10_drop (mL M) GM X.2.2.1.2.1 X.2.2.1.2.2.1 σM (xs (i + 1).toNatClampNeg) ((if xs (i + 2).toNatClampNeg = 0 then (0 : Int32) else 1)) om hM) rfl shzM_0 clzM_10 gL_law_X10_drop hlX10_drop ⟨rfl, rfl⟩ ⟨Nat.le_of_ble_eq_true rfl, Nat.le_of_ble_eq_true rfl⟩ rfl rfl (Nat.le_of_ble_eq_true rfl) ?_
  refine ll_pop X dL_law_786 ?_
  exact ll_goto X dL_law_787 (by decide) kk
set_option maxRecDepth 100000 in
set_option maxHeartbeats 4000000 in
theorem lk_22 {M : gM} {Q : State → Prop} {GC GM : gG} {ex : gEx} {b0 b L ce sl : Nat} {xs : Nat → Int32} {σC σM : gS} (X : lX M GC GM ex b0 b L xs ce sl) {i : Int32} (h0 : 0 ≤ i.toInt) (h1 : i.toInt + 6 ≤ L) {oc : Int32 × gS} {om : Int32 × gS} (hC : fX9_clean σC ((((xs (i + 1).toNatClampNeg).toInt64 <<< ((32 : Int32).toInt64 &&& 63)) ||| ((xs (i + 2).toNatClampNeg).toInt64 &&& 4294967295))) = some oc) (hM : fX10_clean σM ((((xs (i + 1).toNatClampNeg).toInt64 <<< ((32 : Int32).toInt64 &&& 63)) ||| ((xs (i + 2).toNatClampNeg).toInt64 &&& 4294967295))) = some om) (kk : LL M Q GC GM b0 ce sl oc.2 om.2 1229 [(3, .int i), (2, .ref (GM.2.1 0)), (1, .ref (GC.2.1 0)), (0, .ref b)] []) : LL M Q GC GM b0 ce sl σC σM 790 [(3, .int i), (2, .ref (GM.2.1 0)), (1, .ref (GC.2.1 0)), (0, .ref b)] [] := by
  refine ll_aload_n X (j := 2) dL_law_790 rfl rfl ?_
  refine ll_aload_n X (j := 3) dL_law_791 rfl rfl ?_
  refine ll_iload_n X (j := 0) dL_law_792 rfl rfl ?_
  refine ll_iconst X (v := 1) dL_law_793 (by decide) ?_
  refine ll_iadd X dL_law_794 ?_
  refine ll_sld X (l_in X.2.2.2.2.2.2.2.1 h0 h1 (by decide) (by decide)) dL_law_795 ?_
  refine ll_i2l X dL_law_796 ?_
  refine ll_bipush X (v := 32) dL_law_797 (by decide) ?_
  refine ll_lshl X dL_law_799 ?_
  refine ll_aload_n X (j := 3) dL_law_800 rfl rfl ?_
  refine ll_iload_n X (j := 0) dL_law_801 rfl rfl ?_
  refine ll_iconst X (v := 2) dL_law_802 (by decide) ?_
  refine ll_iadd X dL_law_803 ?_
  refine ll_sld X (l_in X.2.2.2.2.2.2.2.1 h0 h1 (by decide) (by decide)) dL_law_804 ?_
  refine ll_i2l X dL_law_805 ?_
  refine ll_ldc2 X (v := 4294967295) (List.mem_of_getElem? (i := 6) rfl) dL_law_806 ?_
  refine ll_land X dL_law_809 ?_
  refine ll_lor X dL_law_810 ?_
  refine llC_i X (As := [.long ((((xs (i + 1).toNatClampNeg).toInt64 <<< ((32 : Int32).toInt64 &&& 63)) ||| ((xs (i + 2).toNatClampNeg).toInt64 &&& 4294967295)))]) (rest := []) dL_law_811 (kX9_clean (mL M) GC X.2.1.2.2.2.2.1 X.2.1.2.1 X.2.1.2.2.1 σC ((((xs (i + 1).toNatClampNeg).toInt64 <<< ((32 : Int32).toInt64 &&& 63)) ||| ((xs (i + 2).toNatClampNeg).toInt64 &&& 4294967295))) oc hC) rfl shzC_0 clzC_9 gL_law_X9_clean hlX9_clean ⟨rfl, rfl⟩ ⟨Nat.le_of_ble_eq_true rfl, Nat.le_of_ble_eq_true rfl⟩ rfl rfl (Nat.le_of_ble_eq_true rfl) ?_
  refine ll_pop X dL_law_814 ?_
  refine ll_aload_n X (j := 1) dL_law_815 rfl rfl ?_
  refine ll_aload_n X (j := 3) dL_law_816 rfl rfl ?_
  refine ll_iload_n X (j := 0) dL_law_817 rfl rfl ?_
  refine ll_iconst X (v := 1) dL_law_818 (by decide) ?_
  refine ll_iadd X dL_law_819 ?_
  refine ll_sld X (l_in X.2.2.2.2.2.2.2.1 h0 h1 (by decide) (by decide)) dL_law_820 ?_
  refine ll_i2l X dL_law_821 ?_
  refine ll_bipush X (v := 32) dL_law_822 (by decide) ?_
  refine ll_lshl X dL_law_824 ?_
  refine ll_aload_n X (j := 3) dL_law_825 rfl rfl ?_
  refine ll_iload_n X (j := 0) dL_law_826 rfl rfl ?_
  refine ll_iconst X (v := 2) dL_law_827 (by decide) ?_
  refine ll_iadd X dL_law_828 ?_
  refine ll_sld X (l_in X.2.2.2.2.2.2.2.1 h0 h1 (by decide) (by decide)) dL_law_829 ?_
  refine ll_i2l X dL_law_830 ?_
  refine ll_ldc2 X (v := 4294967295) (List.mem_of_getElem? (i := 6) rfl) dL_law_831 ?_
  refine ll_land X dL_law_834 ?_
  refine ll_lor X dL_law_835 ?_
  refine llM_i X (As := [.long ((((xs (i + 1).toNatClampNeg).toInt64 <<< ((32 : Int32).toInt64 &&& 63)) ||| ((xs (i + 2).toNatClampNeg).toInt64 &&& 4294967295)))]) (rest := []) dL_law_836 (kX10_clean (mL M) GM X.2.2.1.2.1 X.2.2.1.2.2.1 σM ((((xs (i + 1).toNatClampNeg).toInt64 <<< ((32 : Int32).toInt64 &&& 63)) ||| ((xs (i + 2).toNatClampNeg).toInt64 &&& 4294967295))) om hM) rfl shzM_0 clzM_10 gL_law_X10_clean hlX10_clean ⟨rfl, rfl⟩ ⟨Nat.le_of_ble_eq_true rfl, Nat.le_of_ble_eq_true rfl⟩ rfl rfl (Nat.le_of_ble_eq_true rfl) ?_
  refine ll_pop X dL_law_839 ?_
  exact ll_goto X dL_law_840 (by decide) kk
set_option maxRecDepth 100000 in
set_option maxHeartbeats 4000000 in
theorem lk_23 {M : gM} {Q : State → Prop} {GC GM : gG} {ex : gEx} {b0 b L ce sl : Nat} {xs : Nat → Int32} {σC σM : gS} (X : lX M GC GM ex b0 b L xs ce sl) {i : Int32} (h0 : 0 ≤ i.toInt) (h1 : i.toInt + 6 ≤ L) {oc : Int32 × gS} {om : Int32} (hC : fX9_tie σC (xs (i + 1).toNatClampNeg) (xs (i + 2).toNatClampNeg) (xs (i + 3).toNatClampNeg) = some oc) (hM : fX10_tie σM (xs (i + 1).toNatClampNeg) (xs (i + 2).toNatClampNeg) (xs (i + 3).toNatClampNeg) = some om) (kk : LL M Q GC GM b0 ce sl oc.2 σM 1229 [(3, .int i), (2, .ref (GM.2.1 0)), (1, .ref (GC.2.1 0)), (0, .ref b)] []) : LL M Q GC GM b0 ce sl σC σM 843 [(3, .int i), (2, .ref (GM.2.1 0)), (1, .ref (GC.2.1 0)), (0, .ref b)] [] := by
  refine ll_aload_n X (j := 2) dL_law_843 rfl rfl ?_
  refine ll_aload_n X (j := 3) dL_law_844 rfl rfl ?_
  refine ll_iload_n X (j := 0) dL_law_845 rfl rfl ?_
  refine ll_iconst X (v := 1) dL_law_846 (by decide) ?_
  refine ll_iadd X dL_law_847 ?_
  refine ll_sld X (l_in X.2.2.2.2.2.2.2.1 h0 h1 (by decide) (by decide)) dL_law_848 ?_
  refine ll_aload_n X (j := 3) dL_law_849 rfl rfl ?_
  refine ll_iload_n X (j := 0) dL_law_850 rfl rfl ?_
  refine ll_iconst X (v := 2) dL_law_851 (by decide) ?_
  refine ll_iadd X dL_law_852 ?_
  refine ll_sld X (l_in X.2.2.2.2.2.2.2.1 h0 h1 (by decide) (by decide)) dL_law_853 ?_
  refine ll_aload_n X (j := 3) dL_law_854 rfl rfl ?_
  refine ll_iload_n X (j := 0) dL_law_855 rfl rfl ?_
  refine ll_iconst X (v := 3) dL_law_856 (by decide) ?_
  refine ll_iadd X dL_law_857 ?_
  refine ll_sld X (l_in X.2.2.2.2.2.2.2.1 h0 h1 (by decide) (by decide)) dL_law_858 ?_
  refine llC_i X (As := [.int (xs (i + 1).toNatClampNeg), .int (xs (i + 2).toNatClampNeg), .int (xs (i + 3).toNatClampNeg)]) (rest := []) dL_law_859 (kX9_tie (mL M) GC X.2.1.2.2.2.2.1 X.2.1.2.1 X.2.1.2.2.1 σC (xs (i + 1).toNatClampNeg) (xs (i + 2).toNatClampNeg) (xs (i + 3).toNatClampNeg) oc hC) rfl shzC_0 clzC_9 gL_law_X9_tie hlX9_tie ⟨rfl, rfl⟩ ⟨Nat.le_of_ble_eq_true rfl, Nat.le_of_ble_eq_true rfl⟩ rfl rfl (Nat.le_of_ble_eq_true rfl) ?_
  refine ll_pop X dL_law_862 ?_
  refine ll_aload_n X (j := 1) dL_law_863 rfl rfl ?_
  refine ll_aload_n X (j := 3) dL_law_864 rfl rfl ?_
  refine ll_iload_n X (j := 0) dL_law_865 rfl rfl ?_
  refine ll_iconst X (v := 1) dL_law_866 (by decide) ?_
  refine ll_iadd X dL_law_867 ?_
  refine ll_sld X (l_in X.2.2.2.2.2.2.2.1 h0 h1 (by decide) (by decide)) dL_law_868 ?_
  refine ll_aload_n X (j := 3) dL_law_869 rfl rfl ?_
  refine ll_iload_n X (j := 0) dL_law_870 rfl rfl ?_
  refine ll_iconst X (v := 2) dL_law_871 (by decide) ?_
  refine ll_iadd X dL_law_872 ?_
  refine ll_sld X (l_in X.2.2.2.2.2.2.2.1 h0 h1 (by decide) (by decide)) dL_law_873 ?_
  refine ll_aload_n X (j := 3) dL_law_874 rfl rfl ?_
  refine ll_iload_n X (j := 0) dL_law_875 rfl rfl ?_
  refine ll_iconst X (v := 3) dL_law_876 (by decide) ?_
  refine ll_iadd X dL_law_877 ?_
  refine ll_sld X (l_in X.2.2.2.2.2.2.2.1 h0 h1 (by decide) (by decide)) dL_law_878 ?_
  refine llM_i X (As := [.int (xs (i + 1).toNatClampNeg), .int (xs (i + 2).toNatClampNeg), .int (xs (i + 3).toNatClampNeg)]) (rest := []) dL_law_879 (kX10_tie (mL M) GM X.2.2.1.2.1 X.2.2.1.2.2.1 σM (xs (i + 1).toNatClampNeg) (xs (i + 2).toNatClampNeg) (xs (i + 3).toNatClampNeg) om hM) rfl shzM_0 clzM_10 gL_law_X10_tie hlX10_tie ⟨rfl, rfl⟩ ⟨Nat.le_of_ble_eq_true rfl, Nat.le_of_ble_eq_true rfl⟩ rfl rfl (Nat.le_of_ble_eq_true rfl) ?_
  refine ll_pop X dL_law_882 ?_
  exact ll_goto X dL_law_883 (by decide) kk
set_option maxRecDepth 100000 in
set_option maxHeartbeats 4000000 in
theorem lk_24 {M : gM} {Q : State → Prop} {GC GM : gG} {ex : gEx} {b0 b L ce sl : Nat} {xs : Nat → Int32} {σC σM : gS} (X : lX M GC GM ex b0 b L xs ce sl) {i : Int32} (h0 : 0 ≤ i.toInt) (h1 : i.toInt + 6 ≤ L) {oc : Int32 × gS} {om : Int32} (hC : fX9_loop σC (xs (i + 1).toNatClampNeg) (xs (i + 2).toNatClampNeg) (xs (i + 3).toNatClampNeg) (xs (i + 4).toNatClampNeg) = some oc) (hM : fX10_loop σM (xs (i + 1).toNatClampNeg) (xs (i + 2).toNatClampNeg) (xs (i + 3).toNatClampNeg) (xs (i + 4).toNatClampNeg) = some om) (kk : LL M Q GC GM b0 ce sl oc.2 σM 1229 [(3, .int i), (2, .ref (GM.2.1 0)), (1, .ref (GC.2.1 0)), (0, .ref b)] []) : LL M Q GC GM b0 ce sl σC σM 886 [(3, .int i), (2, .ref (GM.2.1 0)), (1, .ref (GC.2.1 0)), (0, .ref b)] [] := by
  refine ll_aload_n X (j := 2) dL_law_886 rfl rfl ?_
  refine ll_aload_n X (j := 3) dL_law_887 rfl rfl ?_
  refine ll_iload_n X (j := 0) dL_law_888 rfl rfl ?_
  refine ll_iconst X (v := 1) dL_law_889 (by decide) ?_
  refine ll_iadd X dL_law_890 ?_
  refine ll_sld X (l_in X.2.2.2.2.2.2.2.1 h0 h1 (by decide) (by decide)) dL_law_891 ?_
  refine ll_aload_n X (j := 3) dL_law_892 rfl rfl ?_
  refine ll_iload_n X (j := 0) dL_law_893 rfl rfl ?_
  refine ll_iconst X (v := 2) dL_law_894 (by decide) ?_
  refine ll_iadd X dL_law_895 ?_
  refine ll_sld X (l_in X.2.2.2.2.2.2.2.1 h0 h1 (by decide) (by decide)) dL_law_896 ?_
  refine ll_aload_n X (j := 3) dL_law_897 rfl rfl ?_
  refine ll_iload_n X (j := 0) dL_law_898 rfl rfl ?_
  refine ll_iconst X (v := 3) dL_law_899 (by decide) ?_
  refine ll_iadd X dL_law_900 ?_
  refine ll_sld X (l_in X.2.2.2.2.2.2.2.1 h0 h1 (by decide) (by decide)) dL_law_901 ?_
  refine ll_aload_n X (j := 3) dL_law_902 rfl rfl ?_
  refine ll_iload_n X (j := 0) dL_law_903 rfl rfl ?_
  refine ll_iconst X (v := 4) dL_law_904 (by decide) ?_
  refine ll_iadd X dL_law_905 ?_
  refine ll_sld X (l_in X.2.2.2.2.2.2.2.1 h0 h1 (by decide) (by decide)) dL_law_906 ?_
  refine llC_i X (As := [.int (xs (i + 1).toNatClampNeg), .int (xs (i + 2).toNatClampNeg), .int (xs (i + 3).toNatClampNeg), .int (xs (i + 4).toNatClampNeg)]) (rest := []) dL_law_907 (kX9_loop (mL M) GC X.2.1.2.2.2.2.1 X.2.1.2.1 X.2.1.2.2.1 σC (xs (i + 1).toNatClampNeg) (xs (i + 2).toNatClampNeg) (xs (i + 3).toNatClampNeg) (xs (i + 4).toNatClampNeg) oc hC) rfl shzC_0 clzC_9 gL_law_X9_loop hlX9_loop ⟨rfl, rfl⟩ ⟨Nat.le_of_ble_eq_true rfl, Nat.le_of_ble_eq_true rfl⟩ rfl rfl (Nat.le_of_ble_eq_true rfl) ?_
  refine ll_pop X dL_law_910 ?_
  refine ll_aload_n X (j := 1) dL_law_911 rfl rfl ?_
  refine ll_aload_n X (j := 3) dL_law_912 rfl rfl ?_
  refine ll_iload_n X (j := 0) dL_law_913 rfl rfl ?_
  refine ll_iconst X (v := 1) dL_law_914 (by decide) ?_
  refine ll_iadd X dL_law_915 ?_
  refine ll_sld X (l_in X.2.2.2.2.2.2.2.1 h0 h1 (by decide) (by decide)) dL_law_916 ?_
  refine ll_aload_n X (j := 3) dL_law_917 rfl rfl ?_
  refine ll_iload_n X (j := 0) dL_law_918 rfl rfl ?_
  refine ll_iconst X (v := 2) dL_law_919 (by decide) ?_
  refine ll_iadd X dL_law_920 ?_
  refine ll_sld X (l_in X.2.2.2.2.2.2.2.1 h0 h1 (by decide) (by decide)) dL_law_921 ?_
  refine ll_aload_n X (j := 3) dL_law_922 rfl rfl ?_
  refine ll_iload_n X (j := 0) dL_law_923 rfl rfl ?_
  refine ll_iconst X (v := 3) dL_law_924 (by decide) ?_
  refine ll_iadd X dL_law_925 ?_
  refine ll_sld X (l_in X.2.2.2.2.2.2.2.1 h0 h1 (by decide) (by decide)) dL_law_926 ?_
  refine ll_aload_n X (j := 3) dL_law_927 rfl rfl ?_
  refine ll_iload_n X (j := 0) dL_law_928 rfl rfl ?_
  refine ll_iconst X (v := 4) dL_law_929 (by decide) ?_
  refine ll_iadd X dL_law_930 ?_
  refine ll_sld X (l_in X.2.2.2.2.2.2.2.1 h0 h1 (by decide) (by decide)) dL_law_931 ?_
  refine llM_i X (As := [.int (xs (i + 1).toNatClampNeg), .int (xs (i + 2).toNatClampNeg), .int (xs (i + 3).toNatClampNeg), .int (xs (i + 4).toNatClampNeg)]) (rest := []) dL_law_932 (kX10_loop (mL M) GM X.2.2.1.2.1 X.2.2.1.2.2.1 σM (xs (i + 1).toNatClampNeg) (xs (i + 2).toNatClampNeg) (xs (i + 3).toNatClampNeg) (xs (i + 4).toNatClampNeg) om hM) rfl shzM_0 clzM_10 gL_law_X10_loop hlX10_loop ⟨rfl, rfl⟩ ⟨Nat.le_of_ble_eq_true rfl, Nat.le_of_ble_eq_true rfl⟩ rfl rfl (Nat.le_of_ble_eq_true rfl) ?_
  refine ll_pop X dL_law_935 ?_
  exact ll_goto X dL_law_936 (by decide) kk
set_option maxRecDepth 100000 in
set_option maxHeartbeats 4000000 in
theorem lk_25 {M : gM} {Q : State → Prop} {GC GM : gG} {ex : gEx} {b0 b L ce sl : Nat} {xs : Nat → Int32} {σC σM : gS} (X : lX M GC GM ex b0 b L xs ce sl) {i : Int32} (h0 : 0 ≤ i.toInt) (h1 : i.toInt + 6 ≤ L) {oc : Int32 × gS} {om : Int32} (hC : fX9_gap σC (xs (i + 1).toNatClampNeg) = some oc) (hM : fX10_gap σM (xs (i + 1).toNatClampNeg) = some om) (kk : LL M Q GC GM b0 ce sl oc.2 σM 1229 [(3, .int i), (2, .ref (GM.2.1 0)), (1, .ref (GC.2.1 0)), (0, .ref b)] []) : LL M Q GC GM b0 ce sl σC σM 939 [(3, .int i), (2, .ref (GM.2.1 0)), (1, .ref (GC.2.1 0)), (0, .ref b)] [] := by
  refine ll_aload_n X (j := 2) dL_law_939 rfl rfl ?_
  refine ll_aload_n X (j := 3) dL_law_940 rfl rfl ?_
  refine ll_iload_n X (j := 0) dL_law_941 rfl rfl ?_
  refine ll_iconst X (v := 1) dL_law_942 (by decide) ?_
  refine ll_iadd X dL_law_943 ?_
  refine ll_sld X (l_in X.2.2.2.2.2.2.2.1 h0 h1 (by decide) (by decide)) dL_law_944 ?_
  refine llC_i X (As := [.int (xs (i + 1).toNatClampNeg)]) (rest := []) dL_law_945 (kX9_gap (mL M) GC X.2.1.2.2.2.2.1 X.2.1.2.1 X.2.1.2.2.1 σC (xs (i + 1).toNatClampNeg) oc hC) rfl shzC_0 clzC_9 gL_law_X9_gap hlX9_gap ⟨rfl, rfl⟩ ⟨Nat.le_of_ble_eq_true rfl, Nat.le_of_ble_eq_true rfl⟩ rfl rfl (Nat.le_of_ble_eq_true rfl) ?_
  refine ll_pop X dL_law_948 ?_
  refine ll_aload_n X (j := 1) dL_law_949 rfl rfl ?_
  refine ll_aload_n X (j := 3) dL_law_950 rfl rfl ?_
  refine ll_iload_n X (j := 0) dL_law_951 rfl rfl ?_
  refine ll_iconst X (v := 1) dL_law_952 (by decide) ?_
  refine ll_iadd X dL_law_953 ?_
  refine ll_sld X (l_in X.2.2.2.2.2.2.2.1 h0 h1 (by decide) (by decide)) dL_law_954 ?_
  refine llM_i X (As := [.int (xs (i + 1).toNatClampNeg)]) (rest := []) dL_law_955 (kX10_gap (mL M) GM X.2.2.1.2.1 X.2.2.1.2.2.1 σM (xs (i + 1).toNatClampNeg) om hM) rfl shzM_0 clzM_10 gL_law_X10_gap hlX10_gap ⟨rfl, rfl⟩ ⟨Nat.le_of_ble_eq_true rfl, Nat.le_of_ble_eq_true rfl⟩ rfl rfl (Nat.le_of_ble_eq_true rfl) ?_
  refine ll_pop X dL_law_958 ?_
  exact ll_goto X dL_law_959 (by decide) kk
set_option maxRecDepth 100000 in
set_option maxHeartbeats 4000000 in
theorem lk_26 {M : gM} {Q : State → Prop} {GC GM : gG} {ex : gEx} {b0 b L ce sl : Nat} {xs : Nat → Int32} {σC σM : gS} (X : lX M GC GM ex b0 b L xs ce sl) {i : Int32} (h0 : 0 ≤ i.toInt) (h1 : i.toInt + 6 ≤ L) {oc : Int32 × gS} {om : Int32 × gS} (hC : fX9_tree σC (xs (i + 1).toNatClampNeg) = some oc) (hM : fX10_tree σM (xs (i + 1).toNatClampNeg) = some om) (kk : LL M Q GC GM b0 ce sl oc.2 om.2 1229 [(3, .int i), (2, .ref (GM.2.1 0)), (1, .ref (GC.2.1 0)), (0, .ref b)] []) : LL M Q GC GM b0 ce sl σC σM 962 [(3, .int i), (2, .ref (GM.2.1 0)), (1, .ref (GC.2.1 0)), (0, .ref b)] [] := by
  refine ll_aload_n X (j := 2) dL_law_962 rfl rfl ?_
  refine ll_aload_n X (j := 3) dL_law_963 rfl rfl ?_
  refine ll_iload_n X (j := 0) dL_law_964 rfl rfl ?_
  refine ll_iconst X (v := 1) dL_law_965 (by decide) ?_
  refine ll_iadd X dL_law_966 ?_
  refine ll_sld X (l_in X.2.2.2.2.2.2.2.1 h0 h1 (by decide) (by decide)) dL_law_967 ?_
  refine llC_i X (As := [.int (xs (i + 1).toNatClampNeg)]) (rest := []) dL_law_968 (kX9_tree (mL M) GC X.2.1.2.2.2.2.1 X.2.1.2.1 X.2.1.2.2.1 σC (xs (i + 1).toNatClampNeg) oc hC) rfl shzC_0 clzC_9 gL_law_X9_tree hlX9_tree ⟨rfl, rfl⟩ ⟨Nat.le_of_ble_eq_true rfl, Nat.le_of_ble_eq_true rfl⟩ rfl rfl (Nat.le_of_ble_eq_true rfl) ?_
  refine ll_pop X dL_law_971 ?_
  refine ll_aload_n X (j := 1) dL_law_972 rfl rfl ?_
  refine ll_aload_n X (j := 3) dL_law_973 rfl rfl ?_
  refine ll_iload_n X (j := 0) dL_law_974 rfl rfl ?_
  refine ll_iconst X (v := 1) dL_law_975 (by decide) ?_
  refine ll_iadd X dL_law_976 ?_
  refine ll_sld X (l_in X.2.2.2.2.2.2.2.1 h0 h1 (by decide) (by decide)) dL_law_977 ?_
  refine llM_i X (As := [.int (xs (i + 1).toNatClampNeg)]) (rest := []) dL_law_978 (kX10_tree (mL M) GM X.2.2.1.2.1 X.2.2.1.2.2.1 σM (xs (i + 1).toNatClampNeg) om hM) rfl shzM_0 clzM_10 gL_law_X10_tree hlX10_tree ⟨rfl, rfl⟩ ⟨Nat.le_of_ble_eq_true rfl, Nat.le_of_ble_eq_true rfl⟩ rfl rfl (Nat.le_of_ble_eq_true rfl) ?_
  refine ll_pop X dL_law_981 ?_
  exact ll_goto X dL_law_982 (by decide) kk
set_option maxRecDepth 100000 in
set_option maxHeartbeats 4000000 in
theorem lk_27 {M : gM} {Q : State → Prop} {GC GM : gG} {ex : gEx} {b0 b L ce sl : Nat} {xs : Nat → Int32} {σC σM : gS} (X : lX M GC GM ex b0 b L xs ce sl) {i : Int32} (h0 : 0 ≤ i.toInt) (h1 : i.toInt + 6 ≤ L) {oc : Int32 × gS} {om : Int32 × gS} (hC : fX9_plan σC (xs (i + 1).toNatClampNeg) = some oc) (hM : fX10_plan σM (xs (i + 1).toNatClampNeg) = some om) (kk : LL M Q GC GM b0 ce sl oc.2 om.2 1229 [(3, .int i), (2, .ref (GM.2.1 0)), (1, .ref (GC.2.1 0)), (0, .ref b)] []) : LL M Q GC GM b0 ce sl σC σM 985 [(3, .int i), (2, .ref (GM.2.1 0)), (1, .ref (GC.2.1 0)), (0, .ref b)] [] := by
  refine ll_aload_n X (j := 2) dL_law_985 rfl rfl ?_
  refine ll_aload_n X (j := 3) dL_law_986 rfl rfl ?_
  refine ll_iload_n X (j := 0) dL_law_987 rfl rfl ?_
  refine ll_iconst X (v := 1) dL_law_988 (by decide) ?_
  refine ll_iadd X dL_law_989 ?_
  refine ll_sld X (l_in X.2.2.2.2.2.2.2.1 h0 h1 (by decide) (by decide)) dL_law_990 ?_
  refine llC_i X (As := [.int (xs (i + 1).toNatClampNeg)]) (rest := []) dL_law_991 (kX9_plan (mL M) GC X.2.1.2.2.2.2.1 X.2.1.2.1 X.2.1.2.2.1 σC (xs (i + 1).toNatClampNeg) oc hC) rfl shzC_0 clzC_9 gL_law_X9_plan hlX9_plan ⟨rfl, rfl⟩ ⟨Nat.le_of_ble_eq_true rfl, Nat.le_of_ble_eq_true rfl⟩ rfl rfl (Nat.le_of_ble_eq_true rfl) ?_
  refine ll_pop X dL_law_994 ?_
  refine ll_aload_n X (j := 1) dL_law_995 rfl rfl ?_
  refine ll_aload_n X (j := 3) dL_law_996 rfl rfl ?_
  refine ll_iload_n X (j := 0) dL_law_997 rfl rfl ?_
  refine ll_iconst X (v := 1) dL_law_998 (by decide) ?_
  refine ll_iadd X dL_law_999 ?_
  refine ll_sld X (l_in X.2.2.2.2.2.2.2.1 h0 h1 (by decide) (by decide)) dL_law_1000 ?_
  refine llM_i X (As := [.int (xs (i + 1).toNatClampNeg)]) (rest := []) dL_law_1001 (kX10_plan (mL M) GM X.2.2.1.2.1 X.2.2.1.2.2.1 σM (xs (i + 1).toNatClampNeg) om hM) rfl shzM_0 clzM_10 gL_law_X10_plan hlX10_plan ⟨rfl, rfl⟩ ⟨Nat.le_of_ble_eq_true rfl, Nat.le_of_ble_eq_true rfl⟩ rfl rfl (Nat.le_of_ble_eq_true rfl) ?_
  refine ll_pop X dL_law_1004 ?_
  exact ll_goto X dL_law_1005 (by decide) kk
set_option maxRecDepth 100000 in
set_option maxHeartbeats 4000000 in
theorem lk_28 {M : gM} {Q : State → Prop} {GC GM : gG} {ex : gEx} {b0 b L ce sl : Nat} {xs : Nat → Int32} {σC σM : gS} (X : lX M GC GM ex b0 b L xs ce sl) {i : Int32} (h0 : 0 ≤ i.toInt) (h1 : i.toInt + 6 ≤ L) {oc : Int32 × gS} {om : Int32 × gS} (hC : fX9_differ σC (xs (i + 1).toNatClampNeg) (xs (i + 2).toNatClampNeg) = some oc) (hM : fX10_differ σM (xs (i + 1).toNatClampNeg) (xs (i + 2).toNatClampNeg) = some om) (kk : LL M Q GC GM b0 ce sl oc.2 om.2 1229 [(3, .int i), (2, .ref (GM.2.1 0)), (1, .ref (GC.2.1 0)), (0, .ref b)] []) : LL M Q GC GM b0 ce sl σC σM 1008 [(3, .int i), (2, .ref (GM.2.1 0)), (1, .ref (GC.2.1 0)), (0, .ref b)] [] := by
  refine ll_aload_n X (j := 2) dL_law_1008 rfl rfl ?_
  refine ll_aload_n X (j := 3) dL_law_1009 rfl rfl ?_
  refine ll_iload_n X (j := 0) dL_law_1010 rfl rfl ?_
  refine ll_iconst X (v := 1) dL_law_1011 (by decide) ?_
  refine ll_iadd X dL_law_1012 ?_
  refine ll_sld X (l_in X.2.2.2.2.2.2.2.1 h0 h1 (by decide) (by decide)) dL_law_1013 ?_
  refine ll_aload_n X (j := 3) dL_law_1014 rfl rfl ?_
  refine ll_iload_n X (j := 0) dL_law_1015 rfl rfl ?_
  refine ll_iconst X (v := 2) dL_law_1016 (by decide) ?_
  refine ll_iadd X dL_law_1017 ?_
  refine ll_sld X (l_in X.2.2.2.2.2.2.2.1 h0 h1 (by decide) (by decide)) dL_law_1018 ?_
  refine llC_i X (As := [.int (xs (i + 1).toNatClampNeg), .int (xs (i + 2).toNatClampNeg)]) (rest := []) dL_law_1019 (kX9_differ (mL M) GC X.2.1.2.2.2.2.1 X.2.1.2.1 X.2.1.2.2.1 σC (xs (i + 1).toNatClampNeg) (xs (i + 2).toNatClampNeg) oc hC) rfl shzC_0 clzC_9 gL_law_X9_differ hlX9_differ ⟨rfl, rfl⟩ ⟨Nat.le_of_ble_eq_true rfl, Nat.le_of_ble_eq_true rfl⟩ rfl rfl (Nat.le_of_ble_eq_true rfl) ?_
  refine ll_pop X dL_law_1022 ?_
  refine ll_aload_n X (j := 1) dL_law_1023 rfl rfl ?_
  refine ll_aload_n X (j := 3) dL_law_1024 rfl rfl ?_
  refine ll_iload_n X (j := 0) dL_law_1025 rfl rfl ?_
  refine ll_iconst X (v := 1) dL_law_1026 (by decide) ?_
  refine ll_iadd X dL_law_1027 ?_
  refine ll_sld X (l_in X.2.2.2.2.2.2.2.1 h0 h1 (by decide) (by decide)) dL_law_1028 ?_
  refine ll_aload_n X (j := 3) dL_law_1029 rfl rfl ?_
  refine ll_iload_n X (j := 0) dL_law_1030 rfl rfl ?_
  refine ll_iconst X (v := 2) dL_law_1031 (by decide) ?_
  refine ll_iadd X dL_law_1032 ?_
  refine ll_sld X (l_in X.2.2.2.2.2.2.2.1 h0 h1 (by decide) (by decide)) dL_law_1033 ?_
  refine llM_i X (As := [.int (xs (i + 1).toNatClampNeg), .int (xs (i + 2).toNatClampNeg)]) (rest := []) dL_law_1034 (kX10_differ (mL M) GM X.2.2.1.2.1 X.2.2.1.2.2.1 σM (xs (i + 1).toNatClampNeg) (xs (i + 2).toNatClampNeg) om hM) rfl shzM_0 clzM_10 gL_law_X10_differ hlX10_differ ⟨rfl, rfl⟩ ⟨Nat.le_of_ble_eq_true rfl, Nat.le_of_ble_eq_true rfl⟩ rfl rfl (Nat.le_of_ble_eq_true rfl) ?_
  refine ll_pop X dL_law_1037 ?_
  exact ll_goto X dL_law_1038 (by decide) kk
set_option maxRecDepth 100000 in
set_option maxHeartbeats 4000000 in
theorem lk_29 {M : gM} {Q : State → Prop} {GC GM : gG} {ex : gEx} {b0 b L ce sl : Nat} {xs : Nat → Int32} {σC σM : gS} (X : lX M GC GM ex b0 b L xs ce sl) {i : Int32} (h0 : 0 ≤ i.toInt) (h1 : i.toInt + 6 ≤ L) {oc : Int32 × gS} {om : Int32 × gS} (hC : fX9_alters σC (xs (i + 1).toNatClampNeg) (xs (i + 2).toNatClampNeg) (xs (i + 3).toNatClampNeg) (xs (i + 4).toNatClampNeg) = some oc) (hM : fX10_alters σM (xs (i + 1).toNatClampNeg) (xs (i + 2).toNatClampNeg) (xs (i + 3).toNatClampNeg) (xs (i + 4).toNatClampNeg) = some om) (kk : LL M Q GC GM b0 ce sl oc.2 om.2 1229 [(3, .int i), (2, .ref (GM.2.1 0)), (1, .ref (GC.2.1 0)), (0, .ref b)] []) : LL M Q GC GM b0 ce sl σC σM 1041 [(3, .int i), (2, .ref (GM.2.1 0)), (1, .ref (GC.2.1 0)), (0, .ref b)] [] := by
  refine ll_aload_n X (j := 2) dL_law_1041 rfl rfl ?_
  refine ll_aload_n X (j := 3) dL_law_1042 rfl rfl ?_
  refine ll_iload_n X (j := 0) dL_law_1043 rfl rfl ?_
  refine ll_iconst X (v := 1) dL_law_1044 (by decide) ?_
  refine ll_iadd X dL_law_1045 ?_
  refine ll_sld X (l_in X.2.2.2.2.2.2.2.1 h0 h1 (by decide) (by decide)) dL_law_1046 ?_
  refine ll_aload_n X (j := 3) dL_law_1047 rfl rfl ?_
  refine ll_iload_n X (j := 0) dL_law_1048 rfl rfl ?_
  refine ll_iconst X (v := 2) dL_law_1049 (by decide) ?_
  refine ll_iadd X dL_law_1050 ?_
  refine ll_sld X (l_in X.2.2.2.2.2.2.2.1 h0 h1 (by decide) (by decide)) dL_law_1051 ?_
  refine ll_aload_n X (j := 3) dL_law_1052 rfl rfl ?_
  refine ll_iload_n X (j := 0) dL_law_1053 rfl rfl ?_
  refine ll_iconst X (v := 3) dL_law_1054 (by decide) ?_
  refine ll_iadd X dL_law_1055 ?_
  refine ll_sld X (l_in X.2.2.2.2.2.2.2.1 h0 h1 (by decide) (by decide)) dL_law_1056 ?_
  refine ll_aload_n X (j := 3) dL_law_1057 rfl rfl ?_
  refine ll_iload_n X (j := 0) dL_law_1058 rfl rfl ?_
  refine ll_iconst X (v := 4) dL_law_1059 (by decide) ?_
  refine ll_iadd X dL_law_1060 ?_
  refine ll_sld X (l_in X.2.2.2.2.2.2.2.1 h0 h1 (by decide) (by decide)) dL_law_1061 ?_
  refine llC_i X (As := [.int (xs (i + 1).toNatClampNeg), .int (xs (i + 2).toNatClampNeg), .int (xs (i + 3).toNatClampNeg), .int (xs (i + 4).toNatClampNeg)]) (rest := []) dL_law_1062 (kX9_alters (mL M) GC X.2.1.2.2.2.2.1 X.2.1.2.1 X.2.1.2.2.1 σC (xs (i + 1).toNatClampNeg) (xs (i + 2).toNatClampNeg) (xs (i + 3).toNatClampNeg) (xs (i + 4).toNatClampNeg) oc hC) rfl shzC_0 clzC_9 gL_law_X9_alters hlX9_alters ⟨rfl, rfl⟩ ⟨Nat.le_of_ble_eq_true rfl, Nat.le_of_ble_eq_true rfl⟩ rfl rfl (Nat.le_of_ble_eq_true rfl) ?_
  refine ll_pop X dL_law_1065 ?_
  refine ll_aload_n X (j := 1) dL_law_1066 rfl rfl ?_
  refine ll_aload_n X (j := 3) dL_law_1067 rfl rfl ?_
  refine ll_iload_n X (j := 0) dL_law_1068 rfl rfl ?_
  refine ll_iconst X (v := 1) dL_law_1069 (by decide) ?_
  refine ll_iadd X dL_law_1070 ?_
  refine ll_sld X (l_in X.2.2.2.2.2.2.2.1 h0 h1 (by decide) (by decide)) dL_law_1071 ?_
  refine ll_aload_n X (j := 3) dL_law_1072 rfl rfl ?_
  refine ll_iload_n X (j := 0) dL_law_1073 rfl rfl ?_
  refine ll_iconst X (v := 2) dL_law_1074 (by decide) ?_
  refine ll_iadd X dL_law_1075 ?_
  refine ll_sld X (l_in X.2.2.2.2.2.2.2.1 h0 h1 (by decide) (by decide)) dL_law_1076 ?_
  refine ll_aload_n X (j := 3) dL_law_1077 rfl rfl ?_
  refine ll_iload_n X (j := 0) dL_law_1078 rfl rfl ?_
  refine ll_iconst X (v := 3) dL_law_1079 (by decide) ?_
  refine ll_iadd X dL_law_1080 ?_
  refine ll_sld X (l_in X.2.2.2.2.2.2.2.1 h0 h1 (by decide) (by decide)) dL_law_1081 ?_
  refine ll_aload_n X (j := 3) dL_law_1082 rfl rfl ?_
  refine ll_iload_n X (j := 0) dL_law_1083 rfl rfl ?_
  refine ll_iconst X (v := 4) dL_law_1084 (by decide) ?_
  refine ll_iadd X dL_law_1085 ?_
  refine ll_sld X (l_in X.2.2.2.2.2.2.2.1 h0 h1 (by decide) (by decide)) dL_law_1086 ?_
  refine llM_i X (As := [.int (xs (i + 1).toNatClampNeg), .int (xs (i + 2).toNatClampNeg), .int (xs (i + 3).toNatClampNeg), .int (xs (i + 4).toNatClampNeg)]) (rest := []) dL_law_1087 (kX10_alters (mL M) GM X.2.2.1.2.1 X.2.2.1.2.2.1 σM (xs (i + 1).toNatClampNeg) (xs (i + 2).toNatClampNeg) (xs (i + 3).toNatClampNeg) (xs (i + 4).toNatClampNeg) om hM) rfl shzM_0 clzM_10 gL_law_X10_alters hlX10_alters ⟨rfl, rfl⟩ ⟨Nat.le_of_ble_eq_true rfl, Nat.le_of_ble_eq_true rfl⟩ rfl rfl (Nat.le_of_ble_eq_true rfl) ?_
  refine ll_pop X dL_law_1090 ?_
  exact ll_goto X dL_law_1091 (by decide) kk
set_option maxRecDepth 100000 in
set_option maxHeartbeats 4000000 in
theorem lk_30 {M : gM} {Q : State → Prop} {GC GM : gG} {ex : gEx} {b0 b L ce sl : Nat} {xs : Nat → Int32} {σC σM : gS} (X : lX M GC GM ex b0 b L xs ce sl) {i : Int32} (h0 : 0 ≤ i.toInt) (h1 : i.toInt + 6 ≤ L) {oc : Int32 × gS} {om : Int32 × gS} (hC : fX9_measure σC (xs (i + 1).toNatClampNeg) (xs (i + 2).toNatClampNeg) (xs (i + 3).toNatClampNeg) = some oc) (hM : fX10_measure σM (xs (i + 1).toNatClampNeg) (xs (i + 2).toNatClampNeg) (xs (i + 3).toNatClampNeg) = some om) (kk : LL M Q GC GM b0 ce sl oc.2 om.2 1229 [(3, .int i), (2, .ref (GM.2.1 0)), (1, .ref (GC.2.1 0)), (0, .ref b)] []) : LL M Q GC GM b0 ce sl σC σM 1094 [(3, .int i), (2, .ref (GM.2.1 0)), (1, .ref (GC.2.1 0)), (0, .ref b)] [] := by
  refine ll_aload_n X (j := 2) dL_law_1094 rfl rfl ?_
  refine ll_aload_n X (j := 3) dL_law_1095 rfl rfl ?_
  refine ll_iload_n X (j := 0) dL_law_1096 rfl rfl ?_
  refine ll_iconst X (v := 1) dL_law_1097 (by decide) ?_
  refine ll_iadd X dL_law_1098 ?_
  refine ll_sld X (l_in X.2.2.2.2.2.2.2.1 h0 h1 (by decide) (by decide)) dL_law_1099 ?_
  refine ll_aload_n X (j := 3) dL_law_1100 rfl rfl ?_
  refine ll_iload_n X (j := 0) dL_law_1101 rfl rfl ?_
  refine ll_iconst X (v := 2) dL_law_1102 (by decide) ?_
  refine ll_iadd X dL_law_1103 ?_
  refine ll_sld X (l_in X.2.2.2.2.2.2.2.1 h0 h1 (by decide) (by decide)) dL_law_1104 ?_
  refine ll_aload_n X (j := 3) dL_law_1105 rfl rfl ?_
  refine ll_iload_n X (j := 0) dL_law_1106 rfl rfl ?_
  refine ll_iconst X (v := 3) dL_law_1107 (by decide) ?_
  refine ll_iadd X dL_law_1108 ?_
  refine ll_sld X (l_in X.2.2.2.2.2.2.2.1 h0 h1 (by decide) (by decide)) dL_law_1109 ?_
  refine llC_i X (As := [.int (xs (i + 1).toNatClampNeg), .int (xs (i + 2).toNatClampNeg), .int (xs (i + 3).toNatClampNeg)]) (rest := []) dL_law_1110 (kX9_measure (mL M) GC X.2.1.2.2.2.2.1 X.2.1.2.1 X.2.1.2.2.1 σC (xs (i + 1).toNatClampNeg) (xs (i + 2).toNatClampNeg) (xs (i + 3).toNatClampNeg) oc hC) rfl shzC_0 clzC_9 gL_law_X9_measure hlX9_measure ⟨rfl, rfl⟩ ⟨Nat.le_of_ble_eq_true rfl, Nat.le_of_ble_eq_true rfl⟩ rfl rfl (Nat.le_of_ble_eq_true rfl) ?_
  refine ll_pop X dL_law_1113 ?_
  refine ll_aload_n X (j := 1) dL_law_1114 rfl rfl ?_
  refine ll_aload_n X (j := 3) dL_law_1115 rfl rfl ?_
  refine ll_iload_n X (j := 0) dL_law_1116 rfl rfl ?_
  refine ll_iconst X (v := 1) dL_law_1117 (by decide) ?_
  refine ll_iadd X dL_law_1118 ?_
  refine ll_sld X (l_in X.2.2.2.2.2.2.2.1 h0 h1 (by decide) (by decide)) dL_law_1119 ?_
  refine ll_aload_n X (j := 3) dL_law_1120 rfl rfl ?_
  refine ll_iload_n X (j := 0) dL_law_1121 rfl rfl ?_
  refine ll_iconst X (v := 2) dL_law_1122 (by decide) ?_
  refine ll_iadd X dL_law_1123 ?_
  refine ll_sld X (l_in X.2.2.2.2.2.2.2.1 h0 h1 (by decide) (by decide)) dL_law_1124 ?_
  refine ll_aload_n X (j := 3) dL_law_1125 rfl rfl ?_
  refine ll_iload_n X (j := 0) dL_law_1126 rfl rfl ?_
  refine ll_iconst X (v := 3) dL_law_1127 (by decide) ?_
  refine ll_iadd X dL_law_1128 ?_
  refine ll_sld X (l_in X.2.2.2.2.2.2.2.1 h0 h1 (by decide) (by decide)) dL_law_1129 ?_
  refine llM_i X (As := [.int (xs (i + 1).toNatClampNeg), .int (xs (i + 2).toNatClampNeg), .int (xs (i + 3).toNatClampNeg)]) (rest := []) dL_law_1130 (kX10_measure (mL M) GM X.2.2.1.2.1 X.2.2.1.2.2.1 σM (xs (i + 1).toNatClampNeg) (xs (i + 2).toNatClampNeg) (xs (i + 3).toNatClampNeg) om hM) rfl shzM_0 clzM_10 gL_law_X10_measure hlX10_measure ⟨rfl, rfl⟩ ⟨Nat.le_of_ble_eq_true rfl, Nat.le_of_ble_eq_true rfl⟩ rfl rfl (Nat.le_of_ble_eq_true rfl) ?_
  refine ll_pop X dL_law_1133 ?_
  exact ll_goto X dL_law_1134 (by decide) kk
set_option maxRecDepth 100000 in
set_option maxHeartbeats 4000000 in
theorem lk_31 {M : gM} {Q : State → Prop} {GC GM : gG} {ex : gEx} {b0 b L ce sl : Nat} {xs : Nat → Int32} {σC σM : gS} (X : lX M GC GM ex b0 b L xs ce sl) {i : Int32} (h0 : 0 ≤ i.toInt) (h1 : i.toInt + 6 ≤ L) {oc : Int32 × gS} {om : Int32 × gS} (hC : fX9_slips σC (xs (i + 1).toNatClampNeg) (xs (i + 2).toNatClampNeg) (xs (i + 3).toNatClampNeg) = some oc) (hM : fX10_slips σM (xs (i + 1).toNatClampNeg) (xs (i + 2).toNatClampNeg) (xs (i + 3).toNatClampNeg) = some om) (kk : LL M Q GC GM b0 ce sl oc.2 om.2 1229 [(3, .int i), (2, .ref (GM.2.1 0)), (1, .ref (GC.2.1 0)), (0, .ref b)] []) : LL M Q GC GM b0 ce sl σC σM 1137 [(3, .int i), (2, .ref (GM.2.1 0)), (1, .ref (GC.2.1 0)), (0, .ref b)] [] := by
  refine ll_aload_n X (j := 2) dL_law_1137 rfl rfl ?_
  refine ll_aload_n X (j := 3) dL_law_1138 rfl rfl ?_
  refine ll_iload_n X (j := 0) dL_law_1139 rfl rfl ?_
  refine ll_iconst X (v := 1) dL_law_1140 (by decide) ?_
  refine ll_iadd X dL_law_1141 ?_
  refine ll_sld X (l_in X.2.2.2.2.2.2.2.1 h0 h1 (by decide) (by decide)) dL_law_1142 ?_
  refine ll_aload_n X (j := 3) dL_law_1143 rfl rfl ?_
  refine ll_iload_n X (j := 0) dL_law_1144 rfl rfl ?_
  refine ll_iconst X (v := 2) dL_law_1145 (by decide) ?_
  refine ll_iadd X dL_law_1146 ?_
  refine ll_sld X (l_in X.2.2.2.2.2.2.2.1 h0 h1 (by decide) (by decide)) dL_law_1147 ?_
  refine ll_aload_n X (j := 3) dL_law_1148 rfl rfl ?_
  refine ll_iload_n X (j := 0) dL_law_1149 rfl rfl ?_
  refine ll_iconst X (v := 3) dL_law_1150 (by decide) ?_
  refine ll_iadd X dL_law_1151 ?_
  refine ll_sld X (l_in X.2.2.2.2.2.2.2.1 h0 h1 (by decide) (by decide)) dL_law_1152 ?_
  refine llC_i X (As := [.int (xs (i + 1).toNatClampNeg), .int (xs (i + 2).toNatClampNeg), .int (xs (i + 3).toNatClampNeg)]) (rest := []) dL_law_1153 (kX9_slips (mL M) GC X.2.1.2.2.2.2.1 X.2.1.2.1 X.2.1.2.2.1 σC (xs (i + 1).toNatClampNeg) (xs (i + 2).toNatClampNeg) (xs (i + 3).toNatClampNeg) oc hC) rfl shzC_0 clzC_9 gL_law_X9_slips hlX9_slips ⟨rfl, rfl⟩ ⟨Nat.le_of_ble_eq_true rfl, Nat.le_of_ble_eq_true rfl⟩ rfl rfl (Nat.le_of_ble_eq_true rfl) ?_
  refine ll_pop X dL_law_1156 ?_
  refine ll_aload_n X (j := 1) dL_law_1157 rfl rfl ?_
  refine ll_aload_n X (j := 3) dL_law_1158 rfl rfl ?_
  refine ll_iload_n X (j := 0) dL_law_1159 rfl rfl ?_
  refine ll_iconst X (v := 1) dL_law_1160 (by decide) ?_
  refine ll_iadd X dL_law_1161 ?_
  refine ll_sld X (l_in X.2.2.2.2.2.2.2.1 h0 h1 (by decide) (by decide)) dL_law_1162 ?_
  refine ll_aload_n X (j := 3) dL_law_1163 rfl rfl ?_
  refine ll_iload_n X (j := 0) dL_law_1164 rfl rfl ?_
  refine ll_iconst X (v := 2) dL_law_1165 (by decide) ?_
  refine ll_iadd X dL_law_1166 ?_
  refine ll_sld X (l_in X.2.2.2.2.2.2.2.1 h0 h1 (by decide) (by decide)) dL_law_1167 ?_
  refine ll_aload_n X (j := 3) dL_law_1168 rfl rfl ?_
  refine ll_iload_n X (j := 0) dL_law_1169 rfl rfl ?_
  refine ll_iconst X (v := 3) dL_law_1170 (by decide) ?_
  refine ll_iadd X dL_law_1171 ?_
  refine ll_sld X (l_in X.2.2.2.2.2.2.2.1 h0 h1 (by decide) (by decide)) dL_law_1172 ?_
  refine llM_i X (As := [.int (xs (i + 1).toNatClampNeg), .int (xs (i + 2).toNatClampNeg), .int (xs (i + 3).toNatClampNeg)]) (rest := []) dL_law_1173 (kX10_slips (mL M) GM X.2.2.1.2.1 X.2.2.1.2.2.1 σM (xs (i + 1).toNatClampNeg) (xs (i + 2).toNatClampNeg) (xs (i + 3).toNatClampNeg) om hM) rfl shzM_0 clzM_10 gL_law_X10_slips hlX10_slips ⟨rfl, rfl⟩ ⟨Nat.le_of_ble_eq_true rfl, Nat.le_of_ble_eq_true rfl⟩ rfl rfl (Nat.le_of_ble_eq_true rfl) ?_
  refine ll_pop X dL_law_1176 ?_
  exact ll_goto X dL_law_1177 (by decide) kk
set_option maxRecDepth 100000 in
set_option maxHeartbeats 4000000 in
theorem lk_32 {M : gM} {Q : State → Prop} {GC GM : gG} {ex : gEx} {b0 b L ce sl : Nat} {xs : Nat → Int32} {σC σM : gS} (X : lX M GC GM ex b0 b L xs ce sl) {i : Int32} (h0 : 0 ≤ i.toInt) (h1 : i.toInt + 6 ≤ L) {oc : Int32 × gS} {om : Int32 × gS} (hC : fX9_image σC  = some oc) (hM : fX10_image σM  = some om) (kk : LL M Q GC GM b0 ce sl oc.2 om.2 1229 [(3, .int i), (2, .ref (GM.2.1 0)), (1, .ref (GC.2.1 0)), (0, .ref b)] []) : LL M Q GC GM b0 ce sl σC σM 1180 [(3, .int i), (2, .ref (GM.2.1 0)), (1, .ref (GC.2.1 0)), (0, .ref b)] [] := by
  refine ll_aload_n X (j := 2) dL_law_1180 rfl rfl ?_
  refine llC_i X (As := []) (rest := []) dL_law_1181 (kX9_image (mL M) GC X.2.1.2.2.2.2.1 X.2.1.2.1 X.2.1.2.2.1 σC  oc hC) rfl shzC_0 clzC_9 gL_law_X9_image hlX9_image ⟨rfl, rfl⟩ ⟨Nat.le_of_ble_eq_true rfl, Nat.le_of_ble_eq_true rfl⟩ rfl rfl (Nat.le_of_ble_eq_true rfl) ?_
  refine ll_pop X dL_law_1184 ?_
  refine ll_aload_n X (j := 1) dL_law_1185 rfl rfl ?_
  refine llM_i X (As := []) (rest := []) dL_law_1186 (kX10_image (mL M) GM X.2.2.1.2.1 X.2.2.1.2.2.1 σM  om hM) rfl shzM_0 clzM_10 gL_law_X10_image hlX10_image ⟨rfl, rfl⟩ ⟨Nat.le_of_ble_eq_true rfl, Nat.le_of_ble_eq_true rfl⟩ rfl rfl (Nat.le_of_ble_eq_true rfl) ?_
  refine ll_pop X dL_law_1189 ?_
  exact ll_goto X dL_law_1190 (by decide) kk
set_option maxRecDepth 100000 in
set_option maxHeartbeats 4000000 in
theorem lk_33 {M : gM} {Q : State → Prop} {GC GM : gG} {ex : gEx} {b0 b L ce sl : Nat} {xs : Nat → Int32} {σC σM : gS} (X : lX M GC GM ex b0 b L xs ce sl) {i : Int32} (h0 : 0 ≤ i.toInt) (h1 : i.toInt + 6 ≤ L) {oc : Int32} {om : Int32} (hC : fX9_octet σC (xs (i + 1).toNatClampNeg) = some oc) (hM : fX10_octet σM (xs (i + 1).toNatClampNeg) = some om) (kk : LL M Q GC GM b0 ce sl σC σM 1229 [(3, .int i), (2, .ref (GM.2.1 0)), (1, .ref (GC.2.1 0)), (0, .ref b)] []) : LL M Q GC GM b0 ce sl σC σM 1193 [(3, .int i), (2, .ref (GM.2.1 0)), (1, .ref (GC.2.1 0)), (0, .ref b)] [] := by
  refine ll_aload_n X (j := 2) dL_law_1193 rfl rfl ?_
  refine ll_aload_n X (j := 3) dL_law_1194 rfl rfl ?_
  refine ll_iload_n X (j := 0) dL_law_1195 rfl rfl ?_
  refine ll_iconst X (v := 1) dL_law_1196 (by decide) ?_
  refine ll_iadd X dL_law_1197 ?_
  refine ll_sld X (l_in X.2.2.2.2.2.2.2.1 h0 h1 (by decide) (by decide)) dL_law_1198 ?_
  refine llC_i X (As := [.int (xs (i + 1).toNatClampNeg)]) (rest := []) dL_law_1199 (kX9_octet (mL M) GC X.2.1.2.2.2.2.1 X.2.1.2.1 X.2.1.2.2.1 σC (xs (i + 1).toNatClampNeg) oc hC) rfl shzC_0 clzC_9 gL_law_X9_octet hlX9_octet ⟨rfl, rfl⟩ ⟨Nat.le_of_ble_eq_true rfl, Nat.le_of_ble_eq_true rfl⟩ rfl rfl (Nat.le_of_ble_eq_true rfl) ?_
  refine ll_pop X dL_law_1202 ?_
  refine ll_aload_n X (j := 1) dL_law_1203 rfl rfl ?_
  refine ll_aload_n X (j := 3) dL_law_1204 rfl rfl ?_
  refine ll_iload_n X (j := 0) dL_law_1205 rfl rfl ?_
  refine ll_iconst X (v := 1) dL_law_1206 (by decide) ?_
  refine ll_iadd X dL_law_1207 ?_
  refine ll_sld X (l_in X.2.2.2.2.2.2.2.1 h0 h1 (by decide) (by decide)) dL_law_1208 ?_
  refine llM_i X (As := [.int (xs (i + 1).toNatClampNeg)]) (rest := []) dL_law_1209 (kX10_octet (mL M) GM X.2.2.1.2.1 X.2.2.1.2.2.1 σM (xs (i + 1).toNatClampNeg) om hM) rfl shzM_0 clzM_10 gL_law_X10_octet hlX10_octet ⟨rfl, rfl⟩ ⟨Nat.le_of_ble_eq_true rfl, Nat.le_of_ble_eq_true rfl⟩ rfl rfl (Nat.le_of_ble_eq_true rfl) ?_
  refine ll_pop X dL_law_1212 ?_
  exact ll_goto X dL_law_1213 (by decide) kk
set_option maxRecDepth 100000 in
set_option maxHeartbeats 4000000 in
theorem lk_34 {M : gM} {Q : State → Prop} {GC GM : gG} {ex : gEx} {b0 b L ce sl : Nat} {xs : Nat → Int32} {σC σM : gS} (X : lX M GC GM ex b0 b L xs ce sl) {i : Int32} (h0 : 0 ≤ i.toInt) (h1 : i.toInt + 6 ≤ L) {oc : Int32 × gS} {om : Int32 × gS} (hC : fX9_on σC  = some oc) (hM : fX10_on σM  = some om) (kk : LL M Q GC GM b0 ce sl oc.2 om.2 1229 [(3, .int i), (2, .ref (GM.2.1 0)), (1, .ref (GC.2.1 0)), (0, .ref b)] []) : LL M Q GC GM b0 ce sl σC σM 1216 [(3, .int i), (2, .ref (GM.2.1 0)), (1, .ref (GC.2.1 0)), (0, .ref b)] [] := by
  refine ll_aload_n X (j := 2) dL_law_1216 rfl rfl ?_
  refine llC_i X (As := []) (rest := []) dL_law_1217 (kX9_on (mL M) GC X.2.1.2.2.2.2.1 X.2.1.2.1 X.2.1.2.2.1 σC  oc hC) rfl shzC_0 clzC_9 gL_law_X9_on hlX9_on ⟨rfl, rfl⟩ ⟨Nat.le_of_ble_eq_true rfl, Nat.le_of_ble_eq_true rfl⟩ rfl rfl (Nat.le_of_ble_eq_true rfl) ?_
  refine ll_pop X dL_law_1220 ?_
  refine ll_aload_n X (j := 1) dL_law_1221 rfl rfl ?_
  refine llM_i X (As := []) (rest := []) dL_law_1222 (kX10_on (mL M) GM X.2.2.1.2.1 X.2.2.1.2.2.1 σM  om hM) rfl shzM_0 clzM_10 gL_law_X10_on hlX10_on ⟨rfl, rfl⟩ ⟨Nat.le_of_ble_eq_true rfl, Nat.le_of_ble_eq_true rfl⟩ rfl rfl (Nat.le_of_ble_eq_true rfl) ?_
  refine ll_pop X dL_law_1225 ?_
  exact ll_goto X dL_law_1226 (by decide) kk
/-- what one call of the script asks of both sides: they come through, answer alike, and P holds behind them -/
noncomputable def lOK (P : gS → gS → Prop) (o x1 x2 x3 x4 x5 : Int32) (σC σM : gS) : Prop :=
  (o = 0 → ∃ (oc : Int32 × gS) (om : Int32 × gS), fX9_feed σC (x1) (x2) (x3) (x4) (x5) = some oc ∧ fX10_feed σM (x1) (x2) (x3) (x4) (x5) = some om ∧ P oc.2 om.2) ∧
  (o = 1 → ∃ (oc : Int32 × gS) (om : Int32 × gS), fX9_end σC (x1) = some oc ∧ fX10_end σM (x1) = some om ∧ P oc.2 om.2) ∧
  (o = 2 → ∃ (oc : Int32 × gS) (om : Int32 × gS), fX9_block σC  = some oc ∧ fX10_block σM  = some om ∧ P oc.2 om.2) ∧
  (o = 3 → ∃ (oc : Int32) (om : Int32), fX9_fault σC (x1) = some oc ∧ fX10_fault σM (x1) = some om ∧ P σC σM) ∧
  (o = 4 → ∃ (oc : Int32) (om : Int32), fX9_has σC (x1) = some oc ∧ fX10_has σM (x1) = some om ∧ P σC σM) ∧
  (o = 5 → ∃ (oc : Int32) (om : Int32), fX9_letter σC (x1) (x2) (x3) = some oc ∧ fX10_letter σM (x1) (x2) (x3) = some om ∧ P σC σM) ∧
  (o = 6 → ∃ (oc : Int32 × gS) (om : Int32 × gS), fX9_picture σC (x1) (x2) = some oc ∧ fX10_picture σM (x1) (x2) = some om ∧ P oc.2 om.2) ∧
  (o = 7 → ∃ (oc : Int32 × gS) (om : Int32 × gS), fX9_point σC (x1) (x2) = some oc ∧ fX10_point σM (x1) (x2) = some om ∧ P oc.2 om.2) ∧
  (o = 8 → ∃ (oc : Int32 × gS) (om : Int32 × gS), fX9_row σC (x1) (x2) = some oc ∧ fX10_row σM (x1) (x2) = some om ∧ P oc.2 om.2) ∧
  (o = 9 → ∃ (oc : Int32) (om : Int32), fX9_drift σC (x1) (x2) = some oc ∧ fX10_drift σM (x1) (x2) = some om ∧ P σC σM) ∧
  (o = 10 → ∃ (oc : Int32 × gS) (om : Int32 × gS), fX9_start σC  = some oc ∧ fX10_start σM  = some om ∧ oc.1 = om.1 ∧ P oc.2 om.2) ∧
  (o = 11 → ∃ (oc : Int32 × gS) (om : Int32 × gS), fX9_rounds σC (x1) = some oc ∧ fX10_rounds σM (x1) = some om ∧ P oc.2 om.2) ∧
  (o = 12 → ∃ (oc : Int64) (om : Int64), fX9_sum σC  = some oc ∧ fX10_sum σM  = some om ∧ P σC σM) ∧
  (o = 13 → ∃ (oc : Int32 × gS) (om : Int32 × gS), fX9_whole σC (x1) (x2) (x3) = some oc ∧ fX10_whole σM (x1) (x2) (x3) = some om ∧ P oc.2 om.2) ∧
  (o = 14 → ∃ (oc : Int32 × gS) (om : Int32 × gS), fX9_sets σC (x1) = some oc ∧ fX10_sets σM (x1) = some om ∧ P oc.2 om.2) ∧
  (o = 15 → ∃ (oc : Int32 × gS) (om : Int32 × gS), fX9_parts σC  = some oc ∧ fX10_parts σM  = some om ∧ P oc.2 om.2) ∧
  (o = 16 → ∃ (oc : Int32 × gS) (om : Int32 × gS), fX9_hang σC (x1) (x2) = some oc ∧ fX10_hang σM (x1) (x2) = some om ∧ P oc.2 om.2) ∧
  (o = 17 → ∃ (oc : Int32 × gS) (om : Int32 × gS), fX9_blind σC  = some oc ∧ fX10_blind σM  = some om ∧ P oc.2 om.2) ∧
  (o = 18 → ∃ (oc : Int32 × gS) (om : Int32 × gS), fX9_needs σC (x1) = some oc ∧ fX10_needs σM (x1) = some om ∧ P oc.2 om.2) ∧
  (o = 19 → ∃ (oc : Int64) (om : Int64), fX9_doubt σC (x1) = some oc ∧ fX10_doubt σM (x1) = some om ∧ P σC σM) ∧
  (o = 20 → ∃ (oc : Int32 × gS) (om : Int32 × gS), fX9_worst σC  = some oc ∧ fX10_worst σM  = some om ∧ P oc.2 om.2) ∧
  (o = 21 → ∃ (oc : Int32 × gS) (om : Int32 × gS), fX9_drop σC (x1) ((if x2 = 0 then (0 : Int32) else 1)) = some oc ∧ fX10_drop σM (x1) ((if x2 = 0 then (0 : Int32) else 1)) = some om ∧ P oc.2 om.2) ∧
  (o = 22 → ∃ (oc : Int32 × gS) (om : Int32 × gS), fX9_clean σC ((((x1).toInt64 <<< ((32 : Int32).toInt64 &&& 63)) ||| ((x2).toInt64 &&& 4294967295))) = some oc ∧ fX10_clean σM ((((x1).toInt64 <<< ((32 : Int32).toInt64 &&& 63)) ||| ((x2).toInt64 &&& 4294967295))) = some om ∧ P oc.2 om.2) ∧
  (o = 23 → ∃ (oc : Int32 × gS) (om : Int32), fX9_tie σC (x1) (x2) (x3) = some oc ∧ fX10_tie σM (x1) (x2) (x3) = some om ∧ P oc.2 σM) ∧
  (o = 24 → ∃ (oc : Int32 × gS) (om : Int32), fX9_loop σC (x1) (x2) (x3) (x4) = some oc ∧ fX10_loop σM (x1) (x2) (x3) (x4) = some om ∧ P oc.2 σM) ∧
  (o = 25 → ∃ (oc : Int32 × gS) (om : Int32), fX9_gap σC (x1) = some oc ∧ fX10_gap σM (x1) = some om ∧ P oc.2 σM) ∧
  (o = 26 → ∃ (oc : Int32 × gS) (om : Int32 × gS), fX9_tree σC (x1) = some oc ∧ fX10_tree σM (x1) = some om ∧ P oc.2 om.2) ∧
  (o = 27 → ∃ (oc : Int32 × gS) (om : Int32 × gS), fX9_plan σC (x1) = some oc ∧ fX10_plan σM (x1) = some om ∧ P oc.2 om.2) ∧
  (o = 28 → ∃ (oc : Int32 × gS) (om : Int32 × gS), fX9_differ σC (x1) (x2) = some oc ∧ fX10_differ σM (x1) (x2) = some om ∧ P oc.2 om.2) ∧
  (o = 29 → ∃ (oc : Int32 × gS) (om : Int32 × gS), fX9_alters σC (x1) (x2) (x3) (x4) = some oc ∧ fX10_alters σM (x1) (x2) (x3) (x4) = some om ∧ P oc.2 om.2) ∧
  (o = 30 → ∃ (oc : Int32 × gS) (om : Int32 × gS), fX9_measure σC (x1) (x2) (x3) = some oc ∧ fX10_measure σM (x1) (x2) (x3) = some om ∧ P oc.2 om.2) ∧
  (o = 31 → ∃ (oc : Int32 × gS) (om : Int32 × gS), fX9_slips σC (x1) (x2) (x3) = some oc ∧ fX10_slips σM (x1) (x2) (x3) = some om ∧ P oc.2 om.2) ∧
  (o = 32 → ∃ (oc : Int32 × gS) (om : Int32 × gS), fX9_image σC  = some oc ∧ fX10_image σM  = some om ∧ P oc.2 om.2) ∧
  (o = 33 → ∃ (oc : Int32) (om : Int32), fX9_octet σC (x1) = some oc ∧ fX10_octet σM (x1) = some om ∧ P σC σM) ∧
  (o = 34 → ∃ (oc : Int32 × gS) (om : Int32 × gS), fX9_on σC  = some oc ∧ fX10_on σM  = some om ∧ P oc.2 om.2) ∧
  (o.toInt < 0 ∨ 34 < o.toInt → P σC σM)
