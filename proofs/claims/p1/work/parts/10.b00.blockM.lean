/-! block M -/
theorem q_blockM : (fX10_block s0M).map (fun x => x.1) = some (0) := by decide +kernel
