/-! parts M -/
theorem q_partsM : (fX10_parts s0M).map (fun x => x.1) = some (0) := by decide +kernel
