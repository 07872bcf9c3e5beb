/-! start M -/
theorem q_startM : (fX10_start s0M).map (fun x => x.1) = some (0) := by decide +kernel
