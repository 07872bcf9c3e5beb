/-! worst M -/
theorem q_worstM : (fX10_worst s0M).map (fun x => x.1) = some (-1) := by decide +kernel
