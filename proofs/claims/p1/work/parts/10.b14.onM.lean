/-! on M -/
theorem q_onM : (fX10_on s0M).map (fun x => x.1) = some (0) := by decide +kernel
