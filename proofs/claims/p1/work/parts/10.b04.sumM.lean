/-! sum M -/
theorem q_sumM : fX10_sum s0M = some 0 := by decide +kernel
