/-! sum C -/
theorem q_sumC : fX9_sum s0C = some 0 := by decide +kernel
