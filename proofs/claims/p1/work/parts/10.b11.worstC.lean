/-! worst C -/
theorem q_worstC : (fX9_worst s0C).map (fun x => x.1) = some (-1) := by decide +kernel
