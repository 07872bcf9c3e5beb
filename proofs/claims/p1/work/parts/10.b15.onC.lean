/-! on C -/
theorem q_onC : (fX9_on s0C).map (fun x => x.1) = some (0) := by decide +kernel
