/-! start C -/
theorem q_startC : (fX9_start s0C).map (fun x => x.1) = some (0) := by decide +kernel
