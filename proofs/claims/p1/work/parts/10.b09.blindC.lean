/-! blind C -/
theorem q_blindC : (fX9_blind s0C).map (fun x => x.1) = some (0) := by decide +kernel
