/-! parts C -/
theorem q_partsC : (fX9_parts s0C).map (fun x => x.1) = some (0) := by decide +kernel
