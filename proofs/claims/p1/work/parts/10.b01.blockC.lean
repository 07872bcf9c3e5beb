/-! block C -/
theorem q_blockC : (fX9_block s0C).map (fun x => x.1) = some (0) := by decide +kernel
