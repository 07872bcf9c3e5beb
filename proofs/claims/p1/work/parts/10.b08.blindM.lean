/-! blind M -/
theorem q_blindM : (fX10_blind s0M).map (fun x => x.1) = some (0) := by decide +kernel
