/-! image M -/
theorem q_imageM : (fX10_image s0M).map (fun x => x.1) = some (2) := by decide +kernel
