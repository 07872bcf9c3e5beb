/-! image C -/
theorem q_imageC : (fX9_image s0C).map (fun x => x.1) = some (2) := by decide +kernel
