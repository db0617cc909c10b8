set_option maxRecDepth 100000 in
theorem jp_bc_dec : ∀ a, a < 4096 → jp_bc (nI a) = nI (cnt (fun i => a.testBit i) 12) := by decide +kernel
