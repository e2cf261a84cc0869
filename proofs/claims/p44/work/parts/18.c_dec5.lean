/-! the law, decoded -/
theorem dL_law_3561 : decode cL_law 3561 = .ok (.ireturn, 1) := by decide +kernel
