/-! the law, decoded -/
theorem dL_762 : decode code 762 = .ok (.ireturn, 1) := by decide +kernel
