theorem dL_law_1552 : decode cL_law 1552 = .ok (.ireturn, 1) := by decide +kernel
theorem dL_law_1553 : decode cL_law 1553 = .ok (.iinc 3 6, 3) := by decide +kernel
theorem dL_law_1556 : decode cL_law 1556 = .ok (.goto (-1538), 3) := by decide +kernel
theorem dL_law_1559 : decode cL_law 1559 = .ok (.iconst 1, 1) := by decide +kernel
theorem dL_law_1560 : decode cL_law 1560 = .ok (.ireturn, 1) := by decide +kernel
