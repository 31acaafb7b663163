theorem d_law_1384 : decode code 1384 = .ok (.ifCond .eq 5, 3) := by decide +kernel
theorem d_law_1387 : decode code 1387 = .ok (.iconst 0, 1) := by decide +kernel
theorem d_law_1388 : decode code 1388 = .ok (.ireturn, 1) := by decide +kernel
theorem d_law_1389 : decode code 1389 = .ok (.iinc 3 7, 3) := by decide +kernel
theorem d_law_1392 : decode code 1392 = .ok (.goto (-1374), 3) := by decide +kernel
theorem d_law_1395 : decode code 1395 = .ok (.iconst 1, 1) := by decide +kernel
theorem d_law_1396 : decode code 1396 = .ok (.ireturn, 1) := by decide +kernel
