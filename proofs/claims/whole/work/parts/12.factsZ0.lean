theorem d_Z_min_0 : decode me_Z_min.2.1 0 = .ok (.iload_n 0, 1) := by decide +kernel
theorem d_Z_min_1 : decode me_Z_min.2.1 1 = .ok (.iload_n 1, 1) := by decide +kernel
theorem d_Z_min_2 : decode me_Z_min.2.1 2 = .ok (.if_icmp .gt (7), 3) := by decide +kernel
theorem d_Z_min_5 : decode me_Z_min.2.1 5 = .ok (.iload_n 0, 1) := by decide +kernel
theorem d_Z_min_6 : decode me_Z_min.2.1 6 = .ok (.goto (4), 3) := by decide +kernel
theorem d_Z_min_9 : decode me_Z_min.2.1 9 = .ok (.iload_n 1, 1) := by decide +kernel
theorem d_Z_min_10 : decode me_Z_min.2.1 10 = .ok (.ireturn, 1) := by decide +kernel
