theorem d_T_init_0 : decode me_T_init.2.1 0 = .ok (.aload_n 0, 1) := by decide +kernel
theorem d_T_init_1 : decode me_T_init.2.1 1 = .ok (.invokespecial 1, 3) := by decide +kernel
theorem c_T_init_1 : bm_io me_T_init 1 := ⟨_, d_T_init_1, ml_T_1, ki_obj, kc_obj, by decide, by decide⟩
theorem d_T_init_4 : decode me_T_init.2.1 4 = .ok (.return_, 1) := by decide +kernel
