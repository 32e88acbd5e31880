theorem d_L_init_0 : decode me_L_init.2.1 0 = .ok (.aload_n 0, 1) := by decide +kernel
theorem d_L_init_1 : decode me_L_init.2.1 1 = .ok (.invokespecial 1, 3) := by decide +kernel
theorem c_L_init_1 : bm_io me_L_init 1 := ⟨_, d_L_init_1, ml_L_1, ki_obj, kc_obj, by decide, by decide⟩
theorem d_L_init_4 : decode me_L_init.2.1 4 = .ok (.aload_n 0, 1) := by decide +kernel
theorem d_L_init_5 : decode me_L_init.2.1 5 = .ok (.getstatic 7, 3) := by decide +kernel
theorem d_L_init_8 : decode me_L_init.2.1 8 = .ok (.putfield 13, 3) := by decide +kernel
theorem p_L_init_8 : bm_pf me_L_init 8 3 2 (.array .int) := ⟨_, _, _, _, ty_L, d_L_init_8, rfl, by decide, uw_L, fl_L_13, tk_L, nm_L, rfl, Or.inl rfl⟩
theorem d_L_init_11 : decode me_L_init.2.1 11 = .ok (.aload_n 0, 1) := by decide +kernel
theorem d_L_init_12 : decode me_L_init.2.1 12 = .ok (.getstatic 7, 3) := by decide +kernel
theorem d_L_init_15 : decode me_L_init.2.1 15 = .ok (.putfield 18, 3) := by decide +kernel
theorem p_L_init_15 : bm_pf me_L_init 15 3 3 (.array .int) := ⟨_, _, _, _, ty_L, d_L_init_15, rfl, by decide, uw_L, fl_L_18, tk_L, nm_L, rfl, Or.inl rfl⟩
theorem d_L_init_18 : decode me_L_init.2.1 18 = .ok (.aload_n 0, 1) := by decide +kernel
theorem d_L_init_19 : decode me_L_init.2.1 19 = .ok (.iload_n 1, 1) := by decide +kernel
theorem d_L_init_20 : decode me_L_init.2.1 20 = .ok (.putfield 21, 3) := by decide +kernel
theorem p_L_init_20 : bm_pf me_L_init 20 3 0 .int := ⟨_, _, _, _, ty_L, d_L_init_20, rfl, by decide, uw_L, fl_L_21, tk_L, nm_L, rfl, Or.inr ⟨rfl, rfl, rfl⟩⟩
theorem d_L_init_23 : decode me_L_init.2.1 23 = .ok (.aload_n 0, 1) := by decide +kernel
theorem d_L_init_24 : decode me_L_init.2.1 24 = .ok (.iload_n 2, 1) := by decide +kernel
theorem d_L_init_25 : decode me_L_init.2.1 25 = .ok (.putfield 25, 3) := by decide +kernel
theorem p_L_init_25 : bm_pf me_L_init 25 3 1 .int := ⟨_, _, _, _, ty_L, d_L_init_25, rfl, by decide, uw_L, fl_L_25, tk_L, nm_L, rfl, Or.inr ⟨rfl, rfl, rfl⟩⟩
theorem d_L_init_28 : decode me_L_init.2.1 28 = .ok (.return_, 1) := by decide +kernel
