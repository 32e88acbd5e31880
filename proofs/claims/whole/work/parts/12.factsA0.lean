theorem d_A_copyOf_0 : decode me_A_copyOf.2.1 0 = .ok (.iload_n 1, 1) := by decide +kernel
theorem d_A_copyOf_1 : decode me_A_copyOf.2.1 1 = .ok (.aload_n 0, 1) := by decide +kernel
theorem d_A_copyOf_2 : decode me_A_copyOf.2.1 2 = .ok (.arraylength, 1) := by decide +kernel
theorem d_A_copyOf_3 : decode me_A_copyOf.2.1 3 = .ok (.if_icmp .ne (11), 3) := by decide +kernel
theorem d_A_copyOf_6 : decode me_A_copyOf.2.1 6 = .ok (.aload_n 0, 1) := by decide +kernel
theorem d_A_copyOf_7 : decode me_A_copyOf.2.1 7 = .ok (.invokevirtual 316, 3) := by decide +kernel
theorem d_A_copyOf_10 : decode me_A_copyOf.2.1 10 = .ok (.checkcast 317, 3) := by decide +kernel
theorem d_A_copyOf_13 : decode me_A_copyOf.2.1 13 = .ok (.areturn, 1) := by decide +kernel
theorem d_A_copyOf_14 : decode me_A_copyOf.2.1 14 = .ok (.iload_n 1, 1) := by decide +kernel
theorem d_A_copyOf_15 : decode me_A_copyOf.2.1 15 = .ok (.newarray .int, 2) := by decide +kernel
theorem n_A_copyOf_15 : bm_na me_A_copyOf 15 0 .int := ⟨_, d_A_copyOf_15, rfl, ac_int, rfl, by decide⟩
theorem d_A_copyOf_17 : decode me_A_copyOf.2.1 17 = .ok (.astore_n 2, 1) := by decide +kernel
theorem d_A_copyOf_18 : decode me_A_copyOf.2.1 18 = .ok (.aload_n 0, 1) := by decide +kernel
theorem d_A_copyOf_19 : decode me_A_copyOf.2.1 19 = .ok (.iconst 0, 1) := by decide +kernel
theorem d_A_copyOf_20 : decode me_A_copyOf.2.1 20 = .ok (.aload_n 2, 1) := by decide +kernel
theorem d_A_copyOf_21 : decode me_A_copyOf.2.1 21 = .ok (.iconst 0, 1) := by decide +kernel
theorem d_A_copyOf_22 : decode me_A_copyOf.2.1 22 = .ok (.aload_n 0, 1) := by decide +kernel
theorem d_A_copyOf_23 : decode me_A_copyOf.2.1 23 = .ok (.arraylength, 1) := by decide +kernel
theorem d_A_copyOf_24 : decode me_A_copyOf.2.1 24 = .ok (.iload_n 1, 1) := by decide +kernel
theorem d_A_copyOf_25 : decode me_A_copyOf.2.1 25 = .ok (.invokestatic 304, 3) := by decide +kernel
theorem c_A_copyOf_25 : bm_is me_A_copyOf me_Z_min 25 2 := ⟨_, d_A_copyOf_25, Or.inl ml_A_304, ⟨kc_Z_min, in_java_lang_Math, by decide +kernel, by decide, by decide⟩, kt_Z_min⟩
theorem d_A_copyOf_28 : decode me_A_copyOf.2.1 28 = .ok (.invokestatic 150, 3) := by decide +kernel
theorem d_A_copyOf_31 : decode me_A_copyOf.2.1 31 = .ok (.aload_n 2, 1) := by decide +kernel
theorem d_A_copyOf_32 : decode me_A_copyOf.2.1 32 = .ok (.areturn, 1) := by decide +kernel
theorem d_A_fill_0 : decode me_A_fill.2.1 0 = .ok (.iconst 0, 1) := by decide +kernel
theorem d_A_fill_1 : decode me_A_fill.2.1 1 = .ok (.istore_n 2, 1) := by decide +kernel
theorem d_A_fill_2 : decode me_A_fill.2.1 2 = .ok (.aload_n 0, 1) := by decide +kernel
theorem d_A_fill_3 : decode me_A_fill.2.1 3 = .ok (.arraylength, 1) := by decide +kernel
theorem d_A_fill_4 : decode me_A_fill.2.1 4 = .ok (.istore_n 3, 1) := by decide +kernel
theorem d_A_fill_5 : decode me_A_fill.2.1 5 = .ok (.iload_n 2, 1) := by decide +kernel
theorem d_A_fill_6 : decode me_A_fill.2.1 6 = .ok (.iload_n 3, 1) := by decide +kernel
theorem d_A_fill_7 : decode me_A_fill.2.1 7 = .ok (.if_icmp .ge (13), 3) := by decide +kernel
theorem d_A_fill_10 : decode me_A_fill.2.1 10 = .ok (.aload_n 0, 1) := by decide +kernel
theorem d_A_fill_11 : decode me_A_fill.2.1 11 = .ok (.iload_n 2, 1) := by decide +kernel
theorem d_A_fill_12 : decode me_A_fill.2.1 12 = .ok (.iload_n 1, 1) := by decide +kernel
theorem d_A_fill_13 : decode me_A_fill.2.1 13 = .ok (.iastore, 1) := by decide +kernel
theorem d_A_fill_14 : decode me_A_fill.2.1 14 = .ok (.iinc 2 (1), 3) := by decide +kernel
theorem d_A_fill_17 : decode me_A_fill.2.1 17 = .ok (.goto (-12), 3) := by decide +kernel
theorem d_A_fill_20 : decode me_A_fill.2.1 20 = .ok (.return_, 1) := by decide +kernel
