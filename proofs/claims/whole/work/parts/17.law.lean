abbrev me_W_release : bm_M := (⟨"BatchHallLaw", "release", "(LBatchHall;I[J)I"⟩, method_3_code, 4, some FieldType.int, 8, 139)
abbrev me_W_batch : bm_M := (⟨"BatchHallLaw", "batch", "(LBatchHall;II[J)I"⟩, method_4_code, 5, some FieldType.int, 8, 123)
abbrev me_W_start : bm_M := (⟨"BatchHallLaw", "start", "(LBatchHall;I[J)I"⟩, method_5_code, 4, some FieldType.int, 9, 181)
abbrev me_W_hold : bm_M := (⟨"BatchHallLaw", "hold", "(LBatchHall;I)I"⟩, method_6_code, 3, some FieldType.int, 9, 143)
abbrev me_W_restart : bm_M := (⟨"BatchHallLaw", "restart", "(LBatchHall;I[J)I"⟩, method_7_code, 4, some FieldType.int, 9, 143)
abbrev me_W_stop : bm_M := (⟨"BatchHallLaw", "stop", "(LBatchHall;I[J)I"⟩, method_8_code, 4, some FieldType.int, 9, 181)
abbrev me_W_abort : bm_M := (⟨"BatchHallLaw", "abort", "(LBatchHall;I)I"⟩, method_9_code, 3, some FieldType.int, 9, 181)
abbrev me_W_law : bm_M := (⟨"BatchHallLaw", "law", "([I)Z"⟩, code, 7, some FieldType.boolean, 10, 204)
abbrev hh_W_release : List (Nat × Nat × Nat × Nat) := [(0, 9, 12, 13), (0, 9, 15, 15)]
theorem kw_W_release : Cond.codeWith me_W_release.1 me_W_release.2.1 me_W_release.2.2.1 me_W_release.2.2.2.1 hh_W_release ∈ bm_Ts := bm_in 644 (by decide +kernel) (by decide +kernel)
theorem d_W_release_0 : decode me_W_release.2.1 0 = .ok (.aload_n 2, 1) := by decide +kernel
theorem d_W_release_1 : decode me_W_release.2.1 1 = .ok (.iconst 0, 1) := by decide +kernel
theorem d_W_release_2 : decode me_W_release.2.1 2 = .ok (.aload_n 0, 1) := by decide +kernel
theorem d_W_release_3 : decode me_W_release.2.1 3 = .ok (.iload_n 1, 1) := by decide +kernel
theorem d_W_release_4 : decode me_W_release.2.1 4 = .ok (.invokevirtual 7, 3) := by decide +kernel
theorem ml_W_7 : Cond.methodLink "BatchHallLaw" 7 me_H_release.1 ∈ bm_Ts := bm_in 647 (by decide +kernel) (by decide +kernel)
theorem ki_H_release : Cond.instanceMethod me_H_release.1 ∈ bm_Ts := bm_in 648 (by decide +kernel) (by decide +kernel)
theorem ks_H_release : Cond.selects me_H_release.1.cls me_H_release.1 me_H_release.1 ∈ bm_Ts := bm_in 649 (by decide +kernel) (by decide +kernel)
theorem c_W_release_4 : bm_iv me_W_release me_H_release 4 0 1 := ⟨_, d_W_release_4, Or.inl ml_W_7, ⟨kc_H_release, in_BatchHall, by decide +kernel, by decide, by decide⟩, ki_H_release, ks_H_release, _, _, rfl⟩
theorem x_W_release_4 : ∃ ix, decode me_W_release.2.1 4 = .ok (.invokevirtual ix, 3) ∧ Cond.methodLink me_W_release.1.cls ix me_H_release.1 ∈ bm_Ts := ⟨_, d_W_release_4, ml_W_7⟩
theorem lc_W_13 : Cond.classLink "BatchHallLaw" 13 "java/lang/IllegalArgumentException" ∈ bm_Ts := bm_in 645 (by decide +kernel) (by decide +kernel)
theorem lc_W_15 : Cond.classLink "BatchHallLaw" 15 "java/lang/IllegalStateException" ∈ bm_Ts := bm_in 646 (by decide +kernel) (by decide +kernel)
theorem w_W_release_4 : bm_hw me_W_release 4 12 15 := ⟨_, _, _, _, _, _, kw_W_release, by decide, by decide, by decide, by decide, lc_W_13, lc_W_15⟩
theorem d_W_release_7 : decode me_W_release.2.1 7 = .ok (.i2l, 1) := by decide +kernel
theorem d_W_release_8 : decode me_W_release.2.1 8 = .ok (.lastore, 1) := by decide +kernel
theorem d_W_release_9 : decode me_W_release.2.1 9 = .ok (.goto (9), 3) := by decide +kernel
theorem d_W_release_12 : decode me_W_release.2.1 12 = .ok (.astore_n 3, 1) := by decide +kernel
theorem d_W_release_13 : decode me_W_release.2.1 13 = .ok (.iconst 1, 1) := by decide +kernel
theorem d_W_release_14 : decode me_W_release.2.1 14 = .ok (.ireturn, 1) := by decide +kernel
theorem d_W_release_15 : decode me_W_release.2.1 15 = .ok (.astore_n 3, 1) := by decide +kernel
theorem d_W_release_16 : decode me_W_release.2.1 16 = .ok (.iconst 2, 1) := by decide +kernel
theorem d_W_release_17 : decode me_W_release.2.1 17 = .ok (.ireturn, 1) := by decide +kernel
theorem d_W_release_18 : decode me_W_release.2.1 18 = .ok (.iconst 0, 1) := by decide +kernel
theorem d_W_release_19 : decode me_W_release.2.1 19 = .ok (.ireturn, 1) := by decide +kernel
abbrev hh_W_batch : List (Nat × Nat × Nat × Nat) := [(0, 10, 13, 13), (0, 10, 17, 15)]
theorem kw_W_batch : Cond.codeWith me_W_batch.1 me_W_batch.2.1 me_W_batch.2.2.1 me_W_batch.2.2.2.1 hh_W_batch ∈ bm_Ts := bm_in 800 (by decide +kernel) (by decide +kernel)
theorem d_W_batch_0 : decode me_W_batch.2.1 0 = .ok (.aload_n 3, 1) := by decide +kernel
theorem d_W_batch_1 : decode me_W_batch.2.1 1 = .ok (.iconst 0, 1) := by decide +kernel
theorem d_W_batch_2 : decode me_W_batch.2.1 2 = .ok (.aload_n 0, 1) := by decide +kernel
theorem d_W_batch_3 : decode me_W_batch.2.1 3 = .ok (.iload_n 1, 1) := by decide +kernel
theorem d_W_batch_4 : decode me_W_batch.2.1 4 = .ok (.iload_n 2, 1) := by decide +kernel
theorem d_W_batch_5 : decode me_W_batch.2.1 5 = .ok (.invokevirtual 17, 3) := by decide +kernel
theorem ml_W_17 : Cond.methodLink "BatchHallLaw" 17 me_H_batch.1 ∈ bm_Ts := bm_in 801 (by decide +kernel) (by decide +kernel)
theorem ki_H_batch : Cond.instanceMethod me_H_batch.1 ∈ bm_Ts := bm_in 802 (by decide +kernel) (by decide +kernel)
theorem ks_H_batch : Cond.selects me_H_batch.1.cls me_H_batch.1 me_H_batch.1 ∈ bm_Ts := bm_in 803 (by decide +kernel) (by decide +kernel)
theorem c_W_batch_5 : bm_iv me_W_batch me_H_batch 5 0 2 := ⟨_, d_W_batch_5, Or.inl ml_W_17, ⟨kc_H_batch, in_BatchHall, by decide +kernel, by decide, by decide⟩, ki_H_batch, ks_H_batch, _, _, rfl⟩
theorem x_W_batch_5 : ∃ ix, decode me_W_batch.2.1 5 = .ok (.invokevirtual ix, 3) ∧ Cond.methodLink me_W_batch.1.cls ix me_H_batch.1 ∈ bm_Ts := ⟨_, d_W_batch_5, ml_W_17⟩
theorem w_W_batch_5 : bm_hw me_W_batch 5 13 17 := ⟨_, _, _, _, _, _, kw_W_batch, by decide, by decide, by decide, by decide, lc_W_13, lc_W_15⟩
theorem d_W_batch_8 : decode me_W_batch.2.1 8 = .ok (.i2l, 1) := by decide +kernel
theorem d_W_batch_9 : decode me_W_batch.2.1 9 = .ok (.lastore, 1) := by decide +kernel
theorem d_W_batch_10 : decode me_W_batch.2.1 10 = .ok (.goto (11), 3) := by decide +kernel
theorem d_W_batch_13 : decode me_W_batch.2.1 13 = .ok (.astore 4, 2) := by decide +kernel
theorem d_W_batch_15 : decode me_W_batch.2.1 15 = .ok (.iconst 1, 1) := by decide +kernel
theorem d_W_batch_16 : decode me_W_batch.2.1 16 = .ok (.ireturn, 1) := by decide +kernel
theorem d_W_batch_17 : decode me_W_batch.2.1 17 = .ok (.astore 4, 2) := by decide +kernel
theorem d_W_batch_19 : decode me_W_batch.2.1 19 = .ok (.iconst 2, 1) := by decide +kernel
theorem d_W_batch_20 : decode me_W_batch.2.1 20 = .ok (.ireturn, 1) := by decide +kernel
theorem d_W_batch_21 : decode me_W_batch.2.1 21 = .ok (.iconst 0, 1) := by decide +kernel
theorem d_W_batch_22 : decode me_W_batch.2.1 22 = .ok (.ireturn, 1) := by decide +kernel
abbrev hh_W_start : List (Nat × Nat × Nat × Nat) := [(0, 9, 12, 13), (0, 9, 15, 15)]
theorem kw_W_start : Cond.codeWith me_W_start.1 me_W_start.2.1 me_W_start.2.2.1 me_W_start.2.2.2.1 hh_W_start ∈ bm_Ts := bm_in 884 (by decide +kernel) (by decide +kernel)
theorem d_W_start_0 : decode me_W_start.2.1 0 = .ok (.aload_n 2, 1) := by decide +kernel
theorem d_W_start_1 : decode me_W_start.2.1 1 = .ok (.iconst 0, 1) := by decide +kernel
theorem d_W_start_2 : decode me_W_start.2.1 2 = .ok (.aload_n 0, 1) := by decide +kernel
theorem d_W_start_3 : decode me_W_start.2.1 3 = .ok (.iload_n 1, 1) := by decide +kernel
theorem d_W_start_4 : decode me_W_start.2.1 4 = .ok (.invokevirtual 21, 3) := by decide +kernel
theorem ml_W_21 : Cond.methodLink "BatchHallLaw" 21 me_H_start.1 ∈ bm_Ts := bm_in 885 (by decide +kernel) (by decide +kernel)
theorem ki_H_start : Cond.instanceMethod me_H_start.1 ∈ bm_Ts := bm_in 886 (by decide +kernel) (by decide +kernel)
theorem ks_H_start : Cond.selects me_H_start.1.cls me_H_start.1 me_H_start.1 ∈ bm_Ts := bm_in 887 (by decide +kernel) (by decide +kernel)
theorem c_W_start_4 : bm_iv me_W_start me_H_start 4 0 1 := ⟨_, d_W_start_4, Or.inl ml_W_21, ⟨kc_H_start, in_BatchHall, by decide +kernel, by decide, by decide⟩, ki_H_start, ks_H_start, _, _, rfl⟩
theorem x_W_start_4 : ∃ ix, decode me_W_start.2.1 4 = .ok (.invokevirtual ix, 3) ∧ Cond.methodLink me_W_start.1.cls ix me_H_start.1 ∈ bm_Ts := ⟨_, d_W_start_4, ml_W_21⟩
theorem w_W_start_4 : bm_hw me_W_start 4 12 15 := ⟨_, _, _, _, _, _, kw_W_start, by decide, by decide, by decide, by decide, lc_W_13, lc_W_15⟩
theorem d_W_start_7 : decode me_W_start.2.1 7 = .ok (.i2l, 1) := by decide +kernel
theorem d_W_start_8 : decode me_W_start.2.1 8 = .ok (.lastore, 1) := by decide +kernel
theorem d_W_start_9 : decode me_W_start.2.1 9 = .ok (.goto (9), 3) := by decide +kernel
theorem d_W_start_12 : decode me_W_start.2.1 12 = .ok (.astore_n 3, 1) := by decide +kernel
theorem d_W_start_13 : decode me_W_start.2.1 13 = .ok (.iconst 1, 1) := by decide +kernel
theorem d_W_start_14 : decode me_W_start.2.1 14 = .ok (.ireturn, 1) := by decide +kernel
theorem d_W_start_15 : decode me_W_start.2.1 15 = .ok (.astore_n 3, 1) := by decide +kernel
theorem d_W_start_16 : decode me_W_start.2.1 16 = .ok (.iconst 2, 1) := by decide +kernel
theorem d_W_start_17 : decode me_W_start.2.1 17 = .ok (.ireturn, 1) := by decide +kernel
theorem d_W_start_18 : decode me_W_start.2.1 18 = .ok (.iconst 0, 1) := by decide +kernel
theorem d_W_start_19 : decode me_W_start.2.1 19 = .ok (.ireturn, 1) := by decide +kernel
abbrev hh_W_hold : List (Nat × Nat × Nat × Nat) := [(0, 5, 8, 13), (0, 5, 11, 15)]
theorem kw_W_hold : Cond.codeWith me_W_hold.1 me_W_hold.2.1 me_W_hold.2.2.1 me_W_hold.2.2.2.1 hh_W_hold ∈ bm_Ts := bm_in 901 (by decide +kernel) (by decide +kernel)
theorem d_W_hold_0 : decode me_W_hold.2.1 0 = .ok (.aload_n 0, 1) := by decide +kernel
theorem d_W_hold_1 : decode me_W_hold.2.1 1 = .ok (.iload_n 1, 1) := by decide +kernel
theorem d_W_hold_2 : decode me_W_hold.2.1 2 = .ok (.invokevirtual 24, 3) := by decide +kernel
theorem ml_W_24 : Cond.methodLink "BatchHallLaw" 24 me_H_hold.1 ∈ bm_Ts := bm_in 902 (by decide +kernel) (by decide +kernel)
theorem ki_H_hold : Cond.instanceMethod me_H_hold.1 ∈ bm_Ts := bm_in 903 (by decide +kernel) (by decide +kernel)
theorem ks_H_hold : Cond.selects me_H_hold.1.cls me_H_hold.1 me_H_hold.1 ∈ bm_Ts := bm_in 904 (by decide +kernel) (by decide +kernel)
theorem c_W_hold_2 : bm_iv me_W_hold me_H_hold 2 0 1 := ⟨_, d_W_hold_2, Or.inl ml_W_24, ⟨kc_H_hold, in_BatchHall, by decide +kernel, by decide, by decide⟩, ki_H_hold, ks_H_hold, _, _, rfl⟩
theorem x_W_hold_2 : ∃ ix, decode me_W_hold.2.1 2 = .ok (.invokevirtual ix, 3) ∧ Cond.methodLink me_W_hold.1.cls ix me_H_hold.1 ∈ bm_Ts := ⟨_, d_W_hold_2, ml_W_24⟩
theorem w_W_hold_2 : bm_hw me_W_hold 2 8 11 := ⟨_, _, _, _, _, _, kw_W_hold, by decide, by decide, by decide, by decide, lc_W_13, lc_W_15⟩
theorem d_W_hold_5 : decode me_W_hold.2.1 5 = .ok (.goto (9), 3) := by decide +kernel
theorem d_W_hold_8 : decode me_W_hold.2.1 8 = .ok (.astore_n 2, 1) := by decide +kernel
theorem d_W_hold_9 : decode me_W_hold.2.1 9 = .ok (.iconst 1, 1) := by decide +kernel
theorem d_W_hold_10 : decode me_W_hold.2.1 10 = .ok (.ireturn, 1) := by decide +kernel
theorem d_W_hold_11 : decode me_W_hold.2.1 11 = .ok (.astore_n 2, 1) := by decide +kernel
theorem d_W_hold_12 : decode me_W_hold.2.1 12 = .ok (.iconst 2, 1) := by decide +kernel
theorem d_W_hold_13 : decode me_W_hold.2.1 13 = .ok (.ireturn, 1) := by decide +kernel
theorem d_W_hold_14 : decode me_W_hold.2.1 14 = .ok (.iconst 0, 1) := by decide +kernel
theorem d_W_hold_15 : decode me_W_hold.2.1 15 = .ok (.ireturn, 1) := by decide +kernel
abbrev hh_W_restart : List (Nat × Nat × Nat × Nat) := [(0, 9, 12, 13), (0, 9, 15, 15)]
theorem kw_W_restart : Cond.codeWith me_W_restart.1 me_W_restart.2.1 me_W_restart.2.2.1 me_W_restart.2.2.2.1 hh_W_restart ∈ bm_Ts := bm_in 909 (by decide +kernel) (by decide +kernel)
theorem d_W_restart_0 : decode me_W_restart.2.1 0 = .ok (.aload_n 2, 1) := by decide +kernel
theorem d_W_restart_1 : decode me_W_restart.2.1 1 = .ok (.iconst 0, 1) := by decide +kernel
theorem d_W_restart_2 : decode me_W_restart.2.1 2 = .ok (.aload_n 0, 1) := by decide +kernel
theorem d_W_restart_3 : decode me_W_restart.2.1 3 = .ok (.iload_n 1, 1) := by decide +kernel
theorem d_W_restart_4 : decode me_W_restart.2.1 4 = .ok (.invokevirtual 28, 3) := by decide +kernel
theorem ml_W_28 : Cond.methodLink "BatchHallLaw" 28 me_H_restart.1 ∈ bm_Ts := bm_in 910 (by decide +kernel) (by decide +kernel)
theorem ki_H_restart : Cond.instanceMethod me_H_restart.1 ∈ bm_Ts := bm_in 911 (by decide +kernel) (by decide +kernel)
theorem ks_H_restart : Cond.selects me_H_restart.1.cls me_H_restart.1 me_H_restart.1 ∈ bm_Ts := bm_in 912 (by decide +kernel) (by decide +kernel)
theorem c_W_restart_4 : bm_iv me_W_restart me_H_restart 4 0 1 := ⟨_, d_W_restart_4, Or.inl ml_W_28, ⟨kc_H_restart, in_BatchHall, by decide +kernel, by decide, by decide⟩, ki_H_restart, ks_H_restart, _, _, rfl⟩
theorem x_W_restart_4 : ∃ ix, decode me_W_restart.2.1 4 = .ok (.invokevirtual ix, 3) ∧ Cond.methodLink me_W_restart.1.cls ix me_H_restart.1 ∈ bm_Ts := ⟨_, d_W_restart_4, ml_W_28⟩
theorem w_W_restart_4 : bm_hw me_W_restart 4 12 15 := ⟨_, _, _, _, _, _, kw_W_restart, by decide, by decide, by decide, by decide, lc_W_13, lc_W_15⟩
theorem d_W_restart_7 : decode me_W_restart.2.1 7 = .ok (.i2l, 1) := by decide +kernel
theorem d_W_restart_8 : decode me_W_restart.2.1 8 = .ok (.lastore, 1) := by decide +kernel
theorem d_W_restart_9 : decode me_W_restart.2.1 9 = .ok (.goto (9), 3) := by decide +kernel
theorem d_W_restart_12 : decode me_W_restart.2.1 12 = .ok (.astore_n 3, 1) := by decide +kernel
theorem d_W_restart_13 : decode me_W_restart.2.1 13 = .ok (.iconst 1, 1) := by decide +kernel
theorem d_W_restart_14 : decode me_W_restart.2.1 14 = .ok (.ireturn, 1) := by decide +kernel
theorem d_W_restart_15 : decode me_W_restart.2.1 15 = .ok (.astore_n 3, 1) := by decide +kernel
theorem d_W_restart_16 : decode me_W_restart.2.1 16 = .ok (.iconst 2, 1) := by decide +kernel
theorem d_W_restart_17 : decode me_W_restart.2.1 17 = .ok (.ireturn, 1) := by decide +kernel
theorem d_W_restart_18 : decode me_W_restart.2.1 18 = .ok (.iconst 0, 1) := by decide +kernel
theorem d_W_restart_19 : decode me_W_restart.2.1 19 = .ok (.ireturn, 1) := by decide +kernel
abbrev hh_W_stop : List (Nat × Nat × Nat × Nat) := [(0, 9, 12, 13), (0, 9, 15, 15)]
theorem kw_W_stop : Cond.codeWith me_W_stop.1 me_W_stop.2.1 me_W_stop.2.2.1 me_W_stop.2.2.2.1 hh_W_stop ∈ bm_Ts := bm_in 917 (by decide +kernel) (by decide +kernel)
theorem d_W_stop_0 : decode me_W_stop.2.1 0 = .ok (.aload_n 2, 1) := by decide +kernel
theorem d_W_stop_1 : decode me_W_stop.2.1 1 = .ok (.iconst 0, 1) := by decide +kernel
theorem d_W_stop_2 : decode me_W_stop.2.1 2 = .ok (.aload_n 0, 1) := by decide +kernel
theorem d_W_stop_3 : decode me_W_stop.2.1 3 = .ok (.iload_n 1, 1) := by decide +kernel
theorem d_W_stop_4 : decode me_W_stop.2.1 4 = .ok (.invokevirtual 31, 3) := by decide +kernel
theorem ml_W_31 : Cond.methodLink "BatchHallLaw" 31 me_H_stop.1 ∈ bm_Ts := bm_in 918 (by decide +kernel) (by decide +kernel)
theorem ki_H_stop : Cond.instanceMethod me_H_stop.1 ∈ bm_Ts := bm_in 919 (by decide +kernel) (by decide +kernel)
theorem ks_H_stop : Cond.selects me_H_stop.1.cls me_H_stop.1 me_H_stop.1 ∈ bm_Ts := bm_in 920 (by decide +kernel) (by decide +kernel)
theorem c_W_stop_4 : bm_iv me_W_stop me_H_stop 4 0 1 := ⟨_, d_W_stop_4, Or.inl ml_W_31, ⟨kc_H_stop, in_BatchHall, by decide +kernel, by decide, by decide⟩, ki_H_stop, ks_H_stop, _, _, rfl⟩
theorem x_W_stop_4 : ∃ ix, decode me_W_stop.2.1 4 = .ok (.invokevirtual ix, 3) ∧ Cond.methodLink me_W_stop.1.cls ix me_H_stop.1 ∈ bm_Ts := ⟨_, d_W_stop_4, ml_W_31⟩
theorem w_W_stop_4 : bm_hw me_W_stop 4 12 15 := ⟨_, _, _, _, _, _, kw_W_stop, by decide, by decide, by decide, by decide, lc_W_13, lc_W_15⟩
theorem d_W_stop_7 : decode me_W_stop.2.1 7 = .ok (.i2l, 1) := by decide +kernel
theorem d_W_stop_8 : decode me_W_stop.2.1 8 = .ok (.lastore, 1) := by decide +kernel
theorem d_W_stop_9 : decode me_W_stop.2.1 9 = .ok (.goto (9), 3) := by decide +kernel
theorem d_W_stop_12 : decode me_W_stop.2.1 12 = .ok (.astore_n 3, 1) := by decide +kernel
theorem d_W_stop_13 : decode me_W_stop.2.1 13 = .ok (.iconst 1, 1) := by decide +kernel
theorem d_W_stop_14 : decode me_W_stop.2.1 14 = .ok (.ireturn, 1) := by decide +kernel
theorem d_W_stop_15 : decode me_W_stop.2.1 15 = .ok (.astore_n 3, 1) := by decide +kernel
theorem d_W_stop_16 : decode me_W_stop.2.1 16 = .ok (.iconst 2, 1) := by decide +kernel
theorem d_W_stop_17 : decode me_W_stop.2.1 17 = .ok (.ireturn, 1) := by decide +kernel
theorem d_W_stop_18 : decode me_W_stop.2.1 18 = .ok (.iconst 0, 1) := by decide +kernel
theorem d_W_stop_19 : decode me_W_stop.2.1 19 = .ok (.ireturn, 1) := by decide +kernel
abbrev hh_W_abort : List (Nat × Nat × Nat × Nat) := [(0, 5, 8, 13), (0, 5, 11, 15)]
theorem kw_W_abort : Cond.codeWith me_W_abort.1 me_W_abort.2.1 me_W_abort.2.2.1 me_W_abort.2.2.2.1 hh_W_abort ∈ bm_Ts := bm_in 926 (by decide +kernel) (by decide +kernel)
theorem d_W_abort_0 : decode me_W_abort.2.1 0 = .ok (.aload_n 0, 1) := by decide +kernel
theorem d_W_abort_1 : decode me_W_abort.2.1 1 = .ok (.iload_n 1, 1) := by decide +kernel
theorem d_W_abort_2 : decode me_W_abort.2.1 2 = .ok (.invokevirtual 34, 3) := by decide +kernel
theorem ml_W_34 : Cond.methodLink "BatchHallLaw" 34 me_H_abort.1 ∈ bm_Ts := bm_in 927 (by decide +kernel) (by decide +kernel)
theorem ki_H_abort : Cond.instanceMethod me_H_abort.1 ∈ bm_Ts := bm_in 928 (by decide +kernel) (by decide +kernel)
theorem ks_H_abort : Cond.selects me_H_abort.1.cls me_H_abort.1 me_H_abort.1 ∈ bm_Ts := bm_in 929 (by decide +kernel) (by decide +kernel)
theorem c_W_abort_2 : bm_iv me_W_abort me_H_abort 2 0 1 := ⟨_, d_W_abort_2, Or.inl ml_W_34, ⟨kc_H_abort, in_BatchHall, by decide +kernel, by decide, by decide⟩, ki_H_abort, ks_H_abort, _, _, rfl⟩
theorem x_W_abort_2 : ∃ ix, decode me_W_abort.2.1 2 = .ok (.invokevirtual ix, 3) ∧ Cond.methodLink me_W_abort.1.cls ix me_H_abort.1 ∈ bm_Ts := ⟨_, d_W_abort_2, ml_W_34⟩
theorem w_W_abort_2 : bm_hw me_W_abort 2 8 11 := ⟨_, _, _, _, _, _, kw_W_abort, by decide, by decide, by decide, by decide, lc_W_13, lc_W_15⟩
theorem d_W_abort_5 : decode me_W_abort.2.1 5 = .ok (.goto (9), 3) := by decide +kernel
theorem d_W_abort_8 : decode me_W_abort.2.1 8 = .ok (.astore_n 2, 1) := by decide +kernel
theorem d_W_abort_9 : decode me_W_abort.2.1 9 = .ok (.iconst 1, 1) := by decide +kernel
theorem d_W_abort_10 : decode me_W_abort.2.1 10 = .ok (.ireturn, 1) := by decide +kernel
theorem d_W_abort_11 : decode me_W_abort.2.1 11 = .ok (.astore_n 2, 1) := by decide +kernel
theorem d_W_abort_12 : decode me_W_abort.2.1 12 = .ok (.iconst 2, 1) := by decide +kernel
theorem d_W_abort_13 : decode me_W_abort.2.1 13 = .ok (.ireturn, 1) := by decide +kernel
theorem d_W_abort_14 : decode me_W_abort.2.1 14 = .ok (.iconst 0, 1) := by decide +kernel
theorem d_W_abort_15 : decode me_W_abort.2.1 15 = .ok (.ireturn, 1) := by decide +kernel
theorem d_W_law_0 : decode me_W_law.2.1 0 = .ok (.new 8, 3) := by decide +kernel
theorem lc_W_8 : Cond.classLink "BatchHallLaw" 8 "BatchHall" ∈ bm_Ts := bm_in 96 (by decide +kernel) (by decide +kernel)
theorem ic_BatchHall : Cond.instantiable "BatchHall" 7 ∈ bm_Ts := bm_in 97 (by decide +kernel) (by decide +kernel)
theorem n_W_law_0 : bm_nw me_W_law 0 0 [.null, .null, .int 0, .null, .null, .null, .null] := ⟨_, _, _, _, ty_H, d_W_law_0, rfl, uw_H, tk_H, lc_W_8, ic_BatchHall, in_BatchHall, by decide, rfl, by simp⟩
theorem d_W_law_3 : decode me_W_law.2.1 3 = .ok (.dup, 1) := by decide +kernel
theorem d_W_law_4 : decode me_W_law.2.1 4 = .ok (.invokespecial 37, 3) := by decide +kernel
theorem ml_W_37 : Cond.methodLink "BatchHallLaw" 37 me_H_init.1 ∈ bm_Ts := bm_in 98 (by decide +kernel) (by decide +kernel)
theorem kc_H_init : Cond.code me_H_init.1 me_H_init.2.1 me_H_init.2.2.1 me_H_init.2.2.2.1 ∈ bm_Ts := bm_in 100 (by decide +kernel) (by decide +kernel)
theorem ki_H_init : Cond.instanceMethod me_H_init.1 ∈ bm_Ts := bm_in 99 (by decide +kernel) (by decide +kernel)
theorem c_W_law_4 : bm_ii me_W_law me_H_init 4 0 := ⟨_, d_W_law_4, Or.inl ml_W_37, ⟨kc_H_init, in_BatchHall, by decide +kernel, by decide, by decide⟩, ki_H_init, rfl, rfl⟩
theorem d_W_law_7 : decode me_W_law.2.1 7 = .ok (.astore_n 1, 1) := by decide +kernel
theorem d_W_law_8 : decode me_W_law.2.1 8 = .ok (.new 38, 3) := by decide +kernel
theorem lc_W_38 : Cond.classLink "BatchHallLaw" 38 "BatchHallModel" ∈ bm_Ts := bm_in 932 (by decide +kernel) (by decide +kernel)
theorem ic_BatchHallModel : Cond.instantiable "BatchHallModel" 48 ∈ bm_Ts := bm_in 933 (by decide +kernel) (by decide +kernel)
theorem n_W_law_8 : bm_nw me_W_law 8 11 [.int 0, .null, .null, .null, .null, .null, .null, .null, .null, .null, .null, .null, .null, .null, .null, .int 0, .null, .null, .null, .null, .null, .null, .null, .null, .null, .null, .null, .null, .int 0, .null, .int 0, .int 0, .int 0, .null, .null, .null, .null, .null, .null, .null, .null, .null, .null, .null, .null, .null, .null, .null] := ⟨_, _, _, _, ty_M, d_W_law_8, rfl, uw_M, tk_M, lc_W_38, ic_BatchHallModel, in_BatchHallModel, by decide, rfl, by simp⟩
theorem d_W_law_11 : decode me_W_law.2.1 11 = .ok (.dup, 1) := by decide +kernel
theorem d_W_law_12 : decode me_W_law.2.1 12 = .ok (.invokespecial 40, 3) := by decide +kernel
theorem ml_W_40 : Cond.methodLink "BatchHallLaw" 40 me_M_init.1 ∈ bm_Ts := bm_in 934 (by decide +kernel) (by decide +kernel)
theorem kc_M_init : Cond.code me_M_init.1 me_M_init.2.1 me_M_init.2.2.1 me_M_init.2.2.2.1 ∈ bm_Ts := bm_in 936 (by decide +kernel) (by decide +kernel)
theorem ki_M_init : Cond.instanceMethod me_M_init.1 ∈ bm_Ts := bm_in 935 (by decide +kernel) (by decide +kernel)
theorem c_W_law_12 : bm_ii me_W_law me_M_init 12 0 := ⟨_, d_W_law_12, Or.inl ml_W_40, ⟨kc_M_init, in_BatchHallModel, by decide +kernel, by decide, by decide⟩, ki_M_init, rfl, rfl⟩
theorem d_W_law_15 : decode me_W_law.2.1 15 = .ok (.astore_n 2, 1) := by decide +kernel
theorem d_W_law_16 : decode me_W_law.2.1 16 = .ok (.iconst 1, 1) := by decide +kernel
theorem d_W_law_17 : decode me_W_law.2.1 17 = .ok (.newarray .long, 2) := by decide +kernel
theorem ac_long : Cond.arrayClass .long ∈ bm_Ts := bm_in 1339 (by decide +kernel) (by decide +kernel)
theorem n_W_law_17 : bm_na me_W_law 17 2 .long := ⟨_, d_W_law_17, rfl, ac_long, rfl, by decide⟩
theorem d_W_law_19 : decode me_W_law.2.1 19 = .ok (.astore_n 3, 1) := by decide +kernel
theorem d_W_law_20 : decode me_W_law.2.1 20 = .ok (.iconst 0, 1) := by decide +kernel
theorem d_W_law_21 : decode me_W_law.2.1 21 = .ok (.istore 4, 2) := by decide +kernel
theorem d_W_law_23 : decode me_W_law.2.1 23 = .ok (.iload 4, 2) := by decide +kernel
theorem d_W_law_25 : decode me_W_law.2.1 25 = .ok (.aload_n 0, 1) := by decide +kernel
theorem d_W_law_26 : decode me_W_law.2.1 26 = .ok (.arraylength, 1) := by decide +kernel
theorem d_W_law_27 : decode me_W_law.2.1 27 = .ok (.bipush (6), 2) := by decide +kernel
theorem d_W_law_29 : decode me_W_law.2.1 29 = .ok (.isub, 1) := by decide +kernel
theorem d_W_law_30 : decode me_W_law.2.1 30 = .ok (.if_icmp .gt (1127), 3) := by decide +kernel
theorem d_W_law_33 : decode me_W_law.2.1 33 = .ok (.aload_n 0, 1) := by decide +kernel
theorem d_W_law_34 : decode me_W_law.2.1 34 = .ok (.iload 4, 2) := by decide +kernel
theorem d_W_law_36 : decode me_W_law.2.1 36 = .ok (.iaload, 1) := by decide +kernel
theorem d_W_law_37 : decode me_W_law.2.1 37 = .ok (.bipush (31), 2) := by decide +kernel
theorem d_W_law_39 : decode me_W_law.2.1 39 = .ok (.iand, 1) := by decide +kernel
theorem d_W_law_40 : decode me_W_law.2.1 40 = .ok (.tableswitch (1111) (0) (21) #[(104), (141), (190), (263), (324), (380), (448), (504), (517), (553), (609), (665), (701), (750), (787), (824), (861), (898), (947), (984), (1033), (1098)], 104) := by decide +kernel
theorem d_W_law_144 : decode me_W_law.2.1 144 = .ok (.aload_n 1, 1) := by decide +kernel
theorem d_W_law_145 : decode me_W_law.2.1 145 = .ok (.aload_n 0, 1) := by decide +kernel
theorem d_W_law_146 : decode me_W_law.2.1 146 = .ok (.iload 4, 2) := by decide +kernel
theorem d_W_law_148 : decode me_W_law.2.1 148 = .ok (.iconst 1, 1) := by decide +kernel
theorem d_W_law_149 : decode me_W_law.2.1 149 = .ok (.iadd, 1) := by decide +kernel
theorem d_W_law_150 : decode me_W_law.2.1 150 = .ok (.iaload, 1) := by decide +kernel
theorem d_W_law_151 : decode me_W_law.2.1 151 = .ok (.aload_n 0, 1) := by decide +kernel
theorem d_W_law_152 : decode me_W_law.2.1 152 = .ok (.iload 4, 2) := by decide +kernel
theorem d_W_law_154 : decode me_W_law.2.1 154 = .ok (.iconst 2, 1) := by decide +kernel
theorem d_W_law_155 : decode me_W_law.2.1 155 = .ok (.iadd, 1) := by decide +kernel
theorem d_W_law_156 : decode me_W_law.2.1 156 = .ok (.iaload, 1) := by decide +kernel
theorem d_W_law_157 : decode me_W_law.2.1 157 = .ok (.invokevirtual 41, 3) := by decide +kernel
theorem ml_W_41 : Cond.methodLink "BatchHallLaw" 41 me_H_unit.1 ∈ bm_Ts := bm_in 282 (by decide +kernel) (by decide +kernel)
theorem kc_H_unit : Cond.code me_H_unit.1 me_H_unit.2.1 me_H_unit.2.2.1 me_H_unit.2.2.2.1 ∈ bm_Ts := bm_in 285 (by decide +kernel) (by decide +kernel)
theorem ki_H_unit : Cond.instanceMethod me_H_unit.1 ∈ bm_Ts := bm_in 283 (by decide +kernel) (by decide +kernel)
theorem ks_H_unit : Cond.selects me_H_unit.1.cls me_H_unit.1 me_H_unit.1 ∈ bm_Ts := bm_in 284 (by decide +kernel) (by decide +kernel)
theorem c_W_law_157 : bm_iv me_W_law me_H_unit 157 0 2 := ⟨_, d_W_law_157, Or.inl ml_W_41, ⟨kc_H_unit, in_BatchHall, by decide +kernel, by decide, by decide⟩, ki_H_unit, ks_H_unit, _, _, rfl⟩
theorem d_W_law_160 : decode me_W_law.2.1 160 = .ok (.aload_n 2, 1) := by decide +kernel
theorem d_W_law_161 : decode me_W_law.2.1 161 = .ok (.aload_n 0, 1) := by decide +kernel
theorem d_W_law_162 : decode me_W_law.2.1 162 = .ok (.iload 4, 2) := by decide +kernel
theorem d_W_law_164 : decode me_W_law.2.1 164 = .ok (.iconst 1, 1) := by decide +kernel
theorem d_W_law_165 : decode me_W_law.2.1 165 = .ok (.iadd, 1) := by decide +kernel
theorem d_W_law_166 : decode me_W_law.2.1 166 = .ok (.iaload, 1) := by decide +kernel
theorem d_W_law_167 : decode me_W_law.2.1 167 = .ok (.aload_n 0, 1) := by decide +kernel
theorem d_W_law_168 : decode me_W_law.2.1 168 = .ok (.iload 4, 2) := by decide +kernel
theorem d_W_law_170 : decode me_W_law.2.1 170 = .ok (.iconst 2, 1) := by decide +kernel
theorem d_W_law_171 : decode me_W_law.2.1 171 = .ok (.iadd, 1) := by decide +kernel
theorem d_W_law_172 : decode me_W_law.2.1 172 = .ok (.iaload, 1) := by decide +kernel
theorem d_W_law_173 : decode me_W_law.2.1 173 = .ok (.invokevirtual 45, 3) := by decide +kernel
theorem ml_W_45 : Cond.methodLink "BatchHallLaw" 45 me_M_unit.1 ∈ bm_Ts := bm_in 1088 (by decide +kernel) (by decide +kernel)
theorem kc_M_unit : Cond.code me_M_unit.1 me_M_unit.2.1 me_M_unit.2.2.1 me_M_unit.2.2.2.1 ∈ bm_Ts := bm_in 1091 (by decide +kernel) (by decide +kernel)
theorem ki_M_unit : Cond.instanceMethod me_M_unit.1 ∈ bm_Ts := bm_in 1089 (by decide +kernel) (by decide +kernel)
theorem ks_M_unit : Cond.selects me_M_unit.1.cls me_M_unit.1 me_M_unit.1 ∈ bm_Ts := bm_in 1090 (by decide +kernel) (by decide +kernel)
theorem c_W_law_173 : bm_iv me_W_law me_M_unit 173 11 2 := ⟨_, d_W_law_173, Or.inl ml_W_45, ⟨kc_M_unit, in_BatchHallModel, by decide +kernel, by decide, by decide⟩, ki_M_unit, ks_M_unit, _, _, rfl⟩
theorem d_W_law_176 : decode me_W_law.2.1 176 = .ok (.if_icmp .eq (975), 3) := by decide +kernel
theorem d_W_law_179 : decode me_W_law.2.1 179 = .ok (.iconst 0, 1) := by decide +kernel
theorem d_W_law_180 : decode me_W_law.2.1 180 = .ok (.ireturn, 1) := by decide +kernel
theorem d_W_law_181 : decode me_W_law.2.1 181 = .ok (.aload_n 1, 1) := by decide +kernel
theorem d_W_law_182 : decode me_W_law.2.1 182 = .ok (.aload_n 0, 1) := by decide +kernel
theorem d_W_law_183 : decode me_W_law.2.1 183 = .ok (.iload 4, 2) := by decide +kernel
theorem d_W_law_185 : decode me_W_law.2.1 185 = .ok (.iconst 1, 1) := by decide +kernel
theorem d_W_law_186 : decode me_W_law.2.1 186 = .ok (.iadd, 1) := by decide +kernel
theorem d_W_law_187 : decode me_W_law.2.1 187 = .ok (.iaload, 1) := by decide +kernel
theorem d_W_law_188 : decode me_W_law.2.1 188 = .ok (.aload_n 0, 1) := by decide +kernel
theorem d_W_law_189 : decode me_W_law.2.1 189 = .ok (.iload 4, 2) := by decide +kernel
theorem d_W_law_191 : decode me_W_law.2.1 191 = .ok (.iconst 2, 1) := by decide +kernel
theorem d_W_law_192 : decode me_W_law.2.1 192 = .ok (.iadd, 1) := by decide +kernel
theorem d_W_law_193 : decode me_W_law.2.1 193 = .ok (.iaload, 1) := by decide +kernel
theorem d_W_law_194 : decode me_W_law.2.1 194 = .ok (.aload_n 0, 1) := by decide +kernel
theorem d_W_law_195 : decode me_W_law.2.1 195 = .ok (.iload 4, 2) := by decide +kernel
theorem d_W_law_197 : decode me_W_law.2.1 197 = .ok (.iconst 3, 1) := by decide +kernel
theorem d_W_law_198 : decode me_W_law.2.1 198 = .ok (.iadd, 1) := by decide +kernel
theorem d_W_law_199 : decode me_W_law.2.1 199 = .ok (.iaload, 1) := by decide +kernel
theorem d_W_law_200 : decode me_W_law.2.1 200 = .ok (.invokevirtual 46, 3) := by decide +kernel
theorem ml_W_46 : Cond.methodLink "BatchHallLaw" 46 me_H_role.1 ∈ bm_Ts := bm_in 289 (by decide +kernel) (by decide +kernel)
theorem kc_H_role : Cond.code me_H_role.1 me_H_role.2.1 me_H_role.2.2.1 me_H_role.2.2.2.1 ∈ bm_Ts := bm_in 292 (by decide +kernel) (by decide +kernel)
theorem ki_H_role : Cond.instanceMethod me_H_role.1 ∈ bm_Ts := bm_in 290 (by decide +kernel) (by decide +kernel)
theorem ks_H_role : Cond.selects me_H_role.1.cls me_H_role.1 me_H_role.1 ∈ bm_Ts := bm_in 291 (by decide +kernel) (by decide +kernel)
theorem c_W_law_200 : bm_iv me_W_law me_H_role 200 0 3 := ⟨_, d_W_law_200, Or.inl ml_W_46, ⟨kc_H_role, in_BatchHall, by decide +kernel, by decide, by decide⟩, ki_H_role, ks_H_role, _, _, rfl⟩
theorem d_W_law_203 : decode me_W_law.2.1 203 = .ok (.aload_n 2, 1) := by decide +kernel
theorem d_W_law_204 : decode me_W_law.2.1 204 = .ok (.aload_n 0, 1) := by decide +kernel
theorem d_W_law_205 : decode me_W_law.2.1 205 = .ok (.iload 4, 2) := by decide +kernel
theorem d_W_law_207 : decode me_W_law.2.1 207 = .ok (.iconst 1, 1) := by decide +kernel
theorem d_W_law_208 : decode me_W_law.2.1 208 = .ok (.iadd, 1) := by decide +kernel
theorem d_W_law_209 : decode me_W_law.2.1 209 = .ok (.iaload, 1) := by decide +kernel
theorem d_W_law_210 : decode me_W_law.2.1 210 = .ok (.aload_n 0, 1) := by decide +kernel
theorem d_W_law_211 : decode me_W_law.2.1 211 = .ok (.iload 4, 2) := by decide +kernel
theorem d_W_law_213 : decode me_W_law.2.1 213 = .ok (.iconst 2, 1) := by decide +kernel
theorem d_W_law_214 : decode me_W_law.2.1 214 = .ok (.iadd, 1) := by decide +kernel
theorem d_W_law_215 : decode me_W_law.2.1 215 = .ok (.iaload, 1) := by decide +kernel
theorem d_W_law_216 : decode me_W_law.2.1 216 = .ok (.aload_n 0, 1) := by decide +kernel
theorem d_W_law_217 : decode me_W_law.2.1 217 = .ok (.iload 4, 2) := by decide +kernel
theorem d_W_law_219 : decode me_W_law.2.1 219 = .ok (.iconst 3, 1) := by decide +kernel
theorem d_W_law_220 : decode me_W_law.2.1 220 = .ok (.iadd, 1) := by decide +kernel
theorem d_W_law_221 : decode me_W_law.2.1 221 = .ok (.iaload, 1) := by decide +kernel
theorem d_W_law_222 : decode me_W_law.2.1 222 = .ok (.invokevirtual 50, 3) := by decide +kernel
theorem ml_W_50 : Cond.methodLink "BatchHallLaw" 50 me_M_role.1 ∈ bm_Ts := bm_in 1095 (by decide +kernel) (by decide +kernel)
theorem kc_M_role : Cond.code me_M_role.1 me_M_role.2.1 me_M_role.2.2.1 me_M_role.2.2.2.1 ∈ bm_Ts := bm_in 1098 (by decide +kernel) (by decide +kernel)
theorem ki_M_role : Cond.instanceMethod me_M_role.1 ∈ bm_Ts := bm_in 1096 (by decide +kernel) (by decide +kernel)
theorem ks_M_role : Cond.selects me_M_role.1.cls me_M_role.1 me_M_role.1 ∈ bm_Ts := bm_in 1097 (by decide +kernel) (by decide +kernel)
theorem c_W_law_222 : bm_iv me_W_law me_M_role 222 11 3 := ⟨_, d_W_law_222, Or.inl ml_W_50, ⟨kc_M_role, in_BatchHallModel, by decide +kernel, by decide, by decide⟩, ki_M_role, ks_M_role, _, _, rfl⟩
theorem d_W_law_225 : decode me_W_law.2.1 225 = .ok (.if_icmp .eq (926), 3) := by decide +kernel
theorem d_W_law_228 : decode me_W_law.2.1 228 = .ok (.iconst 0, 1) := by decide +kernel
theorem d_W_law_229 : decode me_W_law.2.1 229 = .ok (.ireturn, 1) := by decide +kernel
theorem d_W_law_230 : decode me_W_law.2.1 230 = .ok (.aload_n 1, 1) := by decide +kernel
theorem d_W_law_231 : decode me_W_law.2.1 231 = .ok (.aload_n 0, 1) := by decide +kernel
theorem d_W_law_232 : decode me_W_law.2.1 232 = .ok (.iload 4, 2) := by decide +kernel
theorem d_W_law_234 : decode me_W_law.2.1 234 = .ok (.iconst 1, 1) := by decide +kernel
theorem d_W_law_235 : decode me_W_law.2.1 235 = .ok (.iadd, 1) := by decide +kernel
theorem d_W_law_236 : decode me_W_law.2.1 236 = .ok (.iaload, 1) := by decide +kernel
theorem d_W_law_237 : decode me_W_law.2.1 237 = .ok (.aload_n 0, 1) := by decide +kernel
theorem d_W_law_238 : decode me_W_law.2.1 238 = .ok (.iload 4, 2) := by decide +kernel
theorem d_W_law_240 : decode me_W_law.2.1 240 = .ok (.iconst 2, 1) := by decide +kernel
theorem d_W_law_241 : decode me_W_law.2.1 241 = .ok (.iadd, 1) := by decide +kernel
theorem d_W_law_242 : decode me_W_law.2.1 242 = .ok (.iaload, 1) := by decide +kernel
theorem d_W_law_243 : decode me_W_law.2.1 243 = .ok (.aload_n 0, 1) := by decide +kernel
theorem d_W_law_244 : decode me_W_law.2.1 244 = .ok (.iload 4, 2) := by decide +kernel
theorem d_W_law_246 : decode me_W_law.2.1 246 = .ok (.iconst 3, 1) := by decide +kernel
theorem d_W_law_247 : decode me_W_law.2.1 247 = .ok (.iadd, 1) := by decide +kernel
theorem d_W_law_248 : decode me_W_law.2.1 248 = .ok (.iaload, 1) := by decide +kernel
theorem d_W_law_249 : decode me_W_law.2.1 249 = .ok (.aload_n 0, 1) := by decide +kernel
theorem d_W_law_250 : decode me_W_law.2.1 250 = .ok (.iload 4, 2) := by decide +kernel
theorem d_W_law_252 : decode me_W_law.2.1 252 = .ok (.iconst 4, 1) := by decide +kernel
theorem d_W_law_253 : decode me_W_law.2.1 253 = .ok (.iadd, 1) := by decide +kernel
theorem d_W_law_254 : decode me_W_law.2.1 254 = .ok (.iaload, 1) := by decide +kernel
theorem d_W_law_255 : decode me_W_law.2.1 255 = .ok (.aload_n 0, 1) := by decide +kernel
theorem d_W_law_256 : decode me_W_law.2.1 256 = .ok (.iload 4, 2) := by decide +kernel
theorem d_W_law_258 : decode me_W_law.2.1 258 = .ok (.iconst 5, 1) := by decide +kernel
theorem d_W_law_259 : decode me_W_law.2.1 259 = .ok (.iadd, 1) := by decide +kernel
theorem d_W_law_260 : decode me_W_law.2.1 260 = .ok (.iaload, 1) := by decide +kernel
theorem d_W_law_261 : decode me_W_law.2.1 261 = .ok (.invokevirtual 51, 3) := by decide +kernel
theorem ml_W_51 : Cond.methodLink "BatchHallLaw" 51 me_H_step.1 ∈ bm_Ts := bm_in 297 (by decide +kernel) (by decide +kernel)
theorem kc_H_step : Cond.code me_H_step.1 me_H_step.2.1 me_H_step.2.2.1 me_H_step.2.2.2.1 ∈ bm_Ts := bm_in 300 (by decide +kernel) (by decide +kernel)
theorem ki_H_step : Cond.instanceMethod me_H_step.1 ∈ bm_Ts := bm_in 298 (by decide +kernel) (by decide +kernel)
theorem ks_H_step : Cond.selects me_H_step.1.cls me_H_step.1 me_H_step.1 ∈ bm_Ts := bm_in 299 (by decide +kernel) (by decide +kernel)
theorem c_W_law_261 : bm_iv me_W_law me_H_step 261 0 5 := ⟨_, d_W_law_261, Or.inl ml_W_51, ⟨kc_H_step, in_BatchHall, by decide +kernel, by decide, by decide⟩, ki_H_step, ks_H_step, _, _, rfl⟩
theorem d_W_law_264 : decode me_W_law.2.1 264 = .ok (.aload_n 2, 1) := by decide +kernel
theorem d_W_law_265 : decode me_W_law.2.1 265 = .ok (.aload_n 0, 1) := by decide +kernel
theorem d_W_law_266 : decode me_W_law.2.1 266 = .ok (.iload 4, 2) := by decide +kernel
theorem d_W_law_268 : decode me_W_law.2.1 268 = .ok (.iconst 1, 1) := by decide +kernel
theorem d_W_law_269 : decode me_W_law.2.1 269 = .ok (.iadd, 1) := by decide +kernel
theorem d_W_law_270 : decode me_W_law.2.1 270 = .ok (.iaload, 1) := by decide +kernel
theorem d_W_law_271 : decode me_W_law.2.1 271 = .ok (.aload_n 0, 1) := by decide +kernel
theorem d_W_law_272 : decode me_W_law.2.1 272 = .ok (.iload 4, 2) := by decide +kernel
theorem d_W_law_274 : decode me_W_law.2.1 274 = .ok (.iconst 2, 1) := by decide +kernel
theorem d_W_law_275 : decode me_W_law.2.1 275 = .ok (.iadd, 1) := by decide +kernel
theorem d_W_law_276 : decode me_W_law.2.1 276 = .ok (.iaload, 1) := by decide +kernel
theorem d_W_law_277 : decode me_W_law.2.1 277 = .ok (.aload_n 0, 1) := by decide +kernel
theorem d_W_law_278 : decode me_W_law.2.1 278 = .ok (.iload 4, 2) := by decide +kernel
theorem d_W_law_280 : decode me_W_law.2.1 280 = .ok (.iconst 3, 1) := by decide +kernel
theorem d_W_law_281 : decode me_W_law.2.1 281 = .ok (.iadd, 1) := by decide +kernel
theorem d_W_law_282 : decode me_W_law.2.1 282 = .ok (.iaload, 1) := by decide +kernel
theorem d_W_law_283 : decode me_W_law.2.1 283 = .ok (.aload_n 0, 1) := by decide +kernel
theorem d_W_law_284 : decode me_W_law.2.1 284 = .ok (.iload 4, 2) := by decide +kernel
theorem d_W_law_286 : decode me_W_law.2.1 286 = .ok (.iconst 4, 1) := by decide +kernel
theorem d_W_law_287 : decode me_W_law.2.1 287 = .ok (.iadd, 1) := by decide +kernel
theorem d_W_law_288 : decode me_W_law.2.1 288 = .ok (.iaload, 1) := by decide +kernel
theorem d_W_law_289 : decode me_W_law.2.1 289 = .ok (.aload_n 0, 1) := by decide +kernel
theorem d_W_law_290 : decode me_W_law.2.1 290 = .ok (.iload 4, 2) := by decide +kernel
theorem d_W_law_292 : decode me_W_law.2.1 292 = .ok (.iconst 5, 1) := by decide +kernel
theorem d_W_law_293 : decode me_W_law.2.1 293 = .ok (.iadd, 1) := by decide +kernel
theorem d_W_law_294 : decode me_W_law.2.1 294 = .ok (.iaload, 1) := by decide +kernel
theorem d_W_law_295 : decode me_W_law.2.1 295 = .ok (.invokevirtual 55, 3) := by decide +kernel
theorem ml_W_55 : Cond.methodLink "BatchHallLaw" 55 me_M_step.1 ∈ bm_Ts := bm_in 1103 (by decide +kernel) (by decide +kernel)
theorem kc_M_step : Cond.code me_M_step.1 me_M_step.2.1 me_M_step.2.2.1 me_M_step.2.2.2.1 ∈ bm_Ts := bm_in 1106 (by decide +kernel) (by decide +kernel)
theorem ki_M_step : Cond.instanceMethod me_M_step.1 ∈ bm_Ts := bm_in 1104 (by decide +kernel) (by decide +kernel)
theorem ks_M_step : Cond.selects me_M_step.1.cls me_M_step.1 me_M_step.1 ∈ bm_Ts := bm_in 1105 (by decide +kernel) (by decide +kernel)
theorem c_W_law_295 : bm_iv me_W_law me_M_step 295 11 5 := ⟨_, d_W_law_295, Or.inl ml_W_55, ⟨kc_M_step, in_BatchHallModel, by decide +kernel, by decide, by decide⟩, ki_M_step, ks_M_step, _, _, rfl⟩
theorem d_W_law_298 : decode me_W_law.2.1 298 = .ok (.if_icmp .eq (853), 3) := by decide +kernel
theorem d_W_law_301 : decode me_W_law.2.1 301 = .ok (.iconst 0, 1) := by decide +kernel
theorem d_W_law_302 : decode me_W_law.2.1 302 = .ok (.ireturn, 1) := by decide +kernel
theorem d_W_law_303 : decode me_W_law.2.1 303 = .ok (.aload_n 1, 1) := by decide +kernel
theorem d_W_law_304 : decode me_W_law.2.1 304 = .ok (.aload_n 0, 1) := by decide +kernel
theorem d_W_law_305 : decode me_W_law.2.1 305 = .ok (.iload 4, 2) := by decide +kernel
theorem d_W_law_307 : decode me_W_law.2.1 307 = .ok (.iconst 1, 1) := by decide +kernel
theorem d_W_law_308 : decode me_W_law.2.1 308 = .ok (.iadd, 1) := by decide +kernel
theorem d_W_law_309 : decode me_W_law.2.1 309 = .ok (.iaload, 1) := by decide +kernel
theorem d_W_law_310 : decode me_W_law.2.1 310 = .ok (.aload_n 0, 1) := by decide +kernel
theorem d_W_law_311 : decode me_W_law.2.1 311 = .ok (.iload 4, 2) := by decide +kernel
theorem d_W_law_313 : decode me_W_law.2.1 313 = .ok (.iconst 2, 1) := by decide +kernel
theorem d_W_law_314 : decode me_W_law.2.1 314 = .ok (.iadd, 1) := by decide +kernel
theorem d_W_law_315 : decode me_W_law.2.1 315 = .ok (.iaload, 1) := by decide +kernel
theorem d_W_law_316 : decode me_W_law.2.1 316 = .ok (.aload_n 0, 1) := by decide +kernel
theorem d_W_law_317 : decode me_W_law.2.1 317 = .ok (.iload 4, 2) := by decide +kernel
theorem d_W_law_319 : decode me_W_law.2.1 319 = .ok (.iconst 3, 1) := by decide +kernel
theorem d_W_law_320 : decode me_W_law.2.1 320 = .ok (.iadd, 1) := by decide +kernel
theorem d_W_law_321 : decode me_W_law.2.1 321 = .ok (.iaload, 1) := by decide +kernel
theorem d_W_law_322 : decode me_W_law.2.1 322 = .ok (.aload_n 0, 1) := by decide +kernel
theorem d_W_law_323 : decode me_W_law.2.1 323 = .ok (.iload 4, 2) := by decide +kernel
theorem d_W_law_325 : decode me_W_law.2.1 325 = .ok (.iconst 4, 1) := by decide +kernel
theorem d_W_law_326 : decode me_W_law.2.1 326 = .ok (.iadd, 1) := by decide +kernel
theorem d_W_law_327 : decode me_W_law.2.1 327 = .ok (.iaload, 1) := by decide +kernel
theorem d_W_law_328 : decode me_W_law.2.1 328 = .ok (.invokevirtual 56, 3) := by decide +kernel
theorem ml_W_56 : Cond.methodLink "BatchHallLaw" 56 me_H_link.1 ∈ bm_Ts := bm_in 349 (by decide +kernel) (by decide +kernel)
theorem kc_H_link : Cond.code me_H_link.1 me_H_link.2.1 me_H_link.2.2.1 me_H_link.2.2.2.1 ∈ bm_Ts := bm_in 352 (by decide +kernel) (by decide +kernel)
theorem ki_H_link : Cond.instanceMethod me_H_link.1 ∈ bm_Ts := bm_in 350 (by decide +kernel) (by decide +kernel)
theorem ks_H_link : Cond.selects me_H_link.1.cls me_H_link.1 me_H_link.1 ∈ bm_Ts := bm_in 351 (by decide +kernel) (by decide +kernel)
theorem c_W_law_328 : bm_iv me_W_law me_H_link 328 0 4 := ⟨_, d_W_law_328, Or.inl ml_W_56, ⟨kc_H_link, in_BatchHall, by decide +kernel, by decide, by decide⟩, ki_H_link, ks_H_link, _, _, rfl⟩
theorem d_W_law_331 : decode me_W_law.2.1 331 = .ok (.aload_n 2, 1) := by decide +kernel
theorem d_W_law_332 : decode me_W_law.2.1 332 = .ok (.aload_n 0, 1) := by decide +kernel
theorem d_W_law_333 : decode me_W_law.2.1 333 = .ok (.iload 4, 2) := by decide +kernel
theorem d_W_law_335 : decode me_W_law.2.1 335 = .ok (.iconst 1, 1) := by decide +kernel
theorem d_W_law_336 : decode me_W_law.2.1 336 = .ok (.iadd, 1) := by decide +kernel
theorem d_W_law_337 : decode me_W_law.2.1 337 = .ok (.iaload, 1) := by decide +kernel
theorem d_W_law_338 : decode me_W_law.2.1 338 = .ok (.aload_n 0, 1) := by decide +kernel
theorem d_W_law_339 : decode me_W_law.2.1 339 = .ok (.iload 4, 2) := by decide +kernel
theorem d_W_law_341 : decode me_W_law.2.1 341 = .ok (.iconst 2, 1) := by decide +kernel
theorem d_W_law_342 : decode me_W_law.2.1 342 = .ok (.iadd, 1) := by decide +kernel
theorem d_W_law_343 : decode me_W_law.2.1 343 = .ok (.iaload, 1) := by decide +kernel
theorem d_W_law_344 : decode me_W_law.2.1 344 = .ok (.aload_n 0, 1) := by decide +kernel
theorem d_W_law_345 : decode me_W_law.2.1 345 = .ok (.iload 4, 2) := by decide +kernel
theorem d_W_law_347 : decode me_W_law.2.1 347 = .ok (.iconst 3, 1) := by decide +kernel
theorem d_W_law_348 : decode me_W_law.2.1 348 = .ok (.iadd, 1) := by decide +kernel
theorem d_W_law_349 : decode me_W_law.2.1 349 = .ok (.iaload, 1) := by decide +kernel
theorem d_W_law_350 : decode me_W_law.2.1 350 = .ok (.aload_n 0, 1) := by decide +kernel
theorem d_W_law_351 : decode me_W_law.2.1 351 = .ok (.iload 4, 2) := by decide +kernel
theorem d_W_law_353 : decode me_W_law.2.1 353 = .ok (.iconst 4, 1) := by decide +kernel
theorem d_W_law_354 : decode me_W_law.2.1 354 = .ok (.iadd, 1) := by decide +kernel
theorem d_W_law_355 : decode me_W_law.2.1 355 = .ok (.iaload, 1) := by decide +kernel
theorem d_W_law_356 : decode me_W_law.2.1 356 = .ok (.invokevirtual 60, 3) := by decide +kernel
theorem ml_W_60 : Cond.methodLink "BatchHallLaw" 60 me_M_link.1 ∈ bm_Ts := bm_in 1107 (by decide +kernel) (by decide +kernel)
theorem kc_M_link : Cond.code me_M_link.1 me_M_link.2.1 me_M_link.2.2.1 me_M_link.2.2.2.1 ∈ bm_Ts := bm_in 1110 (by decide +kernel) (by decide +kernel)
theorem ki_M_link : Cond.instanceMethod me_M_link.1 ∈ bm_Ts := bm_in 1108 (by decide +kernel) (by decide +kernel)
theorem ks_M_link : Cond.selects me_M_link.1.cls me_M_link.1 me_M_link.1 ∈ bm_Ts := bm_in 1109 (by decide +kernel) (by decide +kernel)
theorem c_W_law_356 : bm_iv me_W_law me_M_link 356 11 4 := ⟨_, d_W_law_356, Or.inl ml_W_60, ⟨kc_M_link, in_BatchHallModel, by decide +kernel, by decide, by decide⟩, ki_M_link, ks_M_link, _, _, rfl⟩
theorem d_W_law_359 : decode me_W_law.2.1 359 = .ok (.if_icmp .eq (792), 3) := by decide +kernel
theorem d_W_law_362 : decode me_W_law.2.1 362 = .ok (.iconst 0, 1) := by decide +kernel
theorem d_W_law_363 : decode me_W_law.2.1 363 = .ok (.ireturn, 1) := by decide +kernel
theorem d_W_law_364 : decode me_W_law.2.1 364 = .ok (.aload_n 1, 1) := by decide +kernel
theorem d_W_law_365 : decode me_W_law.2.1 365 = .ok (.aload_n 0, 1) := by decide +kernel
theorem d_W_law_366 : decode me_W_law.2.1 366 = .ok (.iload 4, 2) := by decide +kernel
theorem d_W_law_368 : decode me_W_law.2.1 368 = .ok (.iconst 1, 1) := by decide +kernel
theorem d_W_law_369 : decode me_W_law.2.1 369 = .ok (.iadd, 1) := by decide +kernel
theorem d_W_law_370 : decode me_W_law.2.1 370 = .ok (.iaload, 1) := by decide +kernel
theorem d_W_law_371 : decode me_W_law.2.1 371 = .ok (.aload_n 3, 1) := by decide +kernel
theorem d_W_law_372 : decode me_W_law.2.1 372 = .ok (.invokestatic 61, 3) := by decide +kernel
theorem ml_W_61 : Cond.methodLink "BatchHallLaw" 61 me_W_release.1 ∈ bm_Ts := bm_in 642 (by decide +kernel) (by decide +kernel)
theorem in_BatchHallLaw : Cond.initialized "BatchHallLaw" ∈ bm_Ts := bm_in 75 (by decide +kernel) (by decide +kernel)
theorem kt_W_release : Cond.static me_W_release.1 ∈ bm_Ts := bm_in 643 (by decide +kernel) (by decide +kernel)
theorem c_W_law_372 : bm_isW me_W_law me_W_release hh_W_release 372 3 := ⟨_, d_W_law_372, ml_W_61, kw_W_release, in_BatchHallLaw, kt_W_release, by decide +kernel, by decide, by decide⟩
theorem d_W_law_375 : decode me_W_law.2.1 375 = .ok (.istore 5, 2) := by decide +kernel
theorem d_W_law_377 : decode me_W_law.2.1 377 = .ok (.aload_n 2, 1) := by decide +kernel
theorem d_W_law_378 : decode me_W_law.2.1 378 = .ok (.aload_n 0, 1) := by decide +kernel
theorem d_W_law_379 : decode me_W_law.2.1 379 = .ok (.iload 4, 2) := by decide +kernel
theorem d_W_law_381 : decode me_W_law.2.1 381 = .ok (.iconst 1, 1) := by decide +kernel
theorem d_W_law_382 : decode me_W_law.2.1 382 = .ok (.iadd, 1) := by decide +kernel
theorem d_W_law_383 : decode me_W_law.2.1 383 = .ok (.iaload, 1) := by decide +kernel
theorem d_W_law_384 : decode me_W_law.2.1 384 = .ok (.invokevirtual 66, 3) := by decide +kernel
theorem ml_W_66 : Cond.methodLink "BatchHallLaw" 66 me_M_release.1 ∈ bm_Ts := bm_in 1111 (by decide +kernel) (by decide +kernel)
theorem kc_M_release : Cond.code me_M_release.1 me_M_release.2.1 me_M_release.2.2.1 me_M_release.2.2.2.1 ∈ bm_Ts := bm_in 1114 (by decide +kernel) (by decide +kernel)
theorem ki_M_release : Cond.instanceMethod me_M_release.1 ∈ bm_Ts := bm_in 1112 (by decide +kernel) (by decide +kernel)
theorem ks_M_release : Cond.selects me_M_release.1.cls me_M_release.1 me_M_release.1 ∈ bm_Ts := bm_in 1113 (by decide +kernel) (by decide +kernel)
theorem c_W_law_384 : bm_iv me_W_law me_M_release 384 11 1 := ⟨_, d_W_law_384, Or.inl ml_W_66, ⟨kc_M_release, in_BatchHallModel, by decide +kernel, by decide, by decide⟩, ki_M_release, ks_M_release, _, _, rfl⟩
theorem d_W_law_387 : decode me_W_law.2.1 387 = .ok (.istore 6, 2) := by decide +kernel
theorem d_W_law_389 : decode me_W_law.2.1 389 = .ok (.aload_n 2, 1) := by decide +kernel
theorem d_W_law_390 : decode me_W_law.2.1 390 = .ok (.invokevirtual 67, 3) := by decide +kernel
theorem ml_W_67 : Cond.methodLink "BatchHallLaw" 67 me_M_thrown.1 ∈ bm_Ts := bm_in 1084 (by decide +kernel) (by decide +kernel)
theorem kc_M_thrown : Cond.code me_M_thrown.1 me_M_thrown.2.1 me_M_thrown.2.2.1 me_M_thrown.2.2.2.1 ∈ bm_Ts := bm_in 1087 (by decide +kernel) (by decide +kernel)
theorem ki_M_thrown : Cond.instanceMethod me_M_thrown.1 ∈ bm_Ts := bm_in 1085 (by decide +kernel) (by decide +kernel)
theorem ks_M_thrown : Cond.selects me_M_thrown.1.cls me_M_thrown.1 me_M_thrown.1 ∈ bm_Ts := bm_in 1086 (by decide +kernel) (by decide +kernel)
theorem c_W_law_390 : bm_iv me_W_law me_M_thrown 390 11 0 := ⟨_, d_W_law_390, Or.inl ml_W_67, ⟨kc_M_thrown, in_BatchHallModel, by decide +kernel, by decide, by decide⟩, ki_M_thrown, ks_M_thrown, _, _, rfl⟩
theorem d_W_law_393 : decode me_W_law.2.1 393 = .ok (.iload 5, 2) := by decide +kernel
theorem d_W_law_395 : decode me_W_law.2.1 395 = .ok (.if_icmp .eq (5), 3) := by decide +kernel
theorem d_W_law_398 : decode me_W_law.2.1 398 = .ok (.iconst 0, 1) := by decide +kernel
theorem d_W_law_399 : decode me_W_law.2.1 399 = .ok (.ireturn, 1) := by decide +kernel
theorem d_W_law_400 : decode me_W_law.2.1 400 = .ok (.iload 5, 2) := by decide +kernel
theorem d_W_law_402 : decode me_W_law.2.1 402 = .ok (.ifCond .ne (15), 3) := by decide +kernel
theorem d_W_law_405 : decode me_W_law.2.1 405 = .ok (.aload_n 3, 1) := by decide +kernel
theorem d_W_law_406 : decode me_W_law.2.1 406 = .ok (.iconst 0, 1) := by decide +kernel
theorem d_W_law_407 : decode me_W_law.2.1 407 = .ok (.laload, 1) := by decide +kernel
theorem d_W_law_408 : decode me_W_law.2.1 408 = .ok (.iload 6, 2) := by decide +kernel
theorem d_W_law_410 : decode me_W_law.2.1 410 = .ok (.i2l, 1) := by decide +kernel
theorem d_W_law_411 : decode me_W_law.2.1 411 = .ok (.lcmp, 1) := by decide +kernel
theorem d_W_law_412 : decode me_W_law.2.1 412 = .ok (.ifCond .eq (5), 3) := by decide +kernel
theorem d_W_law_415 : decode me_W_law.2.1 415 = .ok (.iconst 0, 1) := by decide +kernel
theorem d_W_law_416 : decode me_W_law.2.1 416 = .ok (.ireturn, 1) := by decide +kernel
theorem d_W_law_417 : decode me_W_law.2.1 417 = .ok (.goto (734), 3) := by decide +kernel
theorem d_W_law_420 : decode me_W_law.2.1 420 = .ok (.aload_n 1, 1) := by decide +kernel
theorem d_W_law_421 : decode me_W_law.2.1 421 = .ok (.aload_n 0, 1) := by decide +kernel
theorem d_W_law_422 : decode me_W_law.2.1 422 = .ok (.iload 4, 2) := by decide +kernel
theorem d_W_law_424 : decode me_W_law.2.1 424 = .ok (.iconst 1, 1) := by decide +kernel
theorem d_W_law_425 : decode me_W_law.2.1 425 = .ok (.iadd, 1) := by decide +kernel
theorem d_W_law_426 : decode me_W_law.2.1 426 = .ok (.iaload, 1) := by decide +kernel
theorem d_W_law_427 : decode me_W_law.2.1 427 = .ok (.aload_n 0, 1) := by decide +kernel
theorem d_W_law_428 : decode me_W_law.2.1 428 = .ok (.iload 4, 2) := by decide +kernel
theorem d_W_law_430 : decode me_W_law.2.1 430 = .ok (.iconst 2, 1) := by decide +kernel
theorem d_W_law_431 : decode me_W_law.2.1 431 = .ok (.iadd, 1) := by decide +kernel
theorem d_W_law_432 : decode me_W_law.2.1 432 = .ok (.iaload, 1) := by decide +kernel
theorem d_W_law_433 : decode me_W_law.2.1 433 = .ok (.aload_n 3, 1) := by decide +kernel
theorem d_W_law_434 : decode me_W_law.2.1 434 = .ok (.invokestatic 71, 3) := by decide +kernel
theorem ml_W_71 : Cond.methodLink "BatchHallLaw" 71 me_W_batch.1 ∈ bm_Ts := bm_in 798 (by decide +kernel) (by decide +kernel)
theorem kt_W_batch : Cond.static me_W_batch.1 ∈ bm_Ts := bm_in 799 (by decide +kernel) (by decide +kernel)
theorem c_W_law_434 : bm_isW me_W_law me_W_batch hh_W_batch 434 4 := ⟨_, d_W_law_434, ml_W_71, kw_W_batch, in_BatchHallLaw, kt_W_batch, by decide +kernel, by decide, by decide⟩
theorem d_W_law_437 : decode me_W_law.2.1 437 = .ok (.istore 5, 2) := by decide +kernel
theorem d_W_law_439 : decode me_W_law.2.1 439 = .ok (.aload_n 2, 1) := by decide +kernel
theorem d_W_law_440 : decode me_W_law.2.1 440 = .ok (.aload_n 0, 1) := by decide +kernel
theorem d_W_law_441 : decode me_W_law.2.1 441 = .ok (.iload 4, 2) := by decide +kernel
theorem d_W_law_443 : decode me_W_law.2.1 443 = .ok (.iconst 1, 1) := by decide +kernel
theorem d_W_law_444 : decode me_W_law.2.1 444 = .ok (.iadd, 1) := by decide +kernel
theorem d_W_law_445 : decode me_W_law.2.1 445 = .ok (.iaload, 1) := by decide +kernel
theorem d_W_law_446 : decode me_W_law.2.1 446 = .ok (.aload_n 0, 1) := by decide +kernel
theorem d_W_law_447 : decode me_W_law.2.1 447 = .ok (.iload 4, 2) := by decide +kernel
theorem d_W_law_449 : decode me_W_law.2.1 449 = .ok (.iconst 2, 1) := by decide +kernel
theorem d_W_law_450 : decode me_W_law.2.1 450 = .ok (.iadd, 1) := by decide +kernel
theorem d_W_law_451 : decode me_W_law.2.1 451 = .ok (.iaload, 1) := by decide +kernel
theorem d_W_law_452 : decode me_W_law.2.1 452 = .ok (.invokevirtual 74, 3) := by decide +kernel
theorem ml_W_74 : Cond.methodLink "BatchHallLaw" 74 me_M_batch.1 ∈ bm_Ts := bm_in 1263 (by decide +kernel) (by decide +kernel)
theorem kc_M_batch : Cond.code me_M_batch.1 me_M_batch.2.1 me_M_batch.2.2.1 me_M_batch.2.2.2.1 ∈ bm_Ts := bm_in 1266 (by decide +kernel) (by decide +kernel)
theorem ki_M_batch : Cond.instanceMethod me_M_batch.1 ∈ bm_Ts := bm_in 1264 (by decide +kernel) (by decide +kernel)
theorem ks_M_batch : Cond.selects me_M_batch.1.cls me_M_batch.1 me_M_batch.1 ∈ bm_Ts := bm_in 1265 (by decide +kernel) (by decide +kernel)
theorem c_W_law_452 : bm_iv me_W_law me_M_batch 452 11 2 := ⟨_, d_W_law_452, Or.inl ml_W_74, ⟨kc_M_batch, in_BatchHallModel, by decide +kernel, by decide, by decide⟩, ki_M_batch, ks_M_batch, _, _, rfl⟩
theorem d_W_law_455 : decode me_W_law.2.1 455 = .ok (.istore 6, 2) := by decide +kernel
theorem d_W_law_457 : decode me_W_law.2.1 457 = .ok (.aload_n 2, 1) := by decide +kernel
theorem d_W_law_458 : decode me_W_law.2.1 458 = .ok (.invokevirtual 67, 3) := by decide +kernel
theorem c_W_law_458 : bm_iv me_W_law me_M_thrown 458 11 0 := ⟨_, d_W_law_458, Or.inl ml_W_67, ⟨kc_M_thrown, in_BatchHallModel, by decide +kernel, by decide, by decide⟩, ki_M_thrown, ks_M_thrown, _, _, rfl⟩
theorem d_W_law_461 : decode me_W_law.2.1 461 = .ok (.iload 5, 2) := by decide +kernel
theorem d_W_law_463 : decode me_W_law.2.1 463 = .ok (.if_icmp .eq (5), 3) := by decide +kernel
theorem d_W_law_466 : decode me_W_law.2.1 466 = .ok (.iconst 0, 1) := by decide +kernel
theorem d_W_law_467 : decode me_W_law.2.1 467 = .ok (.ireturn, 1) := by decide +kernel
theorem d_W_law_468 : decode me_W_law.2.1 468 = .ok (.iload 5, 2) := by decide +kernel
theorem d_W_law_470 : decode me_W_law.2.1 470 = .ok (.ifCond .ne (15), 3) := by decide +kernel
theorem d_W_law_473 : decode me_W_law.2.1 473 = .ok (.aload_n 3, 1) := by decide +kernel
theorem d_W_law_474 : decode me_W_law.2.1 474 = .ok (.iconst 0, 1) := by decide +kernel
theorem d_W_law_475 : decode me_W_law.2.1 475 = .ok (.laload, 1) := by decide +kernel
theorem d_W_law_476 : decode me_W_law.2.1 476 = .ok (.iload 6, 2) := by decide +kernel
theorem d_W_law_478 : decode me_W_law.2.1 478 = .ok (.i2l, 1) := by decide +kernel
theorem d_W_law_479 : decode me_W_law.2.1 479 = .ok (.lcmp, 1) := by decide +kernel
theorem d_W_law_480 : decode me_W_law.2.1 480 = .ok (.ifCond .eq (5), 3) := by decide +kernel
theorem d_W_law_483 : decode me_W_law.2.1 483 = .ok (.iconst 0, 1) := by decide +kernel
theorem d_W_law_484 : decode me_W_law.2.1 484 = .ok (.ireturn, 1) := by decide +kernel
theorem d_W_law_485 : decode me_W_law.2.1 485 = .ok (.goto (666), 3) := by decide +kernel
theorem d_W_law_488 : decode me_W_law.2.1 488 = .ok (.aload_n 1, 1) := by decide +kernel
theorem d_W_law_489 : decode me_W_law.2.1 489 = .ok (.aload_n 0, 1) := by decide +kernel
theorem d_W_law_490 : decode me_W_law.2.1 490 = .ok (.iload 4, 2) := by decide +kernel
theorem d_W_law_492 : decode me_W_law.2.1 492 = .ok (.iconst 1, 1) := by decide +kernel
theorem d_W_law_493 : decode me_W_law.2.1 493 = .ok (.iadd, 1) := by decide +kernel
theorem d_W_law_494 : decode me_W_law.2.1 494 = .ok (.iaload, 1) := by decide +kernel
theorem d_W_law_495 : decode me_W_law.2.1 495 = .ok (.aload_n 3, 1) := by decide +kernel
theorem d_W_law_496 : decode me_W_law.2.1 496 = .ok (.invokestatic 75, 3) := by decide +kernel
theorem ml_W_75 : Cond.methodLink "BatchHallLaw" 75 me_W_start.1 ∈ bm_Ts := bm_in 882 (by decide +kernel) (by decide +kernel)
theorem kt_W_start : Cond.static me_W_start.1 ∈ bm_Ts := bm_in 883 (by decide +kernel) (by decide +kernel)
theorem c_W_law_496 : bm_isW me_W_law me_W_start hh_W_start 496 3 := ⟨_, d_W_law_496, ml_W_75, kw_W_start, in_BatchHallLaw, kt_W_start, by decide +kernel, by decide, by decide⟩
theorem d_W_law_499 : decode me_W_law.2.1 499 = .ok (.istore 5, 2) := by decide +kernel
theorem d_W_law_501 : decode me_W_law.2.1 501 = .ok (.aload_n 2, 1) := by decide +kernel
theorem d_W_law_502 : decode me_W_law.2.1 502 = .ok (.aload_n 0, 1) := by decide +kernel
theorem d_W_law_503 : decode me_W_law.2.1 503 = .ok (.iload 4, 2) := by decide +kernel
theorem d_W_law_505 : decode me_W_law.2.1 505 = .ok (.iconst 1, 1) := by decide +kernel
theorem d_W_law_506 : decode me_W_law.2.1 506 = .ok (.iadd, 1) := by decide +kernel
theorem d_W_law_507 : decode me_W_law.2.1 507 = .ok (.iaload, 1) := by decide +kernel
theorem d_W_law_508 : decode me_W_law.2.1 508 = .ok (.invokevirtual 77, 3) := by decide +kernel
theorem ml_W_77 : Cond.methodLink "BatchHallLaw" 77 me_M_start.1 ∈ bm_Ts := bm_in 1267 (by decide +kernel) (by decide +kernel)
theorem kc_M_start : Cond.code me_M_start.1 me_M_start.2.1 me_M_start.2.2.1 me_M_start.2.2.2.1 ∈ bm_Ts := bm_in 1270 (by decide +kernel) (by decide +kernel)
theorem ki_M_start : Cond.instanceMethod me_M_start.1 ∈ bm_Ts := bm_in 1268 (by decide +kernel) (by decide +kernel)
theorem ks_M_start : Cond.selects me_M_start.1.cls me_M_start.1 me_M_start.1 ∈ bm_Ts := bm_in 1269 (by decide +kernel) (by decide +kernel)
theorem c_W_law_508 : bm_iv me_W_law me_M_start 508 11 1 := ⟨_, d_W_law_508, Or.inl ml_W_77, ⟨kc_M_start, in_BatchHallModel, by decide +kernel, by decide, by decide⟩, ki_M_start, ks_M_start, _, _, rfl⟩
theorem d_W_law_511 : decode me_W_law.2.1 511 = .ok (.istore 6, 2) := by decide +kernel
theorem d_W_law_513 : decode me_W_law.2.1 513 = .ok (.aload_n 2, 1) := by decide +kernel
theorem d_W_law_514 : decode me_W_law.2.1 514 = .ok (.invokevirtual 67, 3) := by decide +kernel
theorem c_W_law_514 : bm_iv me_W_law me_M_thrown 514 11 0 := ⟨_, d_W_law_514, Or.inl ml_W_67, ⟨kc_M_thrown, in_BatchHallModel, by decide +kernel, by decide, by decide⟩, ki_M_thrown, ks_M_thrown, _, _, rfl⟩
theorem d_W_law_517 : decode me_W_law.2.1 517 = .ok (.iload 5, 2) := by decide +kernel
theorem d_W_law_519 : decode me_W_law.2.1 519 = .ok (.if_icmp .eq (5), 3) := by decide +kernel
theorem d_W_law_522 : decode me_W_law.2.1 522 = .ok (.iconst 0, 1) := by decide +kernel
theorem d_W_law_523 : decode me_W_law.2.1 523 = .ok (.ireturn, 1) := by decide +kernel
theorem d_W_law_524 : decode me_W_law.2.1 524 = .ok (.iload 5, 2) := by decide +kernel
theorem d_W_law_526 : decode me_W_law.2.1 526 = .ok (.ifCond .ne (15), 3) := by decide +kernel
theorem d_W_law_529 : decode me_W_law.2.1 529 = .ok (.aload_n 3, 1) := by decide +kernel
theorem d_W_law_530 : decode me_W_law.2.1 530 = .ok (.iconst 0, 1) := by decide +kernel
theorem d_W_law_531 : decode me_W_law.2.1 531 = .ok (.laload, 1) := by decide +kernel
theorem d_W_law_532 : decode me_W_law.2.1 532 = .ok (.iload 6, 2) := by decide +kernel
theorem d_W_law_534 : decode me_W_law.2.1 534 = .ok (.i2l, 1) := by decide +kernel
theorem d_W_law_535 : decode me_W_law.2.1 535 = .ok (.lcmp, 1) := by decide +kernel
theorem d_W_law_536 : decode me_W_law.2.1 536 = .ok (.ifCond .eq (5), 3) := by decide +kernel
theorem d_W_law_539 : decode me_W_law.2.1 539 = .ok (.iconst 0, 1) := by decide +kernel
theorem d_W_law_540 : decode me_W_law.2.1 540 = .ok (.ireturn, 1) := by decide +kernel
theorem d_W_law_541 : decode me_W_law.2.1 541 = .ok (.goto (610), 3) := by decide +kernel
theorem d_W_law_544 : decode me_W_law.2.1 544 = .ok (.aload_n 1, 1) := by decide +kernel
theorem d_W_law_545 : decode me_W_law.2.1 545 = .ok (.invokevirtual 78, 3) := by decide +kernel
theorem ml_W_78 : Cond.methodLink "BatchHallLaw" 78 me_H_tick.1 ∈ bm_Ts := bm_in 353 (by decide +kernel) (by decide +kernel)
theorem kc_H_tick : Cond.code me_H_tick.1 me_H_tick.2.1 me_H_tick.2.2.1 me_H_tick.2.2.2.1 ∈ bm_Ts := bm_in 356 (by decide +kernel) (by decide +kernel)
theorem ki_H_tick : Cond.instanceMethod me_H_tick.1 ∈ bm_Ts := bm_in 354 (by decide +kernel) (by decide +kernel)
theorem ks_H_tick : Cond.selects me_H_tick.1.cls me_H_tick.1 me_H_tick.1 ∈ bm_Ts := bm_in 355 (by decide +kernel) (by decide +kernel)
theorem c_W_law_545 : bm_iv me_W_law me_H_tick 545 0 0 := ⟨_, d_W_law_545, Or.inl ml_W_78, ⟨kc_H_tick, in_BatchHall, by decide +kernel, by decide, by decide⟩, ki_H_tick, ks_H_tick, _, _, rfl⟩
theorem d_W_law_548 : decode me_W_law.2.1 548 = .ok (.aload_n 2, 1) := by decide +kernel
theorem d_W_law_549 : decode me_W_law.2.1 549 = .ok (.invokevirtual 81, 3) := by decide +kernel
theorem ml_W_81 : Cond.methodLink "BatchHallLaw" 81 me_M_tick.1 ∈ bm_Ts := bm_in 1163 (by decide +kernel) (by decide +kernel)
theorem kc_M_tick : Cond.code me_M_tick.1 me_M_tick.2.1 me_M_tick.2.2.1 me_M_tick.2.2.2.1 ∈ bm_Ts := bm_in 1166 (by decide +kernel) (by decide +kernel)
theorem ki_M_tick : Cond.instanceMethod me_M_tick.1 ∈ bm_Ts := bm_in 1164 (by decide +kernel) (by decide +kernel)
theorem ks_M_tick : Cond.selects me_M_tick.1.cls me_M_tick.1 me_M_tick.1 ∈ bm_Ts := bm_in 1165 (by decide +kernel) (by decide +kernel)
theorem c_W_law_549 : bm_iv me_W_law me_M_tick 549 11 0 := ⟨_, d_W_law_549, Or.inl ml_W_81, ⟨kc_M_tick, in_BatchHallModel, by decide +kernel, by decide, by decide⟩, ki_M_tick, ks_M_tick, _, _, rfl⟩
theorem d_W_law_552 : decode me_W_law.2.1 552 = .ok (.if_icmp .eq (599), 3) := by decide +kernel
theorem d_W_law_555 : decode me_W_law.2.1 555 = .ok (.iconst 0, 1) := by decide +kernel
theorem d_W_law_556 : decode me_W_law.2.1 556 = .ok (.ireturn, 1) := by decide +kernel
theorem d_W_law_557 : decode me_W_law.2.1 557 = .ok (.aload_n 1, 1) := by decide +kernel
theorem d_W_law_558 : decode me_W_law.2.1 558 = .ok (.aload_n 0, 1) := by decide +kernel
theorem d_W_law_559 : decode me_W_law.2.1 559 = .ok (.iload 4, 2) := by decide +kernel
theorem d_W_law_561 : decode me_W_law.2.1 561 = .ok (.iconst 1, 1) := by decide +kernel
theorem d_W_law_562 : decode me_W_law.2.1 562 = .ok (.iadd, 1) := by decide +kernel
theorem d_W_law_563 : decode me_W_law.2.1 563 = .ok (.iaload, 1) := by decide +kernel
theorem d_W_law_564 : decode me_W_law.2.1 564 = .ok (.invokestatic 82, 3) := by decide +kernel
theorem ml_W_82 : Cond.methodLink "BatchHallLaw" 82 me_W_hold.1 ∈ bm_Ts := bm_in 899 (by decide +kernel) (by decide +kernel)
theorem kt_W_hold : Cond.static me_W_hold.1 ∈ bm_Ts := bm_in 900 (by decide +kernel) (by decide +kernel)
theorem c_W_law_564 : bm_isW me_W_law me_W_hold hh_W_hold 564 2 := ⟨_, d_W_law_564, ml_W_82, kw_W_hold, in_BatchHallLaw, kt_W_hold, by decide +kernel, by decide, by decide⟩
theorem d_W_law_567 : decode me_W_law.2.1 567 = .ok (.istore 5, 2) := by decide +kernel
theorem d_W_law_569 : decode me_W_law.2.1 569 = .ok (.aload_n 2, 1) := by decide +kernel
theorem d_W_law_570 : decode me_W_law.2.1 570 = .ok (.aload_n 0, 1) := by decide +kernel
theorem d_W_law_571 : decode me_W_law.2.1 571 = .ok (.iload 4, 2) := by decide +kernel
theorem d_W_law_573 : decode me_W_law.2.1 573 = .ok (.iconst 1, 1) := by decide +kernel
theorem d_W_law_574 : decode me_W_law.2.1 574 = .ok (.iadd, 1) := by decide +kernel
theorem d_W_law_575 : decode me_W_law.2.1 575 = .ok (.iaload, 1) := by decide +kernel
theorem d_W_law_576 : decode me_W_law.2.1 576 = .ok (.invokevirtual 85, 3) := by decide +kernel
theorem ml_W_85 : Cond.methodLink "BatchHallLaw" 85 me_M_hold.1 ∈ bm_Ts := bm_in 1275 (by decide +kernel) (by decide +kernel)
theorem kc_M_hold : Cond.code me_M_hold.1 me_M_hold.2.1 me_M_hold.2.2.1 me_M_hold.2.2.2.1 ∈ bm_Ts := bm_in 1278 (by decide +kernel) (by decide +kernel)
theorem ki_M_hold : Cond.instanceMethod me_M_hold.1 ∈ bm_Ts := bm_in 1276 (by decide +kernel) (by decide +kernel)
theorem ks_M_hold : Cond.selects me_M_hold.1.cls me_M_hold.1 me_M_hold.1 ∈ bm_Ts := bm_in 1277 (by decide +kernel) (by decide +kernel)
theorem c_W_law_576 : bm_iv me_W_law me_M_hold 576 11 1 := ⟨_, d_W_law_576, Or.inl ml_W_85, ⟨kc_M_hold, in_BatchHallModel, by decide +kernel, by decide, by decide⟩, ki_M_hold, ks_M_hold, _, _, rfl⟩
theorem d_W_law_579 : decode me_W_law.2.1 579 = .ok (.aload_n 2, 1) := by decide +kernel
theorem d_W_law_580 : decode me_W_law.2.1 580 = .ok (.invokevirtual 67, 3) := by decide +kernel
theorem c_W_law_580 : bm_iv me_W_law me_M_thrown 580 11 0 := ⟨_, d_W_law_580, Or.inl ml_W_67, ⟨kc_M_thrown, in_BatchHallModel, by decide +kernel, by decide, by decide⟩, ki_M_thrown, ks_M_thrown, _, _, rfl⟩
theorem d_W_law_583 : decode me_W_law.2.1 583 = .ok (.iload 5, 2) := by decide +kernel
theorem d_W_law_585 : decode me_W_law.2.1 585 = .ok (.if_icmp .eq (5), 3) := by decide +kernel
theorem d_W_law_588 : decode me_W_law.2.1 588 = .ok (.iconst 0, 1) := by decide +kernel
theorem d_W_law_589 : decode me_W_law.2.1 589 = .ok (.ireturn, 1) := by decide +kernel
theorem d_W_law_590 : decode me_W_law.2.1 590 = .ok (.goto (561), 3) := by decide +kernel
theorem d_W_law_593 : decode me_W_law.2.1 593 = .ok (.aload_n 1, 1) := by decide +kernel
theorem d_W_law_594 : decode me_W_law.2.1 594 = .ok (.aload_n 0, 1) := by decide +kernel
theorem d_W_law_595 : decode me_W_law.2.1 595 = .ok (.iload 4, 2) := by decide +kernel
theorem d_W_law_597 : decode me_W_law.2.1 597 = .ok (.iconst 1, 1) := by decide +kernel
theorem d_W_law_598 : decode me_W_law.2.1 598 = .ok (.iadd, 1) := by decide +kernel
theorem d_W_law_599 : decode me_W_law.2.1 599 = .ok (.iaload, 1) := by decide +kernel
theorem d_W_law_600 : decode me_W_law.2.1 600 = .ok (.aload_n 3, 1) := by decide +kernel
theorem d_W_law_601 : decode me_W_law.2.1 601 = .ok (.invokestatic 86, 3) := by decide +kernel
theorem ml_W_86 : Cond.methodLink "BatchHallLaw" 86 me_W_restart.1 ∈ bm_Ts := bm_in 907 (by decide +kernel) (by decide +kernel)
theorem kt_W_restart : Cond.static me_W_restart.1 ∈ bm_Ts := bm_in 908 (by decide +kernel) (by decide +kernel)
theorem c_W_law_601 : bm_isW me_W_law me_W_restart hh_W_restart 601 3 := ⟨_, d_W_law_601, ml_W_86, kw_W_restart, in_BatchHallLaw, kt_W_restart, by decide +kernel, by decide, by decide⟩
theorem d_W_law_604 : decode me_W_law.2.1 604 = .ok (.istore 5, 2) := by decide +kernel
theorem d_W_law_606 : decode me_W_law.2.1 606 = .ok (.aload_n 2, 1) := by decide +kernel
theorem d_W_law_607 : decode me_W_law.2.1 607 = .ok (.aload_n 0, 1) := by decide +kernel
theorem d_W_law_608 : decode me_W_law.2.1 608 = .ok (.iload 4, 2) := by decide +kernel
theorem d_W_law_610 : decode me_W_law.2.1 610 = .ok (.iconst 1, 1) := by decide +kernel
theorem d_W_law_611 : decode me_W_law.2.1 611 = .ok (.iadd, 1) := by decide +kernel
theorem d_W_law_612 : decode me_W_law.2.1 612 = .ok (.iaload, 1) := by decide +kernel
theorem d_W_law_613 : decode me_W_law.2.1 613 = .ok (.invokevirtual 88, 3) := by decide +kernel
theorem ml_W_88 : Cond.methodLink "BatchHallLaw" 88 me_M_restart.1 ∈ bm_Ts := bm_in 1279 (by decide +kernel) (by decide +kernel)
theorem kc_M_restart : Cond.code me_M_restart.1 me_M_restart.2.1 me_M_restart.2.2.1 me_M_restart.2.2.2.1 ∈ bm_Ts := bm_in 1282 (by decide +kernel) (by decide +kernel)
theorem ki_M_restart : Cond.instanceMethod me_M_restart.1 ∈ bm_Ts := bm_in 1280 (by decide +kernel) (by decide +kernel)
theorem ks_M_restart : Cond.selects me_M_restart.1.cls me_M_restart.1 me_M_restart.1 ∈ bm_Ts := bm_in 1281 (by decide +kernel) (by decide +kernel)
theorem c_W_law_613 : bm_iv me_W_law me_M_restart 613 11 1 := ⟨_, d_W_law_613, Or.inl ml_W_88, ⟨kc_M_restart, in_BatchHallModel, by decide +kernel, by decide, by decide⟩, ki_M_restart, ks_M_restart, _, _, rfl⟩
theorem d_W_law_616 : decode me_W_law.2.1 616 = .ok (.istore 6, 2) := by decide +kernel
theorem d_W_law_618 : decode me_W_law.2.1 618 = .ok (.aload_n 2, 1) := by decide +kernel
theorem d_W_law_619 : decode me_W_law.2.1 619 = .ok (.invokevirtual 67, 3) := by decide +kernel
theorem c_W_law_619 : bm_iv me_W_law me_M_thrown 619 11 0 := ⟨_, d_W_law_619, Or.inl ml_W_67, ⟨kc_M_thrown, in_BatchHallModel, by decide +kernel, by decide, by decide⟩, ki_M_thrown, ks_M_thrown, _, _, rfl⟩
theorem d_W_law_622 : decode me_W_law.2.1 622 = .ok (.iload 5, 2) := by decide +kernel
theorem d_W_law_624 : decode me_W_law.2.1 624 = .ok (.if_icmp .eq (5), 3) := by decide +kernel
theorem d_W_law_627 : decode me_W_law.2.1 627 = .ok (.iconst 0, 1) := by decide +kernel
theorem d_W_law_628 : decode me_W_law.2.1 628 = .ok (.ireturn, 1) := by decide +kernel
theorem d_W_law_629 : decode me_W_law.2.1 629 = .ok (.iload 5, 2) := by decide +kernel
theorem d_W_law_631 : decode me_W_law.2.1 631 = .ok (.ifCond .ne (15), 3) := by decide +kernel
theorem d_W_law_634 : decode me_W_law.2.1 634 = .ok (.aload_n 3, 1) := by decide +kernel
theorem d_W_law_635 : decode me_W_law.2.1 635 = .ok (.iconst 0, 1) := by decide +kernel
theorem d_W_law_636 : decode me_W_law.2.1 636 = .ok (.laload, 1) := by decide +kernel
theorem d_W_law_637 : decode me_W_law.2.1 637 = .ok (.iload 6, 2) := by decide +kernel
theorem d_W_law_639 : decode me_W_law.2.1 639 = .ok (.i2l, 1) := by decide +kernel
theorem d_W_law_640 : decode me_W_law.2.1 640 = .ok (.lcmp, 1) := by decide +kernel
theorem d_W_law_641 : decode me_W_law.2.1 641 = .ok (.ifCond .eq (5), 3) := by decide +kernel
theorem d_W_law_644 : decode me_W_law.2.1 644 = .ok (.iconst 0, 1) := by decide +kernel
theorem d_W_law_645 : decode me_W_law.2.1 645 = .ok (.ireturn, 1) := by decide +kernel
theorem d_W_law_646 : decode me_W_law.2.1 646 = .ok (.goto (505), 3) := by decide +kernel
theorem d_W_law_649 : decode me_W_law.2.1 649 = .ok (.aload_n 1, 1) := by decide +kernel
theorem d_W_law_650 : decode me_W_law.2.1 650 = .ok (.aload_n 0, 1) := by decide +kernel
theorem d_W_law_651 : decode me_W_law.2.1 651 = .ok (.iload 4, 2) := by decide +kernel
theorem d_W_law_653 : decode me_W_law.2.1 653 = .ok (.iconst 1, 1) := by decide +kernel
theorem d_W_law_654 : decode me_W_law.2.1 654 = .ok (.iadd, 1) := by decide +kernel
theorem d_W_law_655 : decode me_W_law.2.1 655 = .ok (.iaload, 1) := by decide +kernel
theorem d_W_law_656 : decode me_W_law.2.1 656 = .ok (.aload_n 3, 1) := by decide +kernel
theorem d_W_law_657 : decode me_W_law.2.1 657 = .ok (.invokestatic 89, 3) := by decide +kernel
theorem ml_W_89 : Cond.methodLink "BatchHallLaw" 89 me_W_stop.1 ∈ bm_Ts := bm_in 915 (by decide +kernel) (by decide +kernel)
theorem kt_W_stop : Cond.static me_W_stop.1 ∈ bm_Ts := bm_in 916 (by decide +kernel) (by decide +kernel)
theorem c_W_law_657 : bm_isW me_W_law me_W_stop hh_W_stop 657 3 := ⟨_, d_W_law_657, ml_W_89, kw_W_stop, in_BatchHallLaw, kt_W_stop, by decide +kernel, by decide, by decide⟩
theorem d_W_law_660 : decode me_W_law.2.1 660 = .ok (.istore 5, 2) := by decide +kernel
theorem d_W_law_662 : decode me_W_law.2.1 662 = .ok (.aload_n 2, 1) := by decide +kernel
theorem d_W_law_663 : decode me_W_law.2.1 663 = .ok (.aload_n 0, 1) := by decide +kernel
theorem d_W_law_664 : decode me_W_law.2.1 664 = .ok (.iload 4, 2) := by decide +kernel
theorem d_W_law_666 : decode me_W_law.2.1 666 = .ok (.iconst 1, 1) := by decide +kernel
theorem d_W_law_667 : decode me_W_law.2.1 667 = .ok (.iadd, 1) := by decide +kernel
theorem d_W_law_668 : decode me_W_law.2.1 668 = .ok (.iaload, 1) := by decide +kernel
theorem d_W_law_669 : decode me_W_law.2.1 669 = .ok (.invokevirtual 91, 3) := by decide +kernel
theorem ml_W_91 : Cond.methodLink "BatchHallLaw" 91 me_M_stop.1 ∈ bm_Ts := bm_in 1283 (by decide +kernel) (by decide +kernel)
theorem kc_M_stop : Cond.code me_M_stop.1 me_M_stop.2.1 me_M_stop.2.2.1 me_M_stop.2.2.2.1 ∈ bm_Ts := bm_in 1286 (by decide +kernel) (by decide +kernel)
theorem ki_M_stop : Cond.instanceMethod me_M_stop.1 ∈ bm_Ts := bm_in 1284 (by decide +kernel) (by decide +kernel)
theorem ks_M_stop : Cond.selects me_M_stop.1.cls me_M_stop.1 me_M_stop.1 ∈ bm_Ts := bm_in 1285 (by decide +kernel) (by decide +kernel)
theorem c_W_law_669 : bm_iv me_W_law me_M_stop 669 11 1 := ⟨_, d_W_law_669, Or.inl ml_W_91, ⟨kc_M_stop, in_BatchHallModel, by decide +kernel, by decide, by decide⟩, ki_M_stop, ks_M_stop, _, _, rfl⟩
theorem d_W_law_672 : decode me_W_law.2.1 672 = .ok (.istore 6, 2) := by decide +kernel
theorem d_W_law_674 : decode me_W_law.2.1 674 = .ok (.aload_n 2, 1) := by decide +kernel
theorem d_W_law_675 : decode me_W_law.2.1 675 = .ok (.invokevirtual 67, 3) := by decide +kernel
theorem c_W_law_675 : bm_iv me_W_law me_M_thrown 675 11 0 := ⟨_, d_W_law_675, Or.inl ml_W_67, ⟨kc_M_thrown, in_BatchHallModel, by decide +kernel, by decide, by decide⟩, ki_M_thrown, ks_M_thrown, _, _, rfl⟩
theorem d_W_law_678 : decode me_W_law.2.1 678 = .ok (.iload 5, 2) := by decide +kernel
theorem d_W_law_680 : decode me_W_law.2.1 680 = .ok (.if_icmp .eq (5), 3) := by decide +kernel
theorem d_W_law_683 : decode me_W_law.2.1 683 = .ok (.iconst 0, 1) := by decide +kernel
theorem d_W_law_684 : decode me_W_law.2.1 684 = .ok (.ireturn, 1) := by decide +kernel
theorem d_W_law_685 : decode me_W_law.2.1 685 = .ok (.iload 5, 2) := by decide +kernel
theorem d_W_law_687 : decode me_W_law.2.1 687 = .ok (.ifCond .ne (15), 3) := by decide +kernel
theorem d_W_law_690 : decode me_W_law.2.1 690 = .ok (.aload_n 3, 1) := by decide +kernel
theorem d_W_law_691 : decode me_W_law.2.1 691 = .ok (.iconst 0, 1) := by decide +kernel
theorem d_W_law_692 : decode me_W_law.2.1 692 = .ok (.laload, 1) := by decide +kernel
theorem d_W_law_693 : decode me_W_law.2.1 693 = .ok (.iload 6, 2) := by decide +kernel
theorem d_W_law_695 : decode me_W_law.2.1 695 = .ok (.i2l, 1) := by decide +kernel
theorem d_W_law_696 : decode me_W_law.2.1 696 = .ok (.lcmp, 1) := by decide +kernel
theorem d_W_law_697 : decode me_W_law.2.1 697 = .ok (.ifCond .eq (5), 3) := by decide +kernel
theorem d_W_law_700 : decode me_W_law.2.1 700 = .ok (.iconst 0, 1) := by decide +kernel
theorem d_W_law_701 : decode me_W_law.2.1 701 = .ok (.ireturn, 1) := by decide +kernel
theorem d_W_law_702 : decode me_W_law.2.1 702 = .ok (.goto (449), 3) := by decide +kernel
theorem d_W_law_705 : decode me_W_law.2.1 705 = .ok (.aload_n 1, 1) := by decide +kernel
theorem d_W_law_706 : decode me_W_law.2.1 706 = .ok (.aload_n 0, 1) := by decide +kernel
theorem d_W_law_707 : decode me_W_law.2.1 707 = .ok (.iload 4, 2) := by decide +kernel
theorem d_W_law_709 : decode me_W_law.2.1 709 = .ok (.iconst 1, 1) := by decide +kernel
theorem d_W_law_710 : decode me_W_law.2.1 710 = .ok (.iadd, 1) := by decide +kernel
theorem d_W_law_711 : decode me_W_law.2.1 711 = .ok (.iaload, 1) := by decide +kernel
theorem d_W_law_712 : decode me_W_law.2.1 712 = .ok (.invokestatic 92, 3) := by decide +kernel
theorem ml_W_92 : Cond.methodLink "BatchHallLaw" 92 me_W_abort.1 ∈ bm_Ts := bm_in 924 (by decide +kernel) (by decide +kernel)
theorem kt_W_abort : Cond.static me_W_abort.1 ∈ bm_Ts := bm_in 925 (by decide +kernel) (by decide +kernel)
theorem c_W_law_712 : bm_isW me_W_law me_W_abort hh_W_abort 712 2 := ⟨_, d_W_law_712, ml_W_92, kw_W_abort, in_BatchHallLaw, kt_W_abort, by decide +kernel, by decide, by decide⟩
theorem d_W_law_715 : decode me_W_law.2.1 715 = .ok (.istore 5, 2) := by decide +kernel
theorem d_W_law_717 : decode me_W_law.2.1 717 = .ok (.aload_n 2, 1) := by decide +kernel
theorem d_W_law_718 : decode me_W_law.2.1 718 = .ok (.aload_n 0, 1) := by decide +kernel
theorem d_W_law_719 : decode me_W_law.2.1 719 = .ok (.iload 4, 2) := by decide +kernel
theorem d_W_law_721 : decode me_W_law.2.1 721 = .ok (.iconst 1, 1) := by decide +kernel
theorem d_W_law_722 : decode me_W_law.2.1 722 = .ok (.iadd, 1) := by decide +kernel
theorem d_W_law_723 : decode me_W_law.2.1 723 = .ok (.iaload, 1) := by decide +kernel
theorem d_W_law_724 : decode me_W_law.2.1 724 = .ok (.invokevirtual 94, 3) := by decide +kernel
theorem ml_W_94 : Cond.methodLink "BatchHallLaw" 94 me_M_abort.1 ∈ bm_Ts := bm_in 1287 (by decide +kernel) (by decide +kernel)
theorem kc_M_abort : Cond.code me_M_abort.1 me_M_abort.2.1 me_M_abort.2.2.1 me_M_abort.2.2.2.1 ∈ bm_Ts := bm_in 1290 (by decide +kernel) (by decide +kernel)
theorem ki_M_abort : Cond.instanceMethod me_M_abort.1 ∈ bm_Ts := bm_in 1288 (by decide +kernel) (by decide +kernel)
theorem ks_M_abort : Cond.selects me_M_abort.1.cls me_M_abort.1 me_M_abort.1 ∈ bm_Ts := bm_in 1289 (by decide +kernel) (by decide +kernel)
theorem c_W_law_724 : bm_iv me_W_law me_M_abort 724 11 1 := ⟨_, d_W_law_724, Or.inl ml_W_94, ⟨kc_M_abort, in_BatchHallModel, by decide +kernel, by decide, by decide⟩, ki_M_abort, ks_M_abort, _, _, rfl⟩
theorem d_W_law_727 : decode me_W_law.2.1 727 = .ok (.aload_n 2, 1) := by decide +kernel
theorem d_W_law_728 : decode me_W_law.2.1 728 = .ok (.invokevirtual 67, 3) := by decide +kernel
theorem c_W_law_728 : bm_iv me_W_law me_M_thrown 728 11 0 := ⟨_, d_W_law_728, Or.inl ml_W_67, ⟨kc_M_thrown, in_BatchHallModel, by decide +kernel, by decide, by decide⟩, ki_M_thrown, ks_M_thrown, _, _, rfl⟩
theorem d_W_law_731 : decode me_W_law.2.1 731 = .ok (.iload 5, 2) := by decide +kernel
theorem d_W_law_733 : decode me_W_law.2.1 733 = .ok (.if_icmp .eq (5), 3) := by decide +kernel
theorem d_W_law_736 : decode me_W_law.2.1 736 = .ok (.iconst 0, 1) := by decide +kernel
theorem d_W_law_737 : decode me_W_law.2.1 737 = .ok (.ireturn, 1) := by decide +kernel
theorem d_W_law_738 : decode me_W_law.2.1 738 = .ok (.goto (413), 3) := by decide +kernel
theorem d_W_law_741 : decode me_W_law.2.1 741 = .ok (.aload_n 1, 1) := by decide +kernel
theorem d_W_law_742 : decode me_W_law.2.1 742 = .ok (.aload_n 0, 1) := by decide +kernel
theorem d_W_law_743 : decode me_W_law.2.1 743 = .ok (.iload 4, 2) := by decide +kernel
theorem d_W_law_745 : decode me_W_law.2.1 745 = .ok (.iconst 1, 1) := by decide +kernel
theorem d_W_law_746 : decode me_W_law.2.1 746 = .ok (.iadd, 1) := by decide +kernel
theorem d_W_law_747 : decode me_W_law.2.1 747 = .ok (.iaload, 1) := by decide +kernel
theorem d_W_law_748 : decode me_W_law.2.1 748 = .ok (.aload_n 0, 1) := by decide +kernel
theorem d_W_law_749 : decode me_W_law.2.1 749 = .ok (.iload 4, 2) := by decide +kernel
theorem d_W_law_751 : decode me_W_law.2.1 751 = .ok (.iconst 2, 1) := by decide +kernel
theorem d_W_law_752 : decode me_W_law.2.1 752 = .ok (.iadd, 1) := by decide +kernel
theorem d_W_law_753 : decode me_W_law.2.1 753 = .ok (.iaload, 1) := by decide +kernel
theorem d_W_law_754 : decode me_W_law.2.1 754 = .ok (.aload_n 0, 1) := by decide +kernel
theorem d_W_law_755 : decode me_W_law.2.1 755 = .ok (.iload 4, 2) := by decide +kernel
theorem d_W_law_757 : decode me_W_law.2.1 757 = .ok (.iconst 3, 1) := by decide +kernel
theorem d_W_law_758 : decode me_W_law.2.1 758 = .ok (.iadd, 1) := by decide +kernel
theorem d_W_law_759 : decode me_W_law.2.1 759 = .ok (.iaload, 1) := by decide +kernel
theorem d_W_law_760 : decode me_W_law.2.1 760 = .ok (.invokevirtual 95, 3) := by decide +kernel
theorem ml_W_95 : Cond.methodLink "BatchHallLaw" 95 me_H_measure.1 ∈ bm_Ts := bm_in 567 (by decide +kernel) (by decide +kernel)
theorem kc_H_measure : Cond.code me_H_measure.1 me_H_measure.2.1 me_H_measure.2.2.1 me_H_measure.2.2.2.1 ∈ bm_Ts := bm_in 570 (by decide +kernel) (by decide +kernel)
theorem ki_H_measure : Cond.instanceMethod me_H_measure.1 ∈ bm_Ts := bm_in 568 (by decide +kernel) (by decide +kernel)
theorem ks_H_measure : Cond.selects me_H_measure.1.cls me_H_measure.1 me_H_measure.1 ∈ bm_Ts := bm_in 569 (by decide +kernel) (by decide +kernel)
theorem c_W_law_760 : bm_iv me_W_law me_H_measure 760 0 3 := ⟨_, d_W_law_760, Or.inl ml_W_95, ⟨kc_H_measure, in_BatchHall, by decide +kernel, by decide, by decide⟩, ki_H_measure, ks_H_measure, _, _, rfl⟩
theorem d_W_law_763 : decode me_W_law.2.1 763 = .ok (.aload_n 2, 1) := by decide +kernel
theorem d_W_law_764 : decode me_W_law.2.1 764 = .ok (.aload_n 0, 1) := by decide +kernel
theorem d_W_law_765 : decode me_W_law.2.1 765 = .ok (.iload 4, 2) := by decide +kernel
theorem d_W_law_767 : decode me_W_law.2.1 767 = .ok (.iconst 1, 1) := by decide +kernel
theorem d_W_law_768 : decode me_W_law.2.1 768 = .ok (.iadd, 1) := by decide +kernel
theorem d_W_law_769 : decode me_W_law.2.1 769 = .ok (.iaload, 1) := by decide +kernel
theorem d_W_law_770 : decode me_W_law.2.1 770 = .ok (.aload_n 0, 1) := by decide +kernel
theorem d_W_law_771 : decode me_W_law.2.1 771 = .ok (.iload 4, 2) := by decide +kernel
theorem d_W_law_773 : decode me_W_law.2.1 773 = .ok (.iconst 2, 1) := by decide +kernel
theorem d_W_law_774 : decode me_W_law.2.1 774 = .ok (.iadd, 1) := by decide +kernel
theorem d_W_law_775 : decode me_W_law.2.1 775 = .ok (.iaload, 1) := by decide +kernel
theorem d_W_law_776 : decode me_W_law.2.1 776 = .ok (.aload_n 0, 1) := by decide +kernel
theorem d_W_law_777 : decode me_W_law.2.1 777 = .ok (.iload 4, 2) := by decide +kernel
theorem d_W_law_779 : decode me_W_law.2.1 779 = .ok (.iconst 3, 1) := by decide +kernel
theorem d_W_law_780 : decode me_W_law.2.1 780 = .ok (.iadd, 1) := by decide +kernel
theorem d_W_law_781 : decode me_W_law.2.1 781 = .ok (.iaload, 1) := by decide +kernel
theorem d_W_law_782 : decode me_W_law.2.1 782 = .ok (.invokevirtual 98, 3) := by decide +kernel
theorem ml_W_98 : Cond.methodLink "BatchHallLaw" 98 me_M_measure.1 ∈ bm_Ts := bm_in 1291 (by decide +kernel) (by decide +kernel)
theorem kc_M_measure : Cond.code me_M_measure.1 me_M_measure.2.1 me_M_measure.2.2.1 me_M_measure.2.2.2.1 ∈ bm_Ts := bm_in 1294 (by decide +kernel) (by decide +kernel)
theorem ki_M_measure : Cond.instanceMethod me_M_measure.1 ∈ bm_Ts := bm_in 1292 (by decide +kernel) (by decide +kernel)
theorem ks_M_measure : Cond.selects me_M_measure.1.cls me_M_measure.1 me_M_measure.1 ∈ bm_Ts := bm_in 1293 (by decide +kernel) (by decide +kernel)
theorem c_W_law_782 : bm_iv me_W_law me_M_measure 782 11 3 := ⟨_, d_W_law_782, Or.inl ml_W_98, ⟨kc_M_measure, in_BatchHallModel, by decide +kernel, by decide, by decide⟩, ki_M_measure, ks_M_measure, _, _, rfl⟩
theorem d_W_law_785 : decode me_W_law.2.1 785 = .ok (.if_icmp .eq (366), 3) := by decide +kernel
theorem d_W_law_788 : decode me_W_law.2.1 788 = .ok (.iconst 0, 1) := by decide +kernel
theorem d_W_law_789 : decode me_W_law.2.1 789 = .ok (.ireturn, 1) := by decide +kernel
theorem d_W_law_790 : decode me_W_law.2.1 790 = .ok (.aload_n 1, 1) := by decide +kernel
theorem d_W_law_791 : decode me_W_law.2.1 791 = .ok (.aload_n 0, 1) := by decide +kernel
theorem d_W_law_792 : decode me_W_law.2.1 792 = .ok (.iload 4, 2) := by decide +kernel
theorem d_W_law_794 : decode me_W_law.2.1 794 = .ok (.iconst 1, 1) := by decide +kernel
theorem d_W_law_795 : decode me_W_law.2.1 795 = .ok (.iadd, 1) := by decide +kernel
theorem d_W_law_796 : decode me_W_law.2.1 796 = .ok (.iaload, 1) := by decide +kernel
theorem d_W_law_797 : decode me_W_law.2.1 797 = .ok (.aload_n 0, 1) := by decide +kernel
theorem d_W_law_798 : decode me_W_law.2.1 798 = .ok (.iload 4, 2) := by decide +kernel
theorem d_W_law_800 : decode me_W_law.2.1 800 = .ok (.iconst 2, 1) := by decide +kernel
theorem d_W_law_801 : decode me_W_law.2.1 801 = .ok (.iadd, 1) := by decide +kernel
theorem d_W_law_802 : decode me_W_law.2.1 802 = .ok (.iaload, 1) := by decide +kernel
theorem d_W_law_803 : decode me_W_law.2.1 803 = .ok (.invokevirtual 99, 3) := by decide +kernel
theorem ml_W_99 : Cond.methodLink "BatchHallLaw" 99 me_H_batchIs.1 ∈ bm_Ts := bm_in 575 (by decide +kernel) (by decide +kernel)
theorem kc_H_batchIs : Cond.code me_H_batchIs.1 me_H_batchIs.2.1 me_H_batchIs.2.2.1 me_H_batchIs.2.2.2.1 ∈ bm_Ts := bm_in 578 (by decide +kernel) (by decide +kernel)
theorem ki_H_batchIs : Cond.instanceMethod me_H_batchIs.1 ∈ bm_Ts := bm_in 576 (by decide +kernel) (by decide +kernel)
theorem ks_H_batchIs : Cond.selects me_H_batchIs.1.cls me_H_batchIs.1 me_H_batchIs.1 ∈ bm_Ts := bm_in 577 (by decide +kernel) (by decide +kernel)
theorem c_W_law_803 : bm_iv me_W_law me_H_batchIs 803 0 2 := ⟨_, d_W_law_803, Or.inl ml_W_99, ⟨kc_H_batchIs, in_BatchHall, by decide +kernel, by decide, by decide⟩, ki_H_batchIs, ks_H_batchIs, _, _, rfl⟩
theorem d_W_law_806 : decode me_W_law.2.1 806 = .ok (.aload_n 2, 1) := by decide +kernel
theorem d_W_law_807 : decode me_W_law.2.1 807 = .ok (.aload_n 0, 1) := by decide +kernel
theorem d_W_law_808 : decode me_W_law.2.1 808 = .ok (.iload 4, 2) := by decide +kernel
theorem d_W_law_810 : decode me_W_law.2.1 810 = .ok (.iconst 1, 1) := by decide +kernel
theorem d_W_law_811 : decode me_W_law.2.1 811 = .ok (.iadd, 1) := by decide +kernel
theorem d_W_law_812 : decode me_W_law.2.1 812 = .ok (.iaload, 1) := by decide +kernel
theorem d_W_law_813 : decode me_W_law.2.1 813 = .ok (.aload_n 0, 1) := by decide +kernel
theorem d_W_law_814 : decode me_W_law.2.1 814 = .ok (.iload 4, 2) := by decide +kernel
theorem d_W_law_816 : decode me_W_law.2.1 816 = .ok (.iconst 2, 1) := by decide +kernel
theorem d_W_law_817 : decode me_W_law.2.1 817 = .ok (.iadd, 1) := by decide +kernel
theorem d_W_law_818 : decode me_W_law.2.1 818 = .ok (.iaload, 1) := by decide +kernel
theorem d_W_law_819 : decode me_W_law.2.1 819 = .ok (.invokevirtual 102, 3) := by decide +kernel
theorem ml_W_102 : Cond.methodLink "BatchHallLaw" 102 me_M_batchIs.1 ∈ bm_Ts := bm_in 1295 (by decide +kernel) (by decide +kernel)
theorem kc_M_batchIs : Cond.code me_M_batchIs.1 me_M_batchIs.2.1 me_M_batchIs.2.2.1 me_M_batchIs.2.2.2.1 ∈ bm_Ts := bm_in 1298 (by decide +kernel) (by decide +kernel)
theorem ki_M_batchIs : Cond.instanceMethod me_M_batchIs.1 ∈ bm_Ts := bm_in 1296 (by decide +kernel) (by decide +kernel)
theorem ks_M_batchIs : Cond.selects me_M_batchIs.1.cls me_M_batchIs.1 me_M_batchIs.1 ∈ bm_Ts := bm_in 1297 (by decide +kernel) (by decide +kernel)
theorem c_W_law_819 : bm_iv me_W_law me_M_batchIs 819 11 2 := ⟨_, d_W_law_819, Or.inl ml_W_102, ⟨kc_M_batchIs, in_BatchHallModel, by decide +kernel, by decide, by decide⟩, ki_M_batchIs, ks_M_batchIs, _, _, rfl⟩
theorem d_W_law_822 : decode me_W_law.2.1 822 = .ok (.if_icmp .eq (329), 3) := by decide +kernel
theorem d_W_law_825 : decode me_W_law.2.1 825 = .ok (.iconst 0, 1) := by decide +kernel
theorem d_W_law_826 : decode me_W_law.2.1 826 = .ok (.ireturn, 1) := by decide +kernel
theorem d_W_law_827 : decode me_W_law.2.1 827 = .ok (.aload_n 1, 1) := by decide +kernel
theorem d_W_law_828 : decode me_W_law.2.1 828 = .ok (.aload_n 0, 1) := by decide +kernel
theorem d_W_law_829 : decode me_W_law.2.1 829 = .ok (.iload 4, 2) := by decide +kernel
theorem d_W_law_831 : decode me_W_law.2.1 831 = .ok (.iconst 1, 1) := by decide +kernel
theorem d_W_law_832 : decode me_W_law.2.1 832 = .ok (.iadd, 1) := by decide +kernel
theorem d_W_law_833 : decode me_W_law.2.1 833 = .ok (.iaload, 1) := by decide +kernel
theorem d_W_law_834 : decode me_W_law.2.1 834 = .ok (.aload_n 0, 1) := by decide +kernel
theorem d_W_law_835 : decode me_W_law.2.1 835 = .ok (.iload 4, 2) := by decide +kernel
theorem d_W_law_837 : decode me_W_law.2.1 837 = .ok (.iconst 2, 1) := by decide +kernel
theorem d_W_law_838 : decode me_W_law.2.1 838 = .ok (.iadd, 1) := by decide +kernel
theorem d_W_law_839 : decode me_W_law.2.1 839 = .ok (.iaload, 1) := by decide +kernel
theorem d_W_law_840 : decode me_W_law.2.1 840 = .ok (.invokevirtual 103, 3) := by decide +kernel
theorem ml_W_103 : Cond.methodLink "BatchHallLaw" 103 me_H_token.1 ∈ bm_Ts := bm_in 580 (by decide +kernel) (by decide +kernel)
theorem kc_H_token : Cond.code me_H_token.1 me_H_token.2.1 me_H_token.2.2.1 me_H_token.2.2.2.1 ∈ bm_Ts := bm_in 583 (by decide +kernel) (by decide +kernel)
theorem ki_H_token : Cond.instanceMethod me_H_token.1 ∈ bm_Ts := bm_in 581 (by decide +kernel) (by decide +kernel)
theorem ks_H_token : Cond.selects me_H_token.1.cls me_H_token.1 me_H_token.1 ∈ bm_Ts := bm_in 582 (by decide +kernel) (by decide +kernel)
theorem c_W_law_840 : bm_iv me_W_law me_H_token 840 0 2 := ⟨_, d_W_law_840, Or.inl ml_W_103, ⟨kc_H_token, in_BatchHall, by decide +kernel, by decide, by decide⟩, ki_H_token, ks_H_token, _, _, rfl⟩
theorem d_W_law_843 : decode me_W_law.2.1 843 = .ok (.aload_n 2, 1) := by decide +kernel
theorem d_W_law_844 : decode me_W_law.2.1 844 = .ok (.aload_n 0, 1) := by decide +kernel
theorem d_W_law_845 : decode me_W_law.2.1 845 = .ok (.iload 4, 2) := by decide +kernel
theorem d_W_law_847 : decode me_W_law.2.1 847 = .ok (.iconst 1, 1) := by decide +kernel
theorem d_W_law_848 : decode me_W_law.2.1 848 = .ok (.iadd, 1) := by decide +kernel
theorem d_W_law_849 : decode me_W_law.2.1 849 = .ok (.iaload, 1) := by decide +kernel
theorem d_W_law_850 : decode me_W_law.2.1 850 = .ok (.aload_n 0, 1) := by decide +kernel
theorem d_W_law_851 : decode me_W_law.2.1 851 = .ok (.iload 4, 2) := by decide +kernel
theorem d_W_law_853 : decode me_W_law.2.1 853 = .ok (.iconst 2, 1) := by decide +kernel
theorem d_W_law_854 : decode me_W_law.2.1 854 = .ok (.iadd, 1) := by decide +kernel
theorem d_W_law_855 : decode me_W_law.2.1 855 = .ok (.iaload, 1) := by decide +kernel
theorem d_W_law_856 : decode me_W_law.2.1 856 = .ok (.invokevirtual 106, 3) := by decide +kernel
theorem ml_W_106 : Cond.methodLink "BatchHallLaw" 106 me_M_token.1 ∈ bm_Ts := bm_in 1299 (by decide +kernel) (by decide +kernel)
theorem kc_M_token : Cond.code me_M_token.1 me_M_token.2.1 me_M_token.2.2.1 me_M_token.2.2.2.1 ∈ bm_Ts := bm_in 1302 (by decide +kernel) (by decide +kernel)
theorem ki_M_token : Cond.instanceMethod me_M_token.1 ∈ bm_Ts := bm_in 1300 (by decide +kernel) (by decide +kernel)
theorem ks_M_token : Cond.selects me_M_token.1.cls me_M_token.1 me_M_token.1 ∈ bm_Ts := bm_in 1301 (by decide +kernel) (by decide +kernel)
theorem c_W_law_856 : bm_iv me_W_law me_M_token 856 11 2 := ⟨_, d_W_law_856, Or.inl ml_W_106, ⟨kc_M_token, in_BatchHallModel, by decide +kernel, by decide, by decide⟩, ki_M_token, ks_M_token, _, _, rfl⟩
theorem d_W_law_859 : decode me_W_law.2.1 859 = .ok (.if_icmp .eq (292), 3) := by decide +kernel
theorem d_W_law_862 : decode me_W_law.2.1 862 = .ok (.iconst 0, 1) := by decide +kernel
theorem d_W_law_863 : decode me_W_law.2.1 863 = .ok (.ireturn, 1) := by decide +kernel
theorem d_W_law_864 : decode me_W_law.2.1 864 = .ok (.aload_n 1, 1) := by decide +kernel
theorem d_W_law_865 : decode me_W_law.2.1 865 = .ok (.aload_n 0, 1) := by decide +kernel
theorem d_W_law_866 : decode me_W_law.2.1 866 = .ok (.iload 4, 2) := by decide +kernel
theorem d_W_law_868 : decode me_W_law.2.1 868 = .ok (.iconst 1, 1) := by decide +kernel
theorem d_W_law_869 : decode me_W_law.2.1 869 = .ok (.iadd, 1) := by decide +kernel
theorem d_W_law_870 : decode me_W_law.2.1 870 = .ok (.iaload, 1) := by decide +kernel
theorem d_W_law_871 : decode me_W_law.2.1 871 = .ok (.aload_n 0, 1) := by decide +kernel
theorem d_W_law_872 : decode me_W_law.2.1 872 = .ok (.iload 4, 2) := by decide +kernel
theorem d_W_law_874 : decode me_W_law.2.1 874 = .ok (.iconst 2, 1) := by decide +kernel
theorem d_W_law_875 : decode me_W_law.2.1 875 = .ok (.iadd, 1) := by decide +kernel
theorem d_W_law_876 : decode me_W_law.2.1 876 = .ok (.iaload, 1) := by decide +kernel
theorem d_W_law_877 : decode me_W_law.2.1 877 = .ok (.invokevirtual 107, 3) := by decide +kernel
theorem ml_W_107 : Cond.methodLink "BatchHallLaw" 107 me_H_unitOf.1 ∈ bm_Ts := bm_in 584 (by decide +kernel) (by decide +kernel)
theorem kc_H_unitOf : Cond.code me_H_unitOf.1 me_H_unitOf.2.1 me_H_unitOf.2.2.1 me_H_unitOf.2.2.2.1 ∈ bm_Ts := bm_in 587 (by decide +kernel) (by decide +kernel)
theorem ki_H_unitOf : Cond.instanceMethod me_H_unitOf.1 ∈ bm_Ts := bm_in 585 (by decide +kernel) (by decide +kernel)
theorem ks_H_unitOf : Cond.selects me_H_unitOf.1.cls me_H_unitOf.1 me_H_unitOf.1 ∈ bm_Ts := bm_in 586 (by decide +kernel) (by decide +kernel)
theorem c_W_law_877 : bm_iv me_W_law me_H_unitOf 877 0 2 := ⟨_, d_W_law_877, Or.inl ml_W_107, ⟨kc_H_unitOf, in_BatchHall, by decide +kernel, by decide, by decide⟩, ki_H_unitOf, ks_H_unitOf, _, _, rfl⟩
theorem d_W_law_880 : decode me_W_law.2.1 880 = .ok (.aload_n 2, 1) := by decide +kernel
theorem d_W_law_881 : decode me_W_law.2.1 881 = .ok (.aload_n 0, 1) := by decide +kernel
theorem d_W_law_882 : decode me_W_law.2.1 882 = .ok (.iload 4, 2) := by decide +kernel
theorem d_W_law_884 : decode me_W_law.2.1 884 = .ok (.iconst 1, 1) := by decide +kernel
theorem d_W_law_885 : decode me_W_law.2.1 885 = .ok (.iadd, 1) := by decide +kernel
theorem d_W_law_886 : decode me_W_law.2.1 886 = .ok (.iaload, 1) := by decide +kernel
theorem d_W_law_887 : decode me_W_law.2.1 887 = .ok (.aload_n 0, 1) := by decide +kernel
theorem d_W_law_888 : decode me_W_law.2.1 888 = .ok (.iload 4, 2) := by decide +kernel
theorem d_W_law_890 : decode me_W_law.2.1 890 = .ok (.iconst 2, 1) := by decide +kernel
theorem d_W_law_891 : decode me_W_law.2.1 891 = .ok (.iadd, 1) := by decide +kernel
theorem d_W_law_892 : decode me_W_law.2.1 892 = .ok (.iaload, 1) := by decide +kernel
theorem d_W_law_893 : decode me_W_law.2.1 893 = .ok (.invokevirtual 110, 3) := by decide +kernel
theorem ml_W_110 : Cond.methodLink "BatchHallLaw" 110 me_M_unitOf.1 ∈ bm_Ts := bm_in 1303 (by decide +kernel) (by decide +kernel)
theorem kc_M_unitOf : Cond.code me_M_unitOf.1 me_M_unitOf.2.1 me_M_unitOf.2.2.1 me_M_unitOf.2.2.2.1 ∈ bm_Ts := bm_in 1306 (by decide +kernel) (by decide +kernel)
theorem ki_M_unitOf : Cond.instanceMethod me_M_unitOf.1 ∈ bm_Ts := bm_in 1304 (by decide +kernel) (by decide +kernel)
theorem ks_M_unitOf : Cond.selects me_M_unitOf.1.cls me_M_unitOf.1 me_M_unitOf.1 ∈ bm_Ts := bm_in 1305 (by decide +kernel) (by decide +kernel)
theorem c_W_law_893 : bm_iv me_W_law me_M_unitOf 893 11 2 := ⟨_, d_W_law_893, Or.inl ml_W_110, ⟨kc_M_unitOf, in_BatchHallModel, by decide +kernel, by decide, by decide⟩, ki_M_unitOf, ks_M_unitOf, _, _, rfl⟩
theorem d_W_law_896 : decode me_W_law.2.1 896 = .ok (.if_icmp .eq (255), 3) := by decide +kernel
theorem d_W_law_899 : decode me_W_law.2.1 899 = .ok (.iconst 0, 1) := by decide +kernel
theorem d_W_law_900 : decode me_W_law.2.1 900 = .ok (.ireturn, 1) := by decide +kernel
theorem d_W_law_901 : decode me_W_law.2.1 901 = .ok (.aload_n 1, 1) := by decide +kernel
theorem d_W_law_902 : decode me_W_law.2.1 902 = .ok (.aload_n 0, 1) := by decide +kernel
theorem d_W_law_903 : decode me_W_law.2.1 903 = .ok (.iload 4, 2) := by decide +kernel
theorem d_W_law_905 : decode me_W_law.2.1 905 = .ok (.iconst 1, 1) := by decide +kernel
theorem d_W_law_906 : decode me_W_law.2.1 906 = .ok (.iadd, 1) := by decide +kernel
theorem d_W_law_907 : decode me_W_law.2.1 907 = .ok (.iaload, 1) := by decide +kernel
theorem d_W_law_908 : decode me_W_law.2.1 908 = .ok (.aload_n 0, 1) := by decide +kernel
theorem d_W_law_909 : decode me_W_law.2.1 909 = .ok (.iload 4, 2) := by decide +kernel
theorem d_W_law_911 : decode me_W_law.2.1 911 = .ok (.iconst 2, 1) := by decide +kernel
theorem d_W_law_912 : decode me_W_law.2.1 912 = .ok (.iadd, 1) := by decide +kernel
theorem d_W_law_913 : decode me_W_law.2.1 913 = .ok (.iaload, 1) := by decide +kernel
theorem d_W_law_914 : decode me_W_law.2.1 914 = .ok (.invokevirtual 111, 3) := by decide +kernel
theorem ml_W_111 : Cond.methodLink "BatchHallLaw" 111 me_H_unitIs.1 ∈ bm_Ts := bm_in 588 (by decide +kernel) (by decide +kernel)
theorem kc_H_unitIs : Cond.code me_H_unitIs.1 me_H_unitIs.2.1 me_H_unitIs.2.2.1 me_H_unitIs.2.2.2.1 ∈ bm_Ts := bm_in 591 (by decide +kernel) (by decide +kernel)
theorem ki_H_unitIs : Cond.instanceMethod me_H_unitIs.1 ∈ bm_Ts := bm_in 589 (by decide +kernel) (by decide +kernel)
theorem ks_H_unitIs : Cond.selects me_H_unitIs.1.cls me_H_unitIs.1 me_H_unitIs.1 ∈ bm_Ts := bm_in 590 (by decide +kernel) (by decide +kernel)
theorem c_W_law_914 : bm_iv me_W_law me_H_unitIs 914 0 2 := ⟨_, d_W_law_914, Or.inl ml_W_111, ⟨kc_H_unitIs, in_BatchHall, by decide +kernel, by decide, by decide⟩, ki_H_unitIs, ks_H_unitIs, _, _, rfl⟩
theorem d_W_law_917 : decode me_W_law.2.1 917 = .ok (.aload_n 2, 1) := by decide +kernel
theorem d_W_law_918 : decode me_W_law.2.1 918 = .ok (.aload_n 0, 1) := by decide +kernel
theorem d_W_law_919 : decode me_W_law.2.1 919 = .ok (.iload 4, 2) := by decide +kernel
theorem d_W_law_921 : decode me_W_law.2.1 921 = .ok (.iconst 1, 1) := by decide +kernel
theorem d_W_law_922 : decode me_W_law.2.1 922 = .ok (.iadd, 1) := by decide +kernel
theorem d_W_law_923 : decode me_W_law.2.1 923 = .ok (.iaload, 1) := by decide +kernel
theorem d_W_law_924 : decode me_W_law.2.1 924 = .ok (.aload_n 0, 1) := by decide +kernel
theorem d_W_law_925 : decode me_W_law.2.1 925 = .ok (.iload 4, 2) := by decide +kernel
theorem d_W_law_927 : decode me_W_law.2.1 927 = .ok (.iconst 2, 1) := by decide +kernel
theorem d_W_law_928 : decode me_W_law.2.1 928 = .ok (.iadd, 1) := by decide +kernel
theorem d_W_law_929 : decode me_W_law.2.1 929 = .ok (.iaload, 1) := by decide +kernel
theorem d_W_law_930 : decode me_W_law.2.1 930 = .ok (.invokevirtual 114, 3) := by decide +kernel
theorem ml_W_114 : Cond.methodLink "BatchHallLaw" 114 me_M_unitIs.1 ∈ bm_Ts := bm_in 1307 (by decide +kernel) (by decide +kernel)
theorem kc_M_unitIs : Cond.code me_M_unitIs.1 me_M_unitIs.2.1 me_M_unitIs.2.2.1 me_M_unitIs.2.2.2.1 ∈ bm_Ts := bm_in 1310 (by decide +kernel) (by decide +kernel)
theorem ki_M_unitIs : Cond.instanceMethod me_M_unitIs.1 ∈ bm_Ts := bm_in 1308 (by decide +kernel) (by decide +kernel)
theorem ks_M_unitIs : Cond.selects me_M_unitIs.1.cls me_M_unitIs.1 me_M_unitIs.1 ∈ bm_Ts := bm_in 1309 (by decide +kernel) (by decide +kernel)
theorem c_W_law_930 : bm_iv me_W_law me_M_unitIs 930 11 2 := ⟨_, d_W_law_930, Or.inl ml_W_114, ⟨kc_M_unitIs, in_BatchHallModel, by decide +kernel, by decide, by decide⟩, ki_M_unitIs, ks_M_unitIs, _, _, rfl⟩
theorem d_W_law_933 : decode me_W_law.2.1 933 = .ok (.if_icmp .eq (218), 3) := by decide +kernel
theorem d_W_law_936 : decode me_W_law.2.1 936 = .ok (.iconst 0, 1) := by decide +kernel
theorem d_W_law_937 : decode me_W_law.2.1 937 = .ok (.ireturn, 1) := by decide +kernel
theorem d_W_law_938 : decode me_W_law.2.1 938 = .ok (.aload_n 1, 1) := by decide +kernel
theorem d_W_law_939 : decode me_W_law.2.1 939 = .ok (.aload_n 0, 1) := by decide +kernel
theorem d_W_law_940 : decode me_W_law.2.1 940 = .ok (.iload 4, 2) := by decide +kernel
theorem d_W_law_942 : decode me_W_law.2.1 942 = .ok (.iconst 1, 1) := by decide +kernel
theorem d_W_law_943 : decode me_W_law.2.1 943 = .ok (.iadd, 1) := by decide +kernel
theorem d_W_law_944 : decode me_W_law.2.1 944 = .ok (.iaload, 1) := by decide +kernel
theorem d_W_law_945 : decode me_W_law.2.1 945 = .ok (.aload_n 0, 1) := by decide +kernel
theorem d_W_law_946 : decode me_W_law.2.1 946 = .ok (.iload 4, 2) := by decide +kernel
theorem d_W_law_948 : decode me_W_law.2.1 948 = .ok (.iconst 2, 1) := by decide +kernel
theorem d_W_law_949 : decode me_W_law.2.1 949 = .ok (.iadd, 1) := by decide +kernel
theorem d_W_law_950 : decode me_W_law.2.1 950 = .ok (.iaload, 1) := by decide +kernel
theorem d_W_law_951 : decode me_W_law.2.1 951 = .ok (.aload_n 0, 1) := by decide +kernel
theorem d_W_law_952 : decode me_W_law.2.1 952 = .ok (.iload 4, 2) := by decide +kernel
theorem d_W_law_954 : decode me_W_law.2.1 954 = .ok (.iconst 3, 1) := by decide +kernel
theorem d_W_law_955 : decode me_W_law.2.1 955 = .ok (.iadd, 1) := by decide +kernel
theorem d_W_law_956 : decode me_W_law.2.1 956 = .ok (.iaload, 1) := by decide +kernel
theorem d_W_law_957 : decode me_W_law.2.1 957 = .ok (.invokevirtual 115, 3) := by decide +kernel
theorem ml_W_115 : Cond.methodLink "BatchHallLaw" 115 me_H_content.1 ∈ bm_Ts := bm_in 593 (by decide +kernel) (by decide +kernel)
theorem kc_H_content : Cond.code me_H_content.1 me_H_content.2.1 me_H_content.2.2.1 me_H_content.2.2.2.1 ∈ bm_Ts := bm_in 596 (by decide +kernel) (by decide +kernel)
theorem ki_H_content : Cond.instanceMethod me_H_content.1 ∈ bm_Ts := bm_in 594 (by decide +kernel) (by decide +kernel)
theorem ks_H_content : Cond.selects me_H_content.1.cls me_H_content.1 me_H_content.1 ∈ bm_Ts := bm_in 595 (by decide +kernel) (by decide +kernel)
theorem c_W_law_957 : bm_iv me_W_law me_H_content 957 0 3 := ⟨_, d_W_law_957, Or.inl ml_W_115, ⟨kc_H_content, in_BatchHall, by decide +kernel, by decide, by decide⟩, ki_H_content, ks_H_content, _, _, rfl⟩
theorem d_W_law_960 : decode me_W_law.2.1 960 = .ok (.aload_n 2, 1) := by decide +kernel
theorem d_W_law_961 : decode me_W_law.2.1 961 = .ok (.aload_n 0, 1) := by decide +kernel
theorem d_W_law_962 : decode me_W_law.2.1 962 = .ok (.iload 4, 2) := by decide +kernel
theorem d_W_law_964 : decode me_W_law.2.1 964 = .ok (.iconst 1, 1) := by decide +kernel
theorem d_W_law_965 : decode me_W_law.2.1 965 = .ok (.iadd, 1) := by decide +kernel
theorem d_W_law_966 : decode me_W_law.2.1 966 = .ok (.iaload, 1) := by decide +kernel
theorem d_W_law_967 : decode me_W_law.2.1 967 = .ok (.aload_n 0, 1) := by decide +kernel
theorem d_W_law_968 : decode me_W_law.2.1 968 = .ok (.iload 4, 2) := by decide +kernel
theorem d_W_law_970 : decode me_W_law.2.1 970 = .ok (.iconst 2, 1) := by decide +kernel
theorem d_W_law_971 : decode me_W_law.2.1 971 = .ok (.iadd, 1) := by decide +kernel
theorem d_W_law_972 : decode me_W_law.2.1 972 = .ok (.iaload, 1) := by decide +kernel
theorem d_W_law_973 : decode me_W_law.2.1 973 = .ok (.aload_n 0, 1) := by decide +kernel
theorem d_W_law_974 : decode me_W_law.2.1 974 = .ok (.iload 4, 2) := by decide +kernel
theorem d_W_law_976 : decode me_W_law.2.1 976 = .ok (.iconst 3, 1) := by decide +kernel
theorem d_W_law_977 : decode me_W_law.2.1 977 = .ok (.iadd, 1) := by decide +kernel
theorem d_W_law_978 : decode me_W_law.2.1 978 = .ok (.iaload, 1) := by decide +kernel
theorem d_W_law_979 : decode me_W_law.2.1 979 = .ok (.invokevirtual 119, 3) := by decide +kernel
theorem ml_W_119 : Cond.methodLink "BatchHallLaw" 119 me_M_content.1 ∈ bm_Ts := bm_in 1311 (by decide +kernel) (by decide +kernel)
theorem kc_M_content : Cond.code me_M_content.1 me_M_content.2.1 me_M_content.2.2.1 me_M_content.2.2.2.1 ∈ bm_Ts := bm_in 1314 (by decide +kernel) (by decide +kernel)
theorem ki_M_content : Cond.instanceMethod me_M_content.1 ∈ bm_Ts := bm_in 1312 (by decide +kernel) (by decide +kernel)
theorem ks_M_content : Cond.selects me_M_content.1.cls me_M_content.1 me_M_content.1 ∈ bm_Ts := bm_in 1313 (by decide +kernel) (by decide +kernel)
theorem c_W_law_979 : bm_iv me_W_law me_M_content 979 11 3 := ⟨_, d_W_law_979, Or.inl ml_W_119, ⟨kc_M_content, in_BatchHallModel, by decide +kernel, by decide, by decide⟩, ki_M_content, ks_M_content, _, _, rfl⟩
theorem d_W_law_982 : decode me_W_law.2.1 982 = .ok (.if_icmp .eq (169), 3) := by decide +kernel
theorem d_W_law_985 : decode me_W_law.2.1 985 = .ok (.iconst 0, 1) := by decide +kernel
theorem d_W_law_986 : decode me_W_law.2.1 986 = .ok (.ireturn, 1) := by decide +kernel
theorem d_W_law_987 : decode me_W_law.2.1 987 = .ok (.aload_n 1, 1) := by decide +kernel
theorem d_W_law_988 : decode me_W_law.2.1 988 = .ok (.aload_n 0, 1) := by decide +kernel
theorem d_W_law_989 : decode me_W_law.2.1 989 = .ok (.iload 4, 2) := by decide +kernel
theorem d_W_law_991 : decode me_W_law.2.1 991 = .ok (.iconst 1, 1) := by decide +kernel
theorem d_W_law_992 : decode me_W_law.2.1 992 = .ok (.iadd, 1) := by decide +kernel
theorem d_W_law_993 : decode me_W_law.2.1 993 = .ok (.iaload, 1) := by decide +kernel
theorem d_W_law_994 : decode me_W_law.2.1 994 = .ok (.aload_n 0, 1) := by decide +kernel
theorem d_W_law_995 : decode me_W_law.2.1 995 = .ok (.iload 4, 2) := by decide +kernel
theorem d_W_law_997 : decode me_W_law.2.1 997 = .ok (.iconst 2, 1) := by decide +kernel
theorem d_W_law_998 : decode me_W_law.2.1 998 = .ok (.iadd, 1) := by decide +kernel
theorem d_W_law_999 : decode me_W_law.2.1 999 = .ok (.iaload, 1) := by decide +kernel
theorem d_W_law_1000 : decode me_W_law.2.1 1000 = .ok (.invokevirtual 120, 3) := by decide +kernel
theorem ml_W_120 : Cond.methodLink "BatchHallLaw" 120 me_H_lot.1 ∈ bm_Ts := bm_in 597 (by decide +kernel) (by decide +kernel)
theorem kc_H_lot : Cond.code me_H_lot.1 me_H_lot.2.1 me_H_lot.2.2.1 me_H_lot.2.2.2.1 ∈ bm_Ts := bm_in 600 (by decide +kernel) (by decide +kernel)
theorem ki_H_lot : Cond.instanceMethod me_H_lot.1 ∈ bm_Ts := bm_in 598 (by decide +kernel) (by decide +kernel)
theorem ks_H_lot : Cond.selects me_H_lot.1.cls me_H_lot.1 me_H_lot.1 ∈ bm_Ts := bm_in 599 (by decide +kernel) (by decide +kernel)
theorem c_W_law_1000 : bm_iv me_W_law me_H_lot 1000 0 2 := ⟨_, d_W_law_1000, Or.inl ml_W_120, ⟨kc_H_lot, in_BatchHall, by decide +kernel, by decide, by decide⟩, ki_H_lot, ks_H_lot, _, _, rfl⟩
theorem d_W_law_1003 : decode me_W_law.2.1 1003 = .ok (.aload_n 2, 1) := by decide +kernel
theorem d_W_law_1004 : decode me_W_law.2.1 1004 = .ok (.aload_n 0, 1) := by decide +kernel
theorem d_W_law_1005 : decode me_W_law.2.1 1005 = .ok (.iload 4, 2) := by decide +kernel
theorem d_W_law_1007 : decode me_W_law.2.1 1007 = .ok (.iconst 1, 1) := by decide +kernel
theorem d_W_law_1008 : decode me_W_law.2.1 1008 = .ok (.iadd, 1) := by decide +kernel
theorem d_W_law_1009 : decode me_W_law.2.1 1009 = .ok (.iaload, 1) := by decide +kernel
theorem d_W_law_1010 : decode me_W_law.2.1 1010 = .ok (.aload_n 0, 1) := by decide +kernel
theorem d_W_law_1011 : decode me_W_law.2.1 1011 = .ok (.iload 4, 2) := by decide +kernel
theorem d_W_law_1013 : decode me_W_law.2.1 1013 = .ok (.iconst 2, 1) := by decide +kernel
theorem d_W_law_1014 : decode me_W_law.2.1 1014 = .ok (.iadd, 1) := by decide +kernel
theorem d_W_law_1015 : decode me_W_law.2.1 1015 = .ok (.iaload, 1) := by decide +kernel
theorem d_W_law_1016 : decode me_W_law.2.1 1016 = .ok (.invokevirtual 123, 3) := by decide +kernel
theorem ml_W_123 : Cond.methodLink "BatchHallLaw" 123 me_M_lot.1 ∈ bm_Ts := bm_in 1315 (by decide +kernel) (by decide +kernel)
theorem kc_M_lot : Cond.code me_M_lot.1 me_M_lot.2.1 me_M_lot.2.2.1 me_M_lot.2.2.2.1 ∈ bm_Ts := bm_in 1318 (by decide +kernel) (by decide +kernel)
theorem ki_M_lot : Cond.instanceMethod me_M_lot.1 ∈ bm_Ts := bm_in 1316 (by decide +kernel) (by decide +kernel)
theorem ks_M_lot : Cond.selects me_M_lot.1.cls me_M_lot.1 me_M_lot.1 ∈ bm_Ts := bm_in 1317 (by decide +kernel) (by decide +kernel)
theorem c_W_law_1016 : bm_iv me_W_law me_M_lot 1016 11 2 := ⟨_, d_W_law_1016, Or.inl ml_W_123, ⟨kc_M_lot, in_BatchHallModel, by decide +kernel, by decide, by decide⟩, ki_M_lot, ks_M_lot, _, _, rfl⟩
theorem d_W_law_1019 : decode me_W_law.2.1 1019 = .ok (.if_icmp .eq (132), 3) := by decide +kernel
theorem d_W_law_1022 : decode me_W_law.2.1 1022 = .ok (.iconst 0, 1) := by decide +kernel
theorem d_W_law_1023 : decode me_W_law.2.1 1023 = .ok (.ireturn, 1) := by decide +kernel
theorem d_W_law_1024 : decode me_W_law.2.1 1024 = .ok (.aload_n 1, 1) := by decide +kernel
theorem d_W_law_1025 : decode me_W_law.2.1 1025 = .ok (.aload_n 0, 1) := by decide +kernel
theorem d_W_law_1026 : decode me_W_law.2.1 1026 = .ok (.iload 4, 2) := by decide +kernel
theorem d_W_law_1028 : decode me_W_law.2.1 1028 = .ok (.iconst 1, 1) := by decide +kernel
theorem d_W_law_1029 : decode me_W_law.2.1 1029 = .ok (.iadd, 1) := by decide +kernel
theorem d_W_law_1030 : decode me_W_law.2.1 1030 = .ok (.iaload, 1) := by decide +kernel
theorem d_W_law_1031 : decode me_W_law.2.1 1031 = .ok (.aload_n 0, 1) := by decide +kernel
theorem d_W_law_1032 : decode me_W_law.2.1 1032 = .ok (.iload 4, 2) := by decide +kernel
theorem d_W_law_1034 : decode me_W_law.2.1 1034 = .ok (.iconst 2, 1) := by decide +kernel
theorem d_W_law_1035 : decode me_W_law.2.1 1035 = .ok (.iadd, 1) := by decide +kernel
theorem d_W_law_1036 : decode me_W_law.2.1 1036 = .ok (.iaload, 1) := by decide +kernel
theorem d_W_law_1037 : decode me_W_law.2.1 1037 = .ok (.aload_n 0, 1) := by decide +kernel
theorem d_W_law_1038 : decode me_W_law.2.1 1038 = .ok (.iload 4, 2) := by decide +kernel
theorem d_W_law_1040 : decode me_W_law.2.1 1040 = .ok (.iconst 3, 1) := by decide +kernel
theorem d_W_law_1041 : decode me_W_law.2.1 1041 = .ok (.iadd, 1) := by decide +kernel
theorem d_W_law_1042 : decode me_W_law.2.1 1042 = .ok (.iaload, 1) := by decide +kernel
theorem d_W_law_1043 : decode me_W_law.2.1 1043 = .ok (.invokevirtual 124, 3) := by decide +kernel
theorem ml_W_124 : Cond.methodLink "BatchHallLaw" 124 me_H_from.1 ∈ bm_Ts := bm_in 609 (by decide +kernel) (by decide +kernel)
theorem kc_H_from : Cond.code me_H_from.1 me_H_from.2.1 me_H_from.2.2.1 me_H_from.2.2.2.1 ∈ bm_Ts := bm_in 612 (by decide +kernel) (by decide +kernel)
theorem ki_H_from : Cond.instanceMethod me_H_from.1 ∈ bm_Ts := bm_in 610 (by decide +kernel) (by decide +kernel)
theorem ks_H_from : Cond.selects me_H_from.1.cls me_H_from.1 me_H_from.1 ∈ bm_Ts := bm_in 611 (by decide +kernel) (by decide +kernel)
theorem c_W_law_1043 : bm_iv me_W_law me_H_from 1043 0 3 := ⟨_, d_W_law_1043, Or.inl ml_W_124, ⟨kc_H_from, in_BatchHall, by decide +kernel, by decide, by decide⟩, ki_H_from, ks_H_from, _, _, rfl⟩
theorem d_W_law_1046 : decode me_W_law.2.1 1046 = .ok (.aload_n 2, 1) := by decide +kernel
theorem d_W_law_1047 : decode me_W_law.2.1 1047 = .ok (.aload_n 0, 1) := by decide +kernel
theorem d_W_law_1048 : decode me_W_law.2.1 1048 = .ok (.iload 4, 2) := by decide +kernel
theorem d_W_law_1050 : decode me_W_law.2.1 1050 = .ok (.iconst 1, 1) := by decide +kernel
theorem d_W_law_1051 : decode me_W_law.2.1 1051 = .ok (.iadd, 1) := by decide +kernel
theorem d_W_law_1052 : decode me_W_law.2.1 1052 = .ok (.iaload, 1) := by decide +kernel
theorem d_W_law_1053 : decode me_W_law.2.1 1053 = .ok (.aload_n 0, 1) := by decide +kernel
theorem d_W_law_1054 : decode me_W_law.2.1 1054 = .ok (.iload 4, 2) := by decide +kernel
theorem d_W_law_1056 : decode me_W_law.2.1 1056 = .ok (.iconst 2, 1) := by decide +kernel
theorem d_W_law_1057 : decode me_W_law.2.1 1057 = .ok (.iadd, 1) := by decide +kernel
theorem d_W_law_1058 : decode me_W_law.2.1 1058 = .ok (.iaload, 1) := by decide +kernel
theorem d_W_law_1059 : decode me_W_law.2.1 1059 = .ok (.aload_n 0, 1) := by decide +kernel
theorem d_W_law_1060 : decode me_W_law.2.1 1060 = .ok (.iload 4, 2) := by decide +kernel
theorem d_W_law_1062 : decode me_W_law.2.1 1062 = .ok (.iconst 3, 1) := by decide +kernel
theorem d_W_law_1063 : decode me_W_law.2.1 1063 = .ok (.iadd, 1) := by decide +kernel
theorem d_W_law_1064 : decode me_W_law.2.1 1064 = .ok (.iaload, 1) := by decide +kernel
theorem d_W_law_1065 : decode me_W_law.2.1 1065 = .ok (.invokevirtual 127, 3) := by decide +kernel
theorem ml_W_127 : Cond.methodLink "BatchHallLaw" 127 me_M_from.1 ∈ bm_Ts := bm_in 1323 (by decide +kernel) (by decide +kernel)
theorem kc_M_from : Cond.code me_M_from.1 me_M_from.2.1 me_M_from.2.2.1 me_M_from.2.2.2.1 ∈ bm_Ts := bm_in 1326 (by decide +kernel) (by decide +kernel)
theorem ki_M_from : Cond.instanceMethod me_M_from.1 ∈ bm_Ts := bm_in 1324 (by decide +kernel) (by decide +kernel)
theorem ks_M_from : Cond.selects me_M_from.1.cls me_M_from.1 me_M_from.1 ∈ bm_Ts := bm_in 1325 (by decide +kernel) (by decide +kernel)
theorem c_W_law_1065 : bm_iv me_W_law me_M_from 1065 11 3 := ⟨_, d_W_law_1065, Or.inl ml_W_127, ⟨kc_M_from, in_BatchHallModel, by decide +kernel, by decide, by decide⟩, ki_M_from, ks_M_from, _, _, rfl⟩
theorem d_W_law_1068 : decode me_W_law.2.1 1068 = .ok (.if_icmp .eq (83), 3) := by decide +kernel
theorem d_W_law_1071 : decode me_W_law.2.1 1071 = .ok (.iconst 0, 1) := by decide +kernel
theorem d_W_law_1072 : decode me_W_law.2.1 1072 = .ok (.ireturn, 1) := by decide +kernel
theorem d_W_law_1073 : decode me_W_law.2.1 1073 = .ok (.aload_n 1, 1) := by decide +kernel
theorem d_W_law_1074 : decode me_W_law.2.1 1074 = .ok (.aload_n 0, 1) := by decide +kernel
theorem d_W_law_1075 : decode me_W_law.2.1 1075 = .ok (.iload 4, 2) := by decide +kernel
theorem d_W_law_1077 : decode me_W_law.2.1 1077 = .ok (.iconst 1, 1) := by decide +kernel
theorem d_W_law_1078 : decode me_W_law.2.1 1078 = .ok (.iadd, 1) := by decide +kernel
theorem d_W_law_1079 : decode me_W_law.2.1 1079 = .ok (.iaload, 1) := by decide +kernel
theorem d_W_law_1080 : decode me_W_law.2.1 1080 = .ok (.aload_n 0, 1) := by decide +kernel
theorem d_W_law_1081 : decode me_W_law.2.1 1081 = .ok (.iload 4, 2) := by decide +kernel
theorem d_W_law_1083 : decode me_W_law.2.1 1083 = .ok (.iconst 2, 1) := by decide +kernel
theorem d_W_law_1084 : decode me_W_law.2.1 1084 = .ok (.iadd, 1) := by decide +kernel
theorem d_W_law_1085 : decode me_W_law.2.1 1085 = .ok (.iaload, 1) := by decide +kernel
theorem d_W_law_1086 : decode me_W_law.2.1 1086 = .ok (.ifCond .eq (7), 3) := by decide +kernel
theorem d_W_law_1089 : decode me_W_law.2.1 1089 = .ok (.iconst 1, 1) := by decide +kernel
theorem d_W_law_1090 : decode me_W_law.2.1 1090 = .ok (.goto (4), 3) := by decide +kernel
theorem d_W_law_1093 : decode me_W_law.2.1 1093 = .ok (.iconst 0, 1) := by decide +kernel
theorem d_W_law_1094 : decode me_W_law.2.1 1094 = .ok (.aload_n 0, 1) := by decide +kernel
theorem d_W_law_1095 : decode me_W_law.2.1 1095 = .ok (.iload 4, 2) := by decide +kernel
theorem d_W_law_1097 : decode me_W_law.2.1 1097 = .ok (.iconst 3, 1) := by decide +kernel
theorem d_W_law_1098 : decode me_W_law.2.1 1098 = .ok (.iadd, 1) := by decide +kernel
theorem d_W_law_1099 : decode me_W_law.2.1 1099 = .ok (.iaload, 1) := by decide +kernel
theorem d_W_law_1100 : decode me_W_law.2.1 1100 = .ok (.invokevirtual 128, 3) := by decide +kernel
theorem ml_W_128 : Cond.methodLink "BatchHallLaw" 128 me_H_trace.1 ∈ bm_Ts := bm_in 613 (by decide +kernel) (by decide +kernel)
theorem kc_H_trace : Cond.code me_H_trace.1 me_H_trace.2.1 me_H_trace.2.2.1 me_H_trace.2.2.2.1 ∈ bm_Ts := bm_in 616 (by decide +kernel) (by decide +kernel)
theorem ki_H_trace : Cond.instanceMethod me_H_trace.1 ∈ bm_Ts := bm_in 614 (by decide +kernel) (by decide +kernel)
theorem ks_H_trace : Cond.selects me_H_trace.1.cls me_H_trace.1 me_H_trace.1 ∈ bm_Ts := bm_in 615 (by decide +kernel) (by decide +kernel)
theorem c_W_law_1100 : bm_iv me_W_law me_H_trace 1100 0 3 := ⟨_, d_W_law_1100, Or.inl ml_W_128, ⟨kc_H_trace, in_BatchHall, by decide +kernel, by decide, by decide⟩, ki_H_trace, ks_H_trace, _, _, rfl⟩
theorem d_W_law_1103 : decode me_W_law.2.1 1103 = .ok (.aload_n 2, 1) := by decide +kernel
theorem d_W_law_1104 : decode me_W_law.2.1 1104 = .ok (.aload_n 0, 1) := by decide +kernel
theorem d_W_law_1105 : decode me_W_law.2.1 1105 = .ok (.iload 4, 2) := by decide +kernel
theorem d_W_law_1107 : decode me_W_law.2.1 1107 = .ok (.iconst 1, 1) := by decide +kernel
theorem d_W_law_1108 : decode me_W_law.2.1 1108 = .ok (.iadd, 1) := by decide +kernel
theorem d_W_law_1109 : decode me_W_law.2.1 1109 = .ok (.iaload, 1) := by decide +kernel
theorem d_W_law_1110 : decode me_W_law.2.1 1110 = .ok (.aload_n 0, 1) := by decide +kernel
theorem d_W_law_1111 : decode me_W_law.2.1 1111 = .ok (.iload 4, 2) := by decide +kernel
theorem d_W_law_1113 : decode me_W_law.2.1 1113 = .ok (.iconst 2, 1) := by decide +kernel
theorem d_W_law_1114 : decode me_W_law.2.1 1114 = .ok (.iadd, 1) := by decide +kernel
theorem d_W_law_1115 : decode me_W_law.2.1 1115 = .ok (.iaload, 1) := by decide +kernel
theorem d_W_law_1116 : decode me_W_law.2.1 1116 = .ok (.ifCond .eq (7), 3) := by decide +kernel
theorem d_W_law_1119 : decode me_W_law.2.1 1119 = .ok (.iconst 1, 1) := by decide +kernel
theorem d_W_law_1120 : decode me_W_law.2.1 1120 = .ok (.goto (4), 3) := by decide +kernel
theorem d_W_law_1123 : decode me_W_law.2.1 1123 = .ok (.iconst 0, 1) := by decide +kernel
theorem d_W_law_1124 : decode me_W_law.2.1 1124 = .ok (.aload_n 0, 1) := by decide +kernel
theorem d_W_law_1125 : decode me_W_law.2.1 1125 = .ok (.iload 4, 2) := by decide +kernel
theorem d_W_law_1127 : decode me_W_law.2.1 1127 = .ok (.iconst 3, 1) := by decide +kernel
theorem d_W_law_1128 : decode me_W_law.2.1 1128 = .ok (.iadd, 1) := by decide +kernel
theorem d_W_law_1129 : decode me_W_law.2.1 1129 = .ok (.iaload, 1) := by decide +kernel
theorem d_W_law_1130 : decode me_W_law.2.1 1130 = .ok (.invokevirtual 132, 3) := by decide +kernel
theorem ml_W_132 : Cond.methodLink "BatchHallLaw" 132 me_M_trace.1 ∈ bm_Ts := bm_in 1327 (by decide +kernel) (by decide +kernel)
theorem kc_M_trace : Cond.code me_M_trace.1 me_M_trace.2.1 me_M_trace.2.2.1 me_M_trace.2.2.2.1 ∈ bm_Ts := bm_in 1330 (by decide +kernel) (by decide +kernel)
theorem ki_M_trace : Cond.instanceMethod me_M_trace.1 ∈ bm_Ts := bm_in 1328 (by decide +kernel) (by decide +kernel)
theorem ks_M_trace : Cond.selects me_M_trace.1.cls me_M_trace.1 me_M_trace.1 ∈ bm_Ts := bm_in 1329 (by decide +kernel) (by decide +kernel)
theorem c_W_law_1130 : bm_iv me_W_law me_M_trace 1130 11 3 := ⟨_, d_W_law_1130, Or.inl ml_W_132, ⟨kc_M_trace, in_BatchHallModel, by decide +kernel, by decide, by decide⟩, ki_M_trace, ks_M_trace, _, _, rfl⟩
theorem d_W_law_1133 : decode me_W_law.2.1 1133 = .ok (.if_icmp .eq (18), 3) := by decide +kernel
theorem d_W_law_1136 : decode me_W_law.2.1 1136 = .ok (.iconst 0, 1) := by decide +kernel
theorem d_W_law_1137 : decode me_W_law.2.1 1137 = .ok (.ireturn, 1) := by decide +kernel
theorem d_W_law_1138 : decode me_W_law.2.1 1138 = .ok (.aload_n 1, 1) := by decide +kernel
theorem d_W_law_1139 : decode me_W_law.2.1 1139 = .ok (.invokevirtual 133, 3) := by decide +kernel
theorem ml_W_133 : Cond.methodLink "BatchHallLaw" 133 me_H_lots.1 ∈ bm_Ts := bm_in 638 (by decide +kernel) (by decide +kernel)
theorem kc_H_lots : Cond.code me_H_lots.1 me_H_lots.2.1 me_H_lots.2.2.1 me_H_lots.2.2.2.1 ∈ bm_Ts := bm_in 641 (by decide +kernel) (by decide +kernel)
theorem ki_H_lots : Cond.instanceMethod me_H_lots.1 ∈ bm_Ts := bm_in 639 (by decide +kernel) (by decide +kernel)
theorem ks_H_lots : Cond.selects me_H_lots.1.cls me_H_lots.1 me_H_lots.1 ∈ bm_Ts := bm_in 640 (by decide +kernel) (by decide +kernel)
theorem c_W_law_1139 : bm_iv me_W_law me_H_lots 1139 0 0 := ⟨_, d_W_law_1139, Or.inl ml_W_133, ⟨kc_H_lots, in_BatchHall, by decide +kernel, by decide, by decide⟩, ki_H_lots, ks_H_lots, _, _, rfl⟩
theorem d_W_law_1142 : decode me_W_law.2.1 1142 = .ok (.aload_n 2, 1) := by decide +kernel
theorem d_W_law_1143 : decode me_W_law.2.1 1143 = .ok (.invokevirtual 136, 3) := by decide +kernel
theorem ml_W_136 : Cond.methodLink "BatchHallLaw" 136 me_M_lots.1 ∈ bm_Ts := bm_in 1335 (by decide +kernel) (by decide +kernel)
theorem kc_M_lots : Cond.code me_M_lots.1 me_M_lots.2.1 me_M_lots.2.2.1 me_M_lots.2.2.2.1 ∈ bm_Ts := bm_in 1338 (by decide +kernel) (by decide +kernel)
theorem ki_M_lots : Cond.instanceMethod me_M_lots.1 ∈ bm_Ts := bm_in 1336 (by decide +kernel) (by decide +kernel)
theorem ks_M_lots : Cond.selects me_M_lots.1.cls me_M_lots.1 me_M_lots.1 ∈ bm_Ts := bm_in 1337 (by decide +kernel) (by decide +kernel)
theorem c_W_law_1143 : bm_iv me_W_law me_M_lots 1143 11 0 := ⟨_, d_W_law_1143, Or.inl ml_W_136, ⟨kc_M_lots, in_BatchHallModel, by decide +kernel, by decide, by decide⟩, ki_M_lots, ks_M_lots, _, _, rfl⟩
theorem d_W_law_1146 : decode me_W_law.2.1 1146 = .ok (.if_icmp .eq (5), 3) := by decide +kernel
theorem d_W_law_1149 : decode me_W_law.2.1 1149 = .ok (.iconst 0, 1) := by decide +kernel
theorem d_W_law_1150 : decode me_W_law.2.1 1150 = .ok (.ireturn, 1) := by decide +kernel
theorem d_W_law_1151 : decode me_W_law.2.1 1151 = .ok (.iinc 4 (6), 3) := by decide +kernel
theorem d_W_law_1154 : decode me_W_law.2.1 1154 = .ok (.goto (-1131), 3) := by decide +kernel
theorem d_W_law_1157 : decode me_W_law.2.1 1157 = .ok (.iconst 1, 1) := by decide +kernel
theorem d_W_law_1158 : decode me_W_law.2.1 1158 = .ok (.ireturn, 1) := by decide +kernel
