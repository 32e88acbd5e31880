theorem d_H_release_0 : decode me_H_release.2.1 0 = .ok (.iload_n 1, 1) := by decide +kernel
theorem d_H_release_1 : decode me_H_release.2.1 1 = .ok (.iconst 4, 1) := by decide +kernel
theorem d_H_release_2 : decode me_H_release.2.1 2 = .ok (.invokestatic 46, 3) := by decide +kernel
theorem c_H_release_2 : bm_is me_H_release me_H_isBelow 2 2 := ⟨_, d_H_release_2, Or.inl ml_H_46, ⟨kc_H_isBelow, in_BatchHall, by decide +kernel, by decide, by decide⟩, kt_H_isBelow⟩
theorem d_H_release_5 : decode me_H_release.2.1 5 = .ok (.ifCond .ne (13), 3) := by decide +kernel
theorem d_H_release_8 : decode me_H_release.2.1 8 = .ok (.new 89, 3) := by decide +kernel
theorem d_H_release_11 : decode me_H_release.2.1 11 = .ok (.dup, 1) := by decide +kernel
theorem d_H_release_12 : decode me_H_release.2.1 12 = .ok (.ldc 91, 2) := by decide +kernel
theorem d_H_release_14 : decode me_H_release.2.1 14 = .ok (.invokespecial 93, 3) := by decide +kernel
theorem d_H_release_17 : decode me_H_release.2.1 17 = .ok (.athrow, 1) := by decide +kernel
theorem d_H_release_18 : decode me_H_release.2.1 18 = .ok (.aload_n 0, 1) := by decide +kernel
theorem d_H_release_19 : decode me_H_release.2.1 19 = .ok (.getfield 11, 3) := by decide +kernel
theorem g_H_release_19 : bm_gf me_H_release 19 0 0 := ⟨_, _, _, _, d_H_release_19, rfl, by decide, uw_H, fl_H_11⟩
theorem d_H_release_22 : decode me_H_release.2.1 22 = .ok (.iload_n 1, 1) := by decide +kernel
theorem d_H_release_23 : decode me_H_release.2.1 23 = .ok (.aaload, 1) := by decide +kernel
theorem d_H_release_24 : decode me_H_release.2.1 24 = .ok (.getfield 96, 3) := by decide +kernel
theorem g_H_release_24 : bm_gf me_H_release 24 6 0 := ⟨_, _, _, _, d_H_release_24, rfl, by decide, uw_R, fl_H_96⟩
theorem d_H_release_27 : decode me_H_release.2.1 27 = .ok (.ifCond .eq (13), 3) := by decide +kernel
theorem d_H_release_30 : decode me_H_release.2.1 30 = .ok (.new 100, 3) := by decide +kernel
theorem d_H_release_33 : decode me_H_release.2.1 33 = .ok (.dup, 1) := by decide +kernel
theorem d_H_release_34 : decode me_H_release.2.1 34 = .ok (.ldc 102, 2) := by decide +kernel
theorem d_H_release_36 : decode me_H_release.2.1 36 = .ok (.invokespecial 104, 3) := by decide +kernel
theorem d_H_release_39 : decode me_H_release.2.1 39 = .ok (.athrow, 1) := by decide +kernel
theorem d_H_release_40 : decode me_H_release.2.1 40 = .ok (.aload_n 0, 1) := by decide +kernel
theorem d_H_release_41 : decode me_H_release.2.1 41 = .ok (.getfield 24, 3) := by decide +kernel
theorem g_H_release_41 : bm_gf me_H_release 41 0 3 := ⟨_, _, _, _, d_H_release_41, rfl, by decide, uw_H, fl_H_24⟩
theorem d_H_release_44 : decode me_H_release.2.1 44 = .ok (.aload_n 0, 1) := by decide +kernel
theorem d_H_release_45 : decode me_H_release.2.1 45 = .ok (.getfield 11, 3) := by decide +kernel
theorem g_H_release_45 : bm_gf me_H_release 45 0 0 := ⟨_, _, _, _, d_H_release_45, rfl, by decide, uw_H, fl_H_11⟩
theorem d_H_release_48 : decode me_H_release.2.1 48 = .ok (.iload_n 1, 1) := by decide +kernel
theorem d_H_release_49 : decode me_H_release.2.1 49 = .ok (.aaload, 1) := by decide +kernel
theorem d_H_release_50 : decode me_H_release.2.1 50 = .ok (.aload_n 0, 1) := by decide +kernel
theorem d_H_release_51 : decode me_H_release.2.1 51 = .ok (.getfield 39, 3) := by decide +kernel
theorem g_H_release_51 : bm_gf me_H_release 51 0 5 := ⟨_, _, _, _, d_H_release_51, rfl, by decide, uw_H, fl_H_39⟩
theorem d_H_release_54 : decode me_H_release.2.1 54 = .ok (.invokevirtual 105, 3) := by decide +kernel
theorem c_H_release_54 : bm_iv me_H_release me_C_findFault 54 7 2 := ⟨_, d_H_release_54, Or.inl ml_H_105, ⟨kc_C_findFault, in_BatchHall_ReleaseCheck, by decide +kernel, by decide, by decide⟩, ki_C_findFault, ks_C_findFault, _, _, rfl⟩
theorem d_H_release_57 : decode me_H_release.2.1 57 = .ok (.istore_n 2, 1) := by decide +kernel
theorem d_H_release_58 : decode me_H_release.2.1 58 = .ok (.aload_n 0, 1) := by decide +kernel
theorem d_H_release_59 : decode me_H_release.2.1 59 = .ok (.getfield 11, 3) := by decide +kernel
theorem g_H_release_59 : bm_gf me_H_release 59 0 0 := ⟨_, _, _, _, d_H_release_59, rfl, by decide, uw_H, fl_H_11⟩
theorem d_H_release_62 : decode me_H_release.2.1 62 = .ok (.iload_n 1, 1) := by decide +kernel
theorem d_H_release_63 : decode me_H_release.2.1 63 = .ok (.aaload, 1) := by decide +kernel
theorem d_H_release_64 : decode me_H_release.2.1 64 = .ok (.iload_n 2, 1) := by decide +kernel
theorem d_H_release_65 : decode me_H_release.2.1 65 = .ok (.ifCond .ne (7), 3) := by decide +kernel
theorem d_H_release_68 : decode me_H_release.2.1 68 = .ok (.iconst 1, 1) := by decide +kernel
theorem d_H_release_69 : decode me_H_release.2.1 69 = .ok (.goto (4), 3) := by decide +kernel
theorem d_H_release_72 : decode me_H_release.2.1 72 = .ok (.iconst 0, 1) := by decide +kernel
theorem d_H_release_73 : decode me_H_release.2.1 73 = .ok (.putfield 96, 3) := by decide +kernel
theorem p_H_release_73 : bm_pf me_H_release 73 6 0 .boolean := ⟨_, _, _, _, ty_R, d_H_release_73, rfl, by decide, uw_R, fl_H_96, tk_R, nm_R, rfl, Or.inl rfl⟩
theorem d_H_release_76 : decode me_H_release.2.1 76 = .ok (.iload_n 2, 1) := by decide +kernel
theorem d_H_release_77 : decode me_H_release.2.1 77 = .ok (.ireturn, 1) := by decide +kernel
theorem d_H_batch_0 : decode me_H_batch.2.1 0 = .ok (.iload_n 1, 1) := by decide +kernel
theorem d_H_batch_1 : decode me_H_batch.2.1 1 = .ok (.iconst 4, 1) := by decide +kernel
theorem d_H_batch_2 : decode me_H_batch.2.1 2 = .ok (.invokestatic 46, 3) := by decide +kernel
theorem c_H_batch_2 : bm_is me_H_batch me_H_isBelow 2 2 := ⟨_, d_H_batch_2, Or.inl ml_H_46, ⟨kc_H_isBelow, in_BatchHall, by decide +kernel, by decide, by decide⟩, kt_H_isBelow⟩
theorem d_H_batch_5 : decode me_H_batch.2.1 5 = .ok (.ifCond .eq (13), 3) := by decide +kernel
theorem d_H_batch_8 : decode me_H_batch.2.1 8 = .ok (.iload_n 2, 1) := by decide +kernel
theorem d_H_batch_9 : decode me_H_batch.2.1 9 = .ok (.sipush (1001), 3) := by decide +kernel
theorem d_H_batch_12 : decode me_H_batch.2.1 12 = .ok (.invokestatic 46, 3) := by decide +kernel
theorem c_H_batch_12 : bm_is me_H_batch me_H_isBelow 12 2 := ⟨_, d_H_batch_12, Or.inl ml_H_46, ⟨kc_H_isBelow, in_BatchHall, by decide +kernel, by decide, by decide⟩, kt_H_isBelow⟩
theorem d_H_batch_15 : decode me_H_batch.2.1 15 = .ok (.ifCond .ne (13), 3) := by decide +kernel
theorem d_H_batch_18 : decode me_H_batch.2.1 18 = .ok (.new 89, 3) := by decide +kernel
theorem d_H_batch_21 : decode me_H_batch.2.1 21 = .ok (.dup, 1) := by decide +kernel
theorem d_H_batch_22 : decode me_H_batch.2.1 22 = .ok (.ldc 109, 2) := by decide +kernel
theorem d_H_batch_24 : decode me_H_batch.2.1 24 = .ok (.invokespecial 93, 3) := by decide +kernel
theorem d_H_batch_27 : decode me_H_batch.2.1 27 = .ok (.athrow, 1) := by decide +kernel
theorem d_H_batch_28 : decode me_H_batch.2.1 28 = .ok (.aload_n 0, 1) := by decide +kernel
theorem d_H_batch_29 : decode me_H_batch.2.1 29 = .ok (.getfield 11, 3) := by decide +kernel
theorem g_H_batch_29 : bm_gf me_H_batch 29 0 0 := ⟨_, _, _, _, d_H_batch_29, rfl, by decide, uw_H, fl_H_11⟩
theorem d_H_batch_32 : decode me_H_batch.2.1 32 = .ok (.iload_n 1, 1) := by decide +kernel
theorem d_H_batch_33 : decode me_H_batch.2.1 33 = .ok (.aaload, 1) := by decide +kernel
theorem d_H_batch_34 : decode me_H_batch.2.1 34 = .ok (.getfield 96, 3) := by decide +kernel
theorem g_H_batch_34 : bm_gf me_H_batch 34 6 0 := ⟨_, _, _, _, d_H_batch_34, rfl, by decide, uw_R, fl_H_96⟩
theorem d_H_batch_37 : decode me_H_batch.2.1 37 = .ok (.ifCond .eq (12), 3) := by decide +kernel
theorem d_H_batch_40 : decode me_H_batch.2.1 40 = .ok (.aload_n 0, 1) := by decide +kernel
theorem d_H_batch_41 : decode me_H_batch.2.1 41 = .ok (.getfield 111, 3) := by decide +kernel
theorem g_H_batch_41 : bm_gf me_H_batch 41 0 2 := ⟨_, _, _, _, d_H_batch_41, rfl, by decide, uw_H, fl_H_111⟩
theorem d_H_batch_44 : decode me_H_batch.2.1 44 = .ok (.bipush (16), 2) := by decide +kernel
theorem d_H_batch_46 : decode me_H_batch.2.1 46 = .ok (.if_icmp .lt (13), 3) := by decide +kernel
theorem d_H_batch_49 : decode me_H_batch.2.1 49 = .ok (.new 100, 3) := by decide +kernel
theorem d_H_batch_52 : decode me_H_batch.2.1 52 = .ok (.dup, 1) := by decide +kernel
theorem d_H_batch_53 : decode me_H_batch.2.1 53 = .ok (.ldc 114, 2) := by decide +kernel
theorem d_H_batch_55 : decode me_H_batch.2.1 55 = .ok (.invokespecial 104, 3) := by decide +kernel
theorem d_H_batch_58 : decode me_H_batch.2.1 58 = .ok (.athrow, 1) := by decide +kernel
theorem d_H_batch_59 : decode me_H_batch.2.1 59 = .ok (.aload_n 0, 1) := by decide +kernel
theorem d_H_batch_60 : decode me_H_batch.2.1 60 = .ok (.getfield 111, 3) := by decide +kernel
theorem g_H_batch_60 : bm_gf me_H_batch 60 0 2 := ⟨_, _, _, _, d_H_batch_60, rfl, by decide, uw_H, fl_H_111⟩
theorem d_H_batch_63 : decode me_H_batch.2.1 63 = .ok (.istore_n 3, 1) := by decide +kernel
theorem d_H_batch_64 : decode me_H_batch.2.1 64 = .ok (.aload_n 0, 1) := by decide +kernel
theorem d_H_batch_65 : decode me_H_batch.2.1 65 = .ok (.getfield 17, 3) := by decide +kernel
theorem g_H_batch_65 : bm_gf me_H_batch 65 0 1 := ⟨_, _, _, _, d_H_batch_65, rfl, by decide, uw_H, fl_H_17⟩
theorem d_H_batch_68 : decode me_H_batch.2.1 68 = .ok (.iload_n 3, 1) := by decide +kernel
theorem d_H_batch_69 : decode me_H_batch.2.1 69 = .ok (.new 15, 3) := by decide +kernel
theorem n_H_batch_69 : bm_nw me_H_batch 69 1 [.int 0, .int 0, .null, .int 0, .int 0, .int 0, .null, .null, .null, .null] := ⟨_, _, _, _, ty_B, d_H_batch_69, rfl, uw_B, tk_B, lc_H_15, ic_BatchHall_Batch, in_BatchHall_Batch, by decide, rfl, by simp⟩
theorem d_H_batch_72 : decode me_H_batch.2.1 72 = .ok (.dup, 1) := by decide +kernel
theorem d_H_batch_73 : decode me_H_batch.2.1 73 = .ok (.iload_n 3, 1) := by decide +kernel
theorem d_H_batch_74 : decode me_H_batch.2.1 74 = .ok (.iload_n 1, 1) := by decide +kernel
theorem d_H_batch_75 : decode me_H_batch.2.1 75 = .ok (.aload_n 0, 1) := by decide +kernel
theorem d_H_batch_76 : decode me_H_batch.2.1 76 = .ok (.getfield 11, 3) := by decide +kernel
theorem g_H_batch_76 : bm_gf me_H_batch 76 0 0 := ⟨_, _, _, _, d_H_batch_76, rfl, by decide, uw_H, fl_H_11⟩
theorem d_H_batch_79 : decode me_H_batch.2.1 79 = .ok (.iload_n 1, 1) := by decide +kernel
theorem d_H_batch_80 : decode me_H_batch.2.1 80 = .ok (.aaload, 1) := by decide +kernel
theorem d_H_batch_81 : decode me_H_batch.2.1 81 = .ok (.iload_n 2, 1) := by decide +kernel
theorem d_H_batch_82 : decode me_H_batch.2.1 82 = .ok (.invokespecial 116, 3) := by decide +kernel
theorem c_H_batch_82 : bm_ii me_H_batch me_B_init 82 4 := ⟨_, d_H_batch_82, Or.inl ml_H_116, ⟨kc_B_init, in_BatchHall_Batch, by decide +kernel, by decide, by decide⟩, ki_B_init, rfl, rfl⟩
theorem d_H_batch_85 : decode me_H_batch.2.1 85 = .ok (.aastore, 1) := by decide +kernel
theorem d_H_batch_86 : decode me_H_batch.2.1 86 = .ok (.aload_n 0, 1) := by decide +kernel
theorem d_H_batch_87 : decode me_H_batch.2.1 87 = .ok (.dup, 1) := by decide +kernel
theorem d_H_batch_88 : decode me_H_batch.2.1 88 = .ok (.getfield 111, 3) := by decide +kernel
theorem g_H_batch_88 : bm_gf me_H_batch 88 0 2 := ⟨_, _, _, _, d_H_batch_88, rfl, by decide, uw_H, fl_H_111⟩
theorem d_H_batch_91 : decode me_H_batch.2.1 91 = .ok (.iconst 1, 1) := by decide +kernel
theorem d_H_batch_92 : decode me_H_batch.2.1 92 = .ok (.iadd, 1) := by decide +kernel
theorem d_H_batch_93 : decode me_H_batch.2.1 93 = .ok (.putfield 111, 3) := by decide +kernel
theorem p_H_batch_93 : bm_pf me_H_batch 93 0 2 .int := ⟨_, _, _, _, ty_H, d_H_batch_93, rfl, by decide, uw_H, fl_H_111, tk_H, nm_H, rfl, Or.inl rfl⟩
theorem d_H_batch_96 : decode me_H_batch.2.1 96 = .ok (.iload_n 3, 1) := by decide +kernel
theorem d_H_batch_97 : decode me_H_batch.2.1 97 = .ok (.ireturn, 1) := by decide +kernel
theorem d_H_start_0 : decode me_H_start.2.1 0 = .ok (.aload_n 0, 1) := by decide +kernel
theorem d_H_start_1 : decode me_H_start.2.1 1 = .ok (.iload_n 1, 1) := by decide +kernel
theorem d_H_start_2 : decode me_H_start.2.1 2 = .ok (.invokevirtual 119, 3) := by decide +kernel
theorem c_H_start_2 : bm_iv me_H_start me_H_findBatch 2 0 1 := ⟨_, d_H_start_2, Or.inl ml_H_119, ⟨kc_H_findBatch, in_BatchHall, by decide +kernel, by decide, by decide⟩, ki_H_findBatch, ks_H_findBatch, _, _, rfl⟩
theorem d_H_start_5 : decode me_H_start.2.1 5 = .ok (.astore_n 2, 1) := by decide +kernel
theorem d_H_start_6 : decode me_H_start.2.1 6 = .ok (.aload_n 2, 1) := by decide +kernel
theorem d_H_start_7 : decode me_H_start.2.1 7 = .ok (.getfield 123, 3) := by decide +kernel
theorem g_H_start_7 : bm_gf me_H_start 7 1 4 := ⟨_, _, _, _, d_H_start_7, rfl, by decide, uw_B, fl_H_123⟩
theorem d_H_start_10 : decode me_H_start.2.1 10 = .ok (.ifCond .eq (13), 3) := by decide +kernel
theorem d_H_start_13 : decode me_H_start.2.1 13 = .ok (.new 100, 3) := by decide +kernel
theorem d_H_start_16 : decode me_H_start.2.1 16 = .ok (.dup, 1) := by decide +kernel
theorem d_H_start_17 : decode me_H_start.2.1 17 = .ok (.ldc 126, 2) := by decide +kernel
theorem d_H_start_19 : decode me_H_start.2.1 19 = .ok (.invokespecial 104, 3) := by decide +kernel
theorem d_H_start_22 : decode me_H_start.2.1 22 = .ok (.athrow, 1) := by decide +kernel
theorem d_H_start_23 : decode me_H_start.2.1 23 = .ok (.aload_n 0, 1) := by decide +kernel
theorem d_H_start_24 : decode me_H_start.2.1 24 = .ok (.getfield 31, 3) := by decide +kernel
theorem g_H_start_24 : bm_gf me_H_start 24 0 4 := ⟨_, _, _, _, d_H_start_24, rfl, by decide, uw_H, fl_H_31⟩
theorem d_H_start_27 : decode me_H_start.2.1 27 = .ok (.aload_n 2, 1) := by decide +kernel
theorem d_H_start_28 : decode me_H_start.2.1 28 = .ok (.invokevirtual 128, 3) := by decide +kernel
theorem c_H_start_28 : bm_iv me_H_start me_F_enqueue 28 2 1 := ⟨_, d_H_start_28, Or.inl ml_H_128, ⟨kc_F_enqueue, in_BatchHall_Floor, by decide +kernel, by decide, by decide⟩, ki_F_enqueue, ks_F_enqueue, _, _, rfl⟩
theorem d_H_start_31 : decode me_H_start.2.1 31 = .ok (.aload_n 0, 1) := by decide +kernel
theorem d_H_start_32 : decode me_H_start.2.1 32 = .ok (.getfield 31, 3) := by decide +kernel
theorem g_H_start_32 : bm_gf me_H_start 32 0 4 := ⟨_, _, _, _, d_H_start_32, rfl, by decide, uw_H, fl_H_31⟩
theorem d_H_start_35 : decode me_H_start.2.1 35 = .ok (.invokevirtual 132, 3) := by decide +kernel
theorem c_H_start_35 : bm_iv me_H_start me_F_serveWaiting 35 2 0 := ⟨_, d_H_start_35, Or.inl ml_H_132, ⟨kc_F_serveWaiting, in_BatchHall_Floor, by decide +kernel, by decide, by decide⟩, ki_F_serveWaiting, ks_F_serveWaiting, _, _, rfl⟩
theorem d_H_start_38 : decode me_H_start.2.1 38 = .ok (.aload_n 2, 1) := by decide +kernel
theorem d_H_start_39 : decode me_H_start.2.1 39 = .ok (.getfield 123, 3) := by decide +kernel
theorem g_H_start_39 : bm_gf me_H_start 39 1 4 := ⟨_, _, _, _, d_H_start_39, rfl, by decide, uw_B, fl_H_123⟩
theorem d_H_start_42 : decode me_H_start.2.1 42 = .ok (.ireturn, 1) := by decide +kernel
theorem d_H_findBatch_0 : decode me_H_findBatch.2.1 0 = .ok (.iload_n 1, 1) := by decide +kernel
theorem d_H_findBatch_1 : decode me_H_findBatch.2.1 1 = .ok (.aload_n 0, 1) := by decide +kernel
theorem d_H_findBatch_2 : decode me_H_findBatch.2.1 2 = .ok (.getfield 111, 3) := by decide +kernel
theorem g_H_findBatch_2 : bm_gf me_H_findBatch 2 0 2 := ⟨_, _, _, _, d_H_findBatch_2, rfl, by decide, uw_H, fl_H_111⟩
theorem d_H_findBatch_5 : decode me_H_findBatch.2.1 5 = .ok (.invokestatic 46, 3) := by decide +kernel
theorem c_H_findBatch_5 : bm_is me_H_findBatch me_H_isBelow 5 2 := ⟨_, d_H_findBatch_5, Or.inl ml_H_46, ⟨kc_H_isBelow, in_BatchHall, by decide +kernel, by decide, by decide⟩, kt_H_isBelow⟩
theorem d_H_findBatch_8 : decode me_H_findBatch.2.1 8 = .ok (.ifCond .ne (13), 3) := by decide +kernel
theorem d_H_findBatch_11 : decode me_H_findBatch.2.1 11 = .ok (.new 89, 3) := by decide +kernel
theorem d_H_findBatch_14 : decode me_H_findBatch.2.1 14 = .ok (.dup, 1) := by decide +kernel
theorem d_H_findBatch_15 : decode me_H_findBatch.2.1 15 = .ok (.ldc 241, 2) := by decide +kernel
theorem d_H_findBatch_17 : decode me_H_findBatch.2.1 17 = .ok (.invokespecial 93, 3) := by decide +kernel
theorem d_H_findBatch_20 : decode me_H_findBatch.2.1 20 = .ok (.athrow, 1) := by decide +kernel
theorem d_H_findBatch_21 : decode me_H_findBatch.2.1 21 = .ok (.aload_n 0, 1) := by decide +kernel
theorem d_H_findBatch_22 : decode me_H_findBatch.2.1 22 = .ok (.getfield 17, 3) := by decide +kernel
theorem g_H_findBatch_22 : bm_gf me_H_findBatch 22 0 1 := ⟨_, _, _, _, d_H_findBatch_22, rfl, by decide, uw_H, fl_H_17⟩
theorem d_H_findBatch_25 : decode me_H_findBatch.2.1 25 = .ok (.iload_n 1, 1) := by decide +kernel
theorem d_H_findBatch_26 : decode me_H_findBatch.2.1 26 = .ok (.aaload, 1) := by decide +kernel
theorem d_H_findBatch_27 : decode me_H_findBatch.2.1 27 = .ok (.areturn, 1) := by decide +kernel
theorem d_H_hold_0 : decode me_H_hold.2.1 0 = .ok (.aload_n 0, 1) := by decide +kernel
theorem d_H_hold_1 : decode me_H_hold.2.1 1 = .ok (.iload_n 1, 1) := by decide +kernel
theorem d_H_hold_2 : decode me_H_hold.2.1 2 = .ok (.invokevirtual 119, 3) := by decide +kernel
theorem c_H_hold_2 : bm_iv me_H_hold me_H_findBatch 2 0 1 := ⟨_, d_H_hold_2, Or.inl ml_H_119, ⟨kc_H_findBatch, in_BatchHall, by decide +kernel, by decide, by decide⟩, ki_H_findBatch, ks_H_findBatch, _, _, rfl⟩
theorem d_H_hold_5 : decode me_H_hold.2.1 5 = .ok (.astore_n 2, 1) := by decide +kernel
theorem d_H_hold_6 : decode me_H_hold.2.1 6 = .ok (.aload_n 2, 1) := by decide +kernel
theorem d_H_hold_7 : decode me_H_hold.2.1 7 = .ok (.getfield 123, 3) := by decide +kernel
theorem g_H_hold_7 : bm_gf me_H_hold 7 1 4 := ⟨_, _, _, _, d_H_hold_7, rfl, by decide, uw_B, fl_H_123⟩
theorem d_H_hold_10 : decode me_H_hold.2.1 10 = .ok (.iconst 2, 1) := by decide +kernel
theorem d_H_hold_11 : decode me_H_hold.2.1 11 = .ok (.if_icmp .eq (13), 3) := by decide +kernel
theorem d_H_hold_14 : decode me_H_hold.2.1 14 = .ok (.new 100, 3) := by decide +kernel
theorem d_H_hold_17 : decode me_H_hold.2.1 17 = .ok (.dup, 1) := by decide +kernel
theorem d_H_hold_18 : decode me_H_hold.2.1 18 = .ok (.ldc 146, 2) := by decide +kernel
theorem d_H_hold_20 : decode me_H_hold.2.1 20 = .ok (.invokespecial 104, 3) := by decide +kernel
theorem d_H_hold_23 : decode me_H_hold.2.1 23 = .ok (.athrow, 1) := by decide +kernel
theorem d_H_hold_24 : decode me_H_hold.2.1 24 = .ok (.aload_n 2, 1) := by decide +kernel
theorem d_H_hold_25 : decode me_H_hold.2.1 25 = .ok (.iconst 3, 1) := by decide +kernel
theorem d_H_hold_26 : decode me_H_hold.2.1 26 = .ok (.putfield 123, 3) := by decide +kernel
theorem p_H_hold_26 : bm_pf me_H_hold 26 1 4 .int := ⟨_, _, _, _, ty_B, d_H_hold_26, rfl, by decide, uw_B, fl_H_123, tk_B, nm_B, rfl, Or.inl rfl⟩
theorem d_H_hold_29 : decode me_H_hold.2.1 29 = .ok (.return_, 1) := by decide +kernel
theorem d_H_restart_0 : decode me_H_restart.2.1 0 = .ok (.aload_n 0, 1) := by decide +kernel
theorem d_H_restart_1 : decode me_H_restart.2.1 1 = .ok (.iload_n 1, 1) := by decide +kernel
theorem d_H_restart_2 : decode me_H_restart.2.1 2 = .ok (.invokevirtual 119, 3) := by decide +kernel
theorem c_H_restart_2 : bm_iv me_H_restart me_H_findBatch 2 0 1 := ⟨_, d_H_restart_2, Or.inl ml_H_119, ⟨kc_H_findBatch, in_BatchHall, by decide +kernel, by decide, by decide⟩, ki_H_findBatch, ks_H_findBatch, _, _, rfl⟩
theorem d_H_restart_5 : decode me_H_restart.2.1 5 = .ok (.astore_n 2, 1) := by decide +kernel
theorem d_H_restart_6 : decode me_H_restart.2.1 6 = .ok (.aload_n 2, 1) := by decide +kernel
theorem d_H_restart_7 : decode me_H_restart.2.1 7 = .ok (.getfield 123, 3) := by decide +kernel
theorem g_H_restart_7 : bm_gf me_H_restart 7 1 4 := ⟨_, _, _, _, d_H_restart_7, rfl, by decide, uw_B, fl_H_123⟩
theorem d_H_restart_10 : decode me_H_restart.2.1 10 = .ok (.iconst 3, 1) := by decide +kernel
theorem d_H_restart_11 : decode me_H_restart.2.1 11 = .ok (.if_icmp .eq (13), 3) := by decide +kernel
theorem d_H_restart_14 : decode me_H_restart.2.1 14 = .ok (.new 100, 3) := by decide +kernel
theorem d_H_restart_17 : decode me_H_restart.2.1 17 = .ok (.dup, 1) := by decide +kernel
theorem d_H_restart_18 : decode me_H_restart.2.1 18 = .ok (.ldc 148, 2) := by decide +kernel
theorem d_H_restart_20 : decode me_H_restart.2.1 20 = .ok (.invokespecial 104, 3) := by decide +kernel
theorem d_H_restart_23 : decode me_H_restart.2.1 23 = .ok (.athrow, 1) := by decide +kernel
theorem d_H_restart_24 : decode me_H_restart.2.1 24 = .ok (.aload_n 2, 1) := by decide +kernel
theorem d_H_restart_25 : decode me_H_restart.2.1 25 = .ok (.iconst 2, 1) := by decide +kernel
theorem d_H_restart_26 : decode me_H_restart.2.1 26 = .ok (.putfield 123, 3) := by decide +kernel
theorem p_H_restart_26 : bm_pf me_H_restart 26 1 4 .int := ⟨_, _, _, _, ty_B, d_H_restart_26, rfl, by decide, uw_B, fl_H_123, tk_B, nm_B, rfl, Or.inl rfl⟩
theorem d_H_restart_29 : decode me_H_restart.2.1 29 = .ok (.aload_n 2, 1) := by decide +kernel
theorem d_H_restart_30 : decode me_H_restart.2.1 30 = .ok (.getfield 123, 3) := by decide +kernel
theorem g_H_restart_30 : bm_gf me_H_restart 30 1 4 := ⟨_, _, _, _, d_H_restart_30, rfl, by decide, uw_B, fl_H_123⟩
theorem d_H_restart_33 : decode me_H_restart.2.1 33 = .ok (.ireturn, 1) := by decide +kernel
theorem d_H_stop_0 : decode me_H_stop.2.1 0 = .ok (.aload_n 0, 1) := by decide +kernel
theorem d_H_stop_1 : decode me_H_stop.2.1 1 = .ok (.iload_n 1, 1) := by decide +kernel
theorem d_H_stop_2 : decode me_H_stop.2.1 2 = .ok (.invokevirtual 119, 3) := by decide +kernel
theorem c_H_stop_2 : bm_iv me_H_stop me_H_findBatch 2 0 1 := ⟨_, d_H_stop_2, Or.inl ml_H_119, ⟨kc_H_findBatch, in_BatchHall, by decide +kernel, by decide, by decide⟩, ki_H_findBatch, ks_H_findBatch, _, _, rfl⟩
theorem d_H_stop_5 : decode me_H_stop.2.1 5 = .ok (.astore_n 2, 1) := by decide +kernel
theorem d_H_stop_6 : decode me_H_stop.2.1 6 = .ok (.aload_n 2, 1) := by decide +kernel
theorem d_H_stop_7 : decode me_H_stop.2.1 7 = .ok (.getfield 123, 3) := by decide +kernel
theorem g_H_stop_7 : bm_gf me_H_stop 7 1 4 := ⟨_, _, _, _, d_H_stop_7, rfl, by decide, uw_B, fl_H_123⟩
theorem d_H_stop_10 : decode me_H_stop.2.1 10 = .ok (.iconst 2, 1) := by decide +kernel
theorem d_H_stop_11 : decode me_H_stop.2.1 11 = .ok (.if_icmp .eq (21), 3) := by decide +kernel
theorem d_H_stop_14 : decode me_H_stop.2.1 14 = .ok (.aload_n 2, 1) := by decide +kernel
theorem d_H_stop_15 : decode me_H_stop.2.1 15 = .ok (.getfield 123, 3) := by decide +kernel
theorem g_H_stop_15 : bm_gf me_H_stop 15 1 4 := ⟨_, _, _, _, d_H_stop_15, rfl, by decide, uw_B, fl_H_123⟩
theorem d_H_stop_18 : decode me_H_stop.2.1 18 = .ok (.iconst 3, 1) := by decide +kernel
theorem d_H_stop_19 : decode me_H_stop.2.1 19 = .ok (.if_icmp .eq (13), 3) := by decide +kernel
theorem d_H_stop_22 : decode me_H_stop.2.1 22 = .ok (.new 100, 3) := by decide +kernel
theorem d_H_stop_25 : decode me_H_stop.2.1 25 = .ok (.dup, 1) := by decide +kernel
theorem d_H_stop_26 : decode me_H_stop.2.1 26 = .ok (.ldc 150, 2) := by decide +kernel
theorem d_H_stop_28 : decode me_H_stop.2.1 28 = .ok (.invokespecial 104, 3) := by decide +kernel
theorem d_H_stop_31 : decode me_H_stop.2.1 31 = .ok (.athrow, 1) := by decide +kernel
theorem d_H_stop_32 : decode me_H_stop.2.1 32 = .ok (.aload_n 2, 1) := by decide +kernel
theorem d_H_stop_33 : decode me_H_stop.2.1 33 = .ok (.iconst 4, 1) := by decide +kernel
theorem d_H_stop_34 : decode me_H_stop.2.1 34 = .ok (.putfield 123, 3) := by decide +kernel
theorem p_H_stop_34 : bm_pf me_H_stop 34 1 4 .int := ⟨_, _, _, _, ty_B, d_H_stop_34, rfl, by decide, uw_B, fl_H_123, tk_B, nm_B, rfl, Or.inl rfl⟩
theorem d_H_stop_37 : decode me_H_stop.2.1 37 = .ok (.aload_n 2, 1) := by decide +kernel
theorem d_H_stop_38 : decode me_H_stop.2.1 38 = .ok (.invokevirtual 152, 3) := by decide +kernel
theorem c_H_stop_38 : bm_iv me_H_stop me_B_countBegun 38 1 0 := ⟨_, d_H_stop_38, Or.inl ml_H_152, ⟨kc_B_countBegun, in_BatchHall_Batch, by decide +kernel, by decide, by decide⟩, ki_B_countBegun, ks_B_countBegun, _, _, rfl⟩
theorem d_H_stop_41 : decode me_H_stop.2.1 41 = .ok (.ifCond .ne (19), 3) := by decide +kernel
theorem d_H_stop_44 : decode me_H_stop.2.1 44 = .ok (.aload_n 0, 1) := by decide +kernel
theorem d_H_stop_45 : decode me_H_stop.2.1 45 = .ok (.getfield 31, 3) := by decide +kernel
theorem g_H_stop_45 : bm_gf me_H_stop 45 0 4 := ⟨_, _, _, _, d_H_stop_45, rfl, by decide, uw_H, fl_H_31⟩
theorem d_H_stop_48 : decode me_H_stop.2.1 48 = .ok (.aload_n 2, 1) := by decide +kernel
theorem d_H_stop_49 : decode me_H_stop.2.1 49 = .ok (.iconst 5, 1) := by decide +kernel
theorem d_H_stop_50 : decode me_H_stop.2.1 50 = .ok (.invokevirtual 155, 3) := by decide +kernel
theorem c_H_stop_50 : bm_iv me_H_stop me_F_finish 50 2 2 := ⟨_, d_H_stop_50, Or.inl ml_H_155, ⟨kc_F_finish, in_BatchHall_Floor, by decide +kernel, by decide, by decide⟩, ki_F_finish, ks_F_finish, _, _, rfl⟩
theorem d_H_stop_53 : decode me_H_stop.2.1 53 = .ok (.aload_n 0, 1) := by decide +kernel
theorem d_H_stop_54 : decode me_H_stop.2.1 54 = .ok (.getfield 31, 3) := by decide +kernel
theorem g_H_stop_54 : bm_gf me_H_stop 54 0 4 := ⟨_, _, _, _, d_H_stop_54, rfl, by decide, uw_H, fl_H_31⟩
theorem d_H_stop_57 : decode me_H_stop.2.1 57 = .ok (.invokevirtual 132, 3) := by decide +kernel
theorem c_H_stop_57 : bm_iv me_H_stop me_F_serveWaiting 57 2 0 := ⟨_, d_H_stop_57, Or.inl ml_H_132, ⟨kc_F_serveWaiting, in_BatchHall_Floor, by decide +kernel, by decide, by decide⟩, ki_F_serveWaiting, ks_F_serveWaiting, _, _, rfl⟩
theorem d_H_stop_60 : decode me_H_stop.2.1 60 = .ok (.aload_n 2, 1) := by decide +kernel
theorem d_H_stop_61 : decode me_H_stop.2.1 61 = .ok (.getfield 123, 3) := by decide +kernel
theorem g_H_stop_61 : bm_gf me_H_stop 61 1 4 := ⟨_, _, _, _, d_H_stop_61, rfl, by decide, uw_B, fl_H_123⟩
theorem d_H_stop_64 : decode me_H_stop.2.1 64 = .ok (.ireturn, 1) := by decide +kernel
theorem d_H_abort_0 : decode me_H_abort.2.1 0 = .ok (.aload_n 0, 1) := by decide +kernel
theorem d_H_abort_1 : decode me_H_abort.2.1 1 = .ok (.iload_n 1, 1) := by decide +kernel
theorem d_H_abort_2 : decode me_H_abort.2.1 2 = .ok (.invokevirtual 119, 3) := by decide +kernel
theorem c_H_abort_2 : bm_iv me_H_abort me_H_findBatch 2 0 1 := ⟨_, d_H_abort_2, Or.inl ml_H_119, ⟨kc_H_findBatch, in_BatchHall, by decide +kernel, by decide, by decide⟩, ki_H_findBatch, ks_H_findBatch, _, _, rfl⟩
theorem d_H_abort_5 : decode me_H_abort.2.1 5 = .ok (.astore_n 2, 1) := by decide +kernel
theorem d_H_abort_6 : decode me_H_abort.2.1 6 = .ok (.aload_n 2, 1) := by decide +kernel
theorem d_H_abort_7 : decode me_H_abort.2.1 7 = .ok (.getfield 123, 3) := by decide +kernel
theorem g_H_abort_7 : bm_gf me_H_abort 7 1 4 := ⟨_, _, _, _, d_H_abort_7, rfl, by decide, uw_B, fl_H_123⟩
theorem d_H_abort_10 : decode me_H_abort.2.1 10 = .ok (.ifCond .eq (10), 3) := by decide +kernel
theorem d_H_abort_13 : decode me_H_abort.2.1 13 = .ok (.aload_n 2, 1) := by decide +kernel
theorem d_H_abort_14 : decode me_H_abort.2.1 14 = .ok (.invokevirtual 138, 3) := by decide +kernel
theorem c_H_abort_14 : bm_iv me_H_abort me_B_isOver 14 1 0 := ⟨_, d_H_abort_14, Or.inl ml_H_138, ⟨kc_B_isOver, in_BatchHall_Batch, by decide +kernel, by decide, by decide⟩, ki_B_isOver, ks_B_isOver, _, _, rfl⟩
theorem d_H_abort_17 : decode me_H_abort.2.1 17 = .ok (.ifCond .eq (13), 3) := by decide +kernel
theorem d_H_abort_20 : decode me_H_abort.2.1 20 = .ok (.new 100, 3) := by decide +kernel
theorem d_H_abort_23 : decode me_H_abort.2.1 23 = .ok (.dup, 1) := by decide +kernel
theorem d_H_abort_24 : decode me_H_abort.2.1 24 = .ok (.ldc 159, 2) := by decide +kernel
theorem d_H_abort_26 : decode me_H_abort.2.1 26 = .ok (.invokespecial 104, 3) := by decide +kernel
theorem d_H_abort_29 : decode me_H_abort.2.1 29 = .ok (.athrow, 1) := by decide +kernel
theorem d_H_abort_30 : decode me_H_abort.2.1 30 = .ok (.aload_n 0, 1) := by decide +kernel
theorem d_H_abort_31 : decode me_H_abort.2.1 31 = .ok (.getfield 31, 3) := by decide +kernel
theorem g_H_abort_31 : bm_gf me_H_abort 31 0 4 := ⟨_, _, _, _, d_H_abort_31, rfl, by decide, uw_H, fl_H_31⟩
theorem d_H_abort_34 : decode me_H_abort.2.1 34 = .ok (.aload_n 2, 1) := by decide +kernel
theorem d_H_abort_35 : decode me_H_abort.2.1 35 = .ok (.bipush (6), 2) := by decide +kernel
theorem d_H_abort_37 : decode me_H_abort.2.1 37 = .ok (.invokevirtual 155, 3) := by decide +kernel
theorem c_H_abort_37 : bm_iv me_H_abort me_F_finish 37 2 2 := ⟨_, d_H_abort_37, Or.inl ml_H_155, ⟨kc_F_finish, in_BatchHall_Floor, by decide +kernel, by decide, by decide⟩, ki_F_finish, ks_F_finish, _, _, rfl⟩
theorem d_H_abort_40 : decode me_H_abort.2.1 40 = .ok (.aload_n 0, 1) := by decide +kernel
theorem d_H_abort_41 : decode me_H_abort.2.1 41 = .ok (.getfield 31, 3) := by decide +kernel
theorem g_H_abort_41 : bm_gf me_H_abort 41 0 4 := ⟨_, _, _, _, d_H_abort_41, rfl, by decide, uw_H, fl_H_31⟩
theorem d_H_abort_44 : decode me_H_abort.2.1 44 = .ok (.invokevirtual 132, 3) := by decide +kernel
theorem c_H_abort_44 : bm_iv me_H_abort me_F_serveWaiting 44 2 0 := ⟨_, d_H_abort_44, Or.inl ml_H_132, ⟨kc_F_serveWaiting, in_BatchHall_Floor, by decide +kernel, by decide, by decide⟩, ki_F_serveWaiting, ks_F_serveWaiting, _, _, rfl⟩
theorem d_H_abort_47 : decode me_H_abort.2.1 47 = .ok (.return_, 1) := by decide +kernel
