theorem d_M_close_0 : decode me_M_close.2.1 0 = .ok (.aload_n 0, 1) := by decide +kernel
theorem d_M_close_1 : decode me_M_close.2.1 1 = .ok (.iload_n 1, 1) := by decide +kernel
theorem d_M_close_2 : decode me_M_close.2.1 2 = .ok (.invokevirtual 226, 3) := by decide +kernel
theorem c_M_close_2 : bm_iv me_M_close me_M_leaveLine 2 11 1 := ⟨_, d_M_close_2, Or.inl ml_M_226, ⟨kc_M_leaveLine, in_BatchHallModel, by decide +kernel, by decide, by decide⟩, ki_M_leaveLine, ks_M_leaveLine, _, _, rfl⟩
theorem d_M_close_5 : decode me_M_close.2.1 5 = .ok (.aload_n 0, 1) := by decide +kernel
theorem d_M_close_6 : decode me_M_close.2.1 6 = .ok (.getfield 59, 3) := by decide +kernel
theorem g_M_close_6 : bm_gf me_M_close 6 11 18 := ⟨_, _, _, _, d_M_close_6, rfl, by decide, uw_M, fl_M_59⟩
theorem d_M_close_9 : decode me_M_close.2.1 9 = .ok (.iload_n 1, 1) := by decide +kernel
theorem d_M_close_10 : decode me_M_close.2.1 10 = .ok (.iload_n 2, 1) := by decide +kernel
theorem d_M_close_11 : decode me_M_close.2.1 11 = .ok (.iastore, 1) := by decide +kernel
theorem d_M_close_12 : decode me_M_close.2.1 12 = .ok (.aload_n 0, 1) := by decide +kernel
theorem d_M_close_13 : decode me_M_close.2.1 13 = .ok (.getfield 62, 3) := by decide +kernel
theorem g_M_close_13 : bm_gf me_M_close 13 11 19 := ⟨_, _, _, _, d_M_close_13, rfl, by decide, uw_M, fl_M_62⟩
theorem d_M_close_16 : decode me_M_close.2.1 16 = .ok (.iload_n 1, 1) := by decide +kernel
theorem d_M_close_17 : decode me_M_close.2.1 17 = .ok (.iconst 0, 1) := by decide +kernel
theorem d_M_close_18 : decode me_M_close.2.1 18 = .ok (.iastore, 1) := by decide +kernel
theorem d_M_close_19 : decode me_M_close.2.1 19 = .ok (.aload_n 0, 1) := by decide +kernel
theorem d_M_close_20 : decode me_M_close.2.1 20 = .ok (.iload_n 1, 1) := by decide +kernel
theorem d_M_close_21 : decode me_M_close.2.1 21 = .ok (.invokevirtual 214, 3) := by decide +kernel
theorem c_M_close_21 : bm_iv me_M_close me_M_giveBack 21 11 1 := ⟨_, d_M_close_21, Or.inl ml_M_214, ⟨kc_M_giveBack, in_BatchHallModel, by decide +kernel, by decide, by decide⟩, ki_M_giveBack, ks_M_giveBack, _, _, rfl⟩
theorem d_M_close_24 : decode me_M_close.2.1 24 = .ok (.aload_n 0, 1) := by decide +kernel
theorem d_M_close_25 : decode me_M_close.2.1 25 = .ok (.iconst 1, 1) := by decide +kernel
theorem d_M_close_26 : decode me_M_close.2.1 26 = .ok (.putfield 232, 3) := by decide +kernel
theorem p_M_close_26 : bm_pf me_M_close 26 11 30 .boolean := ⟨_, _, _, _, ty_M, d_M_close_26, rfl, by decide, uw_M, fl_M_232, tk_M, nm_M, rfl, Or.inl rfl⟩
theorem d_M_close_29 : decode me_M_close.2.1 29 = .ok (.return_, 1) := by decide +kernel
theorem d_M_leaveLine_0 : decode me_M_leaveLine.2.1 0 = .ok (.iconst 0, 1) := by decide +kernel
theorem d_M_leaveLine_1 : decode me_M_leaveLine.2.1 1 = .ok (.istore_n 2, 1) := by decide +kernel
theorem d_M_leaveLine_2 : decode me_M_leaveLine.2.1 2 = .ok (.iconst 0, 1) := by decide +kernel
theorem d_M_leaveLine_3 : decode me_M_leaveLine.2.1 3 = .ok (.istore_n 3, 1) := by decide +kernel
theorem d_M_leaveLine_4 : decode me_M_leaveLine.2.1 4 = .ok (.iload_n 3, 1) := by decide +kernel
theorem d_M_leaveLine_5 : decode me_M_leaveLine.2.1 5 = .ok (.aload_n 0, 1) := by decide +kernel
theorem d_M_leaveLine_6 : decode me_M_leaveLine.2.1 6 = .ok (.getfield 217, 3) := by decide +kernel
theorem g_M_leaveLine_6 : bm_gf me_M_leaveLine 6 11 28 := ⟨_, _, _, _, d_M_leaveLine_6, rfl, by decide, uw_M, fl_M_217⟩
theorem d_M_leaveLine_9 : decode me_M_leaveLine.2.1 9 = .ok (.if_icmp .ge (34), 3) := by decide +kernel
theorem d_M_leaveLine_12 : decode me_M_leaveLine.2.1 12 = .ok (.aload_n 0, 1) := by decide +kernel
theorem d_M_leaveLine_13 : decode me_M_leaveLine.2.1 13 = .ok (.getfield 89, 3) := by decide +kernel
theorem g_M_leaveLine_13 : bm_gf me_M_leaveLine 13 11 29 := ⟨_, _, _, _, d_M_leaveLine_13, rfl, by decide, uw_M, fl_M_89⟩
theorem d_M_leaveLine_16 : decode me_M_leaveLine.2.1 16 = .ok (.iload_n 3, 1) := by decide +kernel
theorem d_M_leaveLine_17 : decode me_M_leaveLine.2.1 17 = .ok (.iaload, 1) := by decide +kernel
theorem d_M_leaveLine_18 : decode me_M_leaveLine.2.1 18 = .ok (.iload_n 1, 1) := by decide +kernel
theorem d_M_leaveLine_19 : decode me_M_leaveLine.2.1 19 = .ok (.if_icmp .eq (18), 3) := by decide +kernel
theorem d_M_leaveLine_22 : decode me_M_leaveLine.2.1 22 = .ok (.aload_n 0, 1) := by decide +kernel
theorem d_M_leaveLine_23 : decode me_M_leaveLine.2.1 23 = .ok (.getfield 89, 3) := by decide +kernel
theorem g_M_leaveLine_23 : bm_gf me_M_leaveLine 23 11 29 := ⟨_, _, _, _, d_M_leaveLine_23, rfl, by decide, uw_M, fl_M_89⟩
theorem d_M_leaveLine_26 : decode me_M_leaveLine.2.1 26 = .ok (.iload_n 2, 1) := by decide +kernel
theorem d_M_leaveLine_27 : decode me_M_leaveLine.2.1 27 = .ok (.aload_n 0, 1) := by decide +kernel
theorem d_M_leaveLine_28 : decode me_M_leaveLine.2.1 28 = .ok (.getfield 89, 3) := by decide +kernel
theorem g_M_leaveLine_28 : bm_gf me_M_leaveLine 28 11 29 := ⟨_, _, _, _, d_M_leaveLine_28, rfl, by decide, uw_M, fl_M_89⟩
theorem d_M_leaveLine_31 : decode me_M_leaveLine.2.1 31 = .ok (.iload_n 3, 1) := by decide +kernel
theorem d_M_leaveLine_32 : decode me_M_leaveLine.2.1 32 = .ok (.iaload, 1) := by decide +kernel
theorem d_M_leaveLine_33 : decode me_M_leaveLine.2.1 33 = .ok (.iastore, 1) := by decide +kernel
theorem d_M_leaveLine_34 : decode me_M_leaveLine.2.1 34 = .ok (.iinc 2 (1), 3) := by decide +kernel
theorem d_M_leaveLine_37 : decode me_M_leaveLine.2.1 37 = .ok (.iinc 3 (1), 3) := by decide +kernel
theorem d_M_leaveLine_40 : decode me_M_leaveLine.2.1 40 = .ok (.goto (-36), 3) := by decide +kernel
theorem d_M_leaveLine_43 : decode me_M_leaveLine.2.1 43 = .ok (.aload_n 0, 1) := by decide +kernel
theorem d_M_leaveLine_44 : decode me_M_leaveLine.2.1 44 = .ok (.iload_n 2, 1) := by decide +kernel
theorem d_M_leaveLine_45 : decode me_M_leaveLine.2.1 45 = .ok (.putfield 217, 3) := by decide +kernel
theorem p_M_leaveLine_45 : bm_pf me_M_leaveLine 45 11 28 .int := ⟨_, _, _, _, ty_M, d_M_leaveLine_45, rfl, by decide, uw_M, fl_M_217, tk_M, nm_M, rfl, Or.inl rfl⟩
theorem d_M_leaveLine_48 : decode me_M_leaveLine.2.1 48 = .ok (.return_, 1) := by decide +kernel
theorem d_M_giveBack_0 : decode me_M_giveBack.2.1 0 = .ok (.iconst 0, 1) := by decide +kernel
theorem d_M_giveBack_1 : decode me_M_giveBack.2.1 1 = .ok (.istore_n 2, 1) := by decide +kernel
theorem d_M_giveBack_2 : decode me_M_giveBack.2.1 2 = .ok (.iload_n 2, 1) := by decide +kernel
theorem d_M_giveBack_3 : decode me_M_giveBack.2.1 3 = .ok (.iconst 3, 1) := by decide +kernel
theorem d_M_giveBack_4 : decode me_M_giveBack.2.1 4 = .ok (.if_icmp .ge (50), 3) := by decide +kernel
theorem d_M_giveBack_7 : decode me_M_giveBack.2.1 7 = .ok (.aload_n 0, 1) := by decide +kernel
theorem d_M_giveBack_8 : decode me_M_giveBack.2.1 8 = .ok (.getfield 71, 3) := by decide +kernel
theorem g_M_giveBack_8 : bm_gf me_M_giveBack 8 11 22 := ⟨_, _, _, _, d_M_giveBack_8, rfl, by decide, uw_M, fl_M_71⟩
theorem d_M_giveBack_11 : decode me_M_giveBack.2.1 11 = .ok (.iconst 3, 1) := by decide +kernel
theorem d_M_giveBack_12 : decode me_M_giveBack.2.1 12 = .ok (.iload_n 1, 1) := by decide +kernel
theorem d_M_giveBack_13 : decode me_M_giveBack.2.1 13 = .ok (.imul, 1) := by decide +kernel
theorem d_M_giveBack_14 : decode me_M_giveBack.2.1 14 = .ok (.iload_n 2, 1) := by decide +kernel
theorem d_M_giveBack_15 : decode me_M_giveBack.2.1 15 = .ok (.iadd, 1) := by decide +kernel
theorem d_M_giveBack_16 : decode me_M_giveBack.2.1 16 = .ok (.iaload, 1) := by decide +kernel
theorem d_M_giveBack_17 : decode me_M_giveBack.2.1 17 = .ok (.iconst (-1), 1) := by decide +kernel
theorem d_M_giveBack_18 : decode me_M_giveBack.2.1 18 = .ok (.if_icmp .eq (19), 3) := by decide +kernel
theorem d_M_giveBack_21 : decode me_M_giveBack.2.1 21 = .ok (.aload_n 0, 1) := by decide +kernel
theorem d_M_giveBack_22 : decode me_M_giveBack.2.1 22 = .ok (.getfield 13, 3) := by decide +kernel
theorem g_M_giveBack_22 : bm_gf me_M_giveBack 22 11 2 := ⟨_, _, _, _, d_M_giveBack_22, rfl, by decide, uw_M, fl_M_13⟩
theorem d_M_giveBack_25 : decode me_M_giveBack.2.1 25 = .ok (.aload_n 0, 1) := by decide +kernel
theorem d_M_giveBack_26 : decode me_M_giveBack.2.1 26 = .ok (.getfield 71, 3) := by decide +kernel
theorem g_M_giveBack_26 : bm_gf me_M_giveBack 26 11 22 := ⟨_, _, _, _, d_M_giveBack_26, rfl, by decide, uw_M, fl_M_71⟩
theorem d_M_giveBack_29 : decode me_M_giveBack.2.1 29 = .ok (.iconst 3, 1) := by decide +kernel
theorem d_M_giveBack_30 : decode me_M_giveBack.2.1 30 = .ok (.iload_n 1, 1) := by decide +kernel
theorem d_M_giveBack_31 : decode me_M_giveBack.2.1 31 = .ok (.imul, 1) := by decide +kernel
theorem d_M_giveBack_32 : decode me_M_giveBack.2.1 32 = .ok (.iload_n 2, 1) := by decide +kernel
theorem d_M_giveBack_33 : decode me_M_giveBack.2.1 33 = .ok (.iadd, 1) := by decide +kernel
theorem d_M_giveBack_34 : decode me_M_giveBack.2.1 34 = .ok (.iaload, 1) := by decide +kernel
theorem d_M_giveBack_35 : decode me_M_giveBack.2.1 35 = .ok (.iconst (-1), 1) := by decide +kernel
theorem d_M_giveBack_36 : decode me_M_giveBack.2.1 36 = .ok (.iastore, 1) := by decide +kernel
theorem d_M_giveBack_37 : decode me_M_giveBack.2.1 37 = .ok (.aload_n 0, 1) := by decide +kernel
theorem d_M_giveBack_38 : decode me_M_giveBack.2.1 38 = .ok (.getfield 71, 3) := by decide +kernel
theorem g_M_giveBack_38 : bm_gf me_M_giveBack 38 11 22 := ⟨_, _, _, _, d_M_giveBack_38, rfl, by decide, uw_M, fl_M_71⟩
theorem d_M_giveBack_41 : decode me_M_giveBack.2.1 41 = .ok (.iconst 3, 1) := by decide +kernel
theorem d_M_giveBack_42 : decode me_M_giveBack.2.1 42 = .ok (.iload_n 1, 1) := by decide +kernel
theorem d_M_giveBack_43 : decode me_M_giveBack.2.1 43 = .ok (.imul, 1) := by decide +kernel
theorem d_M_giveBack_44 : decode me_M_giveBack.2.1 44 = .ok (.iload_n 2, 1) := by decide +kernel
theorem d_M_giveBack_45 : decode me_M_giveBack.2.1 45 = .ok (.iadd, 1) := by decide +kernel
theorem d_M_giveBack_46 : decode me_M_giveBack.2.1 46 = .ok (.iconst (-1), 1) := by decide +kernel
theorem d_M_giveBack_47 : decode me_M_giveBack.2.1 47 = .ok (.iastore, 1) := by decide +kernel
theorem d_M_giveBack_48 : decode me_M_giveBack.2.1 48 = .ok (.iinc 2 (1), 3) := by decide +kernel
theorem d_M_giveBack_51 : decode me_M_giveBack.2.1 51 = .ok (.goto (-49), 3) := by decide +kernel
theorem d_M_giveBack_54 : decode me_M_giveBack.2.1 54 = .ok (.return_, 1) := by decide +kernel
theorem d_M_running_0 : decode me_M_running.2.1 0 = .ok (.iconst 0, 1) := by decide +kernel
theorem d_M_running_1 : decode me_M_running.2.1 1 = .ok (.istore_n 2, 1) := by decide +kernel
theorem d_M_running_2 : decode me_M_running.2.1 2 = .ok (.iconst 0, 1) := by decide +kernel
theorem d_M_running_3 : decode me_M_running.2.1 3 = .ok (.istore_n 3, 1) := by decide +kernel
theorem d_M_running_4 : decode me_M_running.2.1 4 = .ok (.iload_n 3, 1) := by decide +kernel
theorem d_M_running_5 : decode me_M_running.2.1 5 = .ok (.aload_n 0, 1) := by decide +kernel
theorem d_M_running_6 : decode me_M_running.2.1 6 = .ok (.getfield 62, 3) := by decide +kernel
theorem g_M_running_6 : bm_gf me_M_running 6 11 19 := ⟨_, _, _, _, d_M_running_6, rfl, by decide, uw_M, fl_M_62⟩
theorem d_M_running_9 : decode me_M_running.2.1 9 = .ok (.iload_n 1, 1) := by decide +kernel
theorem d_M_running_10 : decode me_M_running.2.1 10 = .ok (.iaload, 1) := by decide +kernel
theorem d_M_running_11 : decode me_M_running.2.1 11 = .ok (.if_icmp .ge (31), 3) := by decide +kernel
theorem d_M_running_14 : decode me_M_running.2.1 14 = .ok (.aload_n 0, 1) := by decide +kernel
theorem d_M_running_15 : decode me_M_running.2.1 15 = .ok (.getfield 83, 3) := by decide +kernel
theorem g_M_running_15 : bm_gf me_M_running 15 11 26 := ⟨_, _, _, _, d_M_running_15, rfl, by decide, uw_M, fl_M_83⟩
theorem d_M_running_18 : decode me_M_running.2.1 18 = .ok (.bipush (8), 2) := by decide +kernel
theorem d_M_running_20 : decode me_M_running.2.1 20 = .ok (.iload_n 1, 1) := by decide +kernel
theorem d_M_running_21 : decode me_M_running.2.1 21 = .ok (.imul, 1) := by decide +kernel
theorem d_M_running_22 : decode me_M_running.2.1 22 = .ok (.iload_n 3, 1) := by decide +kernel
theorem d_M_running_23 : decode me_M_running.2.1 23 = .ok (.iadd, 1) := by decide +kernel
theorem d_M_running_24 : decode me_M_running.2.1 24 = .ok (.baload, 1) := by decide +kernel
theorem d_M_running_25 : decode me_M_running.2.1 25 = .ok (.ifCond .eq (9), 3) := by decide +kernel
theorem d_M_running_28 : decode me_M_running.2.1 28 = .ok (.iload_n 2, 1) := by decide +kernel
theorem d_M_running_29 : decode me_M_running.2.1 29 = .ok (.iconst 1, 1) := by decide +kernel
theorem d_M_running_30 : decode me_M_running.2.1 30 = .ok (.iadd, 1) := by decide +kernel
theorem d_M_running_31 : decode me_M_running.2.1 31 = .ok (.goto (4), 3) := by decide +kernel
theorem d_M_running_34 : decode me_M_running.2.1 34 = .ok (.iload_n 2, 1) := by decide +kernel
theorem d_M_running_35 : decode me_M_running.2.1 35 = .ok (.istore_n 2, 1) := by decide +kernel
theorem d_M_running_36 : decode me_M_running.2.1 36 = .ok (.iinc 3 (1), 3) := by decide +kernel
theorem d_M_running_39 : decode me_M_running.2.1 39 = .ok (.goto (-35), 3) := by decide +kernel
theorem d_M_running_42 : decode me_M_running.2.1 42 = .ok (.iload_n 2, 1) := by decide +kernel
theorem d_M_running_43 : decode me_M_running.2.1 43 = .ok (.ireturn, 1) := by decide +kernel
theorem d_M_move_0 : decode me_M_move.2.1 0 = .ok (.iconst 0, 1) := by decide +kernel
theorem d_M_move_1 : decode me_M_move.2.1 1 = .ok (.istore_n 2, 1) := by decide +kernel
theorem d_M_move_2 : decode me_M_move.2.1 2 = .ok (.iload_n 2, 1) := by decide +kernel
theorem d_M_move_3 : decode me_M_move.2.1 3 = .ok (.aload_n 0, 1) := by decide +kernel
theorem d_M_move_4 : decode me_M_move.2.1 4 = .ok (.getfield 62, 3) := by decide +kernel
theorem g_M_move_4 : bm_gf me_M_move 4 11 19 := ⟨_, _, _, _, d_M_move_4, rfl, by decide, uw_M, fl_M_62⟩
theorem d_M_move_7 : decode me_M_move.2.1 7 = .ok (.iload_n 1, 1) := by decide +kernel
theorem d_M_move_8 : decode me_M_move.2.1 8 = .ok (.iaload, 1) := by decide +kernel
theorem d_M_move_9 : decode me_M_move.2.1 9 = .ok (.if_icmp .ge (40), 3) := by decide +kernel
theorem d_M_move_12 : decode me_M_move.2.1 12 = .ok (.aload_n 0, 1) := by decide +kernel
theorem d_M_move_13 : decode me_M_move.2.1 13 = .ok (.getfield 59, 3) := by decide +kernel
theorem g_M_move_13 : bm_gf me_M_move 13 11 18 := ⟨_, _, _, _, d_M_move_13, rfl, by decide, uw_M, fl_M_59⟩
theorem d_M_move_16 : decode me_M_move.2.1 16 = .ok (.iload_n 1, 1) := by decide +kernel
theorem d_M_move_17 : decode me_M_move.2.1 17 = .ok (.iaload, 1) := by decide +kernel
theorem d_M_move_18 : decode me_M_move.2.1 18 = .ok (.iconst 2, 1) := by decide +kernel
theorem d_M_move_19 : decode me_M_move.2.1 19 = .ok (.if_icmp .ne (30), 3) := by decide +kernel
theorem d_M_move_22 : decode me_M_move.2.1 22 = .ok (.aload_n 0, 1) := by decide +kernel
theorem d_M_move_23 : decode me_M_move.2.1 23 = .ok (.getfield 83, 3) := by decide +kernel
theorem g_M_move_23 : bm_gf me_M_move 23 11 26 := ⟨_, _, _, _, d_M_move_23, rfl, by decide, uw_M, fl_M_83⟩
theorem d_M_move_26 : decode me_M_move.2.1 26 = .ok (.bipush (8), 2) := by decide +kernel
theorem d_M_move_28 : decode me_M_move.2.1 28 = .ok (.iload_n 1, 1) := by decide +kernel
theorem d_M_move_29 : decode me_M_move.2.1 29 = .ok (.imul, 1) := by decide +kernel
theorem d_M_move_30 : decode me_M_move.2.1 30 = .ok (.iload_n 2, 1) := by decide +kernel
theorem d_M_move_31 : decode me_M_move.2.1 31 = .ok (.iadd, 1) := by decide +kernel
theorem d_M_move_32 : decode me_M_move.2.1 32 = .ok (.baload, 1) := by decide +kernel
theorem d_M_move_33 : decode me_M_move.2.1 33 = .ok (.ifCond .ne (10), 3) := by decide +kernel
theorem d_M_move_36 : decode me_M_move.2.1 36 = .ok (.aload_n 0, 1) := by decide +kernel
theorem d_M_move_37 : decode me_M_move.2.1 37 = .ok (.iload_n 1, 1) := by decide +kernel
theorem d_M_move_38 : decode me_M_move.2.1 38 = .ok (.iload_n 2, 1) := by decide +kernel
theorem d_M_move_39 : decode me_M_move.2.1 39 = .ok (.invokevirtual 254, 3) := by decide +kernel
theorem c_M_move_39 : bm_iv me_M_move me_M_walk 39 11 2 := ⟨_, d_M_move_39, Or.inl ml_M_254, ⟨kc_M_walk, in_BatchHallModel, by decide +kernel, by decide, by decide⟩, ki_M_walk, ks_M_walk, _, _, rfl⟩
theorem d_M_move_42 : decode me_M_move.2.1 42 = .ok (.istore_n 2, 1) := by decide +kernel
theorem d_M_move_43 : decode me_M_move.2.1 43 = .ok (.iinc 2 (1), 3) := by decide +kernel
theorem d_M_move_46 : decode me_M_move.2.1 46 = .ok (.goto (-44), 3) := by decide +kernel
theorem d_M_move_49 : decode me_M_move.2.1 49 = .ok (.return_, 1) := by decide +kernel
theorem d_M_walk_0 : decode me_M_walk.2.1 0 = .ok (.iload_n 2, 1) := by decide +kernel
theorem d_M_walk_1 : decode me_M_walk.2.1 1 = .ok (.istore_n 3, 1) := by decide +kernel
theorem d_M_walk_2 : decode me_M_walk.2.1 2 = .ok (.iconst 1, 1) := by decide +kernel
theorem d_M_walk_3 : decode me_M_walk.2.1 3 = .ok (.istore 4, 2) := by decide +kernel
theorem d_M_walk_5 : decode me_M_walk.2.1 5 = .ok (.iload 4, 2) := by decide +kernel
theorem d_M_walk_7 : decode me_M_walk.2.1 7 = .ok (.ifCond .eq (292), 3) := by decide +kernel
theorem d_M_walk_10 : decode me_M_walk.2.1 10 = .ok (.aload_n 0, 1) := by decide +kernel
theorem d_M_walk_11 : decode me_M_walk.2.1 11 = .ok (.getfield 59, 3) := by decide +kernel
theorem g_M_walk_11 : bm_gf me_M_walk 11 11 18 := ⟨_, _, _, _, d_M_walk_11, rfl, by decide, uw_M, fl_M_59⟩
theorem d_M_walk_14 : decode me_M_walk.2.1 14 = .ok (.iload_n 1, 1) := by decide +kernel
theorem d_M_walk_15 : decode me_M_walk.2.1 15 = .ok (.iaload, 1) := by decide +kernel
theorem d_M_walk_16 : decode me_M_walk.2.1 16 = .ok (.iconst 2, 1) := by decide +kernel
theorem d_M_walk_17 : decode me_M_walk.2.1 17 = .ok (.if_icmp .ne (282), 3) := by decide +kernel
theorem d_M_walk_20 : decode me_M_walk.2.1 20 = .ok (.aload_n 0, 1) := by decide +kernel
theorem d_M_walk_21 : decode me_M_walk.2.1 21 = .ok (.iload_n 1, 1) := by decide +kernel
theorem d_M_walk_22 : decode me_M_walk.2.1 22 = .ok (.iload_n 3, 1) := by decide +kernel
theorem d_M_walk_23 : decode me_M_walk.2.1 23 = .ok (.invokevirtual 236, 3) := by decide +kernel
theorem c_M_walk_23 : bm_iv me_M_walk me_M_stepAt 23 11 2 := ⟨_, d_M_walk_23, Or.inl ml_M_236, ⟨kc_M_stepAt, in_BatchHallModel, by decide +kernel, by decide, by decide⟩, ki_M_stepAt, ks_M_stepAt, _, _, rfl⟩
theorem d_M_walk_26 : decode me_M_walk.2.1 26 = .ok (.istore 5, 2) := by decide +kernel
theorem d_M_walk_28 : decode me_M_walk.2.1 28 = .ok (.aload_n 0, 1) := by decide +kernel
theorem d_M_walk_29 : decode me_M_walk.2.1 29 = .ok (.getfield 35, 3) := by decide +kernel
theorem g_M_walk_29 : bm_gf me_M_walk 29 11 9 := ⟨_, _, _, _, d_M_walk_29, rfl, by decide, uw_M, fl_M_35⟩
theorem d_M_walk_32 : decode me_M_walk.2.1 32 = .ok (.iload 5, 2) := by decide +kernel
theorem d_M_walk_34 : decode me_M_walk.2.1 34 = .ok (.iaload, 1) := by decide +kernel
theorem d_M_walk_35 : decode me_M_walk.2.1 35 = .ok (.bipush (6), 2) := by decide +kernel
theorem d_M_walk_37 : decode me_M_walk.2.1 37 = .ok (.if_icmp .ne (12), 3) := by decide +kernel
theorem d_M_walk_40 : decode me_M_walk.2.1 40 = .ok (.aload_n 0, 1) := by decide +kernel
theorem d_M_walk_41 : decode me_M_walk.2.1 41 = .ok (.iload_n 1, 1) := by decide +kernel
theorem d_M_walk_42 : decode me_M_walk.2.1 42 = .ok (.iload_n 3, 1) := by decide +kernel
theorem d_M_walk_43 : decode me_M_walk.2.1 43 = .ok (.invokevirtual 242, 3) := by decide +kernel
theorem c_M_walk_43 : bm_iv me_M_walk me_M_fellow 43 11 2 := ⟨_, d_M_walk_43, Or.inl ml_M_242, ⟨kc_M_fellow, in_BatchHallModel, by decide +kernel, by decide, by decide⟩, ki_M_fellow, ks_M_fellow, _, _, rfl⟩
theorem d_M_walk_46 : decode me_M_walk.2.1 46 = .ok (.goto (4), 3) := by decide +kernel
theorem d_M_walk_49 : decode me_M_walk.2.1 49 = .ok (.iconst (-1), 1) := by decide +kernel
theorem d_M_walk_50 : decode me_M_walk.2.1 50 = .ok (.istore 6, 2) := by decide +kernel
theorem d_M_walk_52 : decode me_M_walk.2.1 52 = .ok (.aload_n 0, 1) := by decide +kernel
theorem d_M_walk_53 : decode me_M_walk.2.1 53 = .ok (.getfield 35, 3) := by decide +kernel
theorem g_M_walk_53 : bm_gf me_M_walk 53 11 9 := ⟨_, _, _, _, d_M_walk_53, rfl, by decide, uw_M, fl_M_35⟩
theorem d_M_walk_56 : decode me_M_walk.2.1 56 = .ok (.iload 5, 2) := by decide +kernel
theorem d_M_walk_58 : decode me_M_walk.2.1 58 = .ok (.iaload, 1) := by decide +kernel
theorem d_M_walk_59 : decode me_M_walk.2.1 59 = .ok (.iconst 4, 1) := by decide +kernel
theorem d_M_walk_60 : decode me_M_walk.2.1 60 = .ok (.if_icmp .le (25), 3) := by decide +kernel
theorem d_M_walk_63 : decode me_M_walk.2.1 63 = .ok (.aload_n 0, 1) := by decide +kernel
theorem d_M_walk_64 : decode me_M_walk.2.1 64 = .ok (.getfield 35, 3) := by decide +kernel
theorem g_M_walk_64 : bm_gf me_M_walk 64 11 9 := ⟨_, _, _, _, d_M_walk_64, rfl, by decide, uw_M, fl_M_35⟩
theorem d_M_walk_67 : decode me_M_walk.2.1 67 = .ok (.iload 5, 2) := by decide +kernel
theorem d_M_walk_69 : decode me_M_walk.2.1 69 = .ok (.iaload, 1) := by decide +kernel
theorem d_M_walk_70 : decode me_M_walk.2.1 70 = .ok (.bipush (6), 2) := by decide +kernel
theorem d_M_walk_72 : decode me_M_walk.2.1 72 = .ok (.if_icmp .ne (9), 3) := by decide +kernel
theorem d_M_walk_75 : decode me_M_walk.2.1 75 = .ok (.iload 6, 2) := by decide +kernel
theorem d_M_walk_77 : decode me_M_walk.2.1 77 = .ok (.iconst (-1), 1) := by decide +kernel
theorem d_M_walk_78 : decode me_M_walk.2.1 78 = .ok (.if_icmp .eq (7), 3) := by decide +kernel
theorem d_M_walk_81 : decode me_M_walk.2.1 81 = .ok (.iconst 1, 1) := by decide +kernel
theorem d_M_walk_82 : decode me_M_walk.2.1 82 = .ok (.goto (4), 3) := by decide +kernel
theorem d_M_walk_85 : decode me_M_walk.2.1 85 = .ok (.iconst 0, 1) := by decide +kernel
theorem d_M_walk_86 : decode me_M_walk.2.1 86 = .ok (.istore 4, 2) := by decide +kernel
theorem d_M_walk_88 : decode me_M_walk.2.1 88 = .ok (.aload_n 0, 1) := by decide +kernel
theorem d_M_walk_89 : decode me_M_walk.2.1 89 = .ok (.getfield 35, 3) := by decide +kernel
theorem g_M_walk_89 : bm_gf me_M_walk 89 11 9 := ⟨_, _, _, _, d_M_walk_89, rfl, by decide, uw_M, fl_M_35⟩
theorem d_M_walk_92 : decode me_M_walk.2.1 92 = .ok (.iload 5, 2) := by decide +kernel
theorem d_M_walk_94 : decode me_M_walk.2.1 94 = .ok (.iaload, 1) := by decide +kernel
theorem d_M_walk_95 : decode me_M_walk.2.1 95 = .ok (.bipush (9), 2) := by decide +kernel
theorem d_M_walk_97 : decode me_M_walk.2.1 97 = .ok (.if_icmp .ne (13), 3) := by decide +kernel
theorem d_M_walk_100 : decode me_M_walk.2.1 100 = .ok (.aload_n 0, 1) := by decide +kernel
theorem d_M_walk_101 : decode me_M_walk.2.1 101 = .ok (.iload_n 1, 1) := by decide +kernel
theorem d_M_walk_102 : decode me_M_walk.2.1 102 = .ok (.bipush (7), 2) := by decide +kernel
theorem d_M_walk_104 : decode me_M_walk.2.1 104 = .ok (.invokevirtual 203, 3) := by decide +kernel
theorem c_M_walk_104 : bm_iv me_M_walk me_M_close 104 11 2 := ⟨_, d_M_walk_104, Or.inl ml_M_203, ⟨kc_M_close, in_BatchHallModel, by decide +kernel, by decide, by decide⟩, ki_M_close, ks_M_close, _, _, rfl⟩
theorem d_M_walk_107 : decode me_M_walk.2.1 107 = .ok (.goto (189), 3) := by decide +kernel
theorem d_M_walk_110 : decode me_M_walk.2.1 110 = .ok (.aload_n 0, 1) := by decide +kernel
theorem d_M_walk_111 : decode me_M_walk.2.1 111 = .ok (.getfield 35, 3) := by decide +kernel
theorem g_M_walk_111 : bm_gf me_M_walk 111 11 9 := ⟨_, _, _, _, d_M_walk_111, rfl, by decide, uw_M, fl_M_35⟩
theorem d_M_walk_114 : decode me_M_walk.2.1 114 = .ok (.iload 5, 2) := by decide +kernel
theorem d_M_walk_116 : decode me_M_walk.2.1 116 = .ok (.iaload, 1) := by decide +kernel
theorem d_M_walk_117 : decode me_M_walk.2.1 117 = .ok (.iconst 4, 1) := by decide +kernel
theorem d_M_walk_118 : decode me_M_walk.2.1 118 = .ok (.if_icmp .gt (12), 3) := by decide +kernel
theorem d_M_walk_121 : decode me_M_walk.2.1 121 = .ok (.aload_n 0, 1) := by decide +kernel
theorem d_M_walk_122 : decode me_M_walk.2.1 122 = .ok (.iload_n 1, 1) := by decide +kernel
theorem d_M_walk_123 : decode me_M_walk.2.1 123 = .ok (.iload_n 3, 1) := by decide +kernel
theorem d_M_walk_124 : decode me_M_walk.2.1 124 = .ok (.invokevirtual 245, 3) := by decide +kernel
theorem c_M_walk_124 : bm_iv me_M_walk me_M_begin 124 11 2 := ⟨_, d_M_walk_124, Or.inl ml_M_245, ⟨kc_M_begin, in_BatchHallModel, by decide +kernel, by decide, by decide⟩, ki_M_begin, ks_M_begin, _, _, rfl⟩
theorem d_M_walk_127 : decode me_M_walk.2.1 127 = .ok (.goto (169), 3) := by decide +kernel
theorem d_M_walk_130 : decode me_M_walk.2.1 130 = .ok (.aload_n 0, 1) := by decide +kernel
theorem d_M_walk_131 : decode me_M_walk.2.1 131 = .ok (.getfield 35, 3) := by decide +kernel
theorem g_M_walk_131 : bm_gf me_M_walk 131 11 9 := ⟨_, _, _, _, d_M_walk_131, rfl, by decide, uw_M, fl_M_35⟩
theorem d_M_walk_134 : decode me_M_walk.2.1 134 = .ok (.iload 5, 2) := by decide +kernel
theorem d_M_walk_136 : decode me_M_walk.2.1 136 = .ok (.iaload, 1) := by decide +kernel
theorem d_M_walk_137 : decode me_M_walk.2.1 137 = .ok (.iconst 5, 1) := by decide +kernel
theorem d_M_walk_138 : decode me_M_walk.2.1 138 = .ok (.if_icmp .ne (69), 3) := by decide +kernel
theorem d_M_walk_141 : decode me_M_walk.2.1 141 = .ok (.bipush (8), 2) := by decide +kernel
theorem d_M_walk_143 : decode me_M_walk.2.1 143 = .ok (.iload_n 1, 1) := by decide +kernel
theorem d_M_walk_144 : decode me_M_walk.2.1 144 = .ok (.imul, 1) := by decide +kernel
theorem d_M_walk_145 : decode me_M_walk.2.1 145 = .ok (.aload_n 0, 1) := by decide +kernel
theorem d_M_walk_146 : decode me_M_walk.2.1 146 = .ok (.getfield 62, 3) := by decide +kernel
theorem g_M_walk_146 : bm_gf me_M_walk 146 11 19 := ⟨_, _, _, _, d_M_walk_146, rfl, by decide, uw_M, fl_M_62⟩
theorem d_M_walk_149 : decode me_M_walk.2.1 149 = .ok (.iload_n 1, 1) := by decide +kernel
theorem d_M_walk_150 : decode me_M_walk.2.1 150 = .ok (.iaload, 1) := by decide +kernel
theorem d_M_walk_151 : decode me_M_walk.2.1 151 = .ok (.iadd, 1) := by decide +kernel
theorem d_M_walk_152 : decode me_M_walk.2.1 152 = .ok (.istore 7, 2) := by decide +kernel
theorem d_M_walk_154 : decode me_M_walk.2.1 154 = .ok (.aload_n 0, 1) := by decide +kernel
theorem d_M_walk_155 : decode me_M_walk.2.1 155 = .ok (.getfield 74, 3) := by decide +kernel
theorem g_M_walk_155 : bm_gf me_M_walk 155 11 23 := ⟨_, _, _, _, d_M_walk_155, rfl, by decide, uw_M, fl_M_74⟩
theorem d_M_walk_158 : decode me_M_walk.2.1 158 = .ok (.iload 7, 2) := by decide +kernel
theorem d_M_walk_160 : decode me_M_walk.2.1 160 = .ok (.aload_n 0, 1) := by decide +kernel
theorem d_M_walk_161 : decode me_M_walk.2.1 161 = .ok (.getfield 50, 3) := by decide +kernel
theorem g_M_walk_161 : bm_gf me_M_walk 161 11 14 := ⟨_, _, _, _, d_M_walk_161, rfl, by decide, uw_M, fl_M_50⟩
theorem d_M_walk_164 : decode me_M_walk.2.1 164 = .ok (.iload 5, 2) := by decide +kernel
theorem d_M_walk_166 : decode me_M_walk.2.1 166 = .ok (.iaload, 1) := by decide +kernel
theorem d_M_walk_167 : decode me_M_walk.2.1 167 = .ok (.iastore, 1) := by decide +kernel
theorem d_M_walk_168 : decode me_M_walk.2.1 168 = .ok (.aload_n 0, 1) := by decide +kernel
theorem d_M_walk_169 : decode me_M_walk.2.1 169 = .ok (.getfield 83, 3) := by decide +kernel
theorem g_M_walk_169 : bm_gf me_M_walk 169 11 26 := ⟨_, _, _, _, d_M_walk_169, rfl, by decide, uw_M, fl_M_83⟩
theorem d_M_walk_172 : decode me_M_walk.2.1 172 = .ok (.iload 7, 2) := by decide +kernel
theorem d_M_walk_174 : decode me_M_walk.2.1 174 = .ok (.iconst 0, 1) := by decide +kernel
theorem d_M_walk_175 : decode me_M_walk.2.1 175 = .ok (.bastore, 1) := by decide +kernel
theorem d_M_walk_176 : decode me_M_walk.2.1 176 = .ok (.aload_n 0, 1) := by decide +kernel
theorem d_M_walk_177 : decode me_M_walk.2.1 177 = .ok (.getfield 62, 3) := by decide +kernel
theorem g_M_walk_177 : bm_gf me_M_walk 177 11 19 := ⟨_, _, _, _, d_M_walk_177, rfl, by decide, uw_M, fl_M_62⟩
theorem d_M_walk_180 : decode me_M_walk.2.1 180 = .ok (.iload_n 1, 1) := by decide +kernel
theorem d_M_walk_181 : decode me_M_walk.2.1 181 = .ok (.dup2, 1) := by decide +kernel
theorem d_M_walk_182 : decode me_M_walk.2.1 182 = .ok (.iaload, 1) := by decide +kernel
theorem d_M_walk_183 : decode me_M_walk.2.1 183 = .ok (.iconst 1, 1) := by decide +kernel
theorem d_M_walk_184 : decode me_M_walk.2.1 184 = .ok (.iadd, 1) := by decide +kernel
theorem d_M_walk_185 : decode me_M_walk.2.1 185 = .ok (.iastore, 1) := by decide +kernel
theorem d_M_walk_186 : decode me_M_walk.2.1 186 = .ok (.aload_n 0, 1) := by decide +kernel
theorem d_M_walk_187 : decode me_M_walk.2.1 187 = .ok (.getfield 74, 3) := by decide +kernel
theorem g_M_walk_187 : bm_gf me_M_walk 187 11 23 := ⟨_, _, _, _, d_M_walk_187, rfl, by decide, uw_M, fl_M_74⟩
theorem d_M_walk_190 : decode me_M_walk.2.1 190 = .ok (.bipush (8), 2) := by decide +kernel
theorem d_M_walk_192 : decode me_M_walk.2.1 192 = .ok (.iload_n 1, 1) := by decide +kernel
theorem d_M_walk_193 : decode me_M_walk.2.1 193 = .ok (.imul, 1) := by decide +kernel
theorem d_M_walk_194 : decode me_M_walk.2.1 194 = .ok (.iload_n 3, 1) := by decide +kernel
theorem d_M_walk_195 : decode me_M_walk.2.1 195 = .ok (.iadd, 1) := by decide +kernel
theorem d_M_walk_196 : decode me_M_walk.2.1 196 = .ok (.aload_n 0, 1) := by decide +kernel
theorem d_M_walk_197 : decode me_M_walk.2.1 197 = .ok (.getfield 47, 3) := by decide +kernel
theorem g_M_walk_197 : bm_gf me_M_walk 197 11 13 := ⟨_, _, _, _, d_M_walk_197, rfl, by decide, uw_M, fl_M_47⟩
theorem d_M_walk_200 : decode me_M_walk.2.1 200 = .ok (.iload 5, 2) := by decide +kernel
theorem d_M_walk_202 : decode me_M_walk.2.1 202 = .ok (.iaload, 1) := by decide +kernel
theorem d_M_walk_203 : decode me_M_walk.2.1 203 = .ok (.iastore, 1) := by decide +kernel
theorem d_M_walk_204 : decode me_M_walk.2.1 204 = .ok (.goto (92), 3) := by decide +kernel
theorem d_M_walk_207 : decode me_M_walk.2.1 207 = .ok (.aload_n 0, 1) := by decide +kernel
theorem d_M_walk_208 : decode me_M_walk.2.1 208 = .ok (.getfield 35, 3) := by decide +kernel
theorem g_M_walk_208 : bm_gf me_M_walk 208 11 9 := ⟨_, _, _, _, d_M_walk_208, rfl, by decide, uw_M, fl_M_35⟩
theorem d_M_walk_211 : decode me_M_walk.2.1 211 = .ok (.iload 5, 2) := by decide +kernel
theorem d_M_walk_213 : decode me_M_walk.2.1 213 = .ok (.iaload, 1) := by decide +kernel
theorem d_M_walk_214 : decode me_M_walk.2.1 214 = .ok (.bipush (6), 2) := by decide +kernel
theorem d_M_walk_216 : decode me_M_walk.2.1 216 = .ok (.if_icmp .ne (50), 3) := by decide +kernel
theorem d_M_walk_219 : decode me_M_walk.2.1 219 = .ok (.iload 4, 2) := by decide +kernel
theorem d_M_walk_221 : decode me_M_walk.2.1 221 = .ok (.ifCond .eq (45), 3) := by decide +kernel
theorem d_M_walk_224 : decode me_M_walk.2.1 224 = .ok (.aload_n 0, 1) := by decide +kernel
theorem d_M_walk_225 : decode me_M_walk.2.1 225 = .ok (.getfield 74, 3) := by decide +kernel
theorem g_M_walk_225 : bm_gf me_M_walk 225 11 23 := ⟨_, _, _, _, d_M_walk_225, rfl, by decide, uw_M, fl_M_74⟩
theorem d_M_walk_228 : decode me_M_walk.2.1 228 = .ok (.bipush (8), 2) := by decide +kernel
theorem d_M_walk_230 : decode me_M_walk.2.1 230 = .ok (.iload_n 1, 1) := by decide +kernel
theorem d_M_walk_231 : decode me_M_walk.2.1 231 = .ok (.imul, 1) := by decide +kernel
theorem d_M_walk_232 : decode me_M_walk.2.1 232 = .ok (.iload_n 3, 1) := by decide +kernel
theorem d_M_walk_233 : decode me_M_walk.2.1 233 = .ok (.iadd, 1) := by decide +kernel
theorem d_M_walk_234 : decode me_M_walk.2.1 234 = .ok (.aload_n 0, 1) := by decide +kernel
theorem d_M_walk_235 : decode me_M_walk.2.1 235 = .ok (.getfield 47, 3) := by decide +kernel
theorem g_M_walk_235 : bm_gf me_M_walk 235 11 13 := ⟨_, _, _, _, d_M_walk_235, rfl, by decide, uw_M, fl_M_47⟩
theorem d_M_walk_238 : decode me_M_walk.2.1 238 = .ok (.iload 5, 2) := by decide +kernel
theorem d_M_walk_240 : decode me_M_walk.2.1 240 = .ok (.iaload, 1) := by decide +kernel
theorem d_M_walk_241 : decode me_M_walk.2.1 241 = .ok (.iastore, 1) := by decide +kernel
theorem d_M_walk_242 : decode me_M_walk.2.1 242 = .ok (.aload_n 0, 1) := by decide +kernel
theorem d_M_walk_243 : decode me_M_walk.2.1 243 = .ok (.iload_n 1, 1) := by decide +kernel
theorem d_M_walk_244 : decode me_M_walk.2.1 244 = .ok (.iload 6, 2) := by decide +kernel
theorem d_M_walk_246 : decode me_M_walk.2.1 246 = .ok (.invokevirtual 248, 3) := by decide +kernel
theorem c_M_walk_246 : bm_iv me_M_walk me_M_drop 246 11 2 := ⟨_, d_M_walk_246, Or.inl ml_M_248, ⟨kc_M_drop, in_BatchHallModel, by decide +kernel, by decide, by decide⟩, ki_M_drop, ks_M_drop, _, _, rfl⟩
theorem d_M_walk_249 : decode me_M_walk.2.1 249 = .ok (.iload 6, 2) := by decide +kernel
theorem d_M_walk_251 : decode me_M_walk.2.1 251 = .ok (.iload_n 3, 1) := by decide +kernel
theorem d_M_walk_252 : decode me_M_walk.2.1 252 = .ok (.if_icmp .ge (9), 3) := by decide +kernel
theorem d_M_walk_255 : decode me_M_walk.2.1 255 = .ok (.iload_n 3, 1) := by decide +kernel
theorem d_M_walk_256 : decode me_M_walk.2.1 256 = .ok (.iconst 1, 1) := by decide +kernel
theorem d_M_walk_257 : decode me_M_walk.2.1 257 = .ok (.isub, 1) := by decide +kernel
theorem d_M_walk_258 : decode me_M_walk.2.1 258 = .ok (.goto (4), 3) := by decide +kernel
theorem d_M_walk_261 : decode me_M_walk.2.1 261 = .ok (.iload_n 3, 1) := by decide +kernel
theorem d_M_walk_262 : decode me_M_walk.2.1 262 = .ok (.istore_n 3, 1) := by decide +kernel
theorem d_M_walk_263 : decode me_M_walk.2.1 263 = .ok (.goto (33), 3) := by decide +kernel
theorem d_M_walk_266 : decode me_M_walk.2.1 266 = .ok (.aload_n 0, 1) := by decide +kernel
theorem d_M_walk_267 : decode me_M_walk.2.1 267 = .ok (.getfield 35, 3) := by decide +kernel
theorem g_M_walk_267 : bm_gf me_M_walk 267 11 9 := ⟨_, _, _, _, d_M_walk_267, rfl, by decide, uw_M, fl_M_35⟩
theorem d_M_walk_270 : decode me_M_walk.2.1 270 = .ok (.iload 5, 2) := by decide +kernel
theorem d_M_walk_272 : decode me_M_walk.2.1 272 = .ok (.iaload, 1) := by decide +kernel
theorem d_M_walk_273 : decode me_M_walk.2.1 273 = .ok (.bipush (6), 2) := by decide +kernel
theorem d_M_walk_275 : decode me_M_walk.2.1 275 = .ok (.if_icmp .eq (21), 3) := by decide +kernel
theorem d_M_walk_278 : decode me_M_walk.2.1 278 = .ok (.aload_n 0, 1) := by decide +kernel
theorem d_M_walk_279 : decode me_M_walk.2.1 279 = .ok (.getfield 74, 3) := by decide +kernel
theorem g_M_walk_279 : bm_gf me_M_walk 279 11 23 := ⟨_, _, _, _, d_M_walk_279, rfl, by decide, uw_M, fl_M_74⟩
theorem d_M_walk_282 : decode me_M_walk.2.1 282 = .ok (.bipush (8), 2) := by decide +kernel
theorem d_M_walk_284 : decode me_M_walk.2.1 284 = .ok (.iload_n 1, 1) := by decide +kernel
theorem d_M_walk_285 : decode me_M_walk.2.1 285 = .ok (.imul, 1) := by decide +kernel
theorem d_M_walk_286 : decode me_M_walk.2.1 286 = .ok (.iload_n 3, 1) := by decide +kernel
theorem d_M_walk_287 : decode me_M_walk.2.1 287 = .ok (.iadd, 1) := by decide +kernel
theorem d_M_walk_288 : decode me_M_walk.2.1 288 = .ok (.aload_n 0, 1) := by decide +kernel
theorem d_M_walk_289 : decode me_M_walk.2.1 289 = .ok (.iload_n 1, 1) := by decide +kernel
theorem d_M_walk_290 : decode me_M_walk.2.1 290 = .ok (.iload 5, 2) := by decide +kernel
theorem d_M_walk_292 : decode me_M_walk.2.1 292 = .ok (.invokevirtual 251, 3) := by decide +kernel
theorem c_M_walk_292 : bm_iv me_M_walk me_M_way 292 11 2 := ⟨_, d_M_walk_292, Or.inl ml_M_251, ⟨kc_M_way, in_BatchHallModel, by decide +kernel, by decide, by decide⟩, ki_M_way, ks_M_way, _, _, rfl⟩
theorem d_M_walk_295 : decode me_M_walk.2.1 295 = .ok (.iastore, 1) := by decide +kernel
theorem d_M_walk_296 : decode me_M_walk.2.1 296 = .ok (.goto (-291), 3) := by decide +kernel
theorem d_M_walk_299 : decode me_M_walk.2.1 299 = .ok (.iload_n 3, 1) := by decide +kernel
theorem d_M_walk_300 : decode me_M_walk.2.1 300 = .ok (.ireturn, 1) := by decide +kernel
theorem d_M_fellow_0 : decode me_M_fellow.2.1 0 = .ok (.iconst 0, 1) := by decide +kernel
theorem d_M_fellow_1 : decode me_M_fellow.2.1 1 = .ok (.istore_n 3, 1) := by decide +kernel
theorem d_M_fellow_2 : decode me_M_fellow.2.1 2 = .ok (.iload_n 3, 1) := by decide +kernel
theorem d_M_fellow_3 : decode me_M_fellow.2.1 3 = .ok (.aload_n 0, 1) := by decide +kernel
theorem d_M_fellow_4 : decode me_M_fellow.2.1 4 = .ok (.getfield 62, 3) := by decide +kernel
theorem g_M_fellow_4 : bm_gf me_M_fellow 4 11 19 := ⟨_, _, _, _, d_M_fellow_4, rfl, by decide, uw_M, fl_M_62⟩
theorem d_M_fellow_7 : decode me_M_fellow.2.1 7 = .ok (.iload_n 1, 1) := by decide +kernel
theorem d_M_fellow_8 : decode me_M_fellow.2.1 8 = .ok (.iaload, 1) := by decide +kernel
theorem d_M_fellow_9 : decode me_M_fellow.2.1 9 = .ok (.if_icmp .ge (41), 3) := by decide +kernel
theorem d_M_fellow_12 : decode me_M_fellow.2.1 12 = .ok (.iload_n 3, 1) := by decide +kernel
theorem d_M_fellow_13 : decode me_M_fellow.2.1 13 = .ok (.iload_n 2, 1) := by decide +kernel
theorem d_M_fellow_14 : decode me_M_fellow.2.1 14 = .ok (.if_icmp .eq (30), 3) := by decide +kernel
theorem d_M_fellow_17 : decode me_M_fellow.2.1 17 = .ok (.aload_n 0, 1) := by decide +kernel
theorem d_M_fellow_18 : decode me_M_fellow.2.1 18 = .ok (.getfield 74, 3) := by decide +kernel
theorem g_M_fellow_18 : bm_gf me_M_fellow 18 11 23 := ⟨_, _, _, _, d_M_fellow_18, rfl, by decide, uw_M, fl_M_74⟩
theorem d_M_fellow_21 : decode me_M_fellow.2.1 21 = .ok (.bipush (8), 2) := by decide +kernel
theorem d_M_fellow_23 : decode me_M_fellow.2.1 23 = .ok (.iload_n 1, 1) := by decide +kernel
theorem d_M_fellow_24 : decode me_M_fellow.2.1 24 = .ok (.imul, 1) := by decide +kernel
theorem d_M_fellow_25 : decode me_M_fellow.2.1 25 = .ok (.iload_n 3, 1) := by decide +kernel
theorem d_M_fellow_26 : decode me_M_fellow.2.1 26 = .ok (.iadd, 1) := by decide +kernel
theorem d_M_fellow_27 : decode me_M_fellow.2.1 27 = .ok (.iaload, 1) := by decide +kernel
theorem d_M_fellow_28 : decode me_M_fellow.2.1 28 = .ok (.aload_n 0, 1) := by decide +kernel
theorem d_M_fellow_29 : decode me_M_fellow.2.1 29 = .ok (.getfield 74, 3) := by decide +kernel
theorem g_M_fellow_29 : bm_gf me_M_fellow 29 11 23 := ⟨_, _, _, _, d_M_fellow_29, rfl, by decide, uw_M, fl_M_74⟩
theorem d_M_fellow_32 : decode me_M_fellow.2.1 32 = .ok (.bipush (8), 2) := by decide +kernel
theorem d_M_fellow_34 : decode me_M_fellow.2.1 34 = .ok (.iload_n 1, 1) := by decide +kernel
theorem d_M_fellow_35 : decode me_M_fellow.2.1 35 = .ok (.imul, 1) := by decide +kernel
theorem d_M_fellow_36 : decode me_M_fellow.2.1 36 = .ok (.iload_n 2, 1) := by decide +kernel
theorem d_M_fellow_37 : decode me_M_fellow.2.1 37 = .ok (.iadd, 1) := by decide +kernel
theorem d_M_fellow_38 : decode me_M_fellow.2.1 38 = .ok (.iaload, 1) := by decide +kernel
theorem d_M_fellow_39 : decode me_M_fellow.2.1 39 = .ok (.if_icmp .ne (5), 3) := by decide +kernel
theorem d_M_fellow_42 : decode me_M_fellow.2.1 42 = .ok (.iload_n 3, 1) := by decide +kernel
theorem d_M_fellow_43 : decode me_M_fellow.2.1 43 = .ok (.ireturn, 1) := by decide +kernel
theorem d_M_fellow_44 : decode me_M_fellow.2.1 44 = .ok (.iinc 3 (1), 3) := by decide +kernel
theorem d_M_fellow_47 : decode me_M_fellow.2.1 47 = .ok (.goto (-45), 3) := by decide +kernel
theorem d_M_fellow_50 : decode me_M_fellow.2.1 50 = .ok (.iconst (-1), 1) := by decide +kernel
theorem d_M_fellow_51 : decode me_M_fellow.2.1 51 = .ok (.ireturn, 1) := by decide +kernel
theorem d_M_begin_0 : decode me_M_begin.2.1 0 = .ok (.bipush (8), 2) := by decide +kernel
theorem d_M_begin_2 : decode me_M_begin.2.1 2 = .ok (.iload_n 1, 1) := by decide +kernel
theorem d_M_begin_3 : decode me_M_begin.2.1 3 = .ok (.imul, 1) := by decide +kernel
theorem d_M_begin_4 : decode me_M_begin.2.1 4 = .ok (.iload_n 2, 1) := by decide +kernel
theorem d_M_begin_5 : decode me_M_begin.2.1 5 = .ok (.iadd, 1) := by decide +kernel
theorem d_M_begin_6 : decode me_M_begin.2.1 6 = .ok (.istore_n 3, 1) := by decide +kernel
theorem d_M_begin_7 : decode me_M_begin.2.1 7 = .ok (.aload_n 0, 1) := by decide +kernel
theorem d_M_begin_8 : decode me_M_begin.2.1 8 = .ok (.iload_n 1, 1) := by decide +kernel
theorem d_M_begin_9 : decode me_M_begin.2.1 9 = .ok (.iload_n 2, 1) := by decide +kernel
theorem d_M_begin_10 : decode me_M_begin.2.1 10 = .ok (.invokevirtual 236, 3) := by decide +kernel
theorem c_M_begin_10 : bm_iv me_M_begin me_M_stepAt 10 11 2 := ⟨_, d_M_begin_10, Or.inl ml_M_236, ⟨kc_M_stepAt, in_BatchHallModel, by decide +kernel, by decide, by decide⟩, ki_M_stepAt, ks_M_stepAt, _, _, rfl⟩
theorem d_M_begin_13 : decode me_M_begin.2.1 13 = .ok (.istore 4, 2) := by decide +kernel
theorem d_M_begin_15 : decode me_M_begin.2.1 15 = .ok (.iconst 0, 1) := by decide +kernel
theorem d_M_begin_16 : decode me_M_begin.2.1 16 = .ok (.istore 5, 2) := by decide +kernel
theorem d_M_begin_18 : decode me_M_begin.2.1 18 = .ok (.iconst 0, 1) := by decide +kernel
theorem d_M_begin_19 : decode me_M_begin.2.1 19 = .ok (.istore 6, 2) := by decide +kernel
theorem d_M_begin_21 : decode me_M_begin.2.1 21 = .ok (.iload 6, 2) := by decide +kernel
theorem d_M_begin_23 : decode me_M_begin.2.1 23 = .ok (.aload_n 0, 1) := by decide +kernel
theorem d_M_begin_24 : decode me_M_begin.2.1 24 = .ok (.getfield 62, 3) := by decide +kernel
theorem g_M_begin_24 : bm_gf me_M_begin 24 11 19 := ⟨_, _, _, _, d_M_begin_24, rfl, by decide, uw_M, fl_M_62⟩
theorem d_M_begin_27 : decode me_M_begin.2.1 27 = .ok (.iload_n 1, 1) := by decide +kernel
theorem d_M_begin_28 : decode me_M_begin.2.1 28 = .ok (.iaload, 1) := by decide +kernel
theorem d_M_begin_29 : decode me_M_begin.2.1 29 = .ok (.if_icmp .ge (44), 3) := by decide +kernel
theorem d_M_begin_32 : decode me_M_begin.2.1 32 = .ok (.iload 5, 2) := by decide +kernel
theorem d_M_begin_34 : decode me_M_begin.2.1 34 = .ok (.aload_n 0, 1) := by decide +kernel
theorem d_M_begin_35 : decode me_M_begin.2.1 35 = .ok (.getfield 83, 3) := by decide +kernel
theorem g_M_begin_35 : bm_gf me_M_begin 35 11 26 := ⟨_, _, _, _, d_M_begin_35, rfl, by decide, uw_M, fl_M_83⟩
theorem d_M_begin_38 : decode me_M_begin.2.1 38 = .ok (.bipush (8), 2) := by decide +kernel
theorem d_M_begin_40 : decode me_M_begin.2.1 40 = .ok (.iload_n 1, 1) := by decide +kernel
theorem d_M_begin_41 : decode me_M_begin.2.1 41 = .ok (.imul, 1) := by decide +kernel
theorem d_M_begin_42 : decode me_M_begin.2.1 42 = .ok (.iload 6, 2) := by decide +kernel
theorem d_M_begin_44 : decode me_M_begin.2.1 44 = .ok (.iadd, 1) := by decide +kernel
theorem d_M_begin_45 : decode me_M_begin.2.1 45 = .ok (.baload, 1) := by decide +kernel
theorem d_M_begin_46 : decode me_M_begin.2.1 46 = .ok (.ifCond .eq (17), 3) := by decide +kernel
theorem d_M_begin_49 : decode me_M_begin.2.1 49 = .ok (.aload_n 0, 1) := by decide +kernel
theorem d_M_begin_50 : decode me_M_begin.2.1 50 = .ok (.aload_n 0, 1) := by decide +kernel
theorem d_M_begin_51 : decode me_M_begin.2.1 51 = .ok (.iload_n 1, 1) := by decide +kernel
theorem d_M_begin_52 : decode me_M_begin.2.1 52 = .ok (.iload 6, 2) := by decide +kernel
theorem d_M_begin_54 : decode me_M_begin.2.1 54 = .ok (.invokevirtual 236, 3) := by decide +kernel
theorem c_M_begin_54 : bm_iv me_M_begin me_M_stepAt 54 11 2 := ⟨_, d_M_begin_54, Or.inl ml_M_236, ⟨kc_M_stepAt, in_BatchHallModel, by decide +kernel, by decide, by decide⟩, ki_M_stepAt, ks_M_stepAt, _, _, rfl⟩
theorem d_M_begin_57 : decode me_M_begin.2.1 57 = .ok (.invokevirtual 239, 3) := by decide +kernel
theorem c_M_begin_57 : bm_iv me_M_begin me_M_rolesOf 57 11 1 := ⟨_, d_M_begin_57, Or.inl ml_M_239, ⟨kc_M_rolesOf, in_BatchHallModel, by decide +kernel, by decide, by decide⟩, ki_M_rolesOf, ks_M_rolesOf, _, _, rfl⟩
theorem d_M_begin_60 : decode me_M_begin.2.1 60 = .ok (.goto (4), 3) := by decide +kernel
theorem d_M_begin_63 : decode me_M_begin.2.1 63 = .ok (.iconst 0, 1) := by decide +kernel
theorem d_M_begin_64 : decode me_M_begin.2.1 64 = .ok (.ior, 1) := by decide +kernel
theorem d_M_begin_65 : decode me_M_begin.2.1 65 = .ok (.istore 5, 2) := by decide +kernel
theorem d_M_begin_67 : decode me_M_begin.2.1 67 = .ok (.iinc 6 (1), 3) := by decide +kernel
theorem d_M_begin_70 : decode me_M_begin.2.1 70 = .ok (.goto (-49), 3) := by decide +kernel
theorem d_M_begin_73 : decode me_M_begin.2.1 73 = .ok (.aload_n 0, 1) := by decide +kernel
theorem d_M_begin_74 : decode me_M_begin.2.1 74 = .ok (.getfield 83, 3) := by decide +kernel
theorem g_M_begin_74 : bm_gf me_M_begin 74 11 26 := ⟨_, _, _, _, d_M_begin_74, rfl, by decide, uw_M, fl_M_83⟩
theorem d_M_begin_77 : decode me_M_begin.2.1 77 = .ok (.iload_n 3, 1) := by decide +kernel
theorem d_M_begin_78 : decode me_M_begin.2.1 78 = .ok (.baload, 1) := by decide +kernel
theorem d_M_begin_79 : decode me_M_begin.2.1 79 = .ok (.ifCond .ne (15), 3) := by decide +kernel
theorem d_M_begin_82 : decode me_M_begin.2.1 82 = .ok (.iload 5, 2) := by decide +kernel
theorem d_M_begin_84 : decode me_M_begin.2.1 84 = .ok (.aload_n 0, 1) := by decide +kernel
theorem d_M_begin_85 : decode me_M_begin.2.1 85 = .ok (.iload 4, 2) := by decide +kernel
theorem d_M_begin_87 : decode me_M_begin.2.1 87 = .ok (.invokevirtual 239, 3) := by decide +kernel
theorem c_M_begin_87 : bm_iv me_M_begin me_M_rolesOf 87 11 1 := ⟨_, d_M_begin_87, Or.inl ml_M_239, ⟨kc_M_rolesOf, in_BatchHallModel, by decide +kernel, by decide, by decide⟩, ki_M_rolesOf, ks_M_rolesOf, _, _, rfl⟩
theorem d_M_begin_90 : decode me_M_begin.2.1 90 = .ok (.iand, 1) := by decide +kernel
theorem d_M_begin_91 : decode me_M_begin.2.1 91 = .ok (.ifCond .eq (4), 3) := by decide +kernel
theorem d_M_begin_94 : decode me_M_begin.2.1 94 = .ok (.return_, 1) := by decide +kernel
theorem d_M_begin_95 : decode me_M_begin.2.1 95 = .ok (.aload_n 0, 1) := by decide +kernel
theorem d_M_begin_96 : decode me_M_begin.2.1 96 = .ok (.getfield 35, 3) := by decide +kernel
theorem g_M_begin_96 : bm_gf me_M_begin 96 11 9 := ⟨_, _, _, _, d_M_begin_96, rfl, by decide, uw_M, fl_M_35⟩
theorem d_M_begin_99 : decode me_M_begin.2.1 99 = .ok (.iload 4, 2) := by decide +kernel
theorem d_M_begin_101 : decode me_M_begin.2.1 101 = .ok (.iaload, 1) := by decide +kernel
theorem d_M_begin_102 : decode me_M_begin.2.1 102 = .ok (.ifCond .ne (31), 3) := by decide +kernel
theorem d_M_begin_105 : decode me_M_begin.2.1 105 = .ok (.aload_n 0, 1) := by decide +kernel
theorem d_M_begin_106 : decode me_M_begin.2.1 106 = .ok (.iload_n 1, 1) := by decide +kernel
theorem d_M_begin_107 : decode me_M_begin.2.1 107 = .ok (.aload_n 0, 1) := by decide +kernel
theorem d_M_begin_108 : decode me_M_begin.2.1 108 = .ok (.getfield 74, 3) := by decide +kernel
theorem g_M_begin_108 : bm_gf me_M_begin 108 11 23 := ⟨_, _, _, _, d_M_begin_108, rfl, by decide, uw_M, fl_M_74⟩
theorem d_M_begin_111 : decode me_M_begin.2.1 111 = .ok (.iload_n 3, 1) := by decide +kernel
theorem d_M_begin_112 : decode me_M_begin.2.1 112 = .ok (.iaload, 1) := by decide +kernel
theorem d_M_begin_113 : decode me_M_begin.2.1 113 = .ok (.invokevirtual 210, 3) := by decide +kernel
theorem c_M_begin_113 : bm_iv me_M_begin me_M_newLot 113 11 2 := ⟨_, d_M_begin_113, Or.inl ml_M_210, ⟨kc_M_newLot, in_BatchHallModel, by decide +kernel, by decide, by decide⟩, ki_M_newLot, ks_M_newLot, _, _, rfl⟩
theorem d_M_begin_116 : decode me_M_begin.2.1 116 = .ok (.istore 6, 2) := by decide +kernel
theorem d_M_begin_118 : decode me_M_begin.2.1 118 = .ok (.iload 6, 2) := by decide +kernel
theorem d_M_begin_120 : decode me_M_begin.2.1 120 = .ok (.iconst (-1), 1) := by decide +kernel
theorem d_M_begin_121 : decode me_M_begin.2.1 121 = .ok (.if_icmp .ne (4), 3) := by decide +kernel
theorem d_M_begin_124 : decode me_M_begin.2.1 124 = .ok (.return_, 1) := by decide +kernel
theorem d_M_begin_125 : decode me_M_begin.2.1 125 = .ok (.aload_n 0, 1) := by decide +kernel
theorem d_M_begin_126 : decode me_M_begin.2.1 126 = .ok (.getfield 80, 3) := by decide +kernel
theorem g_M_begin_126 : bm_gf me_M_begin 126 11 25 := ⟨_, _, _, _, d_M_begin_126, rfl, by decide, uw_M, fl_M_80⟩
theorem d_M_begin_129 : decode me_M_begin.2.1 129 = .ok (.iload_n 3, 1) := by decide +kernel
theorem d_M_begin_130 : decode me_M_begin.2.1 130 = .ok (.iload 6, 2) := by decide +kernel
theorem d_M_begin_132 : decode me_M_begin.2.1 132 = .ok (.iastore, 1) := by decide +kernel
theorem d_M_begin_133 : decode me_M_begin.2.1 133 = .ok (.aload_n 0, 1) := by decide +kernel
theorem d_M_begin_134 : decode me_M_begin.2.1 134 = .ok (.getfield 83, 3) := by decide +kernel
theorem g_M_begin_134 : bm_gf me_M_begin 134 11 26 := ⟨_, _, _, _, d_M_begin_134, rfl, by decide, uw_M, fl_M_83⟩
theorem d_M_begin_137 : decode me_M_begin.2.1 137 = .ok (.iload_n 3, 1) := by decide +kernel
theorem d_M_begin_138 : decode me_M_begin.2.1 138 = .ok (.iconst 1, 1) := by decide +kernel
theorem d_M_begin_139 : decode me_M_begin.2.1 139 = .ok (.bastore, 1) := by decide +kernel
theorem d_M_begin_140 : decode me_M_begin.2.1 140 = .ok (.aload_n 0, 1) := by decide +kernel
theorem d_M_begin_141 : decode me_M_begin.2.1 141 = .ok (.getfield 86, 3) := by decide +kernel
theorem g_M_begin_141 : bm_gf me_M_begin 141 11 27 := ⟨_, _, _, _, d_M_begin_141, rfl, by decide, uw_M, fl_M_86⟩
theorem d_M_begin_144 : decode me_M_begin.2.1 144 = .ok (.iload_n 3, 1) := by decide +kernel
theorem d_M_begin_145 : decode me_M_begin.2.1 145 = .ok (.iconst 0, 1) := by decide +kernel
theorem d_M_begin_146 : decode me_M_begin.2.1 146 = .ok (.bastore, 1) := by decide +kernel
theorem d_M_begin_147 : decode me_M_begin.2.1 147 = .ok (.aload_n 0, 1) := by decide +kernel
theorem d_M_begin_148 : decode me_M_begin.2.1 148 = .ok (.getfield 77, 3) := by decide +kernel
theorem g_M_begin_148 : bm_gf me_M_begin 148 11 24 := ⟨_, _, _, _, d_M_begin_148, rfl, by decide, uw_M, fl_M_77⟩
theorem d_M_begin_151 : decode me_M_begin.2.1 151 = .ok (.iload_n 3, 1) := by decide +kernel
theorem d_M_begin_152 : decode me_M_begin.2.1 152 = .ok (.aload_n 0, 1) := by decide +kernel
theorem d_M_begin_153 : decode me_M_begin.2.1 153 = .ok (.getfield 35, 3) := by decide +kernel
theorem g_M_begin_153 : bm_gf me_M_begin 153 11 9 := ⟨_, _, _, _, d_M_begin_153, rfl, by decide, uw_M, fl_M_35⟩
theorem d_M_begin_156 : decode me_M_begin.2.1 156 = .ok (.iload 4, 2) := by decide +kernel
theorem d_M_begin_158 : decode me_M_begin.2.1 158 = .ok (.iaload, 1) := by decide +kernel
theorem d_M_begin_159 : decode me_M_begin.2.1 159 = .ok (.ifCond .ne (31), 3) := by decide +kernel
theorem d_M_begin_162 : decode me_M_begin.2.1 162 = .ok (.aload_n 0, 1) := by decide +kernel
theorem d_M_begin_163 : decode me_M_begin.2.1 163 = .ok (.getfield 41, 3) := by decide +kernel
theorem g_M_begin_163 : bm_gf me_M_begin 163 11 11 := ⟨_, _, _, _, d_M_begin_163, rfl, by decide, uw_M, fl_M_41⟩
theorem d_M_begin_166 : decode me_M_begin.2.1 166 = .ok (.iload 4, 2) := by decide +kernel
theorem d_M_begin_168 : decode me_M_begin.2.1 168 = .ok (.iaload, 1) := by decide +kernel
theorem d_M_begin_169 : decode me_M_begin.2.1 169 = .ok (.aload_n 0, 1) := by decide +kernel
theorem d_M_begin_170 : decode me_M_begin.2.1 170 = .ok (.getfield 44, 3) := by decide +kernel
theorem g_M_begin_170 : bm_gf me_M_begin 170 11 12 := ⟨_, _, _, _, d_M_begin_170, rfl, by decide, uw_M, fl_M_44⟩
theorem d_M_begin_173 : decode me_M_begin.2.1 173 = .ok (.iload 4, 2) := by decide +kernel
theorem d_M_begin_175 : decode me_M_begin.2.1 175 = .ok (.iaload, 1) := by decide +kernel
theorem d_M_begin_176 : decode me_M_begin.2.1 176 = .ok (.aload_n 0, 1) := by decide +kernel
theorem d_M_begin_177 : decode me_M_begin.2.1 177 = .ok (.getfield 56, 3) := by decide +kernel
theorem g_M_begin_177 : bm_gf me_M_begin 177 11 17 := ⟨_, _, _, _, d_M_begin_177, rfl, by decide, uw_M, fl_M_56⟩
theorem d_M_begin_180 : decode me_M_begin.2.1 180 = .ok (.iload_n 1, 1) := by decide +kernel
theorem d_M_begin_181 : decode me_M_begin.2.1 181 = .ok (.iaload, 1) := by decide +kernel
theorem d_M_begin_182 : decode me_M_begin.2.1 182 = .ok (.imul, 1) := by decide +kernel
theorem d_M_begin_183 : decode me_M_begin.2.1 183 = .ok (.bipush (100), 2) := by decide +kernel
theorem d_M_begin_185 : decode me_M_begin.2.1 185 = .ok (.idiv, 1) := by decide +kernel
theorem d_M_begin_186 : decode me_M_begin.2.1 186 = .ok (.iadd, 1) := by decide +kernel
theorem d_M_begin_187 : decode me_M_begin.2.1 187 = .ok (.goto (55), 3) := by decide +kernel
theorem d_M_begin_190 : decode me_M_begin.2.1 190 = .ok (.aload_n 0, 1) := by decide +kernel
theorem d_M_begin_191 : decode me_M_begin.2.1 191 = .ok (.getfield 35, 3) := by decide +kernel
theorem g_M_begin_191 : bm_gf me_M_begin 191 11 9 := ⟨_, _, _, _, d_M_begin_191, rfl, by decide, uw_M, fl_M_35⟩
theorem d_M_begin_194 : decode me_M_begin.2.1 194 = .ok (.iload 4, 2) := by decide +kernel
theorem d_M_begin_196 : decode me_M_begin.2.1 196 = .ok (.iaload, 1) := by decide +kernel
theorem d_M_begin_197 : decode me_M_begin.2.1 197 = .ok (.iconst 2, 1) := by decide +kernel
theorem d_M_begin_198 : decode me_M_begin.2.1 198 = .ok (.if_icmp .ne (37), 3) := by decide +kernel
theorem d_M_begin_201 : decode me_M_begin.2.1 201 = .ok (.aload_n 0, 1) := by decide +kernel
theorem d_M_begin_202 : decode me_M_begin.2.1 202 = .ok (.aload_n 0, 1) := by decide +kernel
theorem d_M_begin_203 : decode me_M_begin.2.1 203 = .ok (.getfield 71, 3) := by decide +kernel
theorem g_M_begin_203 : bm_gf me_M_begin 203 11 22 := ⟨_, _, _, _, d_M_begin_203, rfl, by decide, uw_M, fl_M_71⟩
theorem d_M_begin_206 : decode me_M_begin.2.1 206 = .ok (.iconst 3, 1) := by decide +kernel
theorem d_M_begin_207 : decode me_M_begin.2.1 207 = .ok (.iload_n 1, 1) := by decide +kernel
theorem d_M_begin_208 : decode me_M_begin.2.1 208 = .ok (.imul, 1) := by decide +kernel
theorem d_M_begin_209 : decode me_M_begin.2.1 209 = .ok (.aload_n 0, 1) := by decide +kernel
theorem d_M_begin_210 : decode me_M_begin.2.1 210 = .ok (.getfield 38, 3) := by decide +kernel
theorem g_M_begin_210 : bm_gf me_M_begin 210 11 10 := ⟨_, _, _, _, d_M_begin_210, rfl, by decide, uw_M, fl_M_38⟩
theorem d_M_begin_213 : decode me_M_begin.2.1 213 = .ok (.iload 4, 2) := by decide +kernel
theorem d_M_begin_215 : decode me_M_begin.2.1 215 = .ok (.iaload, 1) := by decide +kernel
theorem d_M_begin_216 : decode me_M_begin.2.1 216 = .ok (.iadd, 1) := by decide +kernel
theorem d_M_begin_217 : decode me_M_begin.2.1 217 = .ok (.iaload, 1) := by decide +kernel
theorem d_M_begin_218 : decode me_M_begin.2.1 218 = .ok (.invokevirtual 188, 3) := by decide +kernel
theorem c_M_begin_218 : bm_iv me_M_begin me_M_total 218 11 1 := ⟨_, d_M_begin_218, Or.inl ml_M_188, ⟨kc_M_total, in_BatchHallModel, by decide +kernel, by decide, by decide⟩, ki_M_total, ks_M_total, _, _, rfl⟩
theorem d_M_begin_221 : decode me_M_begin.2.1 221 = .ok (.aload_n 0, 1) := by decide +kernel
theorem d_M_begin_222 : decode me_M_begin.2.1 222 = .ok (.getfield 44, 3) := by decide +kernel
theorem g_M_begin_222 : bm_gf me_M_begin 222 11 12 := ⟨_, _, _, _, d_M_begin_222, rfl, by decide, uw_M, fl_M_44⟩
theorem d_M_begin_225 : decode me_M_begin.2.1 225 = .ok (.iload 4, 2) := by decide +kernel
theorem d_M_begin_227 : decode me_M_begin.2.1 227 = .ok (.iaload, 1) := by decide +kernel
theorem d_M_begin_228 : decode me_M_begin.2.1 228 = .ok (.imul, 1) := by decide +kernel
theorem d_M_begin_229 : decode me_M_begin.2.1 229 = .ok (.bipush (100), 2) := by decide +kernel
theorem d_M_begin_231 : decode me_M_begin.2.1 231 = .ok (.idiv, 1) := by decide +kernel
theorem d_M_begin_232 : decode me_M_begin.2.1 232 = .ok (.goto (10), 3) := by decide +kernel
theorem d_M_begin_235 : decode me_M_begin.2.1 235 = .ok (.aload_n 0, 1) := by decide +kernel
theorem d_M_begin_236 : decode me_M_begin.2.1 236 = .ok (.getfield 41, 3) := by decide +kernel
theorem g_M_begin_236 : bm_gf me_M_begin 236 11 11 := ⟨_, _, _, _, d_M_begin_236, rfl, by decide, uw_M, fl_M_41⟩
theorem d_M_begin_239 : decode me_M_begin.2.1 239 = .ok (.iload 4, 2) := by decide +kernel
theorem d_M_begin_241 : decode me_M_begin.2.1 241 = .ok (.iaload, 1) := by decide +kernel
theorem d_M_begin_242 : decode me_M_begin.2.1 242 = .ok (.iastore, 1) := by decide +kernel
theorem d_M_begin_243 : decode me_M_begin.2.1 243 = .ok (.return_, 1) := by decide +kernel
theorem d_M_rolesOf_0 : decode me_M_rolesOf.2.1 0 = .ok (.aload_n 0, 1) := by decide +kernel
theorem d_M_rolesOf_1 : decode me_M_rolesOf.2.1 1 = .ok (.getfield 35, 3) := by decide +kernel
theorem g_M_rolesOf_1 : bm_gf me_M_rolesOf 1 11 9 := ⟨_, _, _, _, d_M_rolesOf_1, rfl, by decide, uw_M, fl_M_35⟩
theorem d_M_rolesOf_4 : decode me_M_rolesOf.2.1 4 = .ok (.iload_n 1, 1) := by decide +kernel
theorem d_M_rolesOf_5 : decode me_M_rolesOf.2.1 5 = .ok (.iaload, 1) := by decide +kernel
theorem d_M_rolesOf_6 : decode me_M_rolesOf.2.1 6 = .ok (.iconst 2, 1) := by decide +kernel
theorem d_M_rolesOf_7 : decode me_M_rolesOf.2.1 7 = .ok (.if_icmp .ne (23), 3) := by decide +kernel
theorem d_M_rolesOf_10 : decode me_M_rolesOf.2.1 10 = .ok (.iconst 1, 1) := by decide +kernel
theorem d_M_rolesOf_11 : decode me_M_rolesOf.2.1 11 = .ok (.aload_n 0, 1) := by decide +kernel
theorem d_M_rolesOf_12 : decode me_M_rolesOf.2.1 12 = .ok (.getfield 38, 3) := by decide +kernel
theorem g_M_rolesOf_12 : bm_gf me_M_rolesOf 12 11 10 := ⟨_, _, _, _, d_M_rolesOf_12, rfl, by decide, uw_M, fl_M_38⟩
theorem d_M_rolesOf_15 : decode me_M_rolesOf.2.1 15 = .ok (.iload_n 1, 1) := by decide +kernel
theorem d_M_rolesOf_16 : decode me_M_rolesOf.2.1 16 = .ok (.iaload, 1) := by decide +kernel
theorem d_M_rolesOf_17 : decode me_M_rolesOf.2.1 17 = .ok (.ishl, 1) := by decide +kernel
theorem d_M_rolesOf_18 : decode me_M_rolesOf.2.1 18 = .ok (.iconst 1, 1) := by decide +kernel
theorem d_M_rolesOf_19 : decode me_M_rolesOf.2.1 19 = .ok (.aload_n 0, 1) := by decide +kernel
theorem d_M_rolesOf_20 : decode me_M_rolesOf.2.1 20 = .ok (.getfield 41, 3) := by decide +kernel
theorem g_M_rolesOf_20 : bm_gf me_M_rolesOf 20 11 11 := ⟨_, _, _, _, d_M_rolesOf_20, rfl, by decide, uw_M, fl_M_41⟩
theorem d_M_rolesOf_23 : decode me_M_rolesOf.2.1 23 = .ok (.iload_n 1, 1) := by decide +kernel
theorem d_M_rolesOf_24 : decode me_M_rolesOf.2.1 24 = .ok (.iaload, 1) := by decide +kernel
theorem d_M_rolesOf_25 : decode me_M_rolesOf.2.1 25 = .ok (.ishl, 1) := by decide +kernel
theorem d_M_rolesOf_26 : decode me_M_rolesOf.2.1 26 = .ok (.ior, 1) := by decide +kernel
theorem d_M_rolesOf_27 : decode me_M_rolesOf.2.1 27 = .ok (.goto (11), 3) := by decide +kernel
theorem d_M_rolesOf_30 : decode me_M_rolesOf.2.1 30 = .ok (.iconst 1, 1) := by decide +kernel
theorem d_M_rolesOf_31 : decode me_M_rolesOf.2.1 31 = .ok (.aload_n 0, 1) := by decide +kernel
theorem d_M_rolesOf_32 : decode me_M_rolesOf.2.1 32 = .ok (.getfield 38, 3) := by decide +kernel
theorem g_M_rolesOf_32 : bm_gf me_M_rolesOf 32 11 10 := ⟨_, _, _, _, d_M_rolesOf_32, rfl, by decide, uw_M, fl_M_38⟩
theorem d_M_rolesOf_35 : decode me_M_rolesOf.2.1 35 = .ok (.iload_n 1, 1) := by decide +kernel
theorem d_M_rolesOf_36 : decode me_M_rolesOf.2.1 36 = .ok (.iaload, 1) := by decide +kernel
theorem d_M_rolesOf_37 : decode me_M_rolesOf.2.1 37 = .ok (.ishl, 1) := by decide +kernel
theorem d_M_rolesOf_38 : decode me_M_rolesOf.2.1 38 = .ok (.ireturn, 1) := by decide +kernel
theorem d_M_drop_0 : decode me_M_drop.2.1 0 = .ok (.bipush (8), 2) := by decide +kernel
theorem d_M_drop_2 : decode me_M_drop.2.1 2 = .ok (.iload_n 1, 1) := by decide +kernel
theorem d_M_drop_3 : decode me_M_drop.2.1 3 = .ok (.imul, 1) := by decide +kernel
theorem d_M_drop_4 : decode me_M_drop.2.1 4 = .ok (.iload_n 2, 1) := by decide +kernel
theorem d_M_drop_5 : decode me_M_drop.2.1 5 = .ok (.iadd, 1) := by decide +kernel
theorem d_M_drop_6 : decode me_M_drop.2.1 6 = .ok (.istore_n 3, 1) := by decide +kernel
theorem d_M_drop_7 : decode me_M_drop.2.1 7 = .ok (.iload_n 3, 1) := by decide +kernel
theorem d_M_drop_8 : decode me_M_drop.2.1 8 = .ok (.bipush (8), 2) := by decide +kernel
theorem d_M_drop_10 : decode me_M_drop.2.1 10 = .ok (.iload_n 1, 1) := by decide +kernel
theorem d_M_drop_11 : decode me_M_drop.2.1 11 = .ok (.imul, 1) := by decide +kernel
theorem d_M_drop_12 : decode me_M_drop.2.1 12 = .ok (.aload_n 0, 1) := by decide +kernel
theorem d_M_drop_13 : decode me_M_drop.2.1 13 = .ok (.getfield 62, 3) := by decide +kernel
theorem g_M_drop_13 : bm_gf me_M_drop 13 11 19 := ⟨_, _, _, _, d_M_drop_13, rfl, by decide, uw_M, fl_M_62⟩
theorem d_M_drop_16 : decode me_M_drop.2.1 16 = .ok (.iload_n 1, 1) := by decide +kernel
theorem d_M_drop_17 : decode me_M_drop.2.1 17 = .ok (.iaload, 1) := by decide +kernel
theorem d_M_drop_18 : decode me_M_drop.2.1 18 = .ok (.iadd, 1) := by decide +kernel
theorem d_M_drop_19 : decode me_M_drop.2.1 19 = .ok (.iconst 1, 1) := by decide +kernel
theorem d_M_drop_20 : decode me_M_drop.2.1 20 = .ok (.isub, 1) := by decide +kernel
theorem d_M_drop_21 : decode me_M_drop.2.1 21 = .ok (.if_icmp .ge (79), 3) := by decide +kernel
theorem d_M_drop_24 : decode me_M_drop.2.1 24 = .ok (.aload_n 0, 1) := by decide +kernel
theorem d_M_drop_25 : decode me_M_drop.2.1 25 = .ok (.getfield 74, 3) := by decide +kernel
theorem g_M_drop_25 : bm_gf me_M_drop 25 11 23 := ⟨_, _, _, _, d_M_drop_25, rfl, by decide, uw_M, fl_M_74⟩
theorem d_M_drop_28 : decode me_M_drop.2.1 28 = .ok (.iload_n 3, 1) := by decide +kernel
theorem d_M_drop_29 : decode me_M_drop.2.1 29 = .ok (.aload_n 0, 1) := by decide +kernel
theorem d_M_drop_30 : decode me_M_drop.2.1 30 = .ok (.getfield 74, 3) := by decide +kernel
theorem g_M_drop_30 : bm_gf me_M_drop 30 11 23 := ⟨_, _, _, _, d_M_drop_30, rfl, by decide, uw_M, fl_M_74⟩
theorem d_M_drop_33 : decode me_M_drop.2.1 33 = .ok (.iload_n 3, 1) := by decide +kernel
theorem d_M_drop_34 : decode me_M_drop.2.1 34 = .ok (.iconst 1, 1) := by decide +kernel
theorem d_M_drop_35 : decode me_M_drop.2.1 35 = .ok (.iadd, 1) := by decide +kernel
theorem d_M_drop_36 : decode me_M_drop.2.1 36 = .ok (.iaload, 1) := by decide +kernel
theorem d_M_drop_37 : decode me_M_drop.2.1 37 = .ok (.iastore, 1) := by decide +kernel
theorem d_M_drop_38 : decode me_M_drop.2.1 38 = .ok (.aload_n 0, 1) := by decide +kernel
theorem d_M_drop_39 : decode me_M_drop.2.1 39 = .ok (.getfield 77, 3) := by decide +kernel
theorem g_M_drop_39 : bm_gf me_M_drop 39 11 24 := ⟨_, _, _, _, d_M_drop_39, rfl, by decide, uw_M, fl_M_77⟩
theorem d_M_drop_42 : decode me_M_drop.2.1 42 = .ok (.iload_n 3, 1) := by decide +kernel
theorem d_M_drop_43 : decode me_M_drop.2.1 43 = .ok (.aload_n 0, 1) := by decide +kernel
theorem d_M_drop_44 : decode me_M_drop.2.1 44 = .ok (.getfield 77, 3) := by decide +kernel
theorem g_M_drop_44 : bm_gf me_M_drop 44 11 24 := ⟨_, _, _, _, d_M_drop_44, rfl, by decide, uw_M, fl_M_77⟩
theorem d_M_drop_47 : decode me_M_drop.2.1 47 = .ok (.iload_n 3, 1) := by decide +kernel
theorem d_M_drop_48 : decode me_M_drop.2.1 48 = .ok (.iconst 1, 1) := by decide +kernel
theorem d_M_drop_49 : decode me_M_drop.2.1 49 = .ok (.iadd, 1) := by decide +kernel
theorem d_M_drop_50 : decode me_M_drop.2.1 50 = .ok (.iaload, 1) := by decide +kernel
theorem d_M_drop_51 : decode me_M_drop.2.1 51 = .ok (.iastore, 1) := by decide +kernel
theorem d_M_drop_52 : decode me_M_drop.2.1 52 = .ok (.aload_n 0, 1) := by decide +kernel
theorem d_M_drop_53 : decode me_M_drop.2.1 53 = .ok (.getfield 80, 3) := by decide +kernel
theorem g_M_drop_53 : bm_gf me_M_drop 53 11 25 := ⟨_, _, _, _, d_M_drop_53, rfl, by decide, uw_M, fl_M_80⟩
theorem d_M_drop_56 : decode me_M_drop.2.1 56 = .ok (.iload_n 3, 1) := by decide +kernel
theorem d_M_drop_57 : decode me_M_drop.2.1 57 = .ok (.aload_n 0, 1) := by decide +kernel
theorem d_M_drop_58 : decode me_M_drop.2.1 58 = .ok (.getfield 80, 3) := by decide +kernel
theorem g_M_drop_58 : bm_gf me_M_drop 58 11 25 := ⟨_, _, _, _, d_M_drop_58, rfl, by decide, uw_M, fl_M_80⟩
theorem d_M_drop_61 : decode me_M_drop.2.1 61 = .ok (.iload_n 3, 1) := by decide +kernel
theorem d_M_drop_62 : decode me_M_drop.2.1 62 = .ok (.iconst 1, 1) := by decide +kernel
theorem d_M_drop_63 : decode me_M_drop.2.1 63 = .ok (.iadd, 1) := by decide +kernel
theorem d_M_drop_64 : decode me_M_drop.2.1 64 = .ok (.iaload, 1) := by decide +kernel
theorem d_M_drop_65 : decode me_M_drop.2.1 65 = .ok (.iastore, 1) := by decide +kernel
theorem d_M_drop_66 : decode me_M_drop.2.1 66 = .ok (.aload_n 0, 1) := by decide +kernel
theorem d_M_drop_67 : decode me_M_drop.2.1 67 = .ok (.getfield 83, 3) := by decide +kernel
theorem g_M_drop_67 : bm_gf me_M_drop 67 11 26 := ⟨_, _, _, _, d_M_drop_67, rfl, by decide, uw_M, fl_M_83⟩
theorem d_M_drop_70 : decode me_M_drop.2.1 70 = .ok (.iload_n 3, 1) := by decide +kernel
theorem d_M_drop_71 : decode me_M_drop.2.1 71 = .ok (.aload_n 0, 1) := by decide +kernel
theorem d_M_drop_72 : decode me_M_drop.2.1 72 = .ok (.getfield 83, 3) := by decide +kernel
theorem g_M_drop_72 : bm_gf me_M_drop 72 11 26 := ⟨_, _, _, _, d_M_drop_72, rfl, by decide, uw_M, fl_M_83⟩
theorem d_M_drop_75 : decode me_M_drop.2.1 75 = .ok (.iload_n 3, 1) := by decide +kernel
theorem d_M_drop_76 : decode me_M_drop.2.1 76 = .ok (.iconst 1, 1) := by decide +kernel
theorem d_M_drop_77 : decode me_M_drop.2.1 77 = .ok (.iadd, 1) := by decide +kernel
theorem d_M_drop_78 : decode me_M_drop.2.1 78 = .ok (.baload, 1) := by decide +kernel
theorem d_M_drop_79 : decode me_M_drop.2.1 79 = .ok (.bastore, 1) := by decide +kernel
theorem d_M_drop_80 : decode me_M_drop.2.1 80 = .ok (.aload_n 0, 1) := by decide +kernel
theorem d_M_drop_81 : decode me_M_drop.2.1 81 = .ok (.getfield 86, 3) := by decide +kernel
theorem g_M_drop_81 : bm_gf me_M_drop 81 11 27 := ⟨_, _, _, _, d_M_drop_81, rfl, by decide, uw_M, fl_M_86⟩
theorem d_M_drop_84 : decode me_M_drop.2.1 84 = .ok (.iload_n 3, 1) := by decide +kernel
theorem d_M_drop_85 : decode me_M_drop.2.1 85 = .ok (.aload_n 0, 1) := by decide +kernel
theorem d_M_drop_86 : decode me_M_drop.2.1 86 = .ok (.getfield 86, 3) := by decide +kernel
theorem g_M_drop_86 : bm_gf me_M_drop 86 11 27 := ⟨_, _, _, _, d_M_drop_86, rfl, by decide, uw_M, fl_M_86⟩
theorem d_M_drop_89 : decode me_M_drop.2.1 89 = .ok (.iload_n 3, 1) := by decide +kernel
theorem d_M_drop_90 : decode me_M_drop.2.1 90 = .ok (.iconst 1, 1) := by decide +kernel
theorem d_M_drop_91 : decode me_M_drop.2.1 91 = .ok (.iadd, 1) := by decide +kernel
theorem d_M_drop_92 : decode me_M_drop.2.1 92 = .ok (.baload, 1) := by decide +kernel
theorem d_M_drop_93 : decode me_M_drop.2.1 93 = .ok (.bastore, 1) := by decide +kernel
theorem d_M_drop_94 : decode me_M_drop.2.1 94 = .ok (.iinc 3 (1), 3) := by decide +kernel
theorem d_M_drop_97 : decode me_M_drop.2.1 97 = .ok (.goto (-90), 3) := by decide +kernel
theorem d_M_drop_100 : decode me_M_drop.2.1 100 = .ok (.aload_n 0, 1) := by decide +kernel
theorem d_M_drop_101 : decode me_M_drop.2.1 101 = .ok (.getfield 62, 3) := by decide +kernel
theorem g_M_drop_101 : bm_gf me_M_drop 101 11 19 := ⟨_, _, _, _, d_M_drop_101, rfl, by decide, uw_M, fl_M_62⟩
theorem d_M_drop_104 : decode me_M_drop.2.1 104 = .ok (.iload_n 1, 1) := by decide +kernel
theorem d_M_drop_105 : decode me_M_drop.2.1 105 = .ok (.dup2, 1) := by decide +kernel
theorem d_M_drop_106 : decode me_M_drop.2.1 106 = .ok (.iaload, 1) := by decide +kernel
theorem d_M_drop_107 : decode me_M_drop.2.1 107 = .ok (.iconst 1, 1) := by decide +kernel
theorem d_M_drop_108 : decode me_M_drop.2.1 108 = .ok (.isub, 1) := by decide +kernel
theorem d_M_drop_109 : decode me_M_drop.2.1 109 = .ok (.iastore, 1) := by decide +kernel
theorem d_M_drop_110 : decode me_M_drop.2.1 110 = .ok (.return_, 1) := by decide +kernel
